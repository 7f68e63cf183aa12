theorem dX0_init_0 : decode cX0_init 0 = .ok (.aload_n 0, 1) := by decide +kernel
theorem dX0_init_1 : decode cX0_init 1 = .ok (.invokespecial 3, 3) := by decide +kernel
theorem dX0_init_4 : decode cX0_init 4 = .ok (.aload_n 0, 1) := by decide +kernel
theorem dX0_init_5 : decode cX0_init 5 = .ok (.bipush 20, 2) := by decide +kernel
theorem dX0_init_7 : decode cX0_init 7 = .ok (.newarray .int, 2) := by decide +kernel
theorem dX0_init_9 : decode cX0_init 9 = .ok (.putfield 9, 3) := by decide +kernel
theorem dX0_init_12 : decode cX0_init 12 = .ok (.return_, 1) := by decide +kernel
theorem dX0_perform_0 : decode cX0_perform 0 = .ok (.iload_n 3, 1) := by decide +kernel
theorem dX0_perform_1 : decode cX0_perform 1 = .ok (.istore 6, 2) := by decide +kernel
theorem dX0_perform_3 : decode cX0_perform 3 = .ok (.iconst 0, 1) := by decide +kernel
theorem dX0_perform_4 : decode cX0_perform 4 = .ok (.istore 7, 2) := by decide +kernel
theorem dX0_perform_6 : decode cX0_perform 6 = .ok (.iload 7, 2) := by decide +kernel
theorem dX0_perform_8 : decode cX0_perform 8 = .ok (.getstatic 15, 3) := by decide +kernel
theorem dX0_perform_11 : decode cX0_perform 11 = .ok (.arraylength, 1) := by decide +kernel
theorem dX0_perform_12 : decode cX0_perform 12 = .ok (.if_icmp .ge 35, 3) := by decide +kernel
theorem dX0_perform_15 : decode cX0_perform 15 = .ok (.iload 6, 2) := by decide +kernel
theorem dX0_perform_17 : decode cX0_perform 17 = .ok (.ifCond .le 30, 3) := by decide +kernel
theorem dX0_perform_20 : decode cX0_perform 20 = .ok (.getstatic 18, 3) := by decide +kernel
theorem dX0_perform_23 : decode cX0_perform 23 = .ok (.iconst 3, 1) := by decide +kernel
theorem dX0_perform_24 : decode cX0_perform 24 = .ok (.iload 6, 2) := by decide +kernel
theorem dX0_perform_26 : decode cX0_perform 26 = .ok (.imul, 1) := by decide +kernel
theorem dX0_perform_27 : decode cX0_perform 27 = .ok (.iload_n 2, 1) := by decide +kernel
theorem dX0_perform_28 : decode cX0_perform 28 = .ok (.iadd, 1) := by decide +kernel
theorem dX0_perform_29 : decode cX0_perform 29 = .ok (.iaload, 1) := by decide +kernel
theorem dX0_perform_30 : decode cX0_perform 30 = .ok (.ifCond .ne 17, 3) := by decide +kernel
theorem dX0_perform_33 : decode cX0_perform 33 = .ok (.getstatic 15, 3) := by decide +kernel
theorem dX0_perform_36 : decode cX0_perform 36 = .ok (.iload 6, 2) := by decide +kernel
theorem dX0_perform_38 : decode cX0_perform 38 = .ok (.iaload, 1) := by decide +kernel
theorem dX0_perform_39 : decode cX0_perform 39 = .ok (.istore 6, 2) := by decide +kernel
theorem dX0_perform_41 : decode cX0_perform 41 = .ok (.iinc 7 1, 3) := by decide +kernel
theorem dX0_perform_44 : decode cX0_perform 44 = .ok (.goto (-38), 3) := by decide +kernel
theorem dX0_perform_47 : decode cX0_perform 47 = .ok (.getstatic 18, 3) := by decide +kernel
theorem dX0_perform_50 : decode cX0_perform 50 = .ok (.iconst 3, 1) := by decide +kernel
theorem dX0_perform_51 : decode cX0_perform 51 = .ok (.iload 6, 2) := by decide +kernel
theorem dX0_perform_53 : decode cX0_perform 53 = .ok (.imul, 1) := by decide +kernel
theorem dX0_perform_54 : decode cX0_perform 54 = .ok (.iload_n 2, 1) := by decide +kernel
theorem dX0_perform_55 : decode cX0_perform 55 = .ok (.iadd, 1) := by decide +kernel
theorem dX0_perform_56 : decode cX0_perform 56 = .ok (.iaload, 1) := by decide +kernel
theorem dX0_perform_57 : decode cX0_perform 57 = .ok (.istore 7, 2) := by decide +kernel
theorem dX0_perform_59 : decode cX0_perform 59 = .ok (.aload_n 0, 1) := by decide +kernel
theorem dX0_perform_60 : decode cX0_perform 60 = .ok (.iload 7, 2) := by decide +kernel
theorem dX0_perform_62 : decode cX0_perform 62 = .ok (.invokevirtual 21, 3) := by decide +kernel
theorem dX0_perform_65 : decode cX0_perform 65 = .ok (.iload 5, 2) := by decide +kernel
theorem dX0_perform_67 : decode cX0_perform 67 = .ok (.iconst 1, 1) := by decide +kernel
theorem dX0_perform_68 : decode cX0_perform 68 = .ok (.iadd, 1) := by decide +kernel
theorem dX0_perform_69 : decode cX0_perform 69 = .ok (.istore 8, 2) := by decide +kernel
theorem dX0_perform_71 : decode cX0_perform 71 = .ok (.aload_n 1, 1) := by decide +kernel
theorem dX0_perform_72 : decode cX0_perform 72 = .ok (.getfield 25, 3) := by decide +kernel
theorem dX0_perform_75 : decode cX0_perform 75 = .ok (.istore 9, 2) := by decide +kernel
theorem dX0_perform_77 : decode cX0_perform 77 = .ok (.aload_n 1, 1) := by decide +kernel
theorem dX0_perform_78 : decode cX0_perform 78 = .ok (.getfield 31, 3) := by decide +kernel
theorem dX0_perform_81 : decode cX0_perform 81 = .ok (.istore 10, 2) := by decide +kernel
theorem dX0_perform_83 : decode cX0_perform 83 = .ok (.iload 8, 2) := by decide +kernel
theorem dX0_perform_85 : decode cX0_perform 85 = .ok (.bipush 12, 2) := by decide +kernel
theorem dX0_perform_87 : decode cX0_perform 87 = .ok (.if_icmp .le 5, 3) := by decide +kernel
theorem dX0_perform_90 : decode cX0_perform 90 = .ok (.iconst 0, 1) := by decide +kernel
theorem dX0_perform_91 : decode cX0_perform 91 = .ok (.ireturn, 1) := by decide +kernel
theorem dX0_perform_92 : decode cX0_perform 92 = .ok (.iload 7, 2) := by decide +kernel
theorem dX0_perform_94 : decode cX0_perform 94 = .ok (.lookupswitch 248 #[(1, 82), (2, 88), (3, 106), (11, 123), (21, 141), (31, 158), (41, 177), (51, 209), (61, 228)], 82) := by decide +kernel
theorem dX0_perform_176 : decode cX0_perform 176 = .ok (.iload 4, 2) := by decide +kernel
theorem dX0_perform_178 : decode cX0_perform 178 = .ok (.iload 9, 2) := by decide +kernel
theorem dX0_perform_180 : decode cX0_perform 180 = .ok (.iadd, 1) := by decide +kernel
theorem dX0_perform_181 : decode cX0_perform 181 = .ok (.ireturn, 1) := by decide +kernel
theorem dX0_perform_182 : decode cX0_perform 182 = .ok (.aload_n 0, 1) := by decide +kernel
theorem dX0_perform_183 : decode cX0_perform 183 = .ok (.aload_n 1, 1) := by decide +kernel
theorem dX0_perform_184 : decode cX0_perform 184 = .ok (.iconst 0, 1) := by decide +kernel
theorem dX0_perform_185 : decode cX0_perform 185 = .ok (.aload_n 1, 1) := by decide +kernel
theorem dX0_perform_186 : decode cX0_perform 186 = .ok (.getfield 34, 3) := by decide +kernel
theorem dX0_perform_189 : decode cX0_perform 189 = .ok (.iload 4, 2) := by decide +kernel
theorem dX0_perform_191 : decode cX0_perform 191 = .ok (.iload 8, 2) := by decide +kernel
theorem dX0_perform_193 : decode cX0_perform 193 = .ok (.invokevirtual 37, 3) := by decide +kernel
theorem dX0_perform_196 : decode cX0_perform 196 = .ok (.iload 10, 2) := by decide +kernel
theorem dX0_perform_198 : decode cX0_perform 198 = .ok (.isub, 1) := by decide +kernel
theorem dX0_perform_199 : decode cX0_perform 199 = .ok (.ireturn, 1) := by decide +kernel
theorem dX0_perform_200 : decode cX0_perform 200 = .ok (.aload_n 0, 1) := by decide +kernel
theorem dX0_perform_201 : decode cX0_perform 201 = .ok (.aload_n 1, 1) := by decide +kernel
theorem dX0_perform_202 : decode cX0_perform 202 = .ok (.iconst 1, 1) := by decide +kernel
theorem dX0_perform_203 : decode cX0_perform 203 = .ok (.aload_n 1, 1) := by decide +kernel
theorem dX0_perform_204 : decode cX0_perform 204 = .ok (.getfield 34, 3) := by decide +kernel
theorem dX0_perform_207 : decode cX0_perform 207 = .ok (.iload 4, 2) := by decide +kernel
theorem dX0_perform_209 : decode cX0_perform 209 = .ok (.iload 8, 2) := by decide +kernel
theorem dX0_perform_211 : decode cX0_perform 211 = .ok (.invokevirtual 37, 3) := by decide +kernel
theorem dX0_perform_214 : decode cX0_perform 214 = .ok (.iconst 2, 1) := by decide +kernel
theorem dX0_perform_215 : decode cX0_perform 215 = .ok (.imul, 1) := by decide +kernel
theorem dX0_perform_216 : decode cX0_perform 216 = .ok (.ireturn, 1) := by decide +kernel
theorem dX0_perform_217 : decode cX0_perform 217 = .ok (.aload_n 0, 1) := by decide +kernel
theorem dX0_perform_218 : decode cX0_perform 218 = .ok (.aload_n 1, 1) := by decide +kernel
theorem dX0_perform_219 : decode cX0_perform 219 = .ok (.iconst 0, 1) := by decide +kernel
theorem dX0_perform_220 : decode cX0_perform 220 = .ok (.getstatic 15, 3) := by decide +kernel
theorem dX0_perform_223 : decode cX0_perform 223 = .ok (.iconst 1, 1) := by decide +kernel
theorem dX0_perform_224 : decode cX0_perform 224 = .ok (.iaload, 1) := by decide +kernel
theorem dX0_perform_225 : decode cX0_perform 225 = .ok (.iload 4, 2) := by decide +kernel
theorem dX0_perform_227 : decode cX0_perform 227 = .ok (.iconst 3, 1) := by decide +kernel
theorem dX0_perform_228 : decode cX0_perform 228 = .ok (.imul, 1) := by decide +kernel
theorem dX0_perform_229 : decode cX0_perform 229 = .ok (.iload 8, 2) := by decide +kernel
theorem dX0_perform_231 : decode cX0_perform 231 = .ok (.invokevirtual 37, 3) := by decide +kernel
theorem dX0_perform_234 : decode cX0_perform 234 = .ok (.ireturn, 1) := by decide +kernel
theorem dX0_perform_235 : decode cX0_perform 235 = .ok (.aload_n 0, 1) := by decide +kernel
theorem dX0_perform_236 : decode cX0_perform 236 = .ok (.aload_n 1, 1) := by decide +kernel
theorem dX0_perform_237 : decode cX0_perform 237 = .ok (.iconst 1, 1) := by decide +kernel
theorem dX0_perform_238 : decode cX0_perform 238 = .ok (.getstatic 15, 3) := by decide +kernel
theorem dX0_perform_241 : decode cX0_perform 241 = .ok (.iconst 2, 1) := by decide +kernel
theorem dX0_perform_242 : decode cX0_perform 242 = .ok (.iaload, 1) := by decide +kernel
theorem dX0_perform_243 : decode cX0_perform 243 = .ok (.iload 4, 2) := by decide +kernel
theorem dX0_perform_245 : decode cX0_perform 245 = .ok (.iload 8, 2) := by decide +kernel
theorem dX0_perform_247 : decode cX0_perform 247 = .ok (.invokevirtual 37, 3) := by decide +kernel
theorem dX0_perform_250 : decode cX0_perform 250 = .ok (.ineg, 1) := by decide +kernel
theorem dX0_perform_251 : decode cX0_perform 251 = .ok (.ireturn, 1) := by decide +kernel
theorem dX0_perform_252 : decode cX0_perform 252 = .ok (.aload_n 0, 1) := by decide +kernel
theorem dX0_perform_253 : decode cX0_perform 253 = .ok (.aload_n 1, 1) := by decide +kernel
theorem dX0_perform_254 : decode cX0_perform 254 = .ok (.iconst 2, 1) := by decide +kernel
theorem dX0_perform_255 : decode cX0_perform 255 = .ok (.getstatic 15, 3) := by decide +kernel
theorem dX0_perform_258 : decode cX0_perform 258 = .ok (.iconst 3, 1) := by decide +kernel
theorem dX0_perform_259 : decode cX0_perform 259 = .ok (.iaload, 1) := by decide +kernel
theorem dX0_perform_260 : decode cX0_perform 260 = .ok (.iload 4, 2) := by decide +kernel
theorem dX0_perform_262 : decode cX0_perform 262 = .ok (.iload 8, 2) := by decide +kernel
theorem dX0_perform_264 : decode cX0_perform 264 = .ok (.invokevirtual 37, 3) := by decide +kernel
theorem dX0_perform_267 : decode cX0_perform 267 = .ok (.bipush 7, 2) := by decide +kernel
theorem dX0_perform_269 : decode cX0_perform 269 = .ok (.ixor, 1) := by decide +kernel
theorem dX0_perform_270 : decode cX0_perform 270 = .ok (.ireturn, 1) := by decide +kernel
theorem dX0_perform_271 : decode cX0_perform 271 = .ok (.aload_n 0, 1) := by decide +kernel
theorem dX0_perform_272 : decode cX0_perform 272 = .ok (.aload_n 1, 1) := by decide +kernel
theorem dX0_perform_273 : decode cX0_perform 273 = .ok (.iconst 2, 1) := by decide +kernel
theorem dX0_perform_274 : decode cX0_perform 274 = .ok (.getstatic 15, 3) := by decide +kernel
theorem dX0_perform_277 : decode cX0_perform 277 = .ok (.iconst 4, 1) := by decide +kernel
theorem dX0_perform_278 : decode cX0_perform 278 = .ok (.iaload, 1) := by decide +kernel
theorem dX0_perform_279 : decode cX0_perform 279 = .ok (.iload 4, 2) := by decide +kernel
theorem dX0_perform_281 : decode cX0_perform 281 = .ok (.iconst 1, 1) := by decide +kernel
theorem dX0_perform_282 : decode cX0_perform 282 = .ok (.isub, 1) := by decide +kernel
theorem dX0_perform_283 : decode cX0_perform 283 = .ok (.iload 8, 2) := by decide +kernel
theorem dX0_perform_285 : decode cX0_perform 285 = .ok (.invokevirtual 37, 3) := by decide +kernel
theorem dX0_perform_288 : decode cX0_perform 288 = .ok (.aload_n 0, 1) := by decide +kernel
theorem dX0_perform_289 : decode cX0_perform 289 = .ok (.aload_n 1, 1) := by decide +kernel
theorem dX0_perform_290 : decode cX0_perform 290 = .ok (.iconst 0, 1) := by decide +kernel
theorem dX0_perform_291 : decode cX0_perform 291 = .ok (.aload_n 1, 1) := by decide +kernel
theorem dX0_perform_292 : decode cX0_perform 292 = .ok (.getfield 34, 3) := by decide +kernel
theorem dX0_perform_295 : decode cX0_perform 295 = .ok (.iconst 2, 1) := by decide +kernel
theorem dX0_perform_296 : decode cX0_perform 296 = .ok (.iload 8, 2) := by decide +kernel
theorem dX0_perform_298 : decode cX0_perform 298 = .ok (.invokevirtual 37, 3) := by decide +kernel
theorem dX0_perform_301 : decode cX0_perform 301 = .ok (.iadd, 1) := by decide +kernel
theorem dX0_perform_302 : decode cX0_perform 302 = .ok (.ireturn, 1) := by decide +kernel
theorem dX0_perform_303 : decode cX0_perform 303 = .ok (.aload_n 0, 1) := by decide +kernel
theorem dX0_perform_304 : decode cX0_perform 304 = .ok (.aload_n 1, 1) := by decide +kernel
theorem dX0_perform_305 : decode cX0_perform 305 = .ok (.iconst 0, 1) := by decide +kernel
theorem dX0_perform_306 : decode cX0_perform 306 = .ok (.getstatic 15, 3) := by decide +kernel
theorem dX0_perform_309 : decode cX0_perform 309 = .ok (.iconst 5, 1) := by decide +kernel
theorem dX0_perform_310 : decode cX0_perform 310 = .ok (.iaload, 1) := by decide +kernel
theorem dX0_perform_311 : decode cX0_perform 311 = .ok (.iload 4, 2) := by decide +kernel
theorem dX0_perform_313 : decode cX0_perform 313 = .ok (.iload 8, 2) := by decide +kernel
theorem dX0_perform_315 : decode cX0_perform 315 = .ok (.invokevirtual 37, 3) := by decide +kernel
theorem dX0_perform_318 : decode cX0_perform 318 = .ok (.iload 9, 2) := by decide +kernel
theorem dX0_perform_320 : decode cX0_perform 320 = .ok (.ixor, 1) := by decide +kernel
theorem dX0_perform_321 : decode cX0_perform 321 = .ok (.ireturn, 1) := by decide +kernel
theorem dX0_perform_322 : decode cX0_perform 322 = .ok (.aload_n 0, 1) := by decide +kernel
theorem dX0_perform_323 : decode cX0_perform 323 = .ok (.aload_n 1, 1) := by decide +kernel
theorem dX0_perform_324 : decode cX0_perform 324 = .ok (.iconst 1, 1) := by decide +kernel
theorem dX0_perform_325 : decode cX0_perform 325 = .ok (.getstatic 15, 3) := by decide +kernel
theorem dX0_perform_328 : decode cX0_perform 328 = .ok (.bipush 6, 2) := by decide +kernel
theorem dX0_perform_330 : decode cX0_perform 330 = .ok (.iaload, 1) := by decide +kernel
theorem dX0_perform_331 : decode cX0_perform 331 = .ok (.iload 4, 2) := by decide +kernel
theorem dX0_perform_333 : decode cX0_perform 333 = .ok (.iload 8, 2) := by decide +kernel
theorem dX0_perform_335 : decode cX0_perform 335 = .ok (.invokevirtual 37, 3) := by decide +kernel
theorem dX0_perform_338 : decode cX0_perform 338 = .ok (.iload 10, 2) := by decide +kernel
theorem dX0_perform_340 : decode cX0_perform 340 = .ok (.iadd, 1) := by decide +kernel
theorem dX0_perform_341 : decode cX0_perform 341 = .ok (.ireturn, 1) := by decide +kernel
theorem dX0_perform_342 : decode cX0_perform 342 = .ok (.iconst 0, 1) := by decide +kernel
theorem dX0_perform_343 : decode cX0_perform 343 = .ok (.ireturn, 1) := by decide +kernel
theorem dX0_begin_0 : decode cX0_begin 0 = .ok (.aload_n 0, 1) := by decide +kernel
theorem dX0_begin_1 : decode cX0_begin 1 = .ok (.getfield 41, 3) := by decide +kernel
theorem dX0_begin_4 : decode cX0_begin 4 = .ok (.aload_n 0, 1) := by decide +kernel
theorem dX0_begin_5 : decode cX0_begin 5 = .ok (.getfield 9, 3) := by decide +kernel
theorem dX0_begin_8 : decode cX0_begin 8 = .ok (.arraylength, 1) := by decide +kernel
theorem dX0_begin_9 : decode cX0_begin 9 = .ok (.if_icmp .ge 13, 3) := by decide +kernel
theorem dX0_begin_12 : decode cX0_begin 12 = .ok (.aload_n 0, 1) := by decide +kernel
theorem dX0_begin_13 : decode cX0_begin 13 = .ok (.getfield 9, 3) := by decide +kernel
theorem dX0_begin_16 : decode cX0_begin 16 = .ok (.aload_n 0, 1) := by decide +kernel
theorem dX0_begin_17 : decode cX0_begin 17 = .ok (.getfield 41, 3) := by decide +kernel
theorem dX0_begin_20 : decode cX0_begin 20 = .ok (.iload_n 1, 1) := by decide +kernel
theorem dX0_begin_21 : decode cX0_begin 21 = .ok (.iastore, 1) := by decide +kernel
theorem dX0_begin_22 : decode cX0_begin 22 = .ok (.aload_n 0, 1) := by decide +kernel
theorem dX0_begin_23 : decode cX0_begin 23 = .ok (.dup, 1) := by decide +kernel
theorem dX0_begin_24 : decode cX0_begin 24 = .ok (.getfield 41, 3) := by decide +kernel
theorem dX0_begin_27 : decode cX0_begin 27 = .ok (.iconst 1, 1) := by decide +kernel
theorem dX0_begin_28 : decode cX0_begin 28 = .ok (.iadd, 1) := by decide +kernel
theorem dX0_begin_29 : decode cX0_begin 29 = .ok (.putfield 41, 3) := by decide +kernel
theorem dX0_begin_32 : decode cX0_begin 32 = .ok (.return_, 1) := by decide +kernel
theorem dX1_init_0 : decode cX1_init 0 = .ok (.aload_n 0, 1) := by decide +kernel
theorem dX1_init_1 : decode cX1_init 1 = .ok (.invokespecial 3, 3) := by decide +kernel
theorem dX1_init_4 : decode cX1_init 4 = .ok (.aload_n 0, 1) := by decide +kernel
theorem dX1_init_5 : decode cX1_init 5 = .ok (.iconst (-1), 1) := by decide +kernel
theorem dX1_init_6 : decode cX1_init 6 = .ok (.putfield 9, 3) := by decide +kernel
theorem dX1_init_9 : decode cX1_init 9 = .ok (.aload_n 0, 1) := by decide +kernel
theorem dX1_init_10 : decode cX1_init 10 = .ok (.iconst 4, 1) := by decide +kernel
theorem dX1_init_11 : decode cX1_init 11 = .ok (.newarray .int, 2) := by decide +kernel
theorem dX1_init_13 : decode cX1_init 13 = .ok (.putfield 15, 3) := by decide +kernel
theorem dX1_init_16 : decode cX1_init 16 = .ok (.aload_n 0, 1) := by decide +kernel
theorem dX1_init_17 : decode cX1_init 17 = .ok (.iload_n 1, 1) := by decide +kernel
theorem dX1_init_18 : decode cX1_init 18 = .ok (.putfield 19, 3) := by decide +kernel
theorem dX1_init_21 : decode cX1_init 21 = .ok (.return_, 1) := by decide +kernel
theorem dX1_comeToLife_0 : decode cX1_comeToLife 0 = .ok (.aload_n 0, 1) := by decide +kernel
theorem dX1_comeToLife_1 : decode cX1_comeToLife 1 = .ok (.iload_n 1, 1) := by decide +kernel
theorem dX1_comeToLife_2 : decode cX1_comeToLife 2 = .ok (.putfield 22, 3) := by decide +kernel
theorem dX1_comeToLife_5 : decode cX1_comeToLife 5 = .ok (.aload_n 0, 1) := by decide +kernel
theorem dX1_comeToLife_6 : decode cX1_comeToLife 6 = .ok (.iload_n 2, 1) := by decide +kernel
theorem dX1_comeToLife_7 : decode cX1_comeToLife 7 = .ok (.putfield 25, 3) := by decide +kernel
theorem dX1_comeToLife_10 : decode cX1_comeToLife 10 = .ok (.aload_n 0, 1) := by decide +kernel
theorem dX1_comeToLife_11 : decode cX1_comeToLife 11 = .ok (.iload_n 3, 1) := by decide +kernel
theorem dX1_comeToLife_12 : decode cX1_comeToLife 12 = .ok (.putfield 28, 3) := by decide +kernel
theorem dX1_comeToLife_15 : decode cX1_comeToLife 15 = .ok (.aload_n 0, 1) := by decide +kernel
theorem dX1_comeToLife_16 : decode cX1_comeToLife 16 = .ok (.iload 4, 2) := by decide +kernel
theorem dX1_comeToLife_18 : decode cX1_comeToLife 18 = .ok (.putfield 31, 3) := by decide +kernel
theorem dX1_comeToLife_21 : decode cX1_comeToLife 21 = .ok (.aload_n 0, 1) := by decide +kernel
theorem dX1_comeToLife_22 : decode cX1_comeToLife 22 = .ok (.iconst (-1), 1) := by decide +kernel
theorem dX1_comeToLife_23 : decode cX1_comeToLife 23 = .ok (.putfield 9, 3) := by decide +kernel
theorem dX1_comeToLife_26 : decode cX1_comeToLife 26 = .ok (.iconst 0, 1) := by decide +kernel
theorem dX1_comeToLife_27 : decode cX1_comeToLife 27 = .ok (.istore 5, 2) := by decide +kernel
theorem dX1_comeToLife_29 : decode cX1_comeToLife 29 = .ok (.iload 5, 2) := by decide +kernel
theorem dX1_comeToLife_31 : decode cX1_comeToLife 31 = .ok (.aload_n 0, 1) := by decide +kernel
theorem dX1_comeToLife_32 : decode cX1_comeToLife 32 = .ok (.getfield 15, 3) := by decide +kernel
theorem dX1_comeToLife_35 : decode cX1_comeToLife 35 = .ok (.arraylength, 1) := by decide +kernel
theorem dX1_comeToLife_36 : decode cX1_comeToLife 36 = .ok (.if_icmp .ge 17, 3) := by decide +kernel
theorem dX1_comeToLife_39 : decode cX1_comeToLife 39 = .ok (.aload_n 0, 1) := by decide +kernel
theorem dX1_comeToLife_40 : decode cX1_comeToLife 40 = .ok (.getfield 15, 3) := by decide +kernel
theorem dX1_comeToLife_43 : decode cX1_comeToLife 43 = .ok (.iload 5, 2) := by decide +kernel
theorem dX1_comeToLife_45 : decode cX1_comeToLife 45 = .ok (.iconst 0, 1) := by decide +kernel
theorem dX1_comeToLife_46 : decode cX1_comeToLife 46 = .ok (.iastore, 1) := by decide +kernel
theorem dX1_comeToLife_47 : decode cX1_comeToLife 47 = .ok (.iinc 5 1, 3) := by decide +kernel
theorem dX1_comeToLife_50 : decode cX1_comeToLife 50 = .ok (.goto (-21), 3) := by decide +kernel
theorem dX1_comeToLife_53 : decode cX1_comeToLife 53 = .ok (.return_, 1) := by decide +kernel
theorem dX1_become_0 : decode cX1_become 0 = .ok (.aload_n 0, 1) := by decide +kernel
theorem dX1_become_1 : decode cX1_become 1 = .ok (.aload_n 1, 1) := by decide +kernel
theorem dX1_become_2 : decode cX1_become 2 = .ok (.getfield 22, 3) := by decide +kernel
theorem dX1_become_5 : decode cX1_become 5 = .ok (.aload_n 1, 1) := by decide +kernel
theorem dX1_become_6 : decode cX1_become 6 = .ok (.getfield 25, 3) := by decide +kernel
theorem dX1_become_9 : decode cX1_become 9 = .ok (.aload_n 1, 1) := by decide +kernel
theorem dX1_become_10 : decode cX1_become 10 = .ok (.getfield 28, 3) := by decide +kernel
theorem dX1_become_13 : decode cX1_become 13 = .ok (.aload_n 1, 1) := by decide +kernel
theorem dX1_become_14 : decode cX1_become 14 = .ok (.getfield 31, 3) := by decide +kernel
theorem dX1_become_17 : decode cX1_become 17 = .ok (.invokevirtual 34, 3) := by decide +kernel
theorem dX1_become_20 : decode cX1_become 20 = .ok (.aload_n 0, 1) := by decide +kernel
theorem dX1_become_21 : decode cX1_become 21 = .ok (.aload_n 1, 1) := by decide +kernel
theorem dX1_become_22 : decode cX1_become 22 = .ok (.getfield 9, 3) := by decide +kernel
theorem dX1_become_25 : decode cX1_become 25 = .ok (.putfield 9, 3) := by decide +kernel
theorem dX1_become_28 : decode cX1_become 28 = .ok (.aload_n 1, 1) := by decide +kernel
theorem dX1_become_29 : decode cX1_become 29 = .ok (.getfield 15, 3) := by decide +kernel
theorem dX1_become_32 : decode cX1_become 32 = .ok (.iconst 0, 1) := by decide +kernel
theorem dX1_become_33 : decode cX1_become 33 = .ok (.aload_n 0, 1) := by decide +kernel
theorem dX1_become_34 : decode cX1_become 34 = .ok (.getfield 15, 3) := by decide +kernel
theorem dX1_become_37 : decode cX1_become 37 = .ok (.iconst 0, 1) := by decide +kernel
theorem dX1_become_38 : decode cX1_become 38 = .ok (.aload_n 0, 1) := by decide +kernel
theorem dX1_become_39 : decode cX1_become 39 = .ok (.getfield 15, 3) := by decide +kernel
theorem dX1_become_42 : decode cX1_become 42 = .ok (.arraylength, 1) := by decide +kernel
theorem dX1_become_43 : decode cX1_become 43 = .ok (.invokestatic 38, 3) := by decide +kernel
theorem dX1_become_46 : decode cX1_become 46 = .ok (.return_, 1) := by decide +kernel
theorem dX1_isHereAt_0 : decode cX1_isHereAt 0 = .ok (.iload_n 1, 1) := by decide +kernel
theorem dX1_isHereAt_1 : decode cX1_isHereAt 1 = .ok (.ifCond .lt 15, 3) := by decide +kernel
theorem dX1_isHereAt_4 : decode cX1_isHereAt 4 = .ok (.iload_n 1, 1) := by decide +kernel
theorem dX1_isHereAt_5 : decode cX1_isHereAt 5 = .ok (.aload_n 0, 1) := by decide +kernel
theorem dX1_isHereAt_6 : decode cX1_isHereAt 6 = .ok (.getfield 31, 3) := by decide +kernel
theorem dX1_isHereAt_9 : decode cX1_isHereAt 9 = .ok (.if_icmp .gt 7, 3) := by decide +kernel
theorem dX1_isHereAt_12 : decode cX1_isHereAt 12 = .ok (.iconst 1, 1) := by decide +kernel
theorem dX1_isHereAt_13 : decode cX1_isHereAt 13 = .ok (.goto 4, 3) := by decide +kernel
theorem dX1_isHereAt_16 : decode cX1_isHereAt 16 = .ok (.iconst 0, 1) := by decide +kernel
theorem dX1_isHereAt_17 : decode cX1_isHereAt 17 = .ok (.ireturn, 1) := by decide +kernel
theorem dX1_ageIn_0 : decode cX1_ageIn 0 = .ok (.aload_n 0, 1) := by decide +kernel
theorem dX1_ageIn_1 : decode cX1_ageIn 1 = .ok (.iload_n 1, 1) := by decide +kernel
theorem dX1_ageIn_2 : decode cX1_ageIn 2 = .ok (.iload_n 2, 1) := by decide +kernel
theorem dX1_ageIn_3 : decode cX1_ageIn 3 = .ok (.aload_n 0, 1) := by decide +kernel
theorem dX1_ageIn_4 : decode cX1_ageIn 4 = .ok (.getfield 28, 3) := by decide +kernel
theorem dX1_ageIn_7 : decode cX1_ageIn 7 = .ok (.aload_n 0, 1) := by decide +kernel
theorem dX1_ageIn_8 : decode cX1_ageIn 8 = .ok (.getfield 25, 3) := by decide +kernel
theorem dX1_ageIn_11 : decode cX1_ageIn 11 = .ok (.invokevirtual 44, 3) := by decide +kernel
theorem dX1_ageIn_14 : decode cX1_ageIn 14 = .ok (.ireturn, 1) := by decide +kernel
theorem dX1_ageHad_0 : decode cX1_ageHad 0 = .ok (.iload_n 1, 1) := by decide +kernel
theorem dX1_ageHad_1 : decode cX1_ageHad 1 = .ok (.iload_n 3, 1) := by decide +kernel
theorem dX1_ageHad_2 : decode cX1_ageHad 2 = .ok (.isub, 1) := by decide +kernel
theorem dX1_ageHad_3 : decode cX1_ageHad 3 = .ok (.istore 5, 2) := by decide +kernel
theorem dX1_ageHad_5 : decode cX1_ageHad 5 = .ok (.iload_n 2, 1) := by decide +kernel
theorem dX1_ageHad_6 : decode cX1_ageHad 6 = .ok (.ifCond .ge 6, 3) := by decide +kernel
theorem dX1_ageHad_9 : decode cX1_ageHad 9 = .ok (.iload 5, 2) := by decide +kernel
theorem dX1_ageHad_11 : decode cX1_ageHad 11 = .ok (.ireturn, 1) := by decide +kernel
theorem dX1_ageHad_12 : decode cX1_ageHad 12 = .ok (.aload_n 0, 1) := by decide +kernel
theorem dX1_ageHad_13 : decode cX1_ageHad 13 = .ok (.getfield 22, 3) := by decide +kernel
theorem dX1_ageHad_16 : decode cX1_ageHad 16 = .ok (.tableswitch 95 1 6 #[40, 47, 56, 59, 69, 83], 40) := by decide +kernel
theorem dX1_ageHad_56 : decode cX1_ageHad 56 = .ok (.iload_n 2, 1) := by decide +kernel
theorem dX1_ageHad_57 : decode cX1_ageHad 57 = .ok (.iload_n 3, 1) := by decide +kernel
theorem dX1_ageHad_58 : decode cX1_ageHad 58 = .ok (.isub, 1) := by decide +kernel
theorem dX1_ageHad_59 : decode cX1_ageHad 59 = .ok (.iload 4, 2) := by decide +kernel
theorem dX1_ageHad_61 : decode cX1_ageHad 61 = .ok (.isub, 1) := by decide +kernel
theorem dX1_ageHad_62 : decode cX1_ageHad 62 = .ok (.ireturn, 1) := by decide +kernel
theorem dX1_ageHad_63 : decode cX1_ageHad 63 = .ok (.iload 5, 2) := by decide +kernel
theorem dX1_ageHad_65 : decode cX1_ageHad 65 = .ok (.iload_n 2, 1) := by decide +kernel
theorem dX1_ageHad_66 : decode cX1_ageHad 66 = .ok (.iload_n 1, 1) := by decide +kernel
theorem dX1_ageHad_67 : decode cX1_ageHad 67 = .ok (.isub, 1) := by decide +kernel
theorem dX1_ageHad_68 : decode cX1_ageHad 68 = .ok (.iconst 2, 1) := by decide +kernel
theorem dX1_ageHad_69 : decode cX1_ageHad 69 = .ok (.idiv, 1) := by decide +kernel
theorem dX1_ageHad_70 : decode cX1_ageHad 70 = .ok (.iadd, 1) := by decide +kernel
theorem dX1_ageHad_71 : decode cX1_ageHad 71 = .ok (.ireturn, 1) := by decide +kernel
theorem dX1_ageHad_72 : decode cX1_ageHad 72 = .ok (.iload 5, 2) := by decide +kernel
theorem dX1_ageHad_74 : decode cX1_ageHad 74 = .ok (.ireturn, 1) := by decide +kernel
theorem dX1_ageHad_75 : decode cX1_ageHad 75 = .ok (.iload_n 2, 1) := by decide +kernel
theorem dX1_ageHad_76 : decode cX1_ageHad 76 = .ok (.iload_n 3, 1) := by decide +kernel
theorem dX1_ageHad_77 : decode cX1_ageHad 77 = .ok (.isub, 1) := by decide +kernel
theorem dX1_ageHad_78 : decode cX1_ageHad 78 = .ok (.iload 4, 2) := by decide +kernel
theorem dX1_ageHad_80 : decode cX1_ageHad 80 = .ok (.isub, 1) := by decide +kernel
theorem dX1_ageHad_81 : decode cX1_ageHad 81 = .ok (.iload 4, 2) := by decide +kernel
theorem dX1_ageHad_83 : decode cX1_ageHad 83 = .ok (.isub, 1) := by decide +kernel
theorem dX1_ageHad_84 : decode cX1_ageHad 84 = .ok (.ireturn, 1) := by decide +kernel
theorem dX1_ageHad_85 : decode cX1_ageHad 85 = .ok (.iload 5, 2) := by decide +kernel
theorem dX1_ageHad_87 : decode cX1_ageHad 87 = .ok (.iload 5, 2) := by decide +kernel
theorem dX1_ageHad_89 : decode cX1_ageHad 89 = .ok (.iload_n 2, 1) := by decide +kernel
theorem dX1_ageHad_90 : decode cX1_ageHad 90 = .ok (.iload_n 1, 1) := by decide +kernel
theorem dX1_ageHad_91 : decode cX1_ageHad 91 = .ok (.isub, 1) := by decide +kernel
theorem dX1_ageHad_92 : decode cX1_ageHad 92 = .ok (.iconst 2, 1) := by decide +kernel
theorem dX1_ageHad_93 : decode cX1_ageHad 93 = .ok (.idiv, 1) := by decide +kernel
theorem dX1_ageHad_94 : decode cX1_ageHad 94 = .ok (.iadd, 1) := by decide +kernel
theorem dX1_ageHad_95 : decode cX1_ageHad 95 = .ok (.invokestatic 48, 3) := by decide +kernel
theorem dX1_ageHad_98 : decode cX1_ageHad 98 = .ok (.ireturn, 1) := by decide +kernel
theorem dX1_ageHad_99 : decode cX1_ageHad 99 = .ok (.iload 5, 2) := by decide +kernel
theorem dX1_ageHad_101 : decode cX1_ageHad 101 = .ok (.aload_n 0, 1) := by decide +kernel
theorem dX1_ageHad_102 : decode cX1_ageHad 102 = .ok (.getfield 15, 3) := by decide +kernel
theorem dX1_ageHad_105 : decode cX1_ageHad 105 = .ok (.iload_n 2, 1) := by decide +kernel
theorem dX1_ageHad_106 : decode cX1_ageHad 106 = .ok (.iconst 3, 1) := by decide +kernel
theorem dX1_ageHad_107 : decode cX1_ageHad 107 = .ok (.iand, 1) := by decide +kernel
theorem dX1_ageHad_108 : decode cX1_ageHad 108 = .ok (.iaload, 1) := by decide +kernel
theorem dX1_ageHad_109 : decode cX1_ageHad 109 = .ok (.isub, 1) := by decide +kernel
theorem dX1_ageHad_110 : decode cX1_ageHad 110 = .ok (.ireturn, 1) := by decide +kernel
theorem dX1_ageHad_111 : decode cX1_ageHad 111 = .ok (.iload_n 2, 1) := by decide +kernel
theorem dX1_ageHad_112 : decode cX1_ageHad 112 = .ok (.iload_n 3, 1) := by decide +kernel
theorem dX1_ageHad_113 : decode cX1_ageHad 113 = .ok (.isub, 1) := by decide +kernel
theorem dX1_ageHad_114 : decode cX1_ageHad 114 = .ok (.ireturn, 1) := by decide +kernel
theorem dX2_init_0 : decode cX2_init 0 = .ok (.aload_n 0, 1) := by decide +kernel
theorem dX2_init_1 : decode cX2_init 1 = .ok (.invokespecial 3, 3) := by decide +kernel
theorem dX2_init_4 : decode cX2_init 4 = .ok (.aload_n 0, 1) := by decide +kernel
theorem dX2_init_5 : decode cX2_init 5 = .ok (.aload_n 1, 1) := by decide +kernel
theorem dX2_init_6 : decode cX2_init 6 = .ok (.putfield 9, 3) := by decide +kernel
theorem dX2_init_9 : decode cX2_init 9 = .ok (.aload_n 0, 1) := by decide +kernel
theorem dX2_init_10 : decode cX2_init 10 = .ok (.iload_n 2, 1) := by decide +kernel
theorem dX2_init_11 : decode cX2_init 11 = .ok (.putfield 15, 3) := by decide +kernel
theorem dX2_init_14 : decode cX2_init 14 = .ok (.aload_n 0, 1) := by decide +kernel
theorem dX2_init_15 : decode cX2_init 15 = .ok (.aload_n 3, 1) := by decide +kernel
theorem dX2_init_16 : decode cX2_init 16 = .ok (.putfield 19, 3) := by decide +kernel
theorem dX2_init_19 : decode cX2_init 19 = .ok (.return_, 1) := by decide +kernel
theorem dX2_readVillage_0 : decode cX2_readVillage 0 = .ok (.aload_n 0, 1) := by decide +kernel
theorem dX2_readVillage_1 : decode cX2_readVillage 1 = .ok (.getfield 19, 3) := by decide +kernel
theorem dX2_readVillage_4 : decode cX2_readVillage 4 = .ok (.invokevirtual 23, 3) := by decide +kernel
theorem dX2_readVillage_7 : decode cX2_readVillage 7 = .ok (.iconst 1, 1) := by decide +kernel
theorem dX2_readVillage_8 : decode cX2_readVillage 8 = .ok (.istore_n 1, 1) := by decide +kernel
theorem dX2_readVillage_9 : decode cX2_readVillage 9 = .ok (.iload_n 1, 1) := by decide +kernel
theorem dX2_readVillage_10 : decode cX2_readVillage 10 = .ok (.bipush 10, 2) := by decide +kernel
theorem dX2_readVillage_12 : decode cX2_readVillage 12 = .ok (.if_icmp .gt 48, 3) := by decide +kernel
theorem dX2_readVillage_15 : decode cX2_readVillage 15 = .ok (.aload_n 0, 1) := by decide +kernel
theorem dX2_readVillage_16 : decode cX2_readVillage 16 = .ok (.invokevirtual 28, 3) := by decide +kernel
theorem dX2_readVillage_19 : decode cX2_readVillage 19 = .ok (.ifCond .ne 5, 3) := by decide +kernel
theorem dX2_readVillage_22 : decode cX2_readVillage 22 = .ok (.iconst 0, 1) := by decide +kernel
theorem dX2_readVillage_23 : decode cX2_readVillage 23 = .ok (.ireturn, 1) := by decide +kernel
theorem dX2_readVillage_24 : decode cX2_readVillage 24 = .ok (.aload_n 0, 1) := by decide +kernel
theorem dX2_readVillage_25 : decode cX2_readVillage 25 = .ok (.getfield 32, 3) := by decide +kernel
theorem dX2_readVillage_28 : decode cX2_readVillage 28 = .ok (.aload_n 0, 1) := by decide +kernel
theorem dX2_readVillage_29 : decode cX2_readVillage 29 = .ok (.getfield 15, 3) := by decide +kernel
theorem dX2_readVillage_32 : decode cX2_readVillage 32 = .ok (.if_icmp .ne 5, 3) := by decide +kernel
theorem dX2_readVillage_35 : decode cX2_readVillage 35 = .ok (.iconst 1, 1) := by decide +kernel
theorem dX2_readVillage_36 : decode cX2_readVillage 36 = .ok (.ireturn, 1) := by decide +kernel
theorem dX2_readVillage_37 : decode cX2_readVillage 37 = .ok (.iload_n 1, 1) := by decide +kernel
theorem dX2_readVillage_38 : decode cX2_readVillage 38 = .ok (.bipush 10, 2) := by decide +kernel
theorem dX2_readVillage_40 : decode cX2_readVillage 40 = .ok (.if_icmp .eq 12, 3) := by decide +kernel
theorem dX2_readVillage_43 : decode cX2_readVillage 43 = .ok (.aload_n 0, 1) := by decide +kernel
theorem dX2_readVillage_44 : decode cX2_readVillage 44 = .ok (.bipush 59, 2) := by decide +kernel
theorem dX2_readVillage_46 : decode cX2_readVillage 46 = .ok (.invokevirtual 35, 3) := by decide +kernel
theorem dX2_readVillage_49 : decode cX2_readVillage 49 = .ok (.ifCond .ne 5, 3) := by decide +kernel
theorem dX2_readVillage_52 : decode cX2_readVillage 52 = .ok (.iconst 0, 1) := by decide +kernel
theorem dX2_readVillage_53 : decode cX2_readVillage 53 = .ok (.ireturn, 1) := by decide +kernel
theorem dX2_readVillage_54 : decode cX2_readVillage 54 = .ok (.iinc 1 1, 3) := by decide +kernel
theorem dX2_readVillage_57 : decode cX2_readVillage 57 = .ok (.goto (-48), 3) := by decide +kernel
theorem dX2_readVillage_60 : decode cX2_readVillage 60 = .ok (.iconst 0, 1) := by decide +kernel
theorem dX2_readVillage_61 : decode cX2_readVillage 61 = .ok (.ireturn, 1) := by decide +kernel
theorem dX2_readClause_0 : decode cX2_readClause 0 = .ok (.aload_n 0, 1) := by decide +kernel
theorem dX2_readClause_1 : decode cX2_readClause 1 = .ok (.bipush 103, 2) := by decide +kernel
theorem dX2_readClause_3 : decode cX2_readClause 3 = .ok (.invokevirtual 35, 3) := by decide +kernel
theorem dX2_readClause_6 : decode cX2_readClause 6 = .ok (.ifCond .eq 44, 3) := by decide +kernel
theorem dX2_readClause_9 : decode cX2_readClause 9 = .ok (.aload_n 0, 1) := by decide +kernel
theorem dX2_readClause_10 : decode cX2_readClause 10 = .ok (.getfield 19, 3) := by decide +kernel
theorem dX2_readClause_13 : decode cX2_readClause 13 = .ok (.aload_n 0, 1) := by decide +kernel
theorem dX2_readClause_14 : decode cX2_readClause 14 = .ok (.ldc 39, 2) := by decide +kernel
theorem dX2_readClause_16 : decode cX2_readClause 16 = .ok (.invokevirtual 41, 3) := by decide +kernel
theorem dX2_readClause_19 : decode cX2_readClause 19 = .ok (.ifCond .eq 10, 3) := by decide +kernel
theorem dX2_readClause_22 : decode cX2_readClause 22 = .ok (.aload_n 0, 1) := by decide +kernel
theorem dX2_readClause_23 : decode cX2_readClause 23 = .ok (.invokevirtual 45, 3) := by decide +kernel
theorem dX2_readClause_26 : decode cX2_readClause 26 = .ok (.goto 4, 3) := by decide +kernel
theorem dX2_readClause_29 : decode cX2_readClause 29 = .ok (.iconst (-1), 1) := by decide +kernel
theorem dX2_readClause_30 : decode cX2_readClause 30 = .ok (.putfield 49, 3) := by decide +kernel
theorem dX2_readClause_33 : decode cX2_readClause 33 = .ok (.aload_n 0, 1) := by decide +kernel
theorem dX2_readClause_34 : decode cX2_readClause 34 = .ok (.getfield 19, 3) := by decide +kernel
theorem dX2_readClause_37 : decode cX2_readClause 37 = .ok (.getfield 49, 3) := by decide +kernel
theorem dX2_readClause_40 : decode cX2_readClause 40 = .ok (.iconst (-1), 1) := by decide +kernel
theorem dX2_readClause_41 : decode cX2_readClause 41 = .ok (.if_icmp .eq 7, 3) := by decide +kernel
theorem dX2_readClause_44 : decode cX2_readClause 44 = .ok (.iconst 1, 1) := by decide +kernel
theorem dX2_readClause_45 : decode cX2_readClause 45 = .ok (.goto 4, 3) := by decide +kernel
theorem dX2_readClause_48 : decode cX2_readClause 48 = .ok (.iconst 0, 1) := by decide +kernel
theorem dX2_readClause_49 : decode cX2_readClause 49 = .ok (.ireturn, 1) := by decide +kernel
theorem dX2_readClause_50 : decode cX2_readClause 50 = .ok (.aload_n 0, 1) := by decide +kernel
theorem dX2_readClause_51 : decode cX2_readClause 51 = .ok (.bipush 111, 2) := by decide +kernel
theorem dX2_readClause_53 : decode cX2_readClause 53 = .ok (.invokevirtual 35, 3) := by decide +kernel
theorem dX2_readClause_56 : decode cX2_readClause 56 = .ok (.ifCond .eq 44, 3) := by decide +kernel
theorem dX2_readClause_59 : decode cX2_readClause 59 = .ok (.aload_n 0, 1) := by decide +kernel
theorem dX2_readClause_60 : decode cX2_readClause 60 = .ok (.getfield 19, 3) := by decide +kernel
theorem dX2_readClause_63 : decode cX2_readClause 63 = .ok (.aload_n 0, 1) := by decide +kernel
theorem dX2_readClause_64 : decode cX2_readClause 64 = .ok (.ldc 52, 2) := by decide +kernel
theorem dX2_readClause_66 : decode cX2_readClause 66 = .ok (.invokevirtual 41, 3) := by decide +kernel
theorem dX2_readClause_69 : decode cX2_readClause 69 = .ok (.ifCond .eq 10, 3) := by decide +kernel
theorem dX2_readClause_72 : decode cX2_readClause 72 = .ok (.aload_n 0, 1) := by decide +kernel
theorem dX2_readClause_73 : decode cX2_readClause 73 = .ok (.invokevirtual 45, 3) := by decide +kernel
theorem dX2_readClause_76 : decode cX2_readClause 76 = .ok (.goto 4, 3) := by decide +kernel
theorem dX2_readClause_79 : decode cX2_readClause 79 = .ok (.iconst (-1), 1) := by decide +kernel
theorem dX2_readClause_80 : decode cX2_readClause 80 = .ok (.putfield 54, 3) := by decide +kernel
theorem dX2_readClause_83 : decode cX2_readClause 83 = .ok (.aload_n 0, 1) := by decide +kernel
theorem dX2_readClause_84 : decode cX2_readClause 84 = .ok (.getfield 19, 3) := by decide +kernel
theorem dX2_readClause_87 : decode cX2_readClause 87 = .ok (.getfield 54, 3) := by decide +kernel
theorem dX2_readClause_90 : decode cX2_readClause 90 = .ok (.iconst (-1), 1) := by decide +kernel
theorem dX2_readClause_91 : decode cX2_readClause 91 = .ok (.if_icmp .eq 7, 3) := by decide +kernel
theorem dX2_readClause_94 : decode cX2_readClause 94 = .ok (.iconst 1, 1) := by decide +kernel
theorem dX2_readClause_95 : decode cX2_readClause 95 = .ok (.goto 4, 3) := by decide +kernel
theorem dX2_readClause_98 : decode cX2_readClause 98 = .ok (.iconst 0, 1) := by decide +kernel
theorem dX2_readClause_99 : decode cX2_readClause 99 = .ok (.ireturn, 1) := by decide +kernel
theorem dX2_readClause_100 : decode cX2_readClause 100 = .ok (.aload_n 0, 1) := by decide +kernel
theorem dX2_readClause_101 : decode cX2_readClause 101 = .ok (.bipush 98, 2) := by decide +kernel
theorem dX2_readClause_103 : decode cX2_readClause 103 = .ok (.invokevirtual 35, 3) := by decide +kernel
theorem dX2_readClause_106 : decode cX2_readClause 106 = .ok (.ifCond .eq 7, 3) := by decide +kernel
theorem dX2_readClause_109 : decode cX2_readClause 109 = .ok (.iconst 1, 1) := by decide +kernel
theorem dX2_readClause_110 : decode cX2_readClause 110 = .ok (.goto 4, 3) := by decide +kernel
theorem dX2_readClause_113 : decode cX2_readClause 113 = .ok (.iconst (-1), 1) := by decide +kernel
theorem dX2_readClause_114 : decode cX2_readClause 114 = .ok (.istore_n 1, 1) := by decide +kernel
theorem dX2_readClause_115 : decode cX2_readClause 115 = .ok (.aload_n 0, 1) := by decide +kernel
theorem dX2_readClause_116 : decode cX2_readClause 116 = .ok (.iload_n 1, 1) := by decide +kernel
theorem dX2_readClause_117 : decode cX2_readClause 117 = .ok (.ifCond .le 8, 3) := by decide +kernel
theorem dX2_readClause_120 : decode cX2_readClause 120 = .ok (.ldc 57, 2) := by decide +kernel
theorem dX2_readClause_122 : decode cX2_readClause 122 = .ok (.goto 5, 3) := by decide +kernel
theorem dX2_readClause_125 : decode cX2_readClause 125 = .ok (.ldc 59, 2) := by decide +kernel
theorem dX2_readClause_127 : decode cX2_readClause 127 = .ok (.invokevirtual 41, 3) := by decide +kernel
theorem dX2_readClause_130 : decode cX2_readClause 130 = .ok (.ifCond .ne 5, 3) := by decide +kernel
theorem dX2_readClause_133 : decode cX2_readClause 133 = .ok (.iconst 0, 1) := by decide +kernel
theorem dX2_readClause_134 : decode cX2_readClause 134 = .ok (.ireturn, 1) := by decide +kernel
theorem dX2_readClause_135 : decode cX2_readClause 135 = .ok (.aload_n 0, 1) := by decide +kernel
theorem dX2_readClause_136 : decode cX2_readClause 136 = .ok (.invokevirtual 45, 3) := by decide +kernel
theorem dX2_readClause_139 : decode cX2_readClause 139 = .ok (.istore_n 2, 1) := by decide +kernel
theorem dX2_readClause_140 : decode cX2_readClause 140 = .ok (.iload_n 2, 1) := by decide +kernel
theorem dX2_readClause_141 : decode cX2_readClause 141 = .ok (.iconst (-1), 1) := by decide +kernel
theorem dX2_readClause_142 : decode cX2_readClause 142 = .ok (.if_icmp .eq 20, 3) := by decide +kernel
theorem dX2_readClause_145 : decode cX2_readClause 145 = .ok (.aload_n 0, 1) := by decide +kernel
theorem dX2_readClause_146 : decode cX2_readClause 146 = .ok (.bipush 32, 2) := by decide +kernel
theorem dX2_readClause_148 : decode cX2_readClause 148 = .ok (.invokevirtual 35, 3) := by decide +kernel
theorem dX2_readClause_151 : decode cX2_readClause 151 = .ok (.ifCond .eq 11, 3) := by decide +kernel
theorem dX2_readClause_154 : decode cX2_readClause 154 = .ok (.aload_n 0, 1) := by decide +kernel
theorem dX2_readClause_155 : decode cX2_readClause 155 = .ok (.iconst 0, 1) := by decide +kernel
theorem dX2_readClause_156 : decode cX2_readClause 156 = .ok (.invokevirtual 61, 3) := by decide +kernel
theorem dX2_readClause_159 : decode cX2_readClause 159 = .ok (.ifCond .ne 5, 3) := by decide +kernel
theorem dX2_readClause_162 : decode cX2_readClause 162 = .ok (.iconst 0, 1) := by decide +kernel
theorem dX2_readClause_163 : decode cX2_readClause 163 = .ok (.ireturn, 1) := by decide +kernel
theorem dX2_readClause_164 : decode cX2_readClause 164 = .ok (.aload_n 0, 1) := by decide +kernel
theorem dX2_readClause_165 : decode cX2_readClause 165 = .ok (.getfield 19, 3) := by decide +kernel
theorem dX2_readClause_168 : decode cX2_readClause 168 = .ok (.iload_n 1, 1) := by decide +kernel
theorem dX2_readClause_169 : decode cX2_readClause 169 = .ok (.iload_n 2, 1) := by decide +kernel
theorem dX2_readClause_170 : decode cX2_readClause 170 = .ok (.imul, 1) := by decide +kernel
theorem dX2_readClause_171 : decode cX2_readClause 171 = .ok (.invokevirtual 65, 3) := by decide +kernel
theorem dX2_readClause_174 : decode cX2_readClause 174 = .ok (.iconst 1, 1) := by decide +kernel
theorem dX2_readClause_175 : decode cX2_readClause 175 = .ok (.ireturn, 1) := by decide +kernel
theorem dX2_readEither_0 : decode cX2_readEither 0 = .ok (.iconst 0, 1) := by decide +kernel
theorem dX2_readEither_1 : decode cX2_readEither 1 = .ok (.istore_n 2, 1) := by decide +kernel
theorem dX2_readEither_2 : decode cX2_readEither 2 = .ok (.iconst 0, 1) := by decide +kernel
theorem dX2_readEither_3 : decode cX2_readEither 3 = .ok (.istore_n 3, 1) := by decide +kernel
theorem dX2_readEither_4 : decode cX2_readEither 4 = .ok (.iconst 0, 1) := by decide +kernel
theorem dX2_readEither_5 : decode cX2_readEither 5 = .ok (.istore 4, 2) := by decide +kernel
theorem dX2_readEither_7 : decode cX2_readEither 7 = .ok (.iload 4, 2) := by decide +kernel
theorem dX2_readEither_9 : decode cX2_readEither 9 = .ok (.bipush 100, 2) := by decide +kernel
theorem dX2_readEither_11 : decode cX2_readEither 11 = .ok (.if_icmp .ge 72, 3) := by decide +kernel
theorem dX2_readEither_14 : decode cX2_readEither 14 = .ok (.aload_n 0, 1) := by decide +kernel
theorem dX2_readEither_15 : decode cX2_readEither 15 = .ok (.iload_n 1, 1) := by decide +kernel
theorem dX2_readEither_16 : decode cX2_readEither 16 = .ok (.invokevirtual 69, 3) := by decide +kernel
theorem dX2_readEither_19 : decode cX2_readEither 19 = .ok (.ifCond .ne 5, 3) := by decide +kernel
theorem dX2_readEither_22 : decode cX2_readEither 22 = .ok (.iconst 0, 1) := by decide +kernel
theorem dX2_readEither_23 : decode cX2_readEither 23 = .ok (.ireturn, 1) := by decide +kernel
theorem dX2_readEither_24 : decode cX2_readEither 24 = .ok (.iload_n 2, 1) := by decide +kernel
theorem dX2_readEither_25 : decode cX2_readEither 25 = .ok (.ifCond .eq 12, 3) := by decide +kernel
theorem dX2_readEither_28 : decode cX2_readEither 28 = .ok (.aload_n 0, 1) := by decide +kernel
theorem dX2_readEither_29 : decode cX2_readEither 29 = .ok (.getfield 19, 3) := by decide +kernel
theorem dX2_readEither_32 : decode cX2_readEither 32 = .ok (.bipush (-2), 2) := by decide +kernel
theorem dX2_readEither_34 : decode cX2_readEither 34 = .ok (.invokevirtual 72, 3) := by decide +kernel
theorem dX2_readEither_37 : decode cX2_readEither 37 = .ok (.aload_n 0, 1) := by decide +kernel
theorem dX2_readEither_38 : decode cX2_readEither 38 = .ok (.bipush 38, 2) := by decide +kernel
theorem dX2_readEither_40 : decode cX2_readEither 40 = .ok (.invokevirtual 35, 3) := by decide +kernel
theorem dX2_readEither_43 : decode cX2_readEither 43 = .ok (.istore_n 2, 1) := by decide +kernel
theorem dX2_readEither_44 : decode cX2_readEither 44 = .ok (.iload_n 2, 1) := by decide +kernel
theorem dX2_readEither_45 : decode cX2_readEither 45 = .ok (.ifCond .eq 6, 3) := by decide +kernel
theorem dX2_readEither_48 : decode cX2_readEither 48 = .ok (.goto 29, 3) := by decide +kernel
theorem dX2_readEither_51 : decode cX2_readEither 51 = .ok (.iload_n 3, 1) := by decide +kernel
theorem dX2_readEither_52 : decode cX2_readEither 52 = .ok (.ifCond .eq 12, 3) := by decide +kernel
theorem dX2_readEither_55 : decode cX2_readEither 55 = .ok (.aload_n 0, 1) := by decide +kernel
theorem dX2_readEither_56 : decode cX2_readEither 56 = .ok (.getfield 19, 3) := by decide +kernel
theorem dX2_readEither_59 : decode cX2_readEither 59 = .ok (.bipush (-3), 2) := by decide +kernel
theorem dX2_readEither_61 : decode cX2_readEither 61 = .ok (.invokevirtual 72, 3) := by decide +kernel
theorem dX2_readEither_64 : decode cX2_readEither 64 = .ok (.aload_n 0, 1) := by decide +kernel
theorem dX2_readEither_65 : decode cX2_readEither 65 = .ok (.bipush 124, 2) := by decide +kernel
theorem dX2_readEither_67 : decode cX2_readEither 67 = .ok (.invokevirtual 35, 3) := by decide +kernel
theorem dX2_readEither_70 : decode cX2_readEither 70 = .ok (.istore_n 3, 1) := by decide +kernel
theorem dX2_readEither_71 : decode cX2_readEither 71 = .ok (.iload_n 3, 1) := by decide +kernel
theorem dX2_readEither_72 : decode cX2_readEither 72 = .ok (.ifCond .ne 5, 3) := by decide +kernel
theorem dX2_readEither_75 : decode cX2_readEither 75 = .ok (.iconst 1, 1) := by decide +kernel
theorem dX2_readEither_76 : decode cX2_readEither 76 = .ok (.ireturn, 1) := by decide +kernel
theorem dX2_readEither_77 : decode cX2_readEither 77 = .ok (.iinc 4 1, 3) := by decide +kernel
theorem dX2_readEither_80 : decode cX2_readEither 80 = .ok (.goto (-73), 3) := by decide +kernel
theorem dX2_readEither_83 : decode cX2_readEither 83 = .ok (.iconst 0, 1) := by decide +kernel
theorem dX2_readEither_84 : decode cX2_readEither 84 = .ok (.ireturn, 1) := by decide +kernel
theorem dX2_readFactor_0 : decode cX2_readFactor 0 = .ok (.iload_n 1, 1) := by decide +kernel
theorem dX2_readFactor_1 : decode cX2_readFactor 1 = .ok (.iconst 5, 1) := by decide +kernel
theorem dX2_readFactor_2 : decode cX2_readFactor 2 = .ok (.if_icmp .ge 30, 3) := by decide +kernel
theorem dX2_readFactor_5 : decode cX2_readFactor 5 = .ok (.aload_n 0, 1) := by decide +kernel
theorem dX2_readFactor_6 : decode cX2_readFactor 6 = .ok (.bipush 33, 2) := by decide +kernel
theorem dX2_readFactor_8 : decode cX2_readFactor 8 = .ok (.invokevirtual 35, 3) := by decide +kernel
theorem dX2_readFactor_11 : decode cX2_readFactor 11 = .ok (.ifCond .eq 21, 3) := by decide +kernel
theorem dX2_readFactor_14 : decode cX2_readFactor 14 = .ok (.aload_n 0, 1) := by decide +kernel
theorem dX2_readFactor_15 : decode cX2_readFactor 15 = .ok (.iload_n 1, 1) := by decide +kernel
theorem dX2_readFactor_16 : decode cX2_readFactor 16 = .ok (.iconst 1, 1) := by decide +kernel
theorem dX2_readFactor_17 : decode cX2_readFactor 17 = .ok (.iadd, 1) := by decide +kernel
theorem dX2_readFactor_18 : decode cX2_readFactor 18 = .ok (.invokevirtual 69, 3) := by decide +kernel
theorem dX2_readFactor_21 : decode cX2_readFactor 21 = .ok (.istore_n 2, 1) := by decide +kernel
theorem dX2_readFactor_22 : decode cX2_readFactor 22 = .ok (.aload_n 0, 1) := by decide +kernel
theorem dX2_readFactor_23 : decode cX2_readFactor 23 = .ok (.getfield 19, 3) := by decide +kernel
theorem dX2_readFactor_26 : decode cX2_readFactor 26 = .ok (.iconst (-1), 1) := by decide +kernel
theorem dX2_readFactor_27 : decode cX2_readFactor 27 = .ok (.invokevirtual 72, 3) := by decide +kernel
theorem dX2_readFactor_30 : decode cX2_readFactor 30 = .ok (.iload_n 2, 1) := by decide +kernel
theorem dX2_readFactor_31 : decode cX2_readFactor 31 = .ok (.ireturn, 1) := by decide +kernel
theorem dX2_readFactor_32 : decode cX2_readFactor 32 = .ok (.iload_n 1, 1) := by decide +kernel
theorem dX2_readFactor_33 : decode cX2_readFactor 33 = .ok (.iconst 5, 1) := by decide +kernel
theorem dX2_readFactor_34 : decode cX2_readFactor 34 = .ok (.if_icmp .ge 37, 3) := by decide +kernel
theorem dX2_readFactor_37 : decode cX2_readFactor 37 = .ok (.aload_n 0, 1) := by decide +kernel
theorem dX2_readFactor_38 : decode cX2_readFactor 38 = .ok (.bipush 40, 2) := by decide +kernel
theorem dX2_readFactor_40 : decode cX2_readFactor 40 = .ok (.invokevirtual 35, 3) := by decide +kernel
theorem dX2_readFactor_43 : decode cX2_readFactor 43 = .ok (.ifCond .eq 28, 3) := by decide +kernel
theorem dX2_readFactor_46 : decode cX2_readFactor 46 = .ok (.aload_n 0, 1) := by decide +kernel
theorem dX2_readFactor_47 : decode cX2_readFactor 47 = .ok (.iload_n 1, 1) := by decide +kernel
theorem dX2_readFactor_48 : decode cX2_readFactor 48 = .ok (.iconst 1, 1) := by decide +kernel
theorem dX2_readFactor_49 : decode cX2_readFactor 49 = .ok (.iadd, 1) := by decide +kernel
theorem dX2_readFactor_50 : decode cX2_readFactor 50 = .ok (.invokevirtual 61, 3) := by decide +kernel
theorem dX2_readFactor_53 : decode cX2_readFactor 53 = .ok (.ifCond .eq 16, 3) := by decide +kernel
theorem dX2_readFactor_56 : decode cX2_readFactor 56 = .ok (.aload_n 0, 1) := by decide +kernel
theorem dX2_readFactor_57 : decode cX2_readFactor 57 = .ok (.bipush 41, 2) := by decide +kernel
theorem dX2_readFactor_59 : decode cX2_readFactor 59 = .ok (.invokevirtual 35, 3) := by decide +kernel
theorem dX2_readFactor_62 : decode cX2_readFactor 62 = .ok (.ifCond .eq 7, 3) := by decide +kernel
theorem dX2_readFactor_65 : decode cX2_readFactor 65 = .ok (.iconst 1, 1) := by decide +kernel
theorem dX2_readFactor_66 : decode cX2_readFactor 66 = .ok (.goto 4, 3) := by decide +kernel
theorem dX2_readFactor_69 : decode cX2_readFactor 69 = .ok (.iconst 0, 1) := by decide +kernel
theorem dX2_readFactor_70 : decode cX2_readFactor 70 = .ok (.ireturn, 1) := by decide +kernel
theorem dX2_readFactor_71 : decode cX2_readFactor 71 = .ok (.aload_n 0, 1) := by decide +kernel
theorem dX2_readFactor_72 : decode cX2_readFactor 72 = .ok (.invokevirtual 75, 3) := by decide +kernel
theorem dX2_readFactor_75 : decode cX2_readFactor 75 = .ok (.ireturn, 1) := by decide +kernel
theorem dX2_readTest_0 : decode cX2_readTest 0 = .ok (.aload_n 0, 1) := by decide +kernel
theorem dX2_readTest_1 : decode cX2_readTest 1 = .ok (.ldc 78, 2) := by decide +kernel
theorem dX2_readTest_3 : decode cX2_readTest 3 = .ok (.invokevirtual 80, 3) := by decide +kernel
theorem dX2_readTest_6 : decode cX2_readTest 6 = .ok (.istore_n 1, 1) := by decide +kernel
theorem dX2_readTest_7 : decode cX2_readTest 7 = .ok (.iload_n 1, 1) := by decide +kernel
theorem dX2_readTest_8 : decode cX2_readTest 8 = .ok (.ifCond .ge 5, 3) := by decide +kernel
theorem dX2_readTest_11 : decode cX2_readTest 11 = .ok (.iconst 0, 1) := by decide +kernel
theorem dX2_readTest_12 : decode cX2_readTest 12 = .ok (.ireturn, 1) := by decide +kernel
theorem dX2_readTest_13 : decode cX2_readTest 13 = .ok (.aload_n 0, 1) := by decide +kernel
theorem dX2_readTest_14 : decode cX2_readTest 14 = .ok (.ldc 84, 2) := by decide +kernel
theorem dX2_readTest_16 : decode cX2_readTest 16 = .ok (.invokevirtual 80, 3) := by decide +kernel
theorem dX2_readTest_19 : decode cX2_readTest 19 = .ok (.istore_n 2, 1) := by decide +kernel
theorem dX2_readTest_20 : decode cX2_readTest 20 = .ok (.iload_n 2, 1) := by decide +kernel
theorem dX2_readTest_21 : decode cX2_readTest 21 = .ok (.ifCond .ge 5, 3) := by decide +kernel
theorem dX2_readTest_24 : decode cX2_readTest 24 = .ok (.iconst 0, 1) := by decide +kernel
theorem dX2_readTest_25 : decode cX2_readTest 25 = .ok (.ireturn, 1) := by decide +kernel
theorem dX2_readTest_26 : decode cX2_readTest 26 = .ok (.aload_n 0, 1) := by decide +kernel
theorem dX2_readTest_27 : decode cX2_readTest 27 = .ok (.invokevirtual 45, 3) := by decide +kernel
theorem dX2_readTest_30 : decode cX2_readTest 30 = .ok (.istore_n 3, 1) := by decide +kernel
theorem dX2_readTest_31 : decode cX2_readTest 31 = .ok (.iload_n 3, 1) := by decide +kernel
theorem dX2_readTest_32 : decode cX2_readTest 32 = .ok (.iconst (-1), 1) := by decide +kernel
theorem dX2_readTest_33 : decode cX2_readTest 33 = .ok (.if_icmp .ne 5, 3) := by decide +kernel
theorem dX2_readTest_36 : decode cX2_readTest 36 = .ok (.iconst 0, 1) := by decide +kernel
theorem dX2_readTest_37 : decode cX2_readTest 37 = .ok (.ireturn, 1) := by decide +kernel
theorem dX2_readTest_38 : decode cX2_readTest 38 = .ok (.aload_n 0, 1) := by decide +kernel
theorem dX2_readTest_39 : decode cX2_readTest 39 = .ok (.getfield 19, 3) := by decide +kernel
theorem dX2_readTest_42 : decode cX2_readTest 42 = .ok (.iload_n 1, 1) := by decide +kernel
theorem dX2_readTest_43 : decode cX2_readTest 43 = .ok (.iload_n 2, 1) := by decide +kernel
theorem dX2_readTest_44 : decode cX2_readTest 44 = .ok (.iload_n 3, 1) := by decide +kernel
theorem dX2_readTest_45 : decode cX2_readTest 45 = .ok (.invokestatic 86, 3) := by decide +kernel
theorem dX2_readTest_48 : decode cX2_readTest 48 = .ok (.invokevirtual 72, 3) := by decide +kernel
theorem dX2_readTest_51 : decode cX2_readTest 51 = .ok (.iconst 1, 1) := by decide +kernel
theorem dX2_readTest_52 : decode cX2_readTest 52 = .ok (.ireturn, 1) := by decide +kernel
theorem dX2_readNumber_0 : decode cX2_readNumber 0 = .ok (.aload_n 0, 1) := by decide +kernel
theorem dX2_readNumber_1 : decode cX2_readNumber 1 = .ok (.getfield 32, 3) := by decide +kernel
theorem dX2_readNumber_4 : decode cX2_readNumber 4 = .ok (.aload_n 0, 1) := by decide +kernel
theorem dX2_readNumber_5 : decode cX2_readNumber 5 = .ok (.getfield 15, 3) := by decide +kernel
theorem dX2_readNumber_8 : decode cX2_readNumber 8 = .ok (.if_icmp .ge 18, 3) := by decide +kernel
theorem dX2_readNumber_11 : decode cX2_readNumber 11 = .ok (.aload_n 0, 1) := by decide +kernel
theorem dX2_readNumber_12 : decode cX2_readNumber 12 = .ok (.getfield 9, 3) := by decide +kernel
theorem dX2_readNumber_15 : decode cX2_readNumber 15 = .ok (.aload_n 0, 1) := by decide +kernel
theorem dX2_readNumber_16 : decode cX2_readNumber 16 = .ok (.getfield 32, 3) := by decide +kernel
theorem dX2_readNumber_19 : decode cX2_readNumber 19 = .ok (.caload, 1) := by decide +kernel
theorem dX2_readNumber_20 : decode cX2_readNumber 20 = .ok (.bipush 48, 2) := by decide +kernel
theorem dX2_readNumber_22 : decode cX2_readNumber 22 = .ok (.isub, 1) := by decide +kernel
theorem dX2_readNumber_23 : decode cX2_readNumber 23 = .ok (.goto 4, 3) := by decide +kernel
theorem dX2_readNumber_26 : decode cX2_readNumber 26 = .ok (.iconst (-1), 1) := by decide +kernel
theorem dX2_readNumber_27 : decode cX2_readNumber 27 = .ok (.istore_n 1, 1) := by decide +kernel
theorem dX2_readNumber_28 : decode cX2_readNumber 28 = .ok (.iload_n 1, 1) := by decide +kernel
theorem dX2_readNumber_29 : decode cX2_readNumber 29 = .ok (.ifCond .lt 9, 3) := by decide +kernel
theorem dX2_readNumber_32 : decode cX2_readNumber 32 = .ok (.iload_n 1, 1) := by decide +kernel
theorem dX2_readNumber_33 : decode cX2_readNumber 33 = .ok (.bipush 9, 2) := by decide +kernel
theorem dX2_readNumber_35 : decode cX2_readNumber 35 = .ok (.if_icmp .le 5, 3) := by decide +kernel
theorem dX2_readNumber_38 : decode cX2_readNumber 38 = .ok (.iconst (-1), 1) := by decide +kernel
theorem dX2_readNumber_39 : decode cX2_readNumber 39 = .ok (.ireturn, 1) := by decide +kernel
theorem dX2_readNumber_40 : decode cX2_readNumber 40 = .ok (.aload_n 0, 1) := by decide +kernel
theorem dX2_readNumber_41 : decode cX2_readNumber 41 = .ok (.dup, 1) := by decide +kernel
theorem dX2_readNumber_42 : decode cX2_readNumber 42 = .ok (.getfield 32, 3) := by decide +kernel
theorem dX2_readNumber_45 : decode cX2_readNumber 45 = .ok (.iconst 1, 1) := by decide +kernel
theorem dX2_readNumber_46 : decode cX2_readNumber 46 = .ok (.iadd, 1) := by decide +kernel
theorem dX2_readNumber_47 : decode cX2_readNumber 47 = .ok (.putfield 32, 3) := by decide +kernel
theorem dX2_readNumber_50 : decode cX2_readNumber 50 = .ok (.aload_n 0, 1) := by decide +kernel
theorem dX2_readNumber_51 : decode cX2_readNumber 51 = .ok (.getfield 32, 3) := by decide +kernel
theorem dX2_readNumber_54 : decode cX2_readNumber 54 = .ok (.aload_n 0, 1) := by decide +kernel
theorem dX2_readNumber_55 : decode cX2_readNumber 55 = .ok (.getfield 15, 3) := by decide +kernel
theorem dX2_readNumber_58 : decode cX2_readNumber 58 = .ok (.if_icmp .ge 18, 3) := by decide +kernel
theorem dX2_readNumber_61 : decode cX2_readNumber 61 = .ok (.aload_n 0, 1) := by decide +kernel
theorem dX2_readNumber_62 : decode cX2_readNumber 62 = .ok (.getfield 9, 3) := by decide +kernel
theorem dX2_readNumber_65 : decode cX2_readNumber 65 = .ok (.aload_n 0, 1) := by decide +kernel
theorem dX2_readNumber_66 : decode cX2_readNumber 66 = .ok (.getfield 32, 3) := by decide +kernel
theorem dX2_readNumber_69 : decode cX2_readNumber 69 = .ok (.caload, 1) := by decide +kernel
theorem dX2_readNumber_70 : decode cX2_readNumber 70 = .ok (.bipush 48, 2) := by decide +kernel
theorem dX2_readNumber_72 : decode cX2_readNumber 72 = .ok (.isub, 1) := by decide +kernel
theorem dX2_readNumber_73 : decode cX2_readNumber 73 = .ok (.goto 4, 3) := by decide +kernel
theorem dX2_readNumber_76 : decode cX2_readNumber 76 = .ok (.iconst (-1), 1) := by decide +kernel
theorem dX2_readNumber_77 : decode cX2_readNumber 77 = .ok (.istore_n 2, 1) := by decide +kernel
theorem dX2_readNumber_78 : decode cX2_readNumber 78 = .ok (.iload_n 1, 1) := by decide +kernel
theorem dX2_readNumber_79 : decode cX2_readNumber 79 = .ok (.ifCond .eq 13, 3) := by decide +kernel
theorem dX2_readNumber_82 : decode cX2_readNumber 82 = .ok (.iload_n 2, 1) := by decide +kernel
theorem dX2_readNumber_83 : decode cX2_readNumber 83 = .ok (.ifCond .lt 9, 3) := by decide +kernel
theorem dX2_readNumber_86 : decode cX2_readNumber 86 = .ok (.iload_n 2, 1) := by decide +kernel
theorem dX2_readNumber_87 : decode cX2_readNumber 87 = .ok (.bipush 9, 2) := by decide +kernel
theorem dX2_readNumber_89 : decode cX2_readNumber 89 = .ok (.if_icmp .le 5, 3) := by decide +kernel
theorem dX2_readNumber_92 : decode cX2_readNumber 92 = .ok (.iload_n 1, 1) := by decide +kernel
theorem dX2_readNumber_93 : decode cX2_readNumber 93 = .ok (.ireturn, 1) := by decide +kernel
theorem dX2_readNumber_94 : decode cX2_readNumber 94 = .ok (.aload_n 0, 1) := by decide +kernel
theorem dX2_readNumber_95 : decode cX2_readNumber 95 = .ok (.dup, 1) := by decide +kernel
theorem dX2_readNumber_96 : decode cX2_readNumber 96 = .ok (.getfield 32, 3) := by decide +kernel
theorem dX2_readNumber_99 : decode cX2_readNumber 99 = .ok (.iconst 1, 1) := by decide +kernel
theorem dX2_readNumber_100 : decode cX2_readNumber 100 = .ok (.iadd, 1) := by decide +kernel
theorem dX2_readNumber_101 : decode cX2_readNumber 101 = .ok (.putfield 32, 3) := by decide +kernel
theorem dX2_readNumber_104 : decode cX2_readNumber 104 = .ok (.bipush 10, 2) := by decide +kernel
theorem dX2_readNumber_106 : decode cX2_readNumber 106 = .ok (.iload_n 1, 1) := by decide +kernel
theorem dX2_readNumber_107 : decode cX2_readNumber 107 = .ok (.imul, 1) := by decide +kernel
theorem dX2_readNumber_108 : decode cX2_readNumber 108 = .ok (.iload_n 2, 1) := by decide +kernel
theorem dX2_readNumber_109 : decode cX2_readNumber 109 = .ok (.iadd, 1) := by decide +kernel
theorem dX2_readNumber_110 : decode cX2_readNumber 110 = .ok (.ireturn, 1) := by decide +kernel
theorem dX2_readOneOf_0 : decode cX2_readOneOf 0 = .ok (.aload_n 0, 1) := by decide +kernel
theorem dX2_readOneOf_1 : decode cX2_readOneOf 1 = .ok (.getfield 32, 3) := by decide +kernel
theorem dX2_readOneOf_4 : decode cX2_readOneOf 4 = .ok (.aload_n 0, 1) := by decide +kernel
theorem dX2_readOneOf_5 : decode cX2_readOneOf 5 = .ok (.getfield 15, 3) := by decide +kernel
theorem dX2_readOneOf_8 : decode cX2_readOneOf 8 = .ok (.if_icmp .ge 19, 3) := by decide +kernel
theorem dX2_readOneOf_11 : decode cX2_readOneOf 11 = .ok (.aload_n 1, 1) := by decide +kernel
theorem dX2_readOneOf_12 : decode cX2_readOneOf 12 = .ok (.aload_n 0, 1) := by decide +kernel
theorem dX2_readOneOf_13 : decode cX2_readOneOf 13 = .ok (.getfield 9, 3) := by decide +kernel
theorem dX2_readOneOf_16 : decode cX2_readOneOf 16 = .ok (.aload_n 0, 1) := by decide +kernel
theorem dX2_readOneOf_17 : decode cX2_readOneOf 17 = .ok (.getfield 32, 3) := by decide +kernel
theorem dX2_readOneOf_20 : decode cX2_readOneOf 20 = .ok (.caload, 1) := by decide +kernel
theorem dX2_readOneOf_21 : decode cX2_readOneOf 21 = .ok (.invokevirtual 90, 3) := by decide +kernel
theorem dX2_readOneOf_24 : decode cX2_readOneOf 24 = .ok (.goto 4, 3) := by decide +kernel
theorem dX2_readOneOf_27 : decode cX2_readOneOf 27 = .ok (.iconst (-1), 1) := by decide +kernel
theorem dX2_readOneOf_28 : decode cX2_readOneOf 28 = .ok (.istore_n 2, 1) := by decide +kernel
theorem dX2_readOneOf_29 : decode cX2_readOneOf 29 = .ok (.iload_n 2, 1) := by decide +kernel
theorem dX2_readOneOf_30 : decode cX2_readOneOf 30 = .ok (.ifCond .lt 13, 3) := by decide +kernel
theorem dX2_readOneOf_33 : decode cX2_readOneOf 33 = .ok (.aload_n 0, 1) := by decide +kernel
theorem dX2_readOneOf_34 : decode cX2_readOneOf 34 = .ok (.dup, 1) := by decide +kernel
theorem dX2_readOneOf_35 : decode cX2_readOneOf 35 = .ok (.getfield 32, 3) := by decide +kernel
theorem dX2_readOneOf_38 : decode cX2_readOneOf 38 = .ok (.iconst 1, 1) := by decide +kernel
theorem dX2_readOneOf_39 : decode cX2_readOneOf 39 = .ok (.iadd, 1) := by decide +kernel
theorem dX2_readOneOf_40 : decode cX2_readOneOf 40 = .ok (.putfield 32, 3) := by decide +kernel
theorem dX2_readOneOf_43 : decode cX2_readOneOf 43 = .ok (.iload_n 2, 1) := by decide +kernel
theorem dX2_readOneOf_44 : decode cX2_readOneOf 44 = .ok (.ireturn, 1) := by decide +kernel
theorem dX2_takesAll_0 : decode cX2_takesAll 0 = .ok (.iconst 0, 1) := by decide +kernel
theorem dX2_takesAll_1 : decode cX2_takesAll 1 = .ok (.istore_n 2, 1) := by decide +kernel
theorem dX2_takesAll_2 : decode cX2_takesAll 2 = .ok (.iload_n 2, 1) := by decide +kernel
theorem dX2_takesAll_3 : decode cX2_takesAll 3 = .ok (.aload_n 1, 1) := by decide +kernel
theorem dX2_takesAll_4 : decode cX2_takesAll 4 = .ok (.invokevirtual 96, 3) := by decide +kernel
theorem dX2_takesAll_7 : decode cX2_takesAll 7 = .ok (.if_icmp .ge 23, 3) := by decide +kernel
theorem dX2_takesAll_10 : decode cX2_takesAll 10 = .ok (.aload_n 0, 1) := by decide +kernel
theorem dX2_takesAll_11 : decode cX2_takesAll 11 = .ok (.aload_n 1, 1) := by decide +kernel
theorem dX2_takesAll_12 : decode cX2_takesAll 12 = .ok (.iload_n 2, 1) := by decide +kernel
theorem dX2_takesAll_13 : decode cX2_takesAll 13 = .ok (.invokevirtual 99, 3) := by decide +kernel
theorem dX2_takesAll_16 : decode cX2_takesAll 16 = .ok (.invokevirtual 35, 3) := by decide +kernel
theorem dX2_takesAll_19 : decode cX2_takesAll 19 = .ok (.ifCond .ne 5, 3) := by decide +kernel
theorem dX2_takesAll_22 : decode cX2_takesAll 22 = .ok (.iconst 0, 1) := by decide +kernel
theorem dX2_takesAll_23 : decode cX2_takesAll 23 = .ok (.ireturn, 1) := by decide +kernel
theorem dX2_takesAll_24 : decode cX2_takesAll 24 = .ok (.iinc 2 1, 3) := by decide +kernel
theorem dX2_takesAll_27 : decode cX2_takesAll 27 = .ok (.goto (-25), 3) := by decide +kernel
theorem dX2_takesAll_30 : decode cX2_takesAll 30 = .ok (.iconst 1, 1) := by decide +kernel
theorem dX2_takesAll_31 : decode cX2_takesAll 31 = .ok (.ireturn, 1) := by decide +kernel
theorem dX2_takes_0 : decode cX2_takes 0 = .ok (.aload_n 0, 1) := by decide +kernel
theorem dX2_takes_1 : decode cX2_takes 1 = .ok (.getfield 32, 3) := by decide +kernel
theorem dX2_takes_4 : decode cX2_takes 4 = .ok (.aload_n 0, 1) := by decide +kernel
theorem dX2_takes_5 : decode cX2_takes 5 = .ok (.getfield 15, 3) := by decide +kernel
theorem dX2_takes_8 : decode cX2_takes 8 = .ok (.if_icmp .ge 16, 3) := by decide +kernel
theorem dX2_takes_11 : decode cX2_takes 11 = .ok (.aload_n 0, 1) := by decide +kernel
theorem dX2_takes_12 : decode cX2_takes 12 = .ok (.getfield 9, 3) := by decide +kernel
theorem dX2_takes_15 : decode cX2_takes 15 = .ok (.aload_n 0, 1) := by decide +kernel
theorem dX2_takes_16 : decode cX2_takes 16 = .ok (.getfield 32, 3) := by decide +kernel
theorem dX2_takes_19 : decode cX2_takes 19 = .ok (.caload, 1) := by decide +kernel
theorem dX2_takes_20 : decode cX2_takes 20 = .ok (.iload_n 1, 1) := by decide +kernel
theorem dX2_takes_21 : decode cX2_takes 21 = .ok (.if_icmp .eq 5, 3) := by decide +kernel
theorem dX2_takes_24 : decode cX2_takes 24 = .ok (.iconst 0, 1) := by decide +kernel
theorem dX2_takes_25 : decode cX2_takes 25 = .ok (.ireturn, 1) := by decide +kernel
theorem dX2_takes_26 : decode cX2_takes 26 = .ok (.aload_n 0, 1) := by decide +kernel
theorem dX2_takes_27 : decode cX2_takes 27 = .ok (.dup, 1) := by decide +kernel
theorem dX2_takes_28 : decode cX2_takes 28 = .ok (.getfield 32, 3) := by decide +kernel
theorem dX2_takes_31 : decode cX2_takes 31 = .ok (.iconst 1, 1) := by decide +kernel
theorem dX2_takes_32 : decode cX2_takes 32 = .ok (.iadd, 1) := by decide +kernel
theorem dX2_takes_33 : decode cX2_takes 33 = .ok (.putfield 32, 3) := by decide +kernel
theorem dX2_takes_36 : decode cX2_takes 36 = .ok (.iconst 1, 1) := by decide +kernel
theorem dX2_takes_37 : decode cX2_takes 37 = .ok (.ireturn, 1) := by decide +kernel
theorem dX3_init_0 : decode cX3_init 0 = .ok (.aload_n 0, 1) := by decide +kernel
theorem dX3_init_1 : decode cX3_init 1 = .ok (.invokespecial 3, 3) := by decide +kernel
theorem dX3_init_4 : decode cX3_init 4 = .ok (.aload_n 0, 1) := by decide +kernel
theorem dX3_init_5 : decode cX3_init 5 = .ok (.iload_n 1, 1) := by decide +kernel
theorem dX3_init_6 : decode cX3_init 6 = .ok (.newarray .int, 2) := by decide +kernel
theorem dX3_init_8 : decode cX3_init 8 = .ok (.putfield 9, 3) := by decide +kernel
theorem dX3_init_11 : decode cX3_init 11 = .ok (.aload_n 0, 1) := by decide +kernel
theorem dX3_init_12 : decode cX3_init 12 = .ok (.iload_n 1, 1) := by decide +kernel
theorem dX3_init_13 : decode cX3_init 13 = .ok (.newarray .int, 2) := by decide +kernel
theorem dX3_init_15 : decode cX3_init 15 = .ok (.putfield 15, 3) := by decide +kernel
theorem dX3_init_18 : decode cX3_init 18 = .ok (.aload_n 0, 1) := by decide +kernel
theorem dX3_init_19 : decode cX3_init 19 = .ok (.iload_n 1, 1) := by decide +kernel
theorem dX3_init_20 : decode cX3_init 20 = .ok (.newarray .int, 2) := by decide +kernel
theorem dX3_init_22 : decode cX3_init 22 = .ok (.putfield 18, 3) := by decide +kernel
theorem dX3_init_25 : decode cX3_init 25 = .ok (.return_, 1) := by decide +kernel
theorem dX3_empty_0 : decode cX3_empty 0 = .ok (.aload_n 0, 1) := by decide +kernel
theorem dX3_empty_1 : decode cX3_empty 1 = .ok (.iconst 0, 1) := by decide +kernel
theorem dX3_empty_2 : decode cX3_empty 2 = .ok (.putfield 21, 3) := by decide +kernel
theorem dX3_empty_5 : decode cX3_empty 5 = .ok (.iconst 0, 1) := by decide +kernel
theorem dX3_empty_6 : decode cX3_empty 6 = .ok (.ireturn, 1) := by decide +kernel
theorem dX3_add_0 : decode cX3_add 0 = .ok (.aload_n 0, 1) := by decide +kernel
theorem dX3_add_1 : decode cX3_add 1 = .ok (.getfield 21, 3) := by decide +kernel
theorem dX3_add_4 : decode cX3_add 4 = .ok (.aload_n 0, 1) := by decide +kernel
theorem dX3_add_5 : decode cX3_add 5 = .ok (.getfield 9, 3) := by decide +kernel
theorem dX3_add_8 : decode cX3_add 8 = .ok (.arraylength, 1) := by decide +kernel
theorem dX3_add_9 : decode cX3_add 9 = .ok (.if_icmp .lt 6, 3) := by decide +kernel
theorem dX3_add_12 : decode cX3_add 12 = .ok (.bipush (-4), 2) := by decide +kernel
theorem dX3_add_14 : decode cX3_add 14 = .ok (.ireturn, 1) := by decide +kernel
theorem dX3_add_15 : decode cX3_add 15 = .ok (.aload_n 0, 1) := by decide +kernel
theorem dX3_add_16 : decode cX3_add 16 = .ok (.getfield 9, 3) := by decide +kernel
theorem dX3_add_19 : decode cX3_add 19 = .ok (.aload_n 0, 1) := by decide +kernel
theorem dX3_add_20 : decode cX3_add 20 = .ok (.getfield 21, 3) := by decide +kernel
theorem dX3_add_23 : decode cX3_add 23 = .ok (.iload_n 1, 1) := by decide +kernel
theorem dX3_add_24 : decode cX3_add 24 = .ok (.iastore, 1) := by decide +kernel
theorem dX3_add_25 : decode cX3_add 25 = .ok (.aload_n 0, 1) := by decide +kernel
theorem dX3_add_26 : decode cX3_add 26 = .ok (.getfield 15, 3) := by decide +kernel
theorem dX3_add_29 : decode cX3_add 29 = .ok (.aload_n 0, 1) := by decide +kernel
theorem dX3_add_30 : decode cX3_add 30 = .ok (.getfield 21, 3) := by decide +kernel
theorem dX3_add_33 : decode cX3_add 33 = .ok (.iload_n 2, 1) := by decide +kernel
theorem dX3_add_34 : decode cX3_add 34 = .ok (.iastore, 1) := by decide +kernel
theorem dX3_add_35 : decode cX3_add 35 = .ok (.aload_n 0, 1) := by decide +kernel
theorem dX3_add_36 : decode cX3_add 36 = .ok (.getfield 18, 3) := by decide +kernel
theorem dX3_add_39 : decode cX3_add 39 = .ok (.aload_n 0, 1) := by decide +kernel
theorem dX3_add_40 : decode cX3_add 40 = .ok (.getfield 21, 3) := by decide +kernel
theorem dX3_add_43 : decode cX3_add 43 = .ok (.iload_n 3, 1) := by decide +kernel
theorem dX3_add_44 : decode cX3_add 44 = .ok (.iastore, 1) := by decide +kernel
theorem dX3_add_45 : decode cX3_add 45 = .ok (.aload_n 0, 1) := by decide +kernel
theorem dX3_add_46 : decode cX3_add 46 = .ok (.dup, 1) := by decide +kernel
theorem dX3_add_47 : decode cX3_add 47 = .ok (.getfield 21, 3) := by decide +kernel
theorem dX3_add_50 : decode cX3_add 50 = .ok (.iconst 1, 1) := by decide +kernel
theorem dX3_add_51 : decode cX3_add 51 = .ok (.iadd, 1) := by decide +kernel
theorem dX3_add_52 : decode cX3_add 52 = .ok (.putfield 21, 3) := by decide +kernel
theorem dX3_add_55 : decode cX3_add 55 = .ok (.aload_n 0, 1) := by decide +kernel
theorem dX3_add_56 : decode cX3_add 56 = .ok (.getfield 21, 3) := by decide +kernel
theorem dX3_add_59 : decode cX3_add 59 = .ok (.ireturn, 1) := by decide +kernel
theorem dX3_become_0 : decode cX3_become 0 = .ok (.aload_n 0, 1) := by decide +kernel
theorem dX3_become_1 : decode cX3_become 1 = .ok (.invokevirtual 25, 3) := by decide +kernel
theorem dX3_become_4 : decode cX3_become 4 = .ok (.pop, 1) := by decide +kernel
theorem dX3_become_5 : decode cX3_become 5 = .ok (.iconst 0, 1) := by decide +kernel
theorem dX3_become_6 : decode cX3_become 6 = .ok (.istore_n 2, 1) := by decide +kernel
theorem dX3_become_7 : decode cX3_become 7 = .ok (.iload_n 2, 1) := by decide +kernel
theorem dX3_become_8 : decode cX3_become 8 = .ok (.aload_n 1, 1) := by decide +kernel
theorem dX3_become_9 : decode cX3_become 9 = .ok (.getfield 21, 3) := by decide +kernel
theorem dX3_become_12 : decode cX3_become 12 = .ok (.if_icmp .ge 32, 3) := by decide +kernel
theorem dX3_become_15 : decode cX3_become 15 = .ok (.aload_n 0, 1) := by decide +kernel
theorem dX3_become_16 : decode cX3_become 16 = .ok (.aload_n 1, 1) := by decide +kernel
theorem dX3_become_17 : decode cX3_become 17 = .ok (.getfield 9, 3) := by decide +kernel
theorem dX3_become_20 : decode cX3_become 20 = .ok (.iload_n 2, 1) := by decide +kernel
theorem dX3_become_21 : decode cX3_become 21 = .ok (.iaload, 1) := by decide +kernel
theorem dX3_become_22 : decode cX3_become 22 = .ok (.aload_n 1, 1) := by decide +kernel
theorem dX3_become_23 : decode cX3_become 23 = .ok (.getfield 15, 3) := by decide +kernel
theorem dX3_become_26 : decode cX3_become 26 = .ok (.iload_n 2, 1) := by decide +kernel
theorem dX3_become_27 : decode cX3_become 27 = .ok (.iaload, 1) := by decide +kernel
theorem dX3_become_28 : decode cX3_become 28 = .ok (.aload_n 1, 1) := by decide +kernel
theorem dX3_become_29 : decode cX3_become 29 = .ok (.getfield 18, 3) := by decide +kernel
theorem dX3_become_32 : decode cX3_become 32 = .ok (.iload_n 2, 1) := by decide +kernel
theorem dX3_become_33 : decode cX3_become 33 = .ok (.iaload, 1) := by decide +kernel
theorem dX3_become_34 : decode cX3_become 34 = .ok (.invokevirtual 29, 3) := by decide +kernel
theorem dX3_become_37 : decode cX3_become 37 = .ok (.pop, 1) := by decide +kernel
theorem dX3_become_38 : decode cX3_become 38 = .ok (.iinc 2 1, 3) := by decide +kernel
theorem dX3_become_41 : decode cX3_become 41 = .ok (.goto (-34), 3) := by decide +kernel
theorem dX3_become_44 : decode cX3_become 44 = .ok (.return_, 1) := by decide +kernel
theorem dX4_init_0 : decode cX4_init 0 = .ok (.aload_n 0, 1) := by decide +kernel
theorem dX4_init_1 : decode cX4_init 1 = .ok (.invokespecial 3, 3) := by decide +kernel
theorem dX4_init_4 : decode cX4_init 4 = .ok (.aload_n 0, 1) := by decide +kernel
theorem dX4_init_5 : decode cX4_init 5 = .ok (.bipush 6, 2) := by decide +kernel
theorem dX4_init_7 : decode cX4_init 7 = .ok (.bipush 6, 2) := by decide +kernel
theorem dX4_init_9 : decode cX4_init 9 = .ok (.multianewarray 11 2, 4) := by decide +kernel
theorem dX4_init_13 : decode cX4_init 13 = .ok (.putfield 13, 3) := by decide +kernel
theorem dX4_init_16 : decode cX4_init 16 = .ok (.aload_n 0, 1) := by decide +kernel
theorem dX4_init_17 : decode cX4_init 17 = .ok (.bipush 6, 2) := by decide +kernel
theorem dX4_init_19 : decode cX4_init 19 = .ok (.bipush 6, 2) := by decide +kernel
theorem dX4_init_21 : decode cX4_init 21 = .ok (.multianewarray 11 2, 4) := by decide +kernel
theorem dX4_init_25 : decode cX4_init 25 = .ok (.putfield 16, 3) := by decide +kernel
theorem dX4_init_28 : decode cX4_init 28 = .ok (.aload_n 0, 1) := by decide +kernel
theorem dX4_init_29 : decode cX4_init 29 = .ok (.bipush 6, 2) := by decide +kernel
theorem dX4_init_31 : decode cX4_init 31 = .ok (.newarray .int, 2) := by decide +kernel
theorem dX4_init_33 : decode cX4_init 33 = .ok (.putfield 19, 3) := by decide +kernel
theorem dX4_init_36 : decode cX4_init 36 = .ok (.aload_n 0, 1) := by decide +kernel
theorem dX4_init_37 : decode cX4_init 37 = .ok (.bipush 6, 2) := by decide +kernel
theorem dX4_init_39 : decode cX4_init 39 = .ok (.newarray .int, 2) := by decide +kernel
theorem dX4_init_41 : decode cX4_init 41 = .ok (.putfield 23, 3) := by decide +kernel
theorem dX4_init_44 : decode cX4_init 44 = .ok (.aload_n 0, 1) := by decide +kernel
theorem dX4_init_45 : decode cX4_init 45 = .ok (.bipush 6, 2) := by decide +kernel
theorem dX4_init_47 : decode cX4_init 47 = .ok (.newarray .int, 2) := by decide +kernel
theorem dX4_init_49 : decode cX4_init 49 = .ok (.putfield 26, 3) := by decide +kernel
theorem dX4_init_52 : decode cX4_init 52 = .ok (.aload_n 0, 1) := by decide +kernel
theorem dX4_init_53 : decode cX4_init 53 = .ok (.bipush 6, 2) := by decide +kernel
theorem dX4_init_55 : decode cX4_init 55 = .ok (.newarray .int, 2) := by decide +kernel
theorem dX4_init_57 : decode cX4_init 57 = .ok (.putfield 29, 3) := by decide +kernel
theorem dX4_init_60 : decode cX4_init 60 = .ok (.aload_n 0, 1) := by decide +kernel
theorem dX4_init_61 : decode cX4_init 61 = .ok (.bipush 7, 2) := by decide +kernel
theorem dX4_init_63 : decode cX4_init 63 = .ok (.newarray .int, 2) := by decide +kernel
theorem dX4_init_65 : decode cX4_init 65 = .ok (.putfield 32, 3) := by decide +kernel
theorem dX4_init_68 : decode cX4_init 68 = .ok (.aload_n 0, 1) := by decide +kernel
theorem dX4_init_69 : decode cX4_init 69 = .ok (.bipush 7, 2) := by decide +kernel
theorem dX4_init_71 : decode cX4_init 71 = .ok (.newarray .int, 2) := by decide +kernel
theorem dX4_init_73 : decode cX4_init 73 = .ok (.putfield 35, 3) := by decide +kernel
theorem dX4_init_76 : decode cX4_init 76 = .ok (.aload_n 0, 1) := by decide +kernel
theorem dX4_init_77 : decode cX4_init 77 = .ok (.bipush 7, 2) := by decide +kernel
theorem dX4_init_79 : decode cX4_init 79 = .ok (.newarray .int, 2) := by decide +kernel
theorem dX4_init_81 : decode cX4_init 81 = .ok (.putfield 38, 3) := by decide +kernel
theorem dX4_init_84 : decode cX4_init 84 = .ok (.aload_n 0, 1) := by decide +kernel
theorem dX4_init_85 : decode cX4_init 85 = .ok (.bipush 7, 2) := by decide +kernel
theorem dX4_init_87 : decode cX4_init 87 = .ok (.newarray .int, 2) := by decide +kernel
theorem dX4_init_89 : decode cX4_init 89 = .ok (.putfield 41, 3) := by decide +kernel
theorem dX4_init_92 : decode cX4_init 92 = .ok (.aload_n 0, 1) := by decide +kernel
theorem dX4_init_93 : decode cX4_init 93 = .ok (.aload_n 1, 1) := by decide +kernel
theorem dX4_init_94 : decode cX4_init 94 = .ok (.putfield 44, 3) := by decide +kernel
theorem dX4_init_97 : decode cX4_init 97 = .ok (.return_, 1) := by decide +kernel
theorem dX4_answer_0 : decode cX4_answer 0 = .ok (.aload_n 0, 1) := by decide +kernel
theorem dX4_answer_1 : decode cX4_answer 1 = .ok (.iload_n 1, 1) := by decide +kernel
theorem dX4_answer_2 : decode cX4_answer 2 = .ok (.invokevirtual 48, 3) := by decide +kernel
theorem dX4_answer_5 : decode cX4_answer 5 = .ok (.iconst 1, 1) := by decide +kernel
theorem dX4_answer_6 : decode cX4_answer 6 = .ok (.istore 4, 2) := by decide +kernel
theorem dX4_answer_8 : decode cX4_answer 8 = .ok (.aload_n 0, 1) := by decide +kernel
theorem dX4_answer_9 : decode cX4_answer 9 = .ok (.getfield 44, 3) := by decide +kernel
theorem dX4_answer_12 : decode cX4_answer 12 = .ok (.getfield 52, 3) := by decide +kernel
theorem dX4_answer_15 : decode cX4_answer 15 = .ok (.iconst 1, 1) := by decide +kernel
theorem dX4_answer_16 : decode cX4_answer 16 = .ok (.isub, 1) := by decide +kernel
theorem dX4_answer_17 : decode cX4_answer 17 = .ok (.istore 5, 2) := by decide +kernel
theorem dX4_answer_19 : decode cX4_answer 19 = .ok (.iload 5, 2) := by decide +kernel
theorem dX4_answer_21 : decode cX4_answer 21 = .ok (.ifCond .lt 58, 3) := by decide +kernel
theorem dX4_answer_24 : decode cX4_answer 24 = .ok (.aload_n 0, 1) := by decide +kernel
theorem dX4_answer_25 : decode cX4_answer 25 = .ok (.iload 5, 2) := by decide +kernel
theorem dX4_answer_27 : decode cX4_answer 27 = .ok (.iload_n 2, 1) := by decide +kernel
theorem dX4_answer_28 : decode cX4_answer 28 = .ok (.iload 5, 2) := by decide +kernel
theorem dX4_answer_30 : decode cX4_answer 30 = .ok (.ishr, 1) := by decide +kernel
theorem dX4_answer_31 : decode cX4_answer 31 = .ok (.iconst 1, 1) := by decide +kernel
theorem dX4_answer_32 : decode cX4_answer 32 = .ok (.iand, 1) := by decide +kernel
theorem dX4_answer_33 : decode cX4_answer 33 = .ok (.iconst 1, 1) := by decide +kernel
theorem dX4_answer_34 : decode cX4_answer 34 = .ok (.if_icmp .ne 7, 3) := by decide +kernel
theorem dX4_answer_37 : decode cX4_answer 37 = .ok (.iconst 1, 1) := by decide +kernel
theorem dX4_answer_38 : decode cX4_answer 38 = .ok (.goto 4, 3) := by decide +kernel
theorem dX4_answer_41 : decode cX4_answer 41 = .ok (.iconst 0, 1) := by decide +kernel
theorem dX4_answer_42 : decode cX4_answer 42 = .ok (.invokevirtual 58, 3) := by decide +kernel
theorem dX4_answer_45 : decode cX4_answer 45 = .ok (.aload_n 0, 1) := by decide +kernel
theorem dX4_answer_46 : decode cX4_answer 46 = .ok (.iload 5, 2) := by decide +kernel
theorem dX4_answer_48 : decode cX4_answer 48 = .ok (.invokevirtual 62, 3) := by decide +kernel
theorem dX4_answer_51 : decode cX4_answer 51 = .ok (.iload 4, 2) := by decide +kernel
theorem dX4_answer_53 : decode cX4_answer 53 = .ok (.ifCond .eq 17, 3) := by decide +kernel
theorem dX4_answer_56 : decode cX4_answer 56 = .ok (.aload_n 0, 1) := by decide +kernel
theorem dX4_answer_57 : decode cX4_answer 57 = .ok (.getfield 19, 3) := by decide +kernel
theorem dX4_answer_60 : decode cX4_answer 60 = .ok (.iload 5, 2) := by decide +kernel
theorem dX4_answer_62 : decode cX4_answer 62 = .ok (.iaload, 1) := by decide +kernel
theorem dX4_answer_63 : decode cX4_answer 63 = .ok (.ifCond .eq 7, 3) := by decide +kernel
theorem dX4_answer_66 : decode cX4_answer 66 = .ok (.iconst 1, 1) := by decide +kernel
theorem dX4_answer_67 : decode cX4_answer 67 = .ok (.goto 4, 3) := by decide +kernel
theorem dX4_answer_70 : decode cX4_answer 70 = .ok (.iconst 0, 1) := by decide +kernel
theorem dX4_answer_71 : decode cX4_answer 71 = .ok (.istore 4, 2) := by decide +kernel
theorem dX4_answer_73 : decode cX4_answer 73 = .ok (.iinc 5 (-1), 3) := by decide +kernel
theorem dX4_answer_76 : decode cX4_answer 76 = .ok (.goto (-57), 3) := by decide +kernel
theorem dX4_answer_79 : decode cX4_answer 79 = .ok (.iload 4, 2) := by decide +kernel
theorem dX4_answer_81 : decode cX4_answer 81 = .ok (.ifCond .eq 14, 3) := by decide +kernel
theorem dX4_answer_84 : decode cX4_answer 84 = .ok (.aload_n 0, 1) := by decide +kernel
theorem dX4_answer_85 : decode cX4_answer 85 = .ok (.iconst 0, 1) := by decide +kernel
theorem dX4_answer_86 : decode cX4_answer 86 = .ok (.iconst 0, 1) := by decide +kernel
theorem dX4_answer_87 : decode cX4_answer 87 = .ok (.ldc 65, 2) := by decide +kernel
theorem dX4_answer_89 : decode cX4_answer 89 = .ok (.ldc 66, 2) := by decide +kernel
theorem dX4_answer_91 : decode cX4_answer 91 = .ok (.iconst 0, 1) := by decide +kernel
theorem dX4_answer_92 : decode cX4_answer 92 = .ok (.invokevirtual 67, 3) := by decide +kernel
theorem dX4_answer_95 : decode cX4_answer 95 = .ok (.aload_n 0, 1) := by decide +kernel
theorem dX4_answer_96 : decode cX4_answer 96 = .ok (.getfield 71, 3) := by decide +kernel
theorem dX4_answer_99 : decode cX4_answer 99 = .ok (.ifCond .eq 11, 3) := by decide +kernel
theorem dX4_answer_102 : decode cX4_answer 102 = .ok (.aload_n 0, 1) := by decide +kernel
theorem dX4_answer_103 : decode cX4_answer 103 = .ok (.iload_n 3, 1) := by decide +kernel
theorem dX4_answer_104 : decode cX4_answer 104 = .ok (.invokevirtual 75, 3) := by decide +kernel
theorem dX4_answer_107 : decode cX4_answer 107 = .ok (.goto 5, 3) := by decide +kernel
theorem dX4_answer_110 : decode cX4_answer 110 = .ok (.bipush (-6), 2) := by decide +kernel
theorem dX4_answer_112 : decode cX4_answer 112 = .ok (.ireturn, 1) := by decide +kernel
theorem dX4_begin_0 : decode cX4_begin 0 = .ok (.aload_n 0, 1) := by decide +kernel
theorem dX4_begin_1 : decode cX4_begin 1 = .ok (.iload_n 1, 1) := by decide +kernel
theorem dX4_begin_2 : decode cX4_begin 2 = .ok (.putfield 79, 3) := by decide +kernel
theorem dX4_begin_5 : decode cX4_begin 5 = .ok (.aload_n 0, 1) := by decide +kernel
theorem dX4_begin_6 : decode cX4_begin 6 = .ok (.iconst 0, 1) := by decide +kernel
theorem dX4_begin_7 : decode cX4_begin 7 = .ok (.putfield 71, 3) := by decide +kernel
theorem dX4_begin_10 : decode cX4_begin 10 = .ok (.aload_n 0, 1) := by decide +kernel
theorem dX4_begin_11 : decode cX4_begin 11 = .ok (.ldc 65, 2) := by decide +kernel
theorem dX4_begin_13 : decode cX4_begin 13 = .ok (.putfield 82, 3) := by decide +kernel
theorem dX4_begin_16 : decode cX4_begin 16 = .ok (.aload_n 0, 1) := by decide +kernel
theorem dX4_begin_17 : decode cX4_begin 17 = .ok (.ldc 65, 2) := by decide +kernel
theorem dX4_begin_19 : decode cX4_begin 19 = .ok (.putfield 85, 3) := by decide +kernel
theorem dX4_begin_22 : decode cX4_begin 22 = .ok (.aload_n 0, 1) := by decide +kernel
theorem dX4_begin_23 : decode cX4_begin 23 = .ok (.getfield 23, 3) := by decide +kernel
theorem dX4_begin_26 : decode cX4_begin 26 = .ok (.iconst 0, 1) := by decide +kernel
theorem dX4_begin_27 : decode cX4_begin 27 = .ok (.bipush 6, 2) := by decide +kernel
theorem dX4_begin_29 : decode cX4_begin 29 = .ok (.iastore, 1) := by decide +kernel
theorem dX4_begin_30 : decode cX4_begin 30 = .ok (.iconst 0, 1) := by decide +kernel
theorem dX4_begin_31 : decode cX4_begin 31 = .ok (.istore_n 2, 1) := by decide +kernel
theorem dX4_begin_32 : decode cX4_begin 32 = .ok (.iload_n 2, 1) := by decide +kernel
theorem dX4_begin_33 : decode cX4_begin 33 = .ok (.aload_n 0, 1) := by decide +kernel
theorem dX4_begin_34 : decode cX4_begin 34 = .ok (.getfield 44, 3) := by decide +kernel
theorem dX4_begin_37 : decode cX4_begin 37 = .ok (.getfield 88, 3) := by decide +kernel
theorem dX4_begin_40 : decode cX4_begin 40 = .ok (.if_icmp .ge 26, 3) := by decide +kernel
theorem dX4_begin_43 : decode cX4_begin 43 = .ok (.aload_n 0, 1) := by decide +kernel
theorem dX4_begin_44 : decode cX4_begin 44 = .ok (.getfield 23, 3) := by decide +kernel
theorem dX4_begin_47 : decode cX4_begin 47 = .ok (.iload_n 2, 1) := by decide +kernel
theorem dX4_begin_48 : decode cX4_begin 48 = .ok (.iconst 1, 1) := by decide +kernel
theorem dX4_begin_49 : decode cX4_begin 49 = .ok (.iadd, 1) := by decide +kernel
theorem dX4_begin_50 : decode cX4_begin 50 = .ok (.aload_n 0, 1) := by decide +kernel
theorem dX4_begin_51 : decode cX4_begin 51 = .ok (.getfield 44, 3) := by decide +kernel
theorem dX4_begin_54 : decode cX4_begin 54 = .ok (.getfield 91, 3) := by decide +kernel
theorem dX4_begin_57 : decode cX4_begin 57 = .ok (.iload_n 2, 1) := by decide +kernel
theorem dX4_begin_58 : decode cX4_begin 58 = .ok (.iaload, 1) := by decide +kernel
theorem dX4_begin_59 : decode cX4_begin 59 = .ok (.iastore, 1) := by decide +kernel
theorem dX4_begin_60 : decode cX4_begin 60 = .ok (.iinc 2 1, 3) := by decide +kernel
theorem dX4_begin_63 : decode cX4_begin 63 = .ok (.goto (-31), 3) := by decide +kernel
theorem dX4_begin_66 : decode cX4_begin 66 = .ok (.aload_n 0, 1) := by decide +kernel
theorem dX4_begin_67 : decode cX4_begin 67 = .ok (.getfield 32, 3) := by decide +kernel
theorem dX4_begin_70 : decode cX4_begin 70 = .ok (.aload_n 0, 1) := by decide +kernel
theorem dX4_begin_71 : decode cX4_begin 71 = .ok (.getfield 44, 3) := by decide +kernel
theorem dX4_begin_74 : decode cX4_begin 74 = .ok (.getfield 52, 3) := by decide +kernel
theorem dX4_begin_77 : decode cX4_begin 77 = .ok (.iconst 0, 1) := by decide +kernel
theorem dX4_begin_78 : decode cX4_begin 78 = .ok (.iastore, 1) := by decide +kernel
theorem dX4_begin_79 : decode cX4_begin 79 = .ok (.aload_n 0, 1) := by decide +kernel
theorem dX4_begin_80 : decode cX4_begin 80 = .ok (.getfield 35, 3) := by decide +kernel
theorem dX4_begin_83 : decode cX4_begin 83 = .ok (.aload_n 0, 1) := by decide +kernel
theorem dX4_begin_84 : decode cX4_begin 84 = .ok (.getfield 44, 3) := by decide +kernel
theorem dX4_begin_87 : decode cX4_begin 87 = .ok (.getfield 52, 3) := by decide +kernel
theorem dX4_begin_90 : decode cX4_begin 90 = .ok (.iconst 0, 1) := by decide +kernel
theorem dX4_begin_91 : decode cX4_begin 91 = .ok (.iastore, 1) := by decide +kernel
theorem dX4_begin_92 : decode cX4_begin 92 = .ok (.aload_n 0, 1) := by decide +kernel
theorem dX4_begin_93 : decode cX4_begin 93 = .ok (.getfield 38, 3) := by decide +kernel
theorem dX4_begin_96 : decode cX4_begin 96 = .ok (.aload_n 0, 1) := by decide +kernel
theorem dX4_begin_97 : decode cX4_begin 97 = .ok (.getfield 44, 3) := by decide +kernel
theorem dX4_begin_100 : decode cX4_begin 100 = .ok (.getfield 52, 3) := by decide +kernel
theorem dX4_begin_103 : decode cX4_begin 103 = .ok (.ldc 65, 2) := by decide +kernel
theorem dX4_begin_105 : decode cX4_begin 105 = .ok (.iastore, 1) := by decide +kernel
theorem dX4_begin_106 : decode cX4_begin 106 = .ok (.aload_n 0, 1) := by decide +kernel
theorem dX4_begin_107 : decode cX4_begin 107 = .ok (.getfield 41, 3) := by decide +kernel
theorem dX4_begin_110 : decode cX4_begin 110 = .ok (.aload_n 0, 1) := by decide +kernel
theorem dX4_begin_111 : decode cX4_begin 111 = .ok (.getfield 44, 3) := by decide +kernel
theorem dX4_begin_114 : decode cX4_begin 114 = .ok (.getfield 52, 3) := by decide +kernel
theorem dX4_begin_117 : decode cX4_begin 117 = .ok (.ldc 66, 2) := by decide +kernel
theorem dX4_begin_119 : decode cX4_begin 119 = .ok (.iastore, 1) := by decide +kernel
theorem dX4_begin_120 : decode cX4_begin 120 = .ok (.return_, 1) := by decide +kernel
theorem dX4_result_0 : decode cX4_result 0 = .ok (.iload_n 1, 1) := by decide +kernel
theorem dX4_result_1 : decode cX4_result 1 = .ok (.bipush 10, 2) := by decide +kernel
theorem dX4_result_3 : decode cX4_result 3 = .ok (.if_icmp .lt 18, 3) := by decide +kernel
theorem dX4_result_6 : decode cX4_result 6 = .ok (.aload_n 0, 1) := by decide +kernel
theorem dX4_result_7 : decode cX4_result 7 = .ok (.getfield 29, 3) := by decide +kernel
theorem dX4_result_10 : decode cX4_result 10 = .ok (.iload_n 1, 1) := by decide +kernel
theorem dX4_result_11 : decode cX4_result 11 = .ok (.bipush 10, 2) := by decide +kernel
theorem dX4_result_13 : decode cX4_result 13 = .ok (.isub, 1) := by decide +kernel
theorem dX4_result_14 : decode cX4_result 14 = .ok (.iaload, 1) := by decide +kernel
theorem dX4_result_15 : decode cX4_result 15 = .ok (.iconst 1, 1) := by decide +kernel
theorem dX4_result_16 : decode cX4_result 16 = .ok (.isub, 1) := by decide +kernel
theorem dX4_result_17 : decode cX4_result 17 = .ok (.invokestatic 94, 3) := by decide +kernel
theorem dX4_result_20 : decode cX4_result 20 = .ok (.ireturn, 1) := by decide +kernel
theorem dX4_result_21 : decode cX4_result 21 = .ok (.aload_n 0, 1) := by decide +kernel
theorem dX4_result_22 : decode cX4_result 22 = .ok (.getfield 79, 3) := by decide +kernel
theorem dX4_result_25 : decode cX4_result 25 = .ok (.lookupswitch 37 #[(0, 27), (1, 32)], 27) := by decide +kernel
theorem dX4_result_52 : decode cX4_result 52 = .ok (.aload_n 0, 1) := by decide +kernel
theorem dX4_result_53 : decode cX4_result 53 = .ok (.getfield 85, 3) := by decide +kernel
theorem dX4_result_56 : decode cX4_result 56 = .ok (.ireturn, 1) := by decide +kernel
theorem dX4_result_57 : decode cX4_result 57 = .ok (.aload_n 0, 1) := by decide +kernel
theorem dX4_result_58 : decode cX4_result 58 = .ok (.getfield 82, 3) := by decide +kernel
theorem dX4_result_61 : decode cX4_result 61 = .ok (.ireturn, 1) := by decide +kernel
theorem dX4_result_62 : decode cX4_result 62 = .ok (.aload_n 0, 1) := by decide +kernel
theorem dX4_result_63 : decode cX4_result 63 = .ok (.getfield 82, 3) := by decide +kernel
theorem dX4_result_66 : decode cX4_result 66 = .ok (.ineg, 1) := by decide +kernel
theorem dX4_result_67 : decode cX4_result 67 = .ok (.ireturn, 1) := by decide +kernel
theorem dX4_layChoices_0 : decode cX4_layChoices 0 = .ok (.aload_n 0, 1) := by decide +kernel
theorem dX4_layChoices_1 : decode cX4_layChoices 1 = .ok (.getfield 19, 3) := by decide +kernel
theorem dX4_layChoices_4 : decode cX4_layChoices 4 = .ok (.iload_n 1, 1) := by decide +kernel
theorem dX4_layChoices_5 : decode cX4_layChoices 5 = .ok (.iconst 0, 1) := by decide +kernel
theorem dX4_layChoices_6 : decode cX4_layChoices 6 = .ok (.iastore, 1) := by decide +kernel
theorem dX4_layChoices_7 : decode cX4_layChoices 7 = .ok (.iconst 0, 1) := by decide +kernel
theorem dX4_layChoices_8 : decode cX4_layChoices 8 = .ok (.istore_n 3, 1) := by decide +kernel
theorem dX4_layChoices_9 : decode cX4_layChoices 9 = .ok (.iload_n 3, 1) := by decide +kernel
theorem dX4_layChoices_10 : decode cX4_layChoices 10 = .ok (.aload_n 0, 1) := by decide +kernel
theorem dX4_layChoices_11 : decode cX4_layChoices 11 = .ok (.getfield 44, 3) := by decide +kernel
theorem dX4_layChoices_14 : decode cX4_layChoices 14 = .ok (.getfield 88, 3) := by decide +kernel
theorem dX4_layChoices_17 : decode cX4_layChoices 17 = .ok (.if_icmp .gt 152, 3) := by decide +kernel
theorem dX4_layChoices_20 : decode cX4_layChoices 20 = .ok (.aload_n 0, 1) := by decide +kernel
theorem dX4_layChoices_21 : decode cX4_layChoices 21 = .ok (.getfield 13, 3) := by decide +kernel
theorem dX4_layChoices_24 : decode cX4_layChoices 24 = .ok (.iload_n 1, 1) := by decide +kernel
theorem dX4_layChoices_25 : decode cX4_layChoices 25 = .ok (.aaload, 1) := by decide +kernel
theorem dX4_layChoices_26 : decode cX4_layChoices 26 = .ok (.iload_n 3, 1) := by decide +kernel
theorem dX4_layChoices_27 : decode cX4_layChoices 27 = .ok (.aload_n 0, 1) := by decide +kernel
theorem dX4_layChoices_28 : decode cX4_layChoices 28 = .ok (.getfield 44, 3) := by decide +kernel
theorem dX4_layChoices_31 : decode cX4_layChoices 31 = .ok (.iload_n 1, 1) := by decide +kernel
theorem dX4_layChoices_32 : decode cX4_layChoices 32 = .ok (.iload_n 3, 1) := by decide +kernel
theorem dX4_layChoices_33 : decode cX4_layChoices 33 = .ok (.iconst 1, 1) := by decide +kernel
theorem dX4_layChoices_34 : decode cX4_layChoices 34 = .ok (.isub, 1) := by decide +kernel
theorem dX4_layChoices_35 : decode cX4_layChoices 35 = .ok (.invokevirtual 97, 3) := by decide +kernel
theorem dX4_layChoices_38 : decode cX4_layChoices 38 = .ok (.iastore, 1) := by decide +kernel
theorem dX4_layChoices_39 : decode cX4_layChoices 39 = .ok (.aload_n 0, 1) := by decide +kernel
theorem dX4_layChoices_40 : decode cX4_layChoices 40 = .ok (.getfield 16, 3) := by decide +kernel
theorem dX4_layChoices_43 : decode cX4_layChoices 43 = .ok (.iload_n 1, 1) := by decide +kernel
theorem dX4_layChoices_44 : decode cX4_layChoices 44 = .ok (.aaload, 1) := by decide +kernel
theorem dX4_layChoices_45 : decode cX4_layChoices 45 = .ok (.iload_n 3, 1) := by decide +kernel
theorem dX4_layChoices_46 : decode cX4_layChoices 46 = .ok (.aload_n 0, 1) := by decide +kernel
theorem dX4_layChoices_47 : decode cX4_layChoices 47 = .ok (.getfield 79, 3) := by decide +kernel
theorem dX4_layChoices_50 : decode cX4_layChoices 50 = .ok (.iconst 2, 1) := by decide +kernel
theorem dX4_layChoices_51 : decode cX4_layChoices 51 = .ok (.if_icmp .ne 17, 3) := by decide +kernel
theorem dX4_layChoices_54 : decode cX4_layChoices 54 = .ok (.aload_n 0, 1) := by decide +kernel
theorem dX4_layChoices_55 : decode cX4_layChoices 55 = .ok (.getfield 44, 3) := by decide +kernel
theorem dX4_layChoices_58 : decode cX4_layChoices 58 = .ok (.iload_n 1, 1) := by decide +kernel
theorem dX4_layChoices_59 : decode cX4_layChoices 59 = .ok (.iload_n 3, 1) := by decide +kernel
theorem dX4_layChoices_60 : decode cX4_layChoices 60 = .ok (.iconst 1, 1) := by decide +kernel
theorem dX4_layChoices_61 : decode cX4_layChoices 61 = .ok (.isub, 1) := by decide +kernel
theorem dX4_layChoices_62 : decode cX4_layChoices 62 = .ok (.invokevirtual 101, 3) := by decide +kernel
theorem dX4_layChoices_65 : decode cX4_layChoices 65 = .ok (.goto 4, 3) := by decide +kernel
theorem dX4_layChoices_68 : decode cX4_layChoices 68 = .ok (.iconst 0, 1) := by decide +kernel
theorem dX4_layChoices_69 : decode cX4_layChoices 69 = .ok (.iastore, 1) := by decide +kernel
theorem dX4_layChoices_70 : decode cX4_layChoices 70 = .ok (.aload_n 0, 1) := by decide +kernel
theorem dX4_layChoices_71 : decode cX4_layChoices 71 = .ok (.getfield 44, 3) := by decide +kernel
theorem dX4_layChoices_74 : decode cX4_layChoices 74 = .ok (.iload_n 1, 1) := by decide +kernel
theorem dX4_layChoices_75 : decode cX4_layChoices 75 = .ok (.iload_n 3, 1) := by decide +kernel
theorem dX4_layChoices_76 : decode cX4_layChoices 76 = .ok (.iconst 1, 1) := by decide +kernel
theorem dX4_layChoices_77 : decode cX4_layChoices 77 = .ok (.isub, 1) := by decide +kernel
theorem dX4_layChoices_78 : decode cX4_layChoices 78 = .ok (.invokevirtual 104, 3) := by decide +kernel
theorem dX4_layChoices_81 : decode cX4_layChoices 81 = .ok (.ifCond .le 7, 3) := by decide +kernel
theorem dX4_layChoices_84 : decode cX4_layChoices 84 = .ok (.iconst 1, 1) := by decide +kernel
theorem dX4_layChoices_85 : decode cX4_layChoices 85 = .ok (.goto 4, 3) := by decide +kernel
theorem dX4_layChoices_88 : decode cX4_layChoices 88 = .ok (.iconst 0, 1) := by decide +kernel
theorem dX4_layChoices_89 : decode cX4_layChoices 89 = .ok (.istore 4, 2) := by decide +kernel
theorem dX4_layChoices_91 : decode cX4_layChoices 91 = .ok (.aload_n 0, 1) := by decide +kernel
theorem dX4_layChoices_92 : decode cX4_layChoices 92 = .ok (.getfield 79, 3) := by decide +kernel
theorem dX4_layChoices_95 : decode cX4_layChoices 95 = .ok (.iconst 2, 1) := by decide +kernel
theorem dX4_layChoices_96 : decode cX4_layChoices 96 = .ok (.if_icmp .eq 25, 3) := by decide +kernel
theorem dX4_layChoices_99 : decode cX4_layChoices 99 = .ok (.iload 4, 2) := by decide +kernel
theorem dX4_layChoices_101 : decode cX4_layChoices 101 = .ok (.aload_n 0, 1) := by decide +kernel
theorem dX4_layChoices_102 : decode cX4_layChoices 102 = .ok (.getfield 79, 3) := by decide +kernel
theorem dX4_layChoices_105 : decode cX4_layChoices 105 = .ok (.iconst 1, 1) := by decide +kernel
theorem dX4_layChoices_106 : decode cX4_layChoices 106 = .ok (.if_icmp .eq 7, 3) := by decide +kernel
theorem dX4_layChoices_109 : decode cX4_layChoices 109 = .ok (.iload_n 2, 1) := by decide +kernel
theorem dX4_layChoices_110 : decode cX4_layChoices 110 = .ok (.ifCond .eq 7, 3) := by decide +kernel
theorem dX4_layChoices_113 : decode cX4_layChoices 113 = .ok (.iconst 1, 1) := by decide +kernel
theorem dX4_layChoices_114 : decode cX4_layChoices 114 = .ok (.goto 4, 3) := by decide +kernel
theorem dX4_layChoices_117 : decode cX4_layChoices 117 = .ok (.iconst 0, 1) := by decide +kernel
theorem dX4_layChoices_118 : decode cX4_layChoices 118 = .ok (.if_icmp .ne 7, 3) := by decide +kernel
theorem dX4_layChoices_121 : decode cX4_layChoices 121 = .ok (.iconst 1, 1) := by decide +kernel
theorem dX4_layChoices_122 : decode cX4_layChoices 122 = .ok (.goto 4, 3) := by decide +kernel
theorem dX4_layChoices_125 : decode cX4_layChoices 125 = .ok (.iconst 0, 1) := by decide +kernel
theorem dX4_layChoices_126 : decode cX4_layChoices 126 = .ok (.istore 5, 2) := by decide +kernel
theorem dX4_layChoices_128 : decode cX4_layChoices 128 = .ok (.iload 5, 2) := by decide +kernel
theorem dX4_layChoices_130 : decode cX4_layChoices 130 = .ok (.ifCond .eq 33, 3) := by decide +kernel
theorem dX4_layChoices_133 : decode cX4_layChoices 133 = .ok (.aload_n 0, 1) := by decide +kernel
theorem dX4_layChoices_134 : decode cX4_layChoices 134 = .ok (.getfield 23, 3) := by decide +kernel
theorem dX4_layChoices_137 : decode cX4_layChoices 137 = .ok (.iload_n 3, 1) := by decide +kernel
theorem dX4_layChoices_138 : decode cX4_layChoices 138 = .ok (.iaload, 1) := by decide +kernel
theorem dX4_layChoices_139 : decode cX4_layChoices 139 = .ok (.ifCond .le 24, 3) := by decide +kernel
theorem dX4_layChoices_142 : decode cX4_layChoices 142 = .ok (.aload_n 0, 1) := by decide +kernel
theorem dX4_layChoices_143 : decode cX4_layChoices 143 = .ok (.iload_n 1, 1) := by decide +kernel
theorem dX4_layChoices_144 : decode cX4_layChoices 144 = .ok (.iload_n 3, 1) := by decide +kernel
theorem dX4_layChoices_145 : decode cX4_layChoices 145 = .ok (.invokevirtual 107, 3) := by decide +kernel
theorem dX4_layChoices_148 : decode cX4_layChoices 148 = .ok (.ifCond .ne 15, 3) := by decide +kernel
theorem dX4_layChoices_151 : decode cX4_layChoices 151 = .ok (.aload_n 0, 1) := by decide +kernel
theorem dX4_layChoices_152 : decode cX4_layChoices 152 = .ok (.getfield 19, 3) := by decide +kernel
theorem dX4_layChoices_155 : decode cX4_layChoices 155 = .ok (.iload_n 1, 1) := by decide +kernel
theorem dX4_layChoices_156 : decode cX4_layChoices 156 = .ok (.dup2, 1) := by decide +kernel
theorem dX4_layChoices_157 : decode cX4_layChoices 157 = .ok (.iaload, 1) := by decide +kernel
theorem dX4_layChoices_158 : decode cX4_layChoices 158 = .ok (.iconst 1, 1) := by decide +kernel
theorem dX4_layChoices_159 : decode cX4_layChoices 159 = .ok (.iload_n 3, 1) := by decide +kernel
theorem dX4_layChoices_160 : decode cX4_layChoices 160 = .ok (.ishl, 1) := by decide +kernel
theorem dX4_layChoices_161 : decode cX4_layChoices 161 = .ok (.ior, 1) := by decide +kernel
theorem dX4_layChoices_162 : decode cX4_layChoices 162 = .ok (.iastore, 1) := by decide +kernel
theorem dX4_layChoices_163 : decode cX4_layChoices 163 = .ok (.iinc 3 1, 3) := by decide +kernel
theorem dX4_layChoices_166 : decode cX4_layChoices 166 = .ok (.goto (-157), 3) := by decide +kernel
theorem dX4_layChoices_169 : decode cX4_layChoices 169 = .ok (.return_, 1) := by decide +kernel
theorem dX4_isWasted_0 : decode cX4_isWasted 0 = .ok (.iload_n 2, 1) := by decide +kernel
theorem dX4_isWasted_1 : decode cX4_isWasted 1 = .ok (.ifCond .eq 14, 3) := by decide +kernel
theorem dX4_isWasted_4 : decode cX4_isWasted 4 = .ok (.aload_n 0, 1) := by decide +kernel
theorem dX4_isWasted_5 : decode cX4_isWasted 5 = .ok (.getfield 19, 3) := by decide +kernel
theorem dX4_isWasted_8 : decode cX4_isWasted 8 = .ok (.iload_n 1, 1) := by decide +kernel
theorem dX4_isWasted_9 : decode cX4_isWasted 9 = .ok (.iaload, 1) := by decide +kernel
theorem dX4_isWasted_10 : decode cX4_isWasted 10 = .ok (.iconst 1, 1) := by decide +kernel
theorem dX4_isWasted_11 : decode cX4_isWasted 11 = .ok (.iand, 1) := by decide +kernel
theorem dX4_isWasted_12 : decode cX4_isWasted 12 = .ok (.ifCond .ne 5, 3) := by decide +kernel
theorem dX4_isWasted_15 : decode cX4_isWasted 15 = .ok (.iconst 0, 1) := by decide +kernel
theorem dX4_isWasted_16 : decode cX4_isWasted 16 = .ok (.ireturn, 1) := by decide +kernel
theorem dX4_isWasted_17 : decode cX4_isWasted 17 = .ok (.aload_n 0, 1) := by decide +kernel
theorem dX4_isWasted_18 : decode cX4_isWasted 18 = .ok (.getfield 79, 3) := by decide +kernel
theorem dX4_isWasted_21 : decode cX4_isWasted 21 = .ok (.lookupswitch 54 #[(0, 27), (1, 29)], 27) := by decide +kernel
theorem dX4_isWasted_48 : decode cX4_isWasted 48 = .ok (.iconst 1, 1) := by decide +kernel
theorem dX4_isWasted_49 : decode cX4_isWasted 49 = .ok (.ireturn, 1) := by decide +kernel
theorem dX4_isWasted_50 : decode cX4_isWasted 50 = .ok (.aload_n 0, 1) := by decide +kernel
theorem dX4_isWasted_51 : decode cX4_isWasted 51 = .ok (.getfield 13, 3) := by decide +kernel
theorem dX4_isWasted_54 : decode cX4_isWasted 54 = .ok (.iload_n 1, 1) := by decide +kernel
theorem dX4_isWasted_55 : decode cX4_isWasted 55 = .ok (.aaload, 1) := by decide +kernel
theorem dX4_isWasted_56 : decode cX4_isWasted 56 = .ok (.iload_n 2, 1) := by decide +kernel
theorem dX4_isWasted_57 : decode cX4_isWasted 57 = .ok (.iaload, 1) := by decide +kernel
theorem dX4_isWasted_58 : decode cX4_isWasted 58 = .ok (.aload_n 0, 1) := by decide +kernel
theorem dX4_isWasted_59 : decode cX4_isWasted 59 = .ok (.getfield 13, 3) := by decide +kernel
theorem dX4_isWasted_62 : decode cX4_isWasted 62 = .ok (.iload_n 1, 1) := by decide +kernel
theorem dX4_isWasted_63 : decode cX4_isWasted 63 = .ok (.aaload, 1) := by decide +kernel
theorem dX4_isWasted_64 : decode cX4_isWasted 64 = .ok (.iconst 0, 1) := by decide +kernel
theorem dX4_isWasted_65 : decode cX4_isWasted 65 = .ok (.iaload, 1) := by decide +kernel
theorem dX4_isWasted_66 : decode cX4_isWasted 66 = .ok (.if_icmp .ne 7, 3) := by decide +kernel
theorem dX4_isWasted_69 : decode cX4_isWasted 69 = .ok (.iconst 1, 1) := by decide +kernel
theorem dX4_isWasted_70 : decode cX4_isWasted 70 = .ok (.goto 4, 3) := by decide +kernel
theorem dX4_isWasted_73 : decode cX4_isWasted 73 = .ok (.iconst 0, 1) := by decide +kernel
theorem dX4_isWasted_74 : decode cX4_isWasted 74 = .ok (.ireturn, 1) := by decide +kernel
theorem dX4_isWasted_75 : decode cX4_isWasted 75 = .ok (.aload_n 0, 1) := by decide +kernel
theorem dX4_isWasted_76 : decode cX4_isWasted 76 = .ok (.getfield 16, 3) := by decide +kernel
theorem dX4_isWasted_79 : decode cX4_isWasted 79 = .ok (.iload_n 1, 1) := by decide +kernel
theorem dX4_isWasted_80 : decode cX4_isWasted 80 = .ok (.aaload, 1) := by decide +kernel
theorem dX4_isWasted_81 : decode cX4_isWasted 81 = .ok (.iload_n 2, 1) := by decide +kernel
theorem dX4_isWasted_82 : decode cX4_isWasted 82 = .ok (.iaload, 1) := by decide +kernel
theorem dX4_isWasted_83 : decode cX4_isWasted 83 = .ok (.aload_n 0, 1) := by decide +kernel
theorem dX4_isWasted_84 : decode cX4_isWasted 84 = .ok (.getfield 16, 3) := by decide +kernel
theorem dX4_isWasted_87 : decode cX4_isWasted 87 = .ok (.iload_n 1, 1) := by decide +kernel
theorem dX4_isWasted_88 : decode cX4_isWasted 88 = .ok (.aaload, 1) := by decide +kernel
theorem dX4_isWasted_89 : decode cX4_isWasted 89 = .ok (.iconst 0, 1) := by decide +kernel
theorem dX4_isWasted_90 : decode cX4_isWasted 90 = .ok (.iaload, 1) := by decide +kernel
theorem dX4_isWasted_91 : decode cX4_isWasted 91 = .ok (.if_icmp .gt 7, 3) := by decide +kernel
theorem dX4_isWasted_94 : decode cX4_isWasted 94 = .ok (.iconst 1, 1) := by decide +kernel
theorem dX4_isWasted_95 : decode cX4_isWasted 95 = .ok (.goto 4, 3) := by decide +kernel
theorem dX4_isWasted_98 : decode cX4_isWasted 98 = .ok (.iconst 0, 1) := by decide +kernel
theorem dX4_isWasted_99 : decode cX4_isWasted 99 = .ok (.ireturn, 1) := by decide +kernel
theorem dX4_lookAhead_0 : decode cX4_lookAhead 0 = .ok (.iconst 0, 1) := by decide +kernel
theorem dX4_lookAhead_1 : decode cX4_lookAhead 1 = .ok (.istore_n 2, 1) := by decide +kernel
theorem dX4_lookAhead_2 : decode cX4_lookAhead 2 = .ok (.ldc 65, 2) := by decide +kernel
theorem dX4_lookAhead_4 : decode cX4_lookAhead 4 = .ok (.istore_n 3, 1) := by decide +kernel
theorem dX4_lookAhead_5 : decode cX4_lookAhead 5 = .ok (.ldc 66, 2) := by decide +kernel
theorem dX4_lookAhead_7 : decode cX4_lookAhead 7 = .ok (.istore 4, 2) := by decide +kernel
theorem dX4_lookAhead_9 : decode cX4_lookAhead 9 = .ok (.iconst 0, 1) := by decide +kernel
theorem dX4_lookAhead_10 : decode cX4_lookAhead 10 = .ok (.istore 5, 2) := by decide +kernel
theorem dX4_lookAhead_12 : decode cX4_lookAhead 12 = .ok (.iload 5, 2) := by decide +kernel
theorem dX4_lookAhead_14 : decode cX4_lookAhead 14 = .ok (.aload_n 0, 1) := by decide +kernel
theorem dX4_lookAhead_15 : decode cX4_lookAhead 15 = .ok (.getfield 44, 3) := by decide +kernel
theorem dX4_lookAhead_18 : decode cX4_lookAhead 18 = .ok (.getfield 88, 3) := by decide +kernel
theorem dX4_lookAhead_21 : decode cX4_lookAhead 21 = .ok (.if_icmp .gt 68, 3) := by decide +kernel
theorem dX4_lookAhead_24 : decode cX4_lookAhead 24 = .ok (.aload_n 0, 1) := by decide +kernel
theorem dX4_lookAhead_25 : decode cX4_lookAhead 25 = .ok (.getfield 19, 3) := by decide +kernel
theorem dX4_lookAhead_28 : decode cX4_lookAhead 28 = .ok (.iload_n 1, 1) := by decide +kernel
theorem dX4_lookAhead_29 : decode cX4_lookAhead 29 = .ok (.iaload, 1) := by decide +kernel
theorem dX4_lookAhead_30 : decode cX4_lookAhead 30 = .ok (.iload 5, 2) := by decide +kernel
theorem dX4_lookAhead_32 : decode cX4_lookAhead 32 = .ok (.ishr, 1) := by decide +kernel
theorem dX4_lookAhead_33 : decode cX4_lookAhead 33 = .ok (.iconst 1, 1) := by decide +kernel
theorem dX4_lookAhead_34 : decode cX4_lookAhead 34 = .ok (.iand, 1) := by decide +kernel
theorem dX4_lookAhead_35 : decode cX4_lookAhead 35 = .ok (.iconst 1, 1) := by decide +kernel
theorem dX4_lookAhead_36 : decode cX4_lookAhead 36 = .ok (.if_icmp .ne 47, 3) := by decide +kernel
theorem dX4_lookAhead_39 : decode cX4_lookAhead 39 = .ok (.iload_n 2, 1) := by decide +kernel
theorem dX4_lookAhead_40 : decode cX4_lookAhead 40 = .ok (.aload_n 0, 1) := by decide +kernel
theorem dX4_lookAhead_41 : decode cX4_lookAhead 41 = .ok (.getfield 16, 3) := by decide +kernel
theorem dX4_lookAhead_44 : decode cX4_lookAhead 44 = .ok (.iload_n 1, 1) := by decide +kernel
theorem dX4_lookAhead_45 : decode cX4_lookAhead 45 = .ok (.aaload, 1) := by decide +kernel
theorem dX4_lookAhead_46 : decode cX4_lookAhead 46 = .ok (.iload 5, 2) := by decide +kernel
theorem dX4_lookAhead_48 : decode cX4_lookAhead 48 = .ok (.iaload, 1) := by decide +kernel
theorem dX4_lookAhead_49 : decode cX4_lookAhead 49 = .ok (.invokestatic 111, 3) := by decide +kernel
theorem dX4_lookAhead_52 : decode cX4_lookAhead 52 = .ok (.istore_n 2, 1) := by decide +kernel
theorem dX4_lookAhead_53 : decode cX4_lookAhead 53 = .ok (.iload_n 3, 1) := by decide +kernel
theorem dX4_lookAhead_54 : decode cX4_lookAhead 54 = .ok (.aload_n 0, 1) := by decide +kernel
theorem dX4_lookAhead_55 : decode cX4_lookAhead 55 = .ok (.getfield 13, 3) := by decide +kernel
theorem dX4_lookAhead_58 : decode cX4_lookAhead 58 = .ok (.iload_n 1, 1) := by decide +kernel
theorem dX4_lookAhead_59 : decode cX4_lookAhead 59 = .ok (.aaload, 1) := by decide +kernel
theorem dX4_lookAhead_60 : decode cX4_lookAhead 60 = .ok (.iload 5, 2) := by decide +kernel
theorem dX4_lookAhead_62 : decode cX4_lookAhead 62 = .ok (.iaload, 1) := by decide +kernel
theorem dX4_lookAhead_63 : decode cX4_lookAhead 63 = .ok (.invokestatic 116, 3) := by decide +kernel
theorem dX4_lookAhead_66 : decode cX4_lookAhead 66 = .ok (.istore_n 3, 1) := by decide +kernel
theorem dX4_lookAhead_67 : decode cX4_lookAhead 67 = .ok (.iload 4, 2) := by decide +kernel
theorem dX4_lookAhead_69 : decode cX4_lookAhead 69 = .ok (.aload_n 0, 1) := by decide +kernel
theorem dX4_lookAhead_70 : decode cX4_lookAhead 70 = .ok (.getfield 13, 3) := by decide +kernel
theorem dX4_lookAhead_73 : decode cX4_lookAhead 73 = .ok (.iload_n 1, 1) := by decide +kernel
theorem dX4_lookAhead_74 : decode cX4_lookAhead 74 = .ok (.aaload, 1) := by decide +kernel
theorem dX4_lookAhead_75 : decode cX4_lookAhead 75 = .ok (.iload 5, 2) := by decide +kernel
theorem dX4_lookAhead_77 : decode cX4_lookAhead 77 = .ok (.iaload, 1) := by decide +kernel
theorem dX4_lookAhead_78 : decode cX4_lookAhead 78 = .ok (.invokestatic 111, 3) := by decide +kernel
theorem dX4_lookAhead_81 : decode cX4_lookAhead 81 = .ok (.istore 4, 2) := by decide +kernel
theorem dX4_lookAhead_83 : decode cX4_lookAhead 83 = .ok (.iinc 5 1, 3) := by decide +kernel
theorem dX4_lookAhead_86 : decode cX4_lookAhead 86 = .ok (.goto (-74), 3) := by decide +kernel
theorem dX4_lookAhead_89 : decode cX4_lookAhead 89 = .ok (.aload_n 0, 1) := by decide +kernel
theorem dX4_lookAhead_90 : decode cX4_lookAhead 90 = .ok (.getfield 79, 3) := by decide +kernel
theorem dX4_lookAhead_93 : decode cX4_lookAhead 93 = .ok (.iconst 2, 1) := by decide +kernel
theorem dX4_lookAhead_94 : decode cX4_lookAhead 94 = .ok (.if_icmp .ne 21, 3) := by decide +kernel
theorem dX4_lookAhead_97 : decode cX4_lookAhead 97 = .ok (.aload_n 0, 1) := by decide +kernel
theorem dX4_lookAhead_98 : decode cX4_lookAhead 98 = .ok (.getfield 19, 3) := by decide +kernel
theorem dX4_lookAhead_101 : decode cX4_lookAhead 101 = .ok (.iload_n 1, 1) := by decide +kernel
theorem dX4_lookAhead_102 : decode cX4_lookAhead 102 = .ok (.iaload, 1) := by decide +kernel
theorem dX4_lookAhead_103 : decode cX4_lookAhead 103 = .ok (.iconst 1, 1) := by decide +kernel
theorem dX4_lookAhead_104 : decode cX4_lookAhead 104 = .ok (.if_icmp .eq 7, 3) := by decide +kernel
theorem dX4_lookAhead_107 : decode cX4_lookAhead 107 = .ok (.iconst 1, 1) := by decide +kernel
theorem dX4_lookAhead_108 : decode cX4_lookAhead 108 = .ok (.goto 23, 3) := by decide +kernel
theorem dX4_lookAhead_111 : decode cX4_lookAhead 111 = .ok (.iconst 0, 1) := by decide +kernel
theorem dX4_lookAhead_112 : decode cX4_lookAhead 112 = .ok (.goto 19, 3) := by decide +kernel
theorem dX4_lookAhead_115 : decode cX4_lookAhead 115 = .ok (.aload_n 0, 1) := by decide +kernel
theorem dX4_lookAhead_116 : decode cX4_lookAhead 116 = .ok (.getfield 19, 3) := by decide +kernel
theorem dX4_lookAhead_119 : decode cX4_lookAhead 119 = .ok (.iload_n 1, 1) := by decide +kernel
theorem dX4_lookAhead_120 : decode cX4_lookAhead 120 = .ok (.iaload, 1) := by decide +kernel
theorem dX4_lookAhead_121 : decode cX4_lookAhead 121 = .ok (.iconst 1, 1) := by decide +kernel
theorem dX4_lookAhead_122 : decode cX4_lookAhead 122 = .ok (.iand, 1) := by decide +kernel
theorem dX4_lookAhead_123 : decode cX4_lookAhead 123 = .ok (.ifCond .ne 7, 3) := by decide +kernel
theorem dX4_lookAhead_126 : decode cX4_lookAhead 126 = .ok (.iconst 1, 1) := by decide +kernel
theorem dX4_lookAhead_127 : decode cX4_lookAhead 127 = .ok (.goto 4, 3) := by decide +kernel
theorem dX4_lookAhead_130 : decode cX4_lookAhead 130 = .ok (.iconst 0, 1) := by decide +kernel
theorem dX4_lookAhead_131 : decode cX4_lookAhead 131 = .ok (.istore 5, 2) := by decide +kernel
theorem dX4_lookAhead_133 : decode cX4_lookAhead 133 = .ok (.aload_n 0, 1) := by decide +kernel
theorem dX4_lookAhead_134 : decode cX4_lookAhead 134 = .ok (.getfield 32, 3) := by decide +kernel
theorem dX4_lookAhead_137 : decode cX4_lookAhead 137 = .ok (.iload_n 1, 1) := by decide +kernel
theorem dX4_lookAhead_138 : decode cX4_lookAhead 138 = .ok (.aload_n 0, 1) := by decide +kernel
theorem dX4_lookAhead_139 : decode cX4_lookAhead 139 = .ok (.getfield 32, 3) := by decide +kernel
theorem dX4_lookAhead_142 : decode cX4_lookAhead 142 = .ok (.iload_n 1, 1) := by decide +kernel
theorem dX4_lookAhead_143 : decode cX4_lookAhead 143 = .ok (.iconst 1, 1) := by decide +kernel
theorem dX4_lookAhead_144 : decode cX4_lookAhead 144 = .ok (.iadd, 1) := by decide +kernel
theorem dX4_lookAhead_145 : decode cX4_lookAhead 145 = .ok (.iaload, 1) := by decide +kernel
theorem dX4_lookAhead_146 : decode cX4_lookAhead 146 = .ok (.iload 5, 2) := by decide +kernel
theorem dX4_lookAhead_148 : decode cX4_lookAhead 148 = .ok (.ifCond .eq 7, 3) := by decide +kernel
theorem dX4_lookAhead_151 : decode cX4_lookAhead 151 = .ok (.iconst 1, 1) := by decide +kernel
theorem dX4_lookAhead_152 : decode cX4_lookAhead 152 = .ok (.goto 4, 3) := by decide +kernel
theorem dX4_lookAhead_155 : decode cX4_lookAhead 155 = .ok (.iconst 0, 1) := by decide +kernel
theorem dX4_lookAhead_156 : decode cX4_lookAhead 156 = .ok (.iadd, 1) := by decide +kernel
theorem dX4_lookAhead_157 : decode cX4_lookAhead 157 = .ok (.iastore, 1) := by decide +kernel
theorem dX4_lookAhead_158 : decode cX4_lookAhead 158 = .ok (.aload_n 0, 1) := by decide +kernel
theorem dX4_lookAhead_159 : decode cX4_lookAhead 159 = .ok (.getfield 35, 3) := by decide +kernel
theorem dX4_lookAhead_162 : decode cX4_lookAhead 162 = .ok (.iload_n 1, 1) := by decide +kernel
theorem dX4_lookAhead_163 : decode cX4_lookAhead 163 = .ok (.aload_n 0, 1) := by decide +kernel
theorem dX4_lookAhead_164 : decode cX4_lookAhead 164 = .ok (.getfield 35, 3) := by decide +kernel
theorem dX4_lookAhead_167 : decode cX4_lookAhead 167 = .ok (.iload_n 1, 1) := by decide +kernel
theorem dX4_lookAhead_168 : decode cX4_lookAhead 168 = .ok (.iconst 1, 1) := by decide +kernel
theorem dX4_lookAhead_169 : decode cX4_lookAhead 169 = .ok (.iadd, 1) := by decide +kernel
theorem dX4_lookAhead_170 : decode cX4_lookAhead 170 = .ok (.iaload, 1) := by decide +kernel
theorem dX4_lookAhead_171 : decode cX4_lookAhead 171 = .ok (.iload_n 2, 1) := by decide +kernel
theorem dX4_lookAhead_172 : decode cX4_lookAhead 172 = .ok (.iadd, 1) := by decide +kernel
theorem dX4_lookAhead_173 : decode cX4_lookAhead 173 = .ok (.iastore, 1) := by decide +kernel
theorem dX4_lookAhead_174 : decode cX4_lookAhead 174 = .ok (.aload_n 0, 1) := by decide +kernel
theorem dX4_lookAhead_175 : decode cX4_lookAhead 175 = .ok (.getfield 38, 3) := by decide +kernel
theorem dX4_lookAhead_178 : decode cX4_lookAhead 178 = .ok (.iload_n 1, 1) := by decide +kernel
theorem dX4_lookAhead_179 : decode cX4_lookAhead 179 = .ok (.aload_n 0, 1) := by decide +kernel
theorem dX4_lookAhead_180 : decode cX4_lookAhead 180 = .ok (.getfield 38, 3) := by decide +kernel
theorem dX4_lookAhead_183 : decode cX4_lookAhead 183 = .ok (.iload_n 1, 1) := by decide +kernel
theorem dX4_lookAhead_184 : decode cX4_lookAhead 184 = .ok (.iconst 1, 1) := by decide +kernel
theorem dX4_lookAhead_185 : decode cX4_lookAhead 185 = .ok (.iadd, 1) := by decide +kernel
theorem dX4_lookAhead_186 : decode cX4_lookAhead 186 = .ok (.iaload, 1) := by decide +kernel
theorem dX4_lookAhead_187 : decode cX4_lookAhead 187 = .ok (.iload 4, 2) := by decide +kernel
theorem dX4_lookAhead_189 : decode cX4_lookAhead 189 = .ok (.invokestatic 116, 3) := by decide +kernel
theorem dX4_lookAhead_192 : decode cX4_lookAhead 192 = .ok (.iastore, 1) := by decide +kernel
theorem dX4_lookAhead_193 : decode cX4_lookAhead 193 = .ok (.aload_n 0, 1) := by decide +kernel
theorem dX4_lookAhead_194 : decode cX4_lookAhead 194 = .ok (.getfield 41, 3) := by decide +kernel
theorem dX4_lookAhead_197 : decode cX4_lookAhead 197 = .ok (.iload_n 1, 1) := by decide +kernel
theorem dX4_lookAhead_198 : decode cX4_lookAhead 198 = .ok (.aload_n 0, 1) := by decide +kernel
theorem dX4_lookAhead_199 : decode cX4_lookAhead 199 = .ok (.getfield 41, 3) := by decide +kernel
theorem dX4_lookAhead_202 : decode cX4_lookAhead 202 = .ok (.iload_n 1, 1) := by decide +kernel
theorem dX4_lookAhead_203 : decode cX4_lookAhead 203 = .ok (.iconst 1, 1) := by decide +kernel
theorem dX4_lookAhead_204 : decode cX4_lookAhead 204 = .ok (.iadd, 1) := by decide +kernel
theorem dX4_lookAhead_205 : decode cX4_lookAhead 205 = .ok (.iaload, 1) := by decide +kernel
theorem dX4_lookAhead_206 : decode cX4_lookAhead 206 = .ok (.iload_n 3, 1) := by decide +kernel
theorem dX4_lookAhead_207 : decode cX4_lookAhead 207 = .ok (.invokestatic 111, 3) := by decide +kernel
theorem dX4_lookAhead_210 : decode cX4_lookAhead 210 = .ok (.iastore, 1) := by decide +kernel
theorem dX4_lookAhead_211 : decode cX4_lookAhead 211 = .ok (.return_, 1) := by decide +kernel
theorem dX4_sit_0 : decode cX4_sit 0 = .ok (.aload_n 0, 1) := by decide +kernel
theorem dX4_sit_1 : decode cX4_sit 1 = .ok (.iload_n 1, 1) := by decide +kernel
theorem dX4_sit_2 : decode cX4_sit 2 = .ok (.iload_n 3, 1) := by decide +kernel
theorem dX4_sit_3 : decode cX4_sit 3 = .ok (.iload 4, 2) := by decide +kernel
theorem dX4_sit_5 : decode cX4_sit 5 = .ok (.iload 5, 2) := by decide +kernel
theorem dX4_sit_7 : decode cX4_sit 7 = .ok (.invokevirtual 119, 3) := by decide +kernel
theorem dX4_sit_10 : decode cX4_sit 10 = .ok (.istore 6, 2) := by decide +kernel
theorem dX4_sit_12 : decode cX4_sit 12 = .ok (.aload_n 0, 1) := by decide +kernel
theorem dX4_sit_13 : decode cX4_sit 13 = .ok (.iload 6, 2) := by decide +kernel
theorem dX4_sit_15 : decode cX4_sit 15 = .ok (.iload_n 2, 1) := by decide +kernel
theorem dX4_sit_16 : decode cX4_sit 16 = .ok (.aload_n 0, 1) := by decide +kernel
theorem dX4_sit_17 : decode cX4_sit 17 = .ok (.getfield 32, 3) := by decide +kernel
theorem dX4_sit_20 : decode cX4_sit 20 = .ok (.iload_n 1, 1) := by decide +kernel
theorem dX4_sit_21 : decode cX4_sit 21 = .ok (.iaload, 1) := by decide +kernel
theorem dX4_sit_22 : decode cX4_sit 22 = .ok (.iadd, 1) := by decide +kernel
theorem dX4_sit_23 : decode cX4_sit 23 = .ok (.invokevirtual 123, 3) := by decide +kernel
theorem dX4_sit_26 : decode cX4_sit 26 = .ok (.ifCond .ne 4, 3) := by decide +kernel
theorem dX4_sit_29 : decode cX4_sit 29 = .ok (.return_, 1) := by decide +kernel
theorem dX4_sit_30 : decode cX4_sit 30 = .ok (.iload_n 1, 1) := by decide +kernel
theorem dX4_sit_31 : decode cX4_sit 31 = .ok (.aload_n 0, 1) := by decide +kernel
theorem dX4_sit_32 : decode cX4_sit 32 = .ok (.getfield 44, 3) := by decide +kernel
theorem dX4_sit_35 : decode cX4_sit 35 = .ok (.getfield 52, 3) := by decide +kernel
theorem dX4_sit_38 : decode cX4_sit 38 = .ok (.if_icmp .lt 11, 3) := by decide +kernel
theorem dX4_sit_41 : decode cX4_sit 41 = .ok (.aload_n 0, 1) := by decide +kernel
theorem dX4_sit_42 : decode cX4_sit 42 = .ok (.iload 6, 2) := by decide +kernel
theorem dX4_sit_44 : decode cX4_sit 44 = .ok (.iload_n 2, 1) := by decide +kernel
theorem dX4_sit_45 : decode cX4_sit 45 = .ok (.invokevirtual 126, 3) := by decide +kernel
theorem dX4_sit_48 : decode cX4_sit 48 = .ok (.return_, 1) := by decide +kernel
theorem dX4_sit_49 : decode cX4_sit 49 = .ok (.iconst 0, 1) := by decide +kernel
theorem dX4_sit_50 : decode cX4_sit 50 = .ok (.istore 7, 2) := by decide +kernel
theorem dX4_sit_52 : decode cX4_sit 52 = .ok (.iload 7, 2) := by decide +kernel
theorem dX4_sit_54 : decode cX4_sit 54 = .ok (.aload_n 0, 1) := by decide +kernel
theorem dX4_sit_55 : decode cX4_sit 55 = .ok (.getfield 44, 3) := by decide +kernel
theorem dX4_sit_58 : decode cX4_sit 58 = .ok (.getfield 88, 3) := by decide +kernel
theorem dX4_sit_61 : decode cX4_sit 61 = .ok (.if_icmp .gt 119, 3) := by decide +kernel
theorem dX4_sit_64 : decode cX4_sit 64 = .ok (.aload_n 0, 1) := by decide +kernel
theorem dX4_sit_65 : decode cX4_sit 65 = .ok (.getfield 19, 3) := by decide +kernel
theorem dX4_sit_68 : decode cX4_sit 68 = .ok (.iload_n 1, 1) := by decide +kernel
theorem dX4_sit_69 : decode cX4_sit 69 = .ok (.iaload, 1) := by decide +kernel
theorem dX4_sit_70 : decode cX4_sit 70 = .ok (.iload 7, 2) := by decide +kernel
theorem dX4_sit_72 : decode cX4_sit 72 = .ok (.ishr, 1) := by decide +kernel
theorem dX4_sit_73 : decode cX4_sit 73 = .ok (.iconst 1, 1) := by decide +kernel
theorem dX4_sit_74 : decode cX4_sit 74 = .ok (.iand, 1) := by decide +kernel
theorem dX4_sit_75 : decode cX4_sit 75 = .ok (.iconst 1, 1) := by decide +kernel
theorem dX4_sit_76 : decode cX4_sit 76 = .ok (.if_icmp .ne 98, 3) := by decide +kernel
theorem dX4_sit_79 : decode cX4_sit 79 = .ok (.aload_n 0, 1) := by decide +kernel
theorem dX4_sit_80 : decode cX4_sit 80 = .ok (.getfield 23, 3) := by decide +kernel
theorem dX4_sit_83 : decode cX4_sit 83 = .ok (.iload 7, 2) := by decide +kernel
theorem dX4_sit_85 : decode cX4_sit 85 = .ok (.iaload, 1) := by decide +kernel
theorem dX4_sit_86 : decode cX4_sit 86 = .ok (.ifCond .le 88, 3) := by decide +kernel
theorem dX4_sit_89 : decode cX4_sit 89 = .ok (.aload_n 0, 1) := by decide +kernel
theorem dX4_sit_90 : decode cX4_sit 90 = .ok (.getfield 23, 3) := by decide +kernel
theorem dX4_sit_93 : decode cX4_sit 93 = .ok (.iload 7, 2) := by decide +kernel
theorem dX4_sit_95 : decode cX4_sit 95 = .ok (.dup2, 1) := by decide +kernel
theorem dX4_sit_96 : decode cX4_sit 96 = .ok (.iaload, 1) := by decide +kernel
theorem dX4_sit_97 : decode cX4_sit 97 = .ok (.iconst 1, 1) := by decide +kernel
theorem dX4_sit_98 : decode cX4_sit 98 = .ok (.isub, 1) := by decide +kernel
theorem dX4_sit_99 : decode cX4_sit 99 = .ok (.iastore, 1) := by decide +kernel
theorem dX4_sit_100 : decode cX4_sit 100 = .ok (.aload_n 0, 1) := by decide +kernel
theorem dX4_sit_101 : decode cX4_sit 101 = .ok (.getfield 26, 3) := by decide +kernel
theorem dX4_sit_104 : decode cX4_sit 104 = .ok (.iload_n 1, 1) := by decide +kernel
theorem dX4_sit_105 : decode cX4_sit 105 = .ok (.iload 7, 2) := by decide +kernel
theorem dX4_sit_107 : decode cX4_sit 107 = .ok (.iastore, 1) := by decide +kernel
theorem dX4_sit_108 : decode cX4_sit 108 = .ok (.aload_n 0, 1) := by decide +kernel
theorem dX4_sit_109 : decode cX4_sit 109 = .ok (.getfield 13, 3) := by decide +kernel
theorem dX4_sit_112 : decode cX4_sit 112 = .ok (.iload_n 1, 1) := by decide +kernel
theorem dX4_sit_113 : decode cX4_sit 113 = .ok (.aaload, 1) := by decide +kernel
theorem dX4_sit_114 : decode cX4_sit 114 = .ok (.iload 7, 2) := by decide +kernel
theorem dX4_sit_116 : decode cX4_sit 116 = .ok (.iaload, 1) := by decide +kernel
theorem dX4_sit_117 : decode cX4_sit 117 = .ok (.istore 8, 2) := by decide +kernel
theorem dX4_sit_119 : decode cX4_sit 119 = .ok (.aload_n 0, 1) := by decide +kernel
theorem dX4_sit_120 : decode cX4_sit 120 = .ok (.iload_n 1, 1) := by decide +kernel
theorem dX4_sit_121 : decode cX4_sit 121 = .ok (.iconst 1, 1) := by decide +kernel
theorem dX4_sit_122 : decode cX4_sit 122 = .ok (.iadd, 1) := by decide +kernel
theorem dX4_sit_123 : decode cX4_sit 123 = .ok (.iload 7, 2) := by decide +kernel
theorem dX4_sit_125 : decode cX4_sit 125 = .ok (.ifCond .ne 7, 3) := by decide +kernel
theorem dX4_sit_128 : decode cX4_sit 128 = .ok (.iload_n 2, 1) := by decide +kernel
theorem dX4_sit_129 : decode cX4_sit 129 = .ok (.goto 6, 3) := by decide +kernel
theorem dX4_sit_132 : decode cX4_sit 132 = .ok (.iload_n 2, 1) := by decide +kernel
theorem dX4_sit_133 : decode cX4_sit 133 = .ok (.iconst 1, 1) := by decide +kernel
theorem dX4_sit_134 : decode cX4_sit 134 = .ok (.iadd, 1) := by decide +kernel
theorem dX4_sit_135 : decode cX4_sit 135 = .ok (.iload_n 3, 1) := by decide +kernel
theorem dX4_sit_136 : decode cX4_sit 136 = .ok (.iload 8, 2) := by decide +kernel
theorem dX4_sit_138 : decode cX4_sit 138 = .ok (.invokestatic 116, 3) := by decide +kernel
theorem dX4_sit_141 : decode cX4_sit 141 = .ok (.iload 4, 2) := by decide +kernel
theorem dX4_sit_143 : decode cX4_sit 143 = .ok (.iload 8, 2) := by decide +kernel
theorem dX4_sit_145 : decode cX4_sit 145 = .ok (.invokestatic 111, 3) := by decide +kernel
theorem dX4_sit_148 : decode cX4_sit 148 = .ok (.iload 5, 2) := by decide +kernel
theorem dX4_sit_150 : decode cX4_sit 150 = .ok (.aload_n 0, 1) := by decide +kernel
theorem dX4_sit_151 : decode cX4_sit 151 = .ok (.getfield 16, 3) := by decide +kernel
theorem dX4_sit_154 : decode cX4_sit 154 = .ok (.iload_n 1, 1) := by decide +kernel
theorem dX4_sit_155 : decode cX4_sit 155 = .ok (.aaload, 1) := by decide +kernel
theorem dX4_sit_156 : decode cX4_sit 156 = .ok (.iload 7, 2) := by decide +kernel
theorem dX4_sit_158 : decode cX4_sit 158 = .ok (.iaload, 1) := by decide +kernel
theorem dX4_sit_159 : decode cX4_sit 159 = .ok (.iadd, 1) := by decide +kernel
theorem dX4_sit_160 : decode cX4_sit 160 = .ok (.invokevirtual 67, 3) := by decide +kernel
theorem dX4_sit_163 : decode cX4_sit 163 = .ok (.aload_n 0, 1) := by decide +kernel
theorem dX4_sit_164 : decode cX4_sit 164 = .ok (.getfield 23, 3) := by decide +kernel
theorem dX4_sit_167 : decode cX4_sit 167 = .ok (.iload 7, 2) := by decide +kernel
theorem dX4_sit_169 : decode cX4_sit 169 = .ok (.dup2, 1) := by decide +kernel
theorem dX4_sit_170 : decode cX4_sit 170 = .ok (.iaload, 1) := by decide +kernel
theorem dX4_sit_171 : decode cX4_sit 171 = .ok (.iconst 1, 1) := by decide +kernel
theorem dX4_sit_172 : decode cX4_sit 172 = .ok (.iadd, 1) := by decide +kernel
theorem dX4_sit_173 : decode cX4_sit 173 = .ok (.iastore, 1) := by decide +kernel
theorem dX4_sit_174 : decode cX4_sit 174 = .ok (.iinc 7 1, 3) := by decide +kernel
theorem dX4_sit_177 : decode cX4_sit 177 = .ok (.goto (-125), 3) := by decide +kernel
theorem dX4_sit_180 : decode cX4_sit 180 = .ok (.return_, 1) := by decide +kernel
theorem dX4_leastCost_0 : decode cX4_leastCost 0 = .ok (.aload_n 0, 1) := by decide +kernel
theorem dX4_leastCost_1 : decode cX4_leastCost 1 = .ok (.getfield 79, 3) := by decide +kernel
theorem dX4_leastCost_4 : decode cX4_leastCost 4 = .ok (.lookupswitch 56 #[(0, 28), (1, 30)], 28) := by decide +kernel
theorem dX4_leastCost_32 : decode cX4_leastCost 32 = .ok (.iconst 0, 1) := by decide +kernel
theorem dX4_leastCost_33 : decode cX4_leastCost 33 = .ok (.ireturn, 1) := by decide +kernel
theorem dX4_leastCost_34 : decode cX4_leastCost 34 = .ok (.iconst 0, 1) := by decide +kernel
theorem dX4_leastCost_35 : decode cX4_leastCost 35 = .ok (.iload_n 3, 1) := by decide +kernel
theorem dX4_leastCost_36 : decode cX4_leastCost 36 = .ok (.aload_n 0, 1) := by decide +kernel
theorem dX4_leastCost_37 : decode cX4_leastCost 37 = .ok (.getfield 41, 3) := by decide +kernel
theorem dX4_leastCost_40 : decode cX4_leastCost 40 = .ok (.iload_n 1, 1) := by decide +kernel
theorem dX4_leastCost_41 : decode cX4_leastCost 41 = .ok (.iaload, 1) := by decide +kernel
theorem dX4_leastCost_42 : decode cX4_leastCost 42 = .ok (.invokestatic 111, 3) := by decide +kernel
theorem dX4_leastCost_45 : decode cX4_leastCost 45 = .ok (.iload_n 2, 1) := by decide +kernel
theorem dX4_leastCost_46 : decode cX4_leastCost 46 = .ok (.aload_n 0, 1) := by decide +kernel
theorem dX4_leastCost_47 : decode cX4_leastCost 47 = .ok (.getfield 38, 3) := by decide +kernel
theorem dX4_leastCost_50 : decode cX4_leastCost 50 = .ok (.iload_n 1, 1) := by decide +kernel
theorem dX4_leastCost_51 : decode cX4_leastCost 51 = .ok (.iaload, 1) := by decide +kernel
theorem dX4_leastCost_52 : decode cX4_leastCost 52 = .ok (.invokestatic 116, 3) := by decide +kernel
theorem dX4_leastCost_55 : decode cX4_leastCost 55 = .ok (.isub, 1) := by decide +kernel
theorem dX4_leastCost_56 : decode cX4_leastCost 56 = .ok (.invokestatic 111, 3) := by decide +kernel
theorem dX4_leastCost_59 : decode cX4_leastCost 59 = .ok (.ireturn, 1) := by decide +kernel
theorem dX4_leastCost_60 : decode cX4_leastCost 60 = .ok (.iload 4, 2) := by decide +kernel
theorem dX4_leastCost_62 : decode cX4_leastCost 62 = .ok (.ineg, 1) := by decide +kernel
theorem dX4_leastCost_63 : decode cX4_leastCost 63 = .ok (.aload_n 0, 1) := by decide +kernel
theorem dX4_leastCost_64 : decode cX4_leastCost 64 = .ok (.getfield 35, 3) := by decide +kernel
theorem dX4_leastCost_67 : decode cX4_leastCost 67 = .ok (.iload_n 1, 1) := by decide +kernel
theorem dX4_leastCost_68 : decode cX4_leastCost 68 = .ok (.iaload, 1) := by decide +kernel
theorem dX4_leastCost_69 : decode cX4_leastCost 69 = .ok (.isub, 1) := by decide +kernel
theorem dX4_leastCost_70 : decode cX4_leastCost 70 = .ok (.ireturn, 1) := by decide +kernel
theorem dX4_isBetter_0 : decode cX4_isBetter 0 = .ok (.iload_n 1, 1) := by decide +kernel
theorem dX4_isBetter_1 : decode cX4_isBetter 1 = .ok (.aload_n 0, 1) := by decide +kernel
theorem dX4_isBetter_2 : decode cX4_isBetter 2 = .ok (.getfield 82, 3) := by decide +kernel
theorem dX4_isBetter_5 : decode cX4_isBetter 5 = .ok (.if_icmp .lt 19, 3) := by decide +kernel
theorem dX4_isBetter_8 : decode cX4_isBetter 8 = .ok (.iload_n 1, 1) := by decide +kernel
theorem dX4_isBetter_9 : decode cX4_isBetter 9 = .ok (.aload_n 0, 1) := by decide +kernel
theorem dX4_isBetter_10 : decode cX4_isBetter 10 = .ok (.getfield 82, 3) := by decide +kernel
theorem dX4_isBetter_13 : decode cX4_isBetter 13 = .ok (.if_icmp .ne 15, 3) := by decide +kernel
theorem dX4_isBetter_16 : decode cX4_isBetter 16 = .ok (.iload_n 2, 1) := by decide +kernel
theorem dX4_isBetter_17 : decode cX4_isBetter 17 = .ok (.aload_n 0, 1) := by decide +kernel
theorem dX4_isBetter_18 : decode cX4_isBetter 18 = .ok (.getfield 85, 3) := by decide +kernel
theorem dX4_isBetter_21 : decode cX4_isBetter 21 = .ok (.if_icmp .ge 7, 3) := by decide +kernel
theorem dX4_isBetter_24 : decode cX4_isBetter 24 = .ok (.iconst 1, 1) := by decide +kernel
theorem dX4_isBetter_25 : decode cX4_isBetter 25 = .ok (.goto 4, 3) := by decide +kernel
theorem dX4_isBetter_28 : decode cX4_isBetter 28 = .ok (.iconst 0, 1) := by decide +kernel
theorem dX4_isBetter_29 : decode cX4_isBetter 29 = .ok (.ireturn, 1) := by decide +kernel
theorem dX4_keep_0 : decode cX4_keep 0 = .ok (.aload_n 0, 1) := by decide +kernel
theorem dX4_keep_1 : decode cX4_keep 1 = .ok (.iconst 1, 1) := by decide +kernel
theorem dX4_keep_2 : decode cX4_keep 2 = .ok (.putfield 71, 3) := by decide +kernel
theorem dX4_keep_5 : decode cX4_keep 5 = .ok (.aload_n 0, 1) := by decide +kernel
theorem dX4_keep_6 : decode cX4_keep 6 = .ok (.iload_n 1, 1) := by decide +kernel
theorem dX4_keep_7 : decode cX4_keep 7 = .ok (.putfield 82, 3) := by decide +kernel
theorem dX4_keep_10 : decode cX4_keep 10 = .ok (.aload_n 0, 1) := by decide +kernel
theorem dX4_keep_11 : decode cX4_keep 11 = .ok (.iload_n 2, 1) := by decide +kernel
theorem dX4_keep_12 : decode cX4_keep 12 = .ok (.putfield 85, 3) := by decide +kernel
theorem dX4_keep_15 : decode cX4_keep 15 = .ok (.aload_n 0, 1) := by decide +kernel
theorem dX4_keep_16 : decode cX4_keep 16 = .ok (.getfield 26, 3) := by decide +kernel
theorem dX4_keep_19 : decode cX4_keep 19 = .ok (.iconst 0, 1) := by decide +kernel
theorem dX4_keep_20 : decode cX4_keep 20 = .ok (.aload_n 0, 1) := by decide +kernel
theorem dX4_keep_21 : decode cX4_keep 21 = .ok (.getfield 29, 3) := by decide +kernel
theorem dX4_keep_24 : decode cX4_keep 24 = .ok (.iconst 0, 1) := by decide +kernel
theorem dX4_keep_25 : decode cX4_keep 25 = .ok (.bipush 6, 2) := by decide +kernel
theorem dX4_keep_27 : decode cX4_keep 27 = .ok (.invokestatic 130, 3) := by decide +kernel
theorem dX4_keep_30 : decode cX4_keep 30 = .ok (.return_, 1) := by decide +kernel
theorem dX5_init_0 : decode cX5_init 0 = .ok (.aload_n 0, 1) := by decide +kernel
theorem dX5_init_1 : decode cX5_init 1 = .ok (.invokespecial 3, 3) := by decide +kernel
theorem dX5_init_4 : decode cX5_init 4 = .ok (.aload_n 0, 1) := by decide +kernel
theorem dX5_init_5 : decode cX5_init 5 = .ok (.bipush 100, 2) := by decide +kernel
theorem dX5_init_7 : decode cX5_init 7 = .ok (.newarray .int, 2) := by decide +kernel
theorem dX5_init_9 : decode cX5_init 9 = .ok (.putfield 9, 3) := by decide +kernel
theorem dX5_init_12 : decode cX5_init 12 = .ok (.aload_n 0, 1) := by decide +kernel
theorem dX5_init_13 : decode cX5_init 13 = .ok (.bipush 10, 2) := by decide +kernel
theorem dX5_init_15 : decode cX5_init 15 = .ok (.newarray .int, 2) := by decide +kernel
theorem dX5_init_17 : decode cX5_init 17 = .ok (.putfield 15, 3) := by decide +kernel
theorem dX5_init_20 : decode cX5_init 20 = .ok (.aload_n 0, 1) := by decide +kernel
theorem dX5_init_21 : decode cX5_init 21 = .ok (.bipush 10, 2) := by decide +kernel
theorem dX5_init_23 : decode cX5_init 23 = .ok (.newarray .int, 2) := by decide +kernel
theorem dX5_init_25 : decode cX5_init 25 = .ok (.putfield 18, 3) := by decide +kernel
theorem dX5_init_28 : decode cX5_init 28 = .ok (.aload_n 0, 1) := by decide +kernel
theorem dX5_init_29 : decode cX5_init 29 = .ok (.invokevirtual 21, 3) := by decide +kernel
theorem dX5_init_32 : decode cX5_init 32 = .ok (.return_, 1) := by decide +kernel
theorem dX5_forget_0 : decode cX5_forget 0 = .ok (.aload_n 0, 1) := by decide +kernel
theorem dX5_forget_1 : decode cX5_forget 1 = .ok (.bipush 18, 2) := by decide +kernel
theorem dX5_forget_3 : decode cX5_forget 3 = .ok (.putfield 24, 3) := by decide +kernel
theorem dX5_forget_6 : decode cX5_forget 6 = .ok (.aload_n 0, 1) := by decide +kernel
theorem dX5_forget_7 : decode cX5_forget 7 = .ok (.bipush 60, 2) := by decide +kernel
theorem dX5_forget_9 : decode cX5_forget 9 = .ok (.putfield 28, 3) := by decide +kernel
theorem dX5_forget_12 : decode cX5_forget 12 = .ok (.aload_n 0, 1) := by decide +kernel
theorem dX5_forget_13 : decode cX5_forget 13 = .ok (.iconst 0, 1) := by decide +kernel
theorem dX5_forget_14 : decode cX5_forget 14 = .ok (.putfield 31, 3) := by decide +kernel
theorem dX5_forget_17 : decode cX5_forget 17 = .ok (.aload_n 0, 1) := by decide +kernel
theorem dX5_forget_18 : decode cX5_forget 18 = .ok (.iconst 0, 1) := by decide +kernel
theorem dX5_forget_19 : decode cX5_forget 19 = .ok (.putfield 34, 3) := by decide +kernel
theorem dX5_forget_22 : decode cX5_forget 22 = .ok (.return_, 1) := by decide +kernel
theorem dX5_addStep_0 : decode cX5_addStep 0 = .ok (.aload_n 0, 1) := by decide +kernel
theorem dX5_addStep_1 : decode cX5_addStep 1 = .ok (.getfield 34, 3) := by decide +kernel
theorem dX5_addStep_4 : decode cX5_addStep 4 = .ok (.aload_n 0, 1) := by decide +kernel
theorem dX5_addStep_5 : decode cX5_addStep 5 = .ok (.getfield 9, 3) := by decide +kernel
theorem dX5_addStep_8 : decode cX5_addStep 8 = .ok (.arraylength, 1) := by decide +kernel
theorem dX5_addStep_9 : decode cX5_addStep 9 = .ok (.if_icmp .ge 20, 3) := by decide +kernel
theorem dX5_addStep_12 : decode cX5_addStep 12 = .ok (.aload_n 0, 1) := by decide +kernel
theorem dX5_addStep_13 : decode cX5_addStep 13 = .ok (.getfield 9, 3) := by decide +kernel
theorem dX5_addStep_16 : decode cX5_addStep 16 = .ok (.aload_n 0, 1) := by decide +kernel
theorem dX5_addStep_17 : decode cX5_addStep 17 = .ok (.dup, 1) := by decide +kernel
theorem dX5_addStep_18 : decode cX5_addStep 18 = .ok (.getfield 34, 3) := by decide +kernel
theorem dX5_addStep_21 : decode cX5_addStep 21 = .ok (.dup_x1, 1) := by decide +kernel
theorem dX5_addStep_22 : decode cX5_addStep 22 = .ok (.iconst 1, 1) := by decide +kernel
theorem dX5_addStep_23 : decode cX5_addStep 23 = .ok (.iadd, 1) := by decide +kernel
theorem dX5_addStep_24 : decode cX5_addStep 24 = .ok (.putfield 34, 3) := by decide +kernel
theorem dX5_addStep_27 : decode cX5_addStep 27 = .ok (.iload_n 1, 1) := by decide +kernel
theorem dX5_addStep_28 : decode cX5_addStep 28 = .ok (.iastore, 1) := by decide +kernel
theorem dX5_addStep_29 : decode cX5_addStep 29 = .ok (.return_, 1) := by decide +kernel
theorem dX5_testStep_0 : decode cX5_testStep 0 = .ok (.iload_n 0, 1) := by decide +kernel
theorem dX5_testStep_1 : decode cX5_testStep 1 = .ok (.iconst 3, 1) := by decide +kernel
theorem dX5_testStep_2 : decode cX5_testStep 2 = .ok (.imul, 1) := by decide +kernel
theorem dX5_testStep_3 : decode cX5_testStep 3 = .ok (.iload_n 1, 1) := by decide +kernel
theorem dX5_testStep_4 : decode cX5_testStep 4 = .ok (.iadd, 1) := by decide +kernel
theorem dX5_testStep_5 : decode cX5_testStep 5 = .ok (.bipush 100, 2) := by decide +kernel
theorem dX5_testStep_7 : decode cX5_testStep 7 = .ok (.imul, 1) := by decide +kernel
theorem dX5_testStep_8 : decode cX5_testStep 8 = .ok (.iload_n 2, 1) := by decide +kernel
theorem dX5_testStep_9 : decode cX5_testStep 9 = .ok (.iadd, 1) := by decide +kernel
theorem dX5_testStep_10 : decode cX5_testStep 10 = .ok (.ireturn, 1) := by decide +kernel
theorem dX5_endClause_0 : decode cX5_endClause 0 = .ok (.aload_n 0, 1) := by decide +kernel
theorem dX5_endClause_1 : decode cX5_endClause 1 = .ok (.getfield 31, 3) := by decide +kernel
theorem dX5_endClause_4 : decode cX5_endClause 4 = .ok (.bipush 10, 2) := by decide +kernel
theorem dX5_endClause_6 : decode cX5_endClause 6 = .ok (.if_icmp .ge 36, 3) := by decide +kernel
theorem dX5_endClause_9 : decode cX5_endClause 9 = .ok (.aload_n 0, 1) := by decide +kernel
theorem dX5_endClause_10 : decode cX5_endClause 10 = .ok (.getfield 15, 3) := by decide +kernel
theorem dX5_endClause_13 : decode cX5_endClause 13 = .ok (.aload_n 0, 1) := by decide +kernel
theorem dX5_endClause_14 : decode cX5_endClause 14 = .ok (.getfield 31, 3) := by decide +kernel
theorem dX5_endClause_17 : decode cX5_endClause 17 = .ok (.iload_n 1, 1) := by decide +kernel
theorem dX5_endClause_18 : decode cX5_endClause 18 = .ok (.iastore, 1) := by decide +kernel
theorem dX5_endClause_19 : decode cX5_endClause 19 = .ok (.aload_n 0, 1) := by decide +kernel
theorem dX5_endClause_20 : decode cX5_endClause 20 = .ok (.getfield 18, 3) := by decide +kernel
theorem dX5_endClause_23 : decode cX5_endClause 23 = .ok (.aload_n 0, 1) := by decide +kernel
theorem dX5_endClause_24 : decode cX5_endClause 24 = .ok (.getfield 31, 3) := by decide +kernel
theorem dX5_endClause_27 : decode cX5_endClause 27 = .ok (.aload_n 0, 1) := by decide +kernel
theorem dX5_endClause_28 : decode cX5_endClause 28 = .ok (.getfield 34, 3) := by decide +kernel
theorem dX5_endClause_31 : decode cX5_endClause 31 = .ok (.iastore, 1) := by decide +kernel
theorem dX5_endClause_32 : decode cX5_endClause 32 = .ok (.aload_n 0, 1) := by decide +kernel
theorem dX5_endClause_33 : decode cX5_endClause 33 = .ok (.dup, 1) := by decide +kernel
theorem dX5_endClause_34 : decode cX5_endClause 34 = .ok (.getfield 31, 3) := by decide +kernel
theorem dX5_endClause_37 : decode cX5_endClause 37 = .ok (.iconst 1, 1) := by decide +kernel
theorem dX5_endClause_38 : decode cX5_endClause 38 = .ok (.iadd, 1) := by decide +kernel
theorem dX5_endClause_39 : decode cX5_endClause 39 = .ok (.putfield 31, 3) := by decide +kernel
theorem dX5_endClause_42 : decode cX5_endClause 42 = .ok (.return_, 1) := by decide +kernel
theorem dX5_nerveFor_0 : decode cX5_nerveFor 0 = .ok (.bipush 10, 2) := by decide +kernel
theorem dX5_nerveFor_2 : decode cX5_nerveFor 2 = .ok (.istore_n 2, 1) := by decide +kernel
theorem dX5_nerveFor_3 : decode cX5_nerveFor 3 = .ok (.iconst 0, 1) := by decide +kernel
theorem dX5_nerveFor_4 : decode cX5_nerveFor 4 = .ok (.istore_n 3, 1) := by decide +kernel
theorem dX5_nerveFor_5 : decode cX5_nerveFor 5 = .ok (.iconst 0, 1) := by decide +kernel
theorem dX5_nerveFor_6 : decode cX5_nerveFor 6 = .ok (.istore 4, 2) := by decide +kernel
theorem dX5_nerveFor_8 : decode cX5_nerveFor 8 = .ok (.iload 4, 2) := by decide +kernel
theorem dX5_nerveFor_10 : decode cX5_nerveFor 10 = .ok (.aload_n 0, 1) := by decide +kernel
theorem dX5_nerveFor_11 : decode cX5_nerveFor 11 = .ok (.getfield 31, 3) := by decide +kernel
theorem dX5_nerveFor_14 : decode cX5_nerveFor 14 = .ok (.if_icmp .ge 43, 3) := by decide +kernel
theorem dX5_nerveFor_17 : decode cX5_nerveFor 17 = .ok (.aload_n 0, 1) := by decide +kernel
theorem dX5_nerveFor_18 : decode cX5_nerveFor 18 = .ok (.aload_n 1, 1) := by decide +kernel
theorem dX5_nerveFor_19 : decode cX5_nerveFor 19 = .ok (.iload_n 3, 1) := by decide +kernel
theorem dX5_nerveFor_20 : decode cX5_nerveFor 20 = .ok (.aload_n 0, 1) := by decide +kernel
theorem dX5_nerveFor_21 : decode cX5_nerveFor 21 = .ok (.getfield 18, 3) := by decide +kernel
theorem dX5_nerveFor_24 : decode cX5_nerveFor 24 = .ok (.iload 4, 2) := by decide +kernel
theorem dX5_nerveFor_26 : decode cX5_nerveFor 26 = .ok (.iaload, 1) := by decide +kernel
theorem dX5_nerveFor_27 : decode cX5_nerveFor 27 = .ok (.invokevirtual 37, 3) := by decide +kernel
theorem dX5_nerveFor_30 : decode cX5_nerveFor 30 = .ok (.ifCond .eq 13, 3) := by decide +kernel
theorem dX5_nerveFor_33 : decode cX5_nerveFor 33 = .ok (.iload_n 2, 1) := by decide +kernel
theorem dX5_nerveFor_34 : decode cX5_nerveFor 34 = .ok (.aload_n 0, 1) := by decide +kernel
theorem dX5_nerveFor_35 : decode cX5_nerveFor 35 = .ok (.getfield 15, 3) := by decide +kernel
theorem dX5_nerveFor_38 : decode cX5_nerveFor 38 = .ok (.iload 4, 2) := by decide +kernel
theorem dX5_nerveFor_40 : decode cX5_nerveFor 40 = .ok (.iaload, 1) := by decide +kernel
theorem dX5_nerveFor_41 : decode cX5_nerveFor 41 = .ok (.iadd, 1) := by decide +kernel
theorem dX5_nerveFor_42 : decode cX5_nerveFor 42 = .ok (.istore_n 2, 1) := by decide +kernel
theorem dX5_nerveFor_43 : decode cX5_nerveFor 43 = .ok (.aload_n 0, 1) := by decide +kernel
theorem dX5_nerveFor_44 : decode cX5_nerveFor 44 = .ok (.getfield 18, 3) := by decide +kernel
theorem dX5_nerveFor_47 : decode cX5_nerveFor 47 = .ok (.iload 4, 2) := by decide +kernel
theorem dX5_nerveFor_49 : decode cX5_nerveFor 49 = .ok (.iaload, 1) := by decide +kernel
theorem dX5_nerveFor_50 : decode cX5_nerveFor 50 = .ok (.istore_n 3, 1) := by decide +kernel
theorem dX5_nerveFor_51 : decode cX5_nerveFor 51 = .ok (.iinc 4 1, 3) := by decide +kernel
theorem dX5_nerveFor_54 : decode cX5_nerveFor 54 = .ok (.goto (-46), 3) := by decide +kernel
theorem dX5_nerveFor_57 : decode cX5_nerveFor 57 = .ok (.iconst 0, 1) := by decide +kernel
theorem dX5_nerveFor_58 : decode cX5_nerveFor 58 = .ok (.iload_n 2, 1) := by decide +kernel
theorem dX5_nerveFor_59 : decode cX5_nerveFor 59 = .ok (.invokestatic 41, 3) := by decide +kernel
theorem dX5_nerveFor_62 : decode cX5_nerveFor 62 = .ok (.ireturn, 1) := by decide +kernel
theorem dX5_holdsFor_0 : decode cX5_holdsFor 0 = .ok (.iconst 0, 1) := by decide +kernel
theorem dX5_holdsFor_1 : decode cX5_holdsFor 1 = .ok (.istore 4, 2) := by decide +kernel
theorem dX5_holdsFor_3 : decode cX5_holdsFor 3 = .ok (.iload_n 2, 1) := by decide +kernel
theorem dX5_holdsFor_4 : decode cX5_holdsFor 4 = .ok (.istore 5, 2) := by decide +kernel
theorem dX5_holdsFor_6 : decode cX5_holdsFor 6 = .ok (.iload 5, 2) := by decide +kernel
theorem dX5_holdsFor_8 : decode cX5_holdsFor 8 = .ok (.iload_n 3, 1) := by decide +kernel
theorem dX5_holdsFor_9 : decode cX5_holdsFor 9 = .ok (.if_icmp .ge 111, 3) := by decide +kernel
theorem dX5_holdsFor_12 : decode cX5_holdsFor 12 = .ok (.iload 4, 2) := by decide +kernel
theorem dX5_holdsFor_14 : decode cX5_holdsFor 14 = .ok (.iconst 1, 1) := by decide +kernel
theorem dX5_holdsFor_15 : decode cX5_holdsFor 15 = .ok (.iand, 1) := by decide +kernel
theorem dX5_holdsFor_16 : decode cX5_holdsFor 16 = .ok (.istore 6, 2) := by decide +kernel
theorem dX5_holdsFor_18 : decode cX5_holdsFor 18 = .ok (.aload_n 0, 1) := by decide +kernel
theorem dX5_holdsFor_19 : decode cX5_holdsFor 19 = .ok (.getfield 9, 3) := by decide +kernel
theorem dX5_holdsFor_22 : decode cX5_holdsFor 22 = .ok (.iload 5, 2) := by decide +kernel
theorem dX5_holdsFor_24 : decode cX5_holdsFor 24 = .ok (.iaload, 1) := by decide +kernel
theorem dX5_holdsFor_25 : decode cX5_holdsFor 25 = .ok (.tableswitch 63 (-3) (-1) #[51, 36, 27], 27) := by decide +kernel
theorem dX5_holdsFor_52 : decode cX5_holdsFor 52 = .ok (.iload 4, 2) := by decide +kernel
theorem dX5_holdsFor_54 : decode cX5_holdsFor 54 = .ok (.iconst 1, 1) := by decide +kernel
theorem dX5_holdsFor_55 : decode cX5_holdsFor 55 = .ok (.ixor, 1) := by decide +kernel
theorem dX5_holdsFor_56 : decode cX5_holdsFor 56 = .ok (.istore 4, 2) := by decide +kernel
theorem dX5_holdsFor_58 : decode cX5_holdsFor 58 = .ok (.goto 56, 3) := by decide +kernel
theorem dX5_holdsFor_61 : decode cX5_holdsFor 61 = .ok (.iload 4, 2) := by decide +kernel
theorem dX5_holdsFor_63 : decode cX5_holdsFor 63 = .ok (.iconst 1, 1) := by decide +kernel
theorem dX5_holdsFor_64 : decode cX5_holdsFor 64 = .ok (.ishr, 1) := by decide +kernel
theorem dX5_holdsFor_65 : decode cX5_holdsFor 65 = .ok (.bipush (-2), 2) := by decide +kernel
theorem dX5_holdsFor_67 : decode cX5_holdsFor 67 = .ok (.iload 6, 2) := by decide +kernel
theorem dX5_holdsFor_69 : decode cX5_holdsFor 69 = .ok (.ior, 1) := by decide +kernel
theorem dX5_holdsFor_70 : decode cX5_holdsFor 70 = .ok (.iand, 1) := by decide +kernel
theorem dX5_holdsFor_71 : decode cX5_holdsFor 71 = .ok (.istore 4, 2) := by decide +kernel
theorem dX5_holdsFor_73 : decode cX5_holdsFor 73 = .ok (.goto 41, 3) := by decide +kernel
theorem dX5_holdsFor_76 : decode cX5_holdsFor 76 = .ok (.iload 4, 2) := by decide +kernel
theorem dX5_holdsFor_78 : decode cX5_holdsFor 78 = .ok (.iconst 1, 1) := by decide +kernel
theorem dX5_holdsFor_79 : decode cX5_holdsFor 79 = .ok (.ishr, 1) := by decide +kernel
theorem dX5_holdsFor_80 : decode cX5_holdsFor 80 = .ok (.iload 6, 2) := by decide +kernel
theorem dX5_holdsFor_82 : decode cX5_holdsFor 82 = .ok (.ior, 1) := by decide +kernel
theorem dX5_holdsFor_83 : decode cX5_holdsFor 83 = .ok (.istore 4, 2) := by decide +kernel
theorem dX5_holdsFor_85 : decode cX5_holdsFor 85 = .ok (.goto 29, 3) := by decide +kernel
theorem dX5_holdsFor_88 : decode cX5_holdsFor 88 = .ok (.iload 4, 2) := by decide +kernel
theorem dX5_holdsFor_90 : decode cX5_holdsFor 90 = .ok (.iconst 1, 1) := by decide +kernel
theorem dX5_holdsFor_91 : decode cX5_holdsFor 91 = .ok (.ishl, 1) := by decide +kernel
theorem dX5_holdsFor_92 : decode cX5_holdsFor 92 = .ok (.aload_n 1, 1) := by decide +kernel
theorem dX5_holdsFor_93 : decode cX5_holdsFor 93 = .ok (.aload_n 0, 1) := by decide +kernel
theorem dX5_holdsFor_94 : decode cX5_holdsFor 94 = .ok (.getfield 9, 3) := by decide +kernel
theorem dX5_holdsFor_97 : decode cX5_holdsFor 97 = .ok (.iload 5, 2) := by decide +kernel
theorem dX5_holdsFor_99 : decode cX5_holdsFor 99 = .ok (.iaload, 1) := by decide +kernel
theorem dX5_holdsFor_100 : decode cX5_holdsFor 100 = .ok (.invokestatic 47, 3) := by decide +kernel
theorem dX5_holdsFor_103 : decode cX5_holdsFor 103 = .ok (.ifCond .eq 7, 3) := by decide +kernel
theorem dX5_holdsFor_106 : decode cX5_holdsFor 106 = .ok (.iconst 1, 1) := by decide +kernel
theorem dX5_holdsFor_107 : decode cX5_holdsFor 107 = .ok (.goto 4, 3) := by decide +kernel
theorem dX5_holdsFor_110 : decode cX5_holdsFor 110 = .ok (.iconst 0, 1) := by decide +kernel
theorem dX5_holdsFor_111 : decode cX5_holdsFor 111 = .ok (.ior, 1) := by decide +kernel
theorem dX5_holdsFor_112 : decode cX5_holdsFor 112 = .ok (.istore 4, 2) := by decide +kernel
theorem dX5_holdsFor_114 : decode cX5_holdsFor 114 = .ok (.iinc 5 1, 3) := by decide +kernel
theorem dX5_holdsFor_117 : decode cX5_holdsFor 117 = .ok (.goto (-111), 3) := by decide +kernel
theorem dX5_holdsFor_120 : decode cX5_holdsFor 120 = .ok (.iload 4, 2) := by decide +kernel
theorem dX5_holdsFor_122 : decode cX5_holdsFor 122 = .ok (.iconst 1, 1) := by decide +kernel
theorem dX5_holdsFor_123 : decode cX5_holdsFor 123 = .ok (.iand, 1) := by decide +kernel
theorem dX5_holdsFor_124 : decode cX5_holdsFor 124 = .ok (.iconst 1, 1) := by decide +kernel
theorem dX5_holdsFor_125 : decode cX5_holdsFor 125 = .ok (.if_icmp .ne 7, 3) := by decide +kernel
theorem dX5_holdsFor_128 : decode cX5_holdsFor 128 = .ok (.iconst 1, 1) := by decide +kernel
theorem dX5_holdsFor_129 : decode cX5_holdsFor 129 = .ok (.goto 4, 3) := by decide +kernel
theorem dX5_holdsFor_132 : decode cX5_holdsFor 132 = .ok (.iconst 0, 1) := by decide +kernel
theorem dX5_holdsFor_133 : decode cX5_holdsFor 133 = .ok (.ireturn, 1) := by decide +kernel
theorem dX5_passes_0 : decode cX5_passes 0 = .ok (.aload_n 0, 1) := by decide +kernel
theorem dX5_passes_1 : decode cX5_passes 1 = .ok (.iload_n 1, 1) := by decide +kernel
theorem dX5_passes_2 : decode cX5_passes 2 = .ok (.sipush 300, 3) := by decide +kernel
theorem dX5_passes_5 : decode cX5_passes 5 = .ok (.idiv, 1) := by decide +kernel
theorem dX5_passes_6 : decode cX5_passes 6 = .ok (.iaload, 1) := by decide +kernel
theorem dX5_passes_7 : decode cX5_passes 7 = .ok (.istore_n 2, 1) := by decide +kernel
theorem dX5_passes_8 : decode cX5_passes 8 = .ok (.iload_n 1, 1) := by decide +kernel
theorem dX5_passes_9 : decode cX5_passes 9 = .ok (.bipush 100, 2) := by decide +kernel
theorem dX5_passes_11 : decode cX5_passes 11 = .ok (.irem, 1) := by decide +kernel
theorem dX5_passes_12 : decode cX5_passes 12 = .ok (.istore_n 3, 1) := by decide +kernel
theorem dX5_passes_13 : decode cX5_passes 13 = .ok (.iload_n 1, 1) := by decide +kernel
theorem dX5_passes_14 : decode cX5_passes 14 = .ok (.bipush 100, 2) := by decide +kernel
theorem dX5_passes_16 : decode cX5_passes 16 = .ok (.idiv, 1) := by decide +kernel
theorem dX5_passes_17 : decode cX5_passes 17 = .ok (.iconst 3, 1) := by decide +kernel
theorem dX5_passes_18 : decode cX5_passes 18 = .ok (.irem, 1) := by decide +kernel
theorem dX5_passes_19 : decode cX5_passes 19 = .ok (.lookupswitch 47 #[(0, 25), (1, 36)], 25) := by decide +kernel
theorem dX5_passes_44 : decode cX5_passes 44 = .ok (.iload_n 2, 1) := by decide +kernel
theorem dX5_passes_45 : decode cX5_passes 45 = .ok (.iload_n 3, 1) := by decide +kernel
theorem dX5_passes_46 : decode cX5_passes 46 = .ok (.if_icmp .ge 7, 3) := by decide +kernel
theorem dX5_passes_49 : decode cX5_passes 49 = .ok (.iconst 1, 1) := by decide +kernel
theorem dX5_passes_50 : decode cX5_passes 50 = .ok (.goto 4, 3) := by decide +kernel
theorem dX5_passes_53 : decode cX5_passes 53 = .ok (.iconst 0, 1) := by decide +kernel
theorem dX5_passes_54 : decode cX5_passes 54 = .ok (.ireturn, 1) := by decide +kernel
theorem dX5_passes_55 : decode cX5_passes 55 = .ok (.iload_n 2, 1) := by decide +kernel
theorem dX5_passes_56 : decode cX5_passes 56 = .ok (.iload_n 3, 1) := by decide +kernel
theorem dX5_passes_57 : decode cX5_passes 57 = .ok (.if_icmp .ne 7, 3) := by decide +kernel
theorem dX5_passes_60 : decode cX5_passes 60 = .ok (.iconst 1, 1) := by decide +kernel
theorem dX5_passes_61 : decode cX5_passes 61 = .ok (.goto 4, 3) := by decide +kernel
theorem dX5_passes_64 : decode cX5_passes 64 = .ok (.iconst 0, 1) := by decide +kernel
theorem dX5_passes_65 : decode cX5_passes 65 = .ok (.ireturn, 1) := by decide +kernel
theorem dX5_passes_66 : decode cX5_passes 66 = .ok (.iload_n 2, 1) := by decide +kernel
theorem dX5_passes_67 : decode cX5_passes 67 = .ok (.iload_n 3, 1) := by decide +kernel
theorem dX5_passes_68 : decode cX5_passes 68 = .ok (.if_icmp .le 7, 3) := by decide +kernel
theorem dX5_passes_71 : decode cX5_passes 71 = .ok (.iconst 1, 1) := by decide +kernel
theorem dX5_passes_72 : decode cX5_passes 72 = .ok (.goto 4, 3) := by decide +kernel
theorem dX5_passes_75 : decode cX5_passes 75 = .ok (.iconst 0, 1) := by decide +kernel
theorem dX5_passes_76 : decode cX5_passes 76 = .ok (.ireturn, 1) := by decide +kernel
theorem dX6_init_0 : decode cX6_init 0 = .ok (.aload_n 0, 1) := by decide +kernel
theorem dX6_init_1 : decode cX6_init 1 = .ok (.invokespecial 3, 3) := by decide +kernel
theorem dX6_init_4 : decode cX6_init 4 = .ok (.aload_n 0, 1) := by decide +kernel
theorem dX6_init_5 : decode cX6_init 5 = .ok (.bipush 100, 2) := by decide +kernel
theorem dX6_init_7 : decode cX6_init 7 = .ok (.putfield 9, 3) := by decide +kernel
theorem dX6_init_10 : decode cX6_init 10 = .ok (.aload_n 0, 1) := by decide +kernel
theorem dX6_init_11 : decode cX6_init 11 = .ok (.bipush 6, 2) := by decide +kernel
theorem dX6_init_13 : decode cX6_init 13 = .ok (.anewarray 15, 3) := by decide +kernel
theorem dX6_init_16 : decode cX6_init 16 = .ok (.putfield 17, 3) := by decide +kernel
theorem dX6_init_19 : decode cX6_init 19 = .ok (.aload_n 0, 1) := by decide +kernel
theorem dX6_init_20 : decode cX6_init 20 = .ok (.iconst 5, 1) := by decide +kernel
theorem dX6_init_21 : decode cX6_init 21 = .ok (.newarray .int, 2) := by decide +kernel
theorem dX6_init_23 : decode cX6_init 23 = .ok (.putfield 21, 3) := by decide +kernel
theorem dX6_init_26 : decode cX6_init 26 = .ok (.aload_n 0, 1) := by decide +kernel
theorem dX6_init_27 : decode cX6_init 27 = .ok (.iconst 5, 1) := by decide +kernel
theorem dX6_init_28 : decode cX6_init 28 = .ok (.newarray .int, 2) := by decide +kernel
theorem dX6_init_30 : decode cX6_init 30 = .ok (.putfield 25, 3) := by decide +kernel
theorem dX6_init_33 : decode cX6_init 33 = .ok (.aload_n 0, 1) := by decide +kernel
theorem dX6_init_34 : decode cX6_init 34 = .ok (.bipush 100, 2) := by decide +kernel
theorem dX6_init_36 : decode cX6_init 36 = .ok (.newarray .char, 2) := by decide +kernel
theorem dX6_init_38 : decode cX6_init 38 = .ok (.putfield 28, 3) := by decide +kernel
theorem dX6_init_41 : decode cX6_init 41 = .ok (.aload_n 0, 1) := by decide +kernel
theorem dX6_init_42 : decode cX6_init 42 = .ok (.new 32, 3) := by decide +kernel
theorem dX6_init_45 : decode cX6_init 45 = .ok (.dup, 1) := by decide +kernel
theorem dX6_init_46 : decode cX6_init 46 = .ok (.iconst 5, 1) := by decide +kernel
theorem dX6_init_47 : decode cX6_init 47 = .ok (.invokespecial 34, 3) := by decide +kernel
theorem dX6_init_50 : decode cX6_init 50 = .ok (.putfield 37, 3) := by decide +kernel
theorem dX6_init_53 : decode cX6_init 53 = .ok (.aload_n 0, 1) := by decide +kernel
theorem dX6_init_54 : decode cX6_init 54 = .ok (.new 32, 3) := by decide +kernel
theorem dX6_init_57 : decode cX6_init 57 = .ok (.dup, 1) := by decide +kernel
theorem dX6_init_58 : decode cX6_init 58 = .ok (.bipush 8, 2) := by decide +kernel
theorem dX6_init_60 : decode cX6_init 60 = .ok (.invokespecial 34, 3) := by decide +kernel
theorem dX6_init_63 : decode cX6_init 63 = .ok (.putfield 41, 3) := by decide +kernel
theorem dX6_init_66 : decode cX6_init 66 = .ok (.aload_n 0, 1) := by decide +kernel
theorem dX6_init_67 : decode cX6_init 67 = .ok (.new 32, 3) := by decide +kernel
theorem dX6_init_70 : decode cX6_init 70 = .ok (.dup, 1) := by decide +kernel
theorem dX6_init_71 : decode cX6_init 71 = .ok (.bipush 8, 2) := by decide +kernel
theorem dX6_init_73 : decode cX6_init 73 = .ok (.invokespecial 34, 3) := by decide +kernel
theorem dX6_init_76 : decode cX6_init 76 = .ok (.putfield 44, 3) := by decide +kernel
theorem dX6_init_79 : decode cX6_init 79 = .ok (.aload_n 0, 1) := by decide +kernel
theorem dX6_init_80 : decode cX6_init 80 = .ok (.bipush 6, 2) := by decide +kernel
theorem dX6_init_82 : decode cX6_init 82 = .ok (.newarray .int, 2) := by decide +kernel
theorem dX6_init_84 : decode cX6_init 84 = .ok (.putfield 49, 3) := by decide +kernel
theorem dX6_init_87 : decode cX6_init 87 = .ok (.aload_n 0, 1) := by decide +kernel
theorem dX6_init_88 : decode cX6_init 88 = .ok (.aload_n 1, 1) := by decide +kernel
theorem dX6_init_89 : decode cX6_init 89 = .ok (.putfield 52, 3) := by decide +kernel
theorem dX6_init_92 : decode cX6_init 92 = .ok (.iconst 0, 1) := by decide +kernel
theorem dX6_init_93 : decode cX6_init 93 = .ok (.istore_n 2, 1) := by decide +kernel
theorem dX6_init_94 : decode cX6_init 94 = .ok (.iload_n 2, 1) := by decide +kernel
theorem dX6_init_95 : decode cX6_init 95 = .ok (.bipush 6, 2) := by decide +kernel
theorem dX6_init_97 : decode cX6_init 97 = .ok (.if_icmp .ge 23, 3) := by decide +kernel
theorem dX6_init_100 : decode cX6_init 100 = .ok (.aload_n 0, 1) := by decide +kernel
theorem dX6_init_101 : decode cX6_init 101 = .ok (.getfield 17, 3) := by decide +kernel
theorem dX6_init_104 : decode cX6_init 104 = .ok (.iload_n 2, 1) := by decide +kernel
theorem dX6_init_105 : decode cX6_init 105 = .ok (.new 15, 3) := by decide +kernel
theorem dX6_init_108 : decode cX6_init 108 = .ok (.dup, 1) := by decide +kernel
theorem dX6_init_109 : decode cX6_init 109 = .ok (.iload_n 2, 1) := by decide +kernel
theorem dX6_init_110 : decode cX6_init 110 = .ok (.invokespecial 56, 3) := by decide +kernel
theorem dX6_init_113 : decode cX6_init 113 = .ok (.aastore, 1) := by decide +kernel
theorem dX6_init_114 : decode cX6_init 114 = .ok (.iinc 2 1, 3) := by decide +kernel
theorem dX6_init_117 : decode cX6_init 117 = .ok (.goto (-23), 3) := by decide +kernel
theorem dX6_init_120 : decode cX6_init 120 = .ok (.return_, 1) := by decide +kernel
theorem dX6_become_0 : decode cX6_become 0 = .ok (.aload_n 0, 1) := by decide +kernel
theorem dX6_become_1 : decode cX6_become 1 = .ok (.aload_n 1, 1) := by decide +kernel
theorem dX6_become_2 : decode cX6_become 2 = .ok (.getfield 9, 3) := by decide +kernel
theorem dX6_become_5 : decode cX6_become 5 = .ok (.putfield 9, 3) := by decide +kernel
theorem dX6_become_8 : decode cX6_become 8 = .ok (.aload_n 0, 1) := by decide +kernel
theorem dX6_become_9 : decode cX6_become 9 = .ok (.aload_n 1, 1) := by decide +kernel
theorem dX6_become_10 : decode cX6_become 10 = .ok (.getfield 57, 3) := by decide +kernel
theorem dX6_become_13 : decode cX6_become 13 = .ok (.putfield 57, 3) := by decide +kernel
theorem dX6_become_16 : decode cX6_become 16 = .ok (.aload_n 0, 1) := by decide +kernel
theorem dX6_become_17 : decode cX6_become 17 = .ok (.aload_n 1, 1) := by decide +kernel
theorem dX6_become_18 : decode cX6_become 18 = .ok (.getfield 60, 3) := by decide +kernel
theorem dX6_become_21 : decode cX6_become 21 = .ok (.putfield 60, 3) := by decide +kernel
theorem dX6_become_24 : decode cX6_become 24 = .ok (.aload_n 0, 1) := by decide +kernel
theorem dX6_become_25 : decode cX6_become 25 = .ok (.aload_n 1, 1) := by decide +kernel
theorem dX6_become_26 : decode cX6_become 26 = .ok (.getfield 63, 3) := by decide +kernel
theorem dX6_become_29 : decode cX6_become 29 = .ok (.putfield 63, 3) := by decide +kernel
theorem dX6_become_32 : decode cX6_become 32 = .ok (.aload_n 0, 1) := by decide +kernel
theorem dX6_become_33 : decode cX6_become 33 = .ok (.aload_n 1, 1) := by decide +kernel
theorem dX6_become_34 : decode cX6_become 34 = .ok (.getfield 66, 3) := by decide +kernel
theorem dX6_become_37 : decode cX6_become 37 = .ok (.putfield 66, 3) := by decide +kernel
theorem dX6_become_40 : decode cX6_become 40 = .ok (.aload_n 0, 1) := by decide +kernel
theorem dX6_become_41 : decode cX6_become 41 = .ok (.aload_n 1, 1) := by decide +kernel
theorem dX6_become_42 : decode cX6_become 42 = .ok (.getfield 52, 3) := by decide +kernel
theorem dX6_become_45 : decode cX6_become 45 = .ok (.putfield 52, 3) := by decide +kernel
theorem dX6_become_48 : decode cX6_become 48 = .ok (.iconst 0, 1) := by decide +kernel
theorem dX6_become_49 : decode cX6_become 49 = .ok (.istore_n 2, 1) := by decide +kernel
theorem dX6_become_50 : decode cX6_become 50 = .ok (.iload_n 2, 1) := by decide +kernel
theorem dX6_become_51 : decode cX6_become 51 = .ok (.aload_n 0, 1) := by decide +kernel
theorem dX6_become_52 : decode cX6_become 52 = .ok (.getfield 57, 3) := by decide +kernel
theorem dX6_become_55 : decode cX6_become 55 = .ok (.if_icmp .ge 24, 3) := by decide +kernel
theorem dX6_become_58 : decode cX6_become 58 = .ok (.aload_n 0, 1) := by decide +kernel
theorem dX6_become_59 : decode cX6_become 59 = .ok (.getfield 17, 3) := by decide +kernel
theorem dX6_become_62 : decode cX6_become 62 = .ok (.iload_n 2, 1) := by decide +kernel
theorem dX6_become_63 : decode cX6_become 63 = .ok (.aaload, 1) := by decide +kernel
theorem dX6_become_64 : decode cX6_become 64 = .ok (.aload_n 1, 1) := by decide +kernel
theorem dX6_become_65 : decode cX6_become 65 = .ok (.getfield 17, 3) := by decide +kernel
theorem dX6_become_68 : decode cX6_become 68 = .ok (.iload_n 2, 1) := by decide +kernel
theorem dX6_become_69 : decode cX6_become 69 = .ok (.aaload, 1) := by decide +kernel
theorem dX6_become_70 : decode cX6_become 70 = .ok (.invokevirtual 69, 3) := by decide +kernel
theorem dX6_become_73 : decode cX6_become 73 = .ok (.iinc 2 1, 3) := by decide +kernel
theorem dX6_become_76 : decode cX6_become 76 = .ok (.goto (-26), 3) := by decide +kernel
theorem dX6_become_79 : decode cX6_become 79 = .ok (.aload_n 1, 1) := by decide +kernel
theorem dX6_become_80 : decode cX6_become 80 = .ok (.getfield 21, 3) := by decide +kernel
theorem dX6_become_83 : decode cX6_become 83 = .ok (.iconst 0, 1) := by decide +kernel
theorem dX6_become_84 : decode cX6_become 84 = .ok (.aload_n 0, 1) := by decide +kernel
theorem dX6_become_85 : decode cX6_become 85 = .ok (.getfield 21, 3) := by decide +kernel
theorem dX6_become_88 : decode cX6_become 88 = .ok (.iconst 0, 1) := by decide +kernel
theorem dX6_become_89 : decode cX6_become 89 = .ok (.iconst 5, 1) := by decide +kernel
theorem dX6_become_90 : decode cX6_become 90 = .ok (.invokestatic 73, 3) := by decide +kernel
theorem dX6_become_93 : decode cX6_become 93 = .ok (.aload_n 1, 1) := by decide +kernel
theorem dX6_become_94 : decode cX6_become 94 = .ok (.getfield 25, 3) := by decide +kernel
theorem dX6_become_97 : decode cX6_become 97 = .ok (.iconst 0, 1) := by decide +kernel
theorem dX6_become_98 : decode cX6_become 98 = .ok (.aload_n 0, 1) := by decide +kernel
theorem dX6_become_99 : decode cX6_become 99 = .ok (.getfield 25, 3) := by decide +kernel
theorem dX6_become_102 : decode cX6_become 102 = .ok (.iconst 0, 1) := by decide +kernel
theorem dX6_become_103 : decode cX6_become 103 = .ok (.iconst 5, 1) := by decide +kernel
theorem dX6_become_104 : decode cX6_become 104 = .ok (.invokestatic 73, 3) := by decide +kernel
theorem dX6_become_107 : decode cX6_become 107 = .ok (.aload_n 1, 1) := by decide +kernel
theorem dX6_become_108 : decode cX6_become 108 = .ok (.getfield 28, 3) := by decide +kernel
theorem dX6_become_111 : decode cX6_become 111 = .ok (.iconst 0, 1) := by decide +kernel
theorem dX6_become_112 : decode cX6_become 112 = .ok (.aload_n 0, 1) := by decide +kernel
theorem dX6_become_113 : decode cX6_become 113 = .ok (.getfield 28, 3) := by decide +kernel
theorem dX6_become_116 : decode cX6_become 116 = .ok (.iconst 0, 1) := by decide +kernel
theorem dX6_become_117 : decode cX6_become 117 = .ok (.bipush 100, 2) := by decide +kernel
theorem dX6_become_119 : decode cX6_become 119 = .ok (.invokestatic 73, 3) := by decide +kernel
theorem dX6_become_122 : decode cX6_become 122 = .ok (.aload_n 0, 1) := by decide +kernel
theorem dX6_become_123 : decode cX6_become 123 = .ok (.getfield 37, 3) := by decide +kernel
theorem dX6_become_126 : decode cX6_become 126 = .ok (.aload_n 1, 1) := by decide +kernel
theorem dX6_become_127 : decode cX6_become 127 = .ok (.getfield 37, 3) := by decide +kernel
theorem dX6_become_130 : decode cX6_become 130 = .ok (.invokevirtual 79, 3) := by decide +kernel
theorem dX6_become_133 : decode cX6_become 133 = .ok (.aload_n 0, 1) := by decide +kernel
theorem dX6_become_134 : decode cX6_become 134 = .ok (.getfield 41, 3) := by decide +kernel
theorem dX6_become_137 : decode cX6_become 137 = .ok (.aload_n 1, 1) := by decide +kernel
theorem dX6_become_138 : decode cX6_become 138 = .ok (.getfield 41, 3) := by decide +kernel
theorem dX6_become_141 : decode cX6_become 141 = .ok (.invokevirtual 79, 3) := by decide +kernel
theorem dX6_become_144 : decode cX6_become 144 = .ok (.aload_n 0, 1) := by decide +kernel
theorem dX6_become_145 : decode cX6_become 145 = .ok (.getfield 44, 3) := by decide +kernel
theorem dX6_become_148 : decode cX6_become 148 = .ok (.aload_n 1, 1) := by decide +kernel
theorem dX6_become_149 : decode cX6_become 149 = .ok (.getfield 44, 3) := by decide +kernel
theorem dX6_become_152 : decode cX6_become 152 = .ok (.invokevirtual 79, 3) := by decide +kernel
theorem dX6_become_155 : decode cX6_become 155 = .ok (.return_, 1) := by decide +kernel
theorem dX6_addVintage_0 : decode cX6_addVintage 0 = .ok (.aload_n 0, 1) := by decide +kernel
theorem dX6_addVintage_1 : decode cX6_addVintage 1 = .ok (.getfield 21, 3) := by decide +kernel
theorem dX6_addVintage_4 : decode cX6_addVintage 4 = .ok (.aload_n 0, 1) := by decide +kernel
theorem dX6_addVintage_5 : decode cX6_addVintage 5 = .ok (.getfield 60, 3) := by decide +kernel
theorem dX6_addVintage_8 : decode cX6_addVintage 8 = .ok (.iload_n 1, 1) := by decide +kernel
theorem dX6_addVintage_9 : decode cX6_addVintage 9 = .ok (.iastore, 1) := by decide +kernel
theorem dX6_addVintage_10 : decode cX6_addVintage 10 = .ok (.aload_n 0, 1) := by decide +kernel
theorem dX6_addVintage_11 : decode cX6_addVintage 11 = .ok (.getfield 25, 3) := by decide +kernel
theorem dX6_addVintage_14 : decode cX6_addVintage 14 = .ok (.aload_n 0, 1) := by decide +kernel
theorem dX6_addVintage_15 : decode cX6_addVintage 15 = .ok (.getfield 60, 3) := by decide +kernel
theorem dX6_addVintage_18 : decode cX6_addVintage 18 = .ok (.iload_n 2, 1) := by decide +kernel
theorem dX6_addVintage_19 : decode cX6_addVintage 19 = .ok (.iastore, 1) := by decide +kernel
theorem dX6_addVintage_20 : decode cX6_addVintage 20 = .ok (.aload_n 0, 1) := by decide +kernel
theorem dX6_addVintage_21 : decode cX6_addVintage 21 = .ok (.dup, 1) := by decide +kernel
theorem dX6_addVintage_22 : decode cX6_addVintage 22 = .ok (.getfield 60, 3) := by decide +kernel
theorem dX6_addVintage_25 : decode cX6_addVintage 25 = .ok (.dup_x1, 1) := by decide +kernel
theorem dX6_addVintage_26 : decode cX6_addVintage 26 = .ok (.iconst 1, 1) := by decide +kernel
theorem dX6_addVintage_27 : decode cX6_addVintage 27 = .ok (.iadd, 1) := by decide +kernel
theorem dX6_addVintage_28 : decode cX6_addVintage 28 = .ok (.putfield 60, 3) := by decide +kernel
theorem dX6_addVintage_31 : decode cX6_addVintage 31 = .ok (.ireturn, 1) := by decide +kernel
theorem dX6_ageBy_0 : decode cX6_ageBy 0 = .ok (.aload_n 0, 1) := by decide +kernel
theorem dX6_ageBy_1 : decode cX6_ageBy 1 = .ok (.getfield 17, 3) := by decide +kernel
theorem dX6_ageBy_4 : decode cX6_ageBy 4 = .ok (.iload_n 1, 1) := by decide +kernel
theorem dX6_ageBy_5 : decode cX6_ageBy 5 = .ok (.aaload, 1) := by decide +kernel
theorem dX6_ageBy_6 : decode cX6_ageBy 6 = .ok (.aload_n 0, 1) := by decide +kernel
theorem dX6_ageBy_7 : decode cX6_ageBy 7 = .ok (.getfield 9, 3) := by decide +kernel
theorem dX6_ageBy_10 : decode cX6_ageBy 10 = .ok (.iload_n 2, 1) := by decide +kernel
theorem dX6_ageBy_11 : decode cX6_ageBy 11 = .ok (.iconst (-1), 1) := by decide +kernel
theorem dX6_ageBy_12 : decode cX6_ageBy 12 = .ok (.if_icmp .ne 7, 3) := by decide +kernel
theorem dX6_ageBy_15 : decode cX6_ageBy 15 = .ok (.iconst (-1), 1) := by decide +kernel
theorem dX6_ageBy_16 : decode cX6_ageBy 16 = .ok (.goto 9, 3) := by decide +kernel
theorem dX6_ageBy_19 : decode cX6_ageBy 19 = .ok (.aload_n 0, 1) := by decide +kernel
theorem dX6_ageBy_20 : decode cX6_ageBy 20 = .ok (.getfield 21, 3) := by decide +kernel
theorem dX6_ageBy_23 : decode cX6_ageBy 23 = .ok (.iload_n 2, 1) := by decide +kernel
theorem dX6_ageBy_24 : decode cX6_ageBy 24 = .ok (.iaload, 1) := by decide +kernel
theorem dX6_ageBy_25 : decode cX6_ageBy 25 = .ok (.invokevirtual 82, 3) := by decide +kernel
theorem dX6_ageBy_28 : decode cX6_ageBy 28 = .ok (.ireturn, 1) := by decide +kernel
theorem dX6_stageBy_0 : decode cX6_stageBy 0 = .ok (.aload_n 0, 1) := by decide +kernel
theorem dX6_stageBy_1 : decode cX6_stageBy 1 = .ok (.iload_n 1, 1) := by decide +kernel
theorem dX6_stageBy_2 : decode cX6_stageBy 2 = .ok (.aload_n 0, 1) := by decide +kernel
theorem dX6_stageBy_3 : decode cX6_stageBy 3 = .ok (.iload_n 1, 1) := by decide +kernel
theorem dX6_stageBy_4 : decode cX6_stageBy 4 = .ok (.iload_n 2, 1) := by decide +kernel
theorem dX6_stageBy_5 : decode cX6_stageBy 5 = .ok (.invokevirtual 86, 3) := by decide +kernel
theorem dX6_stageBy_8 : decode cX6_stageBy 8 = .ok (.invokevirtual 89, 3) := by decide +kernel
theorem dX6_stageBy_11 : decode cX6_stageBy 11 = .ok (.ireturn, 1) := by decide +kernel
theorem dX6_stageAt_0 : decode cX6_stageAt 0 = .ok (.aload_n 0, 1) := by decide +kernel
theorem dX6_stageAt_1 : decode cX6_stageAt 1 = .ok (.getfield 17, 3) := by decide +kernel
theorem dX6_stageAt_4 : decode cX6_stageAt 4 = .ok (.iload_n 1, 1) := by decide +kernel
theorem dX6_stageAt_5 : decode cX6_stageAt 5 = .ok (.aaload, 1) := by decide +kernel
theorem dX6_stageAt_6 : decode cX6_stageAt 6 = .ok (.iload_n 2, 1) := by decide +kernel
theorem dX6_stageAt_7 : decode cX6_stageAt 7 = .ok (.invokevirtual 92, 3) := by decide +kernel
theorem dX6_stageAt_10 : decode cX6_stageAt 10 = .ok (.ifCond .ne 5, 3) := by decide +kernel
theorem dX6_stageAt_13 : decode cX6_stageAt 13 = .ok (.iconst 0, 1) := by decide +kernel
theorem dX6_stageAt_14 : decode cX6_stageAt 14 = .ok (.ireturn, 1) := by decide +kernel
theorem dX6_stageAt_15 : decode cX6_stageAt 15 = .ok (.iload_n 2, 1) := by decide +kernel
theorem dX6_stageAt_16 : decode cX6_stageAt 16 = .ok (.aload_n 0, 1) := by decide +kernel
theorem dX6_stageAt_17 : decode cX6_stageAt 17 = .ok (.getfield 52, 3) := by decide +kernel
theorem dX6_stageAt_20 : decode cX6_stageAt 20 = .ok (.getfield 96, 3) := by decide +kernel
theorem dX6_stageAt_23 : decode cX6_stageAt 23 = .ok (.if_icmp .ge 5, 3) := by decide +kernel
theorem dX6_stageAt_26 : decode cX6_stageAt 26 = .ok (.iconst 1, 1) := by decide +kernel
theorem dX6_stageAt_27 : decode cX6_stageAt 27 = .ok (.ireturn, 1) := by decide +kernel
theorem dX6_stageAt_28 : decode cX6_stageAt 28 = .ok (.iload_n 2, 1) := by decide +kernel
theorem dX6_stageAt_29 : decode cX6_stageAt 29 = .ok (.aload_n 0, 1) := by decide +kernel
theorem dX6_stageAt_30 : decode cX6_stageAt 30 = .ok (.getfield 52, 3) := by decide +kernel
theorem dX6_stageAt_33 : decode cX6_stageAt 33 = .ok (.getfield 99, 3) := by decide +kernel
theorem dX6_stageAt_36 : decode cX6_stageAt 36 = .ok (.if_icmp .lt 7, 3) := by decide +kernel
theorem dX6_stageAt_39 : decode cX6_stageAt 39 = .ok (.iconst 3, 1) := by decide +kernel
theorem dX6_stageAt_40 : decode cX6_stageAt 40 = .ok (.goto 4, 3) := by decide +kernel
theorem dX6_stageAt_43 : decode cX6_stageAt 43 = .ok (.iconst 2, 1) := by decide +kernel
theorem dX6_stageAt_44 : decode cX6_stageAt 44 = .ok (.ireturn, 1) := by decide +kernel
theorem dX6_nerveBy_0 : decode cX6_nerveBy 0 = .ok (.aload_n 0, 1) := by decide +kernel
theorem dX6_nerveBy_1 : decode cX6_nerveBy 1 = .ok (.iload_n 1, 1) := by decide +kernel
theorem dX6_nerveBy_2 : decode cX6_nerveBy 2 = .ok (.iload_n 2, 1) := by decide +kernel
theorem dX6_nerveBy_3 : decode cX6_nerveBy 3 = .ok (.invokevirtual 86, 3) := by decide +kernel
theorem dX6_nerveBy_6 : decode cX6_nerveBy 6 = .ok (.istore_n 3, 1) := by decide +kernel
theorem dX6_nerveBy_7 : decode cX6_nerveBy 7 = .ok (.aload_n 0, 1) := by decide +kernel
theorem dX6_nerveBy_8 : decode cX6_nerveBy 8 = .ok (.iload_n 1, 1) := by decide +kernel
theorem dX6_nerveBy_9 : decode cX6_nerveBy 9 = .ok (.iload_n 3, 1) := by decide +kernel
theorem dX6_nerveBy_10 : decode cX6_nerveBy 10 = .ok (.invokevirtual 89, 3) := by decide +kernel
theorem dX6_nerveBy_13 : decode cX6_nerveBy 13 = .ok (.istore 4, 2) := by decide +kernel
theorem dX6_nerveBy_15 : decode cX6_nerveBy 15 = .ok (.iload 4, 2) := by decide +kernel
theorem dX6_nerveBy_17 : decode cX6_nerveBy 17 = .ok (.ifCond .ne 5, 3) := by decide +kernel
theorem dX6_nerveBy_20 : decode cX6_nerveBy 20 = .ok (.iconst 0, 1) := by decide +kernel
theorem dX6_nerveBy_21 : decode cX6_nerveBy 21 = .ok (.ireturn, 1) := by decide +kernel
theorem dX6_nerveBy_22 : decode cX6_nerveBy 22 = .ok (.aload_n 0, 1) := by decide +kernel
theorem dX6_nerveBy_23 : decode cX6_nerveBy 23 = .ok (.getfield 49, 3) := by decide +kernel
theorem dX6_nerveBy_26 : decode cX6_nerveBy 26 = .ok (.iconst 0, 1) := by decide +kernel
theorem dX6_nerveBy_27 : decode cX6_nerveBy 27 = .ok (.iload_n 1, 1) := by decide +kernel
theorem dX6_nerveBy_28 : decode cX6_nerveBy 28 = .ok (.iastore, 1) := by decide +kernel
theorem dX6_nerveBy_29 : decode cX6_nerveBy 29 = .ok (.aload_n 0, 1) := by decide +kernel
theorem dX6_nerveBy_30 : decode cX6_nerveBy 30 = .ok (.getfield 49, 3) := by decide +kernel
theorem dX6_nerveBy_33 : decode cX6_nerveBy 33 = .ok (.iconst 1, 1) := by decide +kernel
theorem dX6_nerveBy_34 : decode cX6_nerveBy 34 = .ok (.aload_n 0, 1) := by decide +kernel
theorem dX6_nerveBy_35 : decode cX6_nerveBy 35 = .ok (.getfield 17, 3) := by decide +kernel
theorem dX6_nerveBy_38 : decode cX6_nerveBy 38 = .ok (.iload_n 1, 1) := by decide +kernel
theorem dX6_nerveBy_39 : decode cX6_nerveBy 39 = .ok (.aaload, 1) := by decide +kernel
theorem dX6_nerveBy_40 : decode cX6_nerveBy 40 = .ok (.getfield 102, 3) := by decide +kernel
theorem dX6_nerveBy_43 : decode cX6_nerveBy 43 = .ok (.iastore, 1) := by decide +kernel
theorem dX6_nerveBy_44 : decode cX6_nerveBy 44 = .ok (.aload_n 0, 1) := by decide +kernel
theorem dX6_nerveBy_45 : decode cX6_nerveBy 45 = .ok (.getfield 49, 3) := by decide +kernel
theorem dX6_nerveBy_48 : decode cX6_nerveBy 48 = .ok (.iconst 2, 1) := by decide +kernel
theorem dX6_nerveBy_49 : decode cX6_nerveBy 49 = .ok (.aload_n 0, 1) := by decide +kernel
theorem dX6_nerveBy_50 : decode cX6_nerveBy 50 = .ok (.getfield 17, 3) := by decide +kernel
theorem dX6_nerveBy_53 : decode cX6_nerveBy 53 = .ok (.iload_n 1, 1) := by decide +kernel
theorem dX6_nerveBy_54 : decode cX6_nerveBy 54 = .ok (.aaload, 1) := by decide +kernel
theorem dX6_nerveBy_55 : decode cX6_nerveBy 55 = .ok (.getfield 105, 3) := by decide +kernel
theorem dX6_nerveBy_58 : decode cX6_nerveBy 58 = .ok (.iastore, 1) := by decide +kernel
theorem dX6_nerveBy_59 : decode cX6_nerveBy 59 = .ok (.aload_n 0, 1) := by decide +kernel
theorem dX6_nerveBy_60 : decode cX6_nerveBy 60 = .ok (.getfield 49, 3) := by decide +kernel
theorem dX6_nerveBy_63 : decode cX6_nerveBy 63 = .ok (.iconst 3, 1) := by decide +kernel
theorem dX6_nerveBy_64 : decode cX6_nerveBy 64 = .ok (.iload_n 3, 1) := by decide +kernel
theorem dX6_nerveBy_65 : decode cX6_nerveBy 65 = .ok (.bipush 10, 2) := by decide +kernel
theorem dX6_nerveBy_67 : decode cX6_nerveBy 67 = .ok (.idiv, 1) := by decide +kernel
theorem dX6_nerveBy_68 : decode cX6_nerveBy 68 = .ok (.iastore, 1) := by decide +kernel
theorem dX6_nerveBy_69 : decode cX6_nerveBy 69 = .ok (.aload_n 0, 1) := by decide +kernel
theorem dX6_nerveBy_70 : decode cX6_nerveBy 70 = .ok (.getfield 49, 3) := by decide +kernel
theorem dX6_nerveBy_73 : decode cX6_nerveBy 73 = .ok (.iconst 4, 1) := by decide +kernel
theorem dX6_nerveBy_74 : decode cX6_nerveBy 74 = .ok (.iload 4, 2) := by decide +kernel
theorem dX6_nerveBy_76 : decode cX6_nerveBy 76 = .ok (.iastore, 1) := by decide +kernel
theorem dX6_nerveBy_77 : decode cX6_nerveBy 77 = .ok (.aload_n 0, 1) := by decide +kernel
theorem dX6_nerveBy_78 : decode cX6_nerveBy 78 = .ok (.getfield 49, 3) := by decide +kernel
theorem dX6_nerveBy_81 : decode cX6_nerveBy 81 = .ok (.iconst 5, 1) := by decide +kernel
theorem dX6_nerveBy_82 : decode cX6_nerveBy 82 = .ok (.iload_n 2, 1) := by decide +kernel
theorem dX6_nerveBy_83 : decode cX6_nerveBy 83 = .ok (.iconst (-1), 1) := by decide +kernel
theorem dX6_nerveBy_84 : decode cX6_nerveBy 84 = .ok (.if_icmp .ne 8, 3) := by decide +kernel
theorem dX6_nerveBy_87 : decode cX6_nerveBy 87 = .ok (.bipush 9, 2) := by decide +kernel
theorem dX6_nerveBy_89 : decode cX6_nerveBy 89 = .ok (.goto 4, 3) := by decide +kernel
theorem dX6_nerveBy_92 : decode cX6_nerveBy 92 = .ok (.iload_n 2, 1) := by decide +kernel
theorem dX6_nerveBy_93 : decode cX6_nerveBy 93 = .ok (.iastore, 1) := by decide +kernel
theorem dX6_nerveBy_94 : decode cX6_nerveBy 94 = .ok (.aload_n 0, 1) := by decide +kernel
theorem dX6_nerveBy_95 : decode cX6_nerveBy 95 = .ok (.getfield 52, 3) := by decide +kernel
theorem dX6_nerveBy_98 : decode cX6_nerveBy 98 = .ok (.aload_n 0, 1) := by decide +kernel
theorem dX6_nerveBy_99 : decode cX6_nerveBy 99 = .ok (.getfield 49, 3) := by decide +kernel
theorem dX6_nerveBy_102 : decode cX6_nerveBy 102 = .ok (.invokevirtual 108, 3) := by decide +kernel
theorem dX6_nerveBy_105 : decode cX6_nerveBy 105 = .ok (.ireturn, 1) := by decide +kernel
theorem dX6_whoIsHere_0 : decode cX6_whoIsHere 0 = .ok (.iconst 0, 1) := by decide +kernel
theorem dX6_whoIsHere_1 : decode cX6_whoIsHere 1 = .ok (.istore_n 1, 1) := by decide +kernel
theorem dX6_whoIsHere_2 : decode cX6_whoIsHere 2 = .ok (.iconst 0, 1) := by decide +kernel
theorem dX6_whoIsHere_3 : decode cX6_whoIsHere 3 = .ok (.istore_n 2, 1) := by decide +kernel
theorem dX6_whoIsHere_4 : decode cX6_whoIsHere 4 = .ok (.iload_n 2, 1) := by decide +kernel
theorem dX6_whoIsHere_5 : decode cX6_whoIsHere 5 = .ok (.aload_n 0, 1) := by decide +kernel
theorem dX6_whoIsHere_6 : decode cX6_whoIsHere 6 = .ok (.getfield 57, 3) := by decide +kernel
theorem dX6_whoIsHere_9 : decode cX6_whoIsHere 9 = .ok (.if_icmp .ge 32, 3) := by decide +kernel
theorem dX6_whoIsHere_12 : decode cX6_whoIsHere 12 = .ok (.aload_n 0, 1) := by decide +kernel
theorem dX6_whoIsHere_13 : decode cX6_whoIsHere 13 = .ok (.iload_n 2, 1) := by decide +kernel
theorem dX6_whoIsHere_14 : decode cX6_whoIsHere 14 = .ok (.aload_n 0, 1) := by decide +kernel
theorem dX6_whoIsHere_15 : decode cX6_whoIsHere 15 = .ok (.getfield 17, 3) := by decide +kernel
theorem dX6_whoIsHere_18 : decode cX6_whoIsHere 18 = .ok (.iload_n 2, 1) := by decide +kernel
theorem dX6_whoIsHere_19 : decode cX6_whoIsHere 19 = .ok (.aaload, 1) := by decide +kernel
theorem dX6_whoIsHere_20 : decode cX6_whoIsHere 20 = .ok (.getfield 112, 3) := by decide +kernel
theorem dX6_whoIsHere_23 : decode cX6_whoIsHere 23 = .ok (.invokevirtual 115, 3) := by decide +kernel
theorem dX6_whoIsHere_26 : decode cX6_whoIsHere 26 = .ok (.ifCond .le 9, 3) := by decide +kernel
theorem dX6_whoIsHere_29 : decode cX6_whoIsHere 29 = .ok (.iload_n 1, 1) := by decide +kernel
theorem dX6_whoIsHere_30 : decode cX6_whoIsHere 30 = .ok (.iconst 1, 1) := by decide +kernel
theorem dX6_whoIsHere_31 : decode cX6_whoIsHere 31 = .ok (.iload_n 2, 1) := by decide +kernel
theorem dX6_whoIsHere_32 : decode cX6_whoIsHere 32 = .ok (.ishl, 1) := by decide +kernel
theorem dX6_whoIsHere_33 : decode cX6_whoIsHere 33 = .ok (.ior, 1) := by decide +kernel
theorem dX6_whoIsHere_34 : decode cX6_whoIsHere 34 = .ok (.istore_n 1, 1) := by decide +kernel
theorem dX6_whoIsHere_35 : decode cX6_whoIsHere 35 = .ok (.iinc 2 1, 3) := by decide +kernel
theorem dX6_whoIsHere_38 : decode cX6_whoIsHere 38 = .ok (.goto (-34), 3) := by decide +kernel
theorem dX6_whoIsHere_41 : decode cX6_whoIsHere 41 = .ok (.iload_n 1, 1) := by decide +kernel
theorem dX6_whoIsHere_42 : decode cX6_whoIsHere 42 = .ok (.ireturn, 1) := by decide +kernel
theorem dX6_nerveOfAll_0 : decode cX6_nerveOfAll 0 = .ok (.iconst 0, 1) := by decide +kernel
theorem dX6_nerveOfAll_1 : decode cX6_nerveOfAll 1 = .ok (.istore_n 1, 1) := by decide +kernel
theorem dX6_nerveOfAll_2 : decode cX6_nerveOfAll 2 = .ok (.iconst 0, 1) := by decide +kernel
theorem dX6_nerveOfAll_3 : decode cX6_nerveOfAll 3 = .ok (.istore_n 2, 1) := by decide +kernel
theorem dX6_nerveOfAll_4 : decode cX6_nerveOfAll 4 = .ok (.iload_n 2, 1) := by decide +kernel
theorem dX6_nerveOfAll_5 : decode cX6_nerveOfAll 5 = .ok (.aload_n 0, 1) := by decide +kernel
theorem dX6_nerveOfAll_6 : decode cX6_nerveOfAll 6 = .ok (.getfield 57, 3) := by decide +kernel
theorem dX6_nerveOfAll_9 : decode cX6_nerveOfAll 9 = .ok (.if_icmp .ge 26, 3) := by decide +kernel
theorem dX6_nerveOfAll_12 : decode cX6_nerveOfAll 12 = .ok (.iload_n 1, 1) := by decide +kernel
theorem dX6_nerveOfAll_13 : decode cX6_nerveOfAll 13 = .ok (.aload_n 0, 1) := by decide +kernel
theorem dX6_nerveOfAll_14 : decode cX6_nerveOfAll 14 = .ok (.iload_n 2, 1) := by decide +kernel
theorem dX6_nerveOfAll_15 : decode cX6_nerveOfAll 15 = .ok (.aload_n 0, 1) := by decide +kernel
theorem dX6_nerveOfAll_16 : decode cX6_nerveOfAll 16 = .ok (.getfield 17, 3) := by decide +kernel
theorem dX6_nerveOfAll_19 : decode cX6_nerveOfAll 19 = .ok (.iload_n 2, 1) := by decide +kernel
theorem dX6_nerveOfAll_20 : decode cX6_nerveOfAll 20 = .ok (.aaload, 1) := by decide +kernel
theorem dX6_nerveOfAll_21 : decode cX6_nerveOfAll 21 = .ok (.getfield 112, 3) := by decide +kernel
theorem dX6_nerveOfAll_24 : decode cX6_nerveOfAll 24 = .ok (.invokevirtual 118, 3) := by decide +kernel
theorem dX6_nerveOfAll_27 : decode cX6_nerveOfAll 27 = .ok (.iadd, 1) := by decide +kernel
theorem dX6_nerveOfAll_28 : decode cX6_nerveOfAll 28 = .ok (.istore_n 1, 1) := by decide +kernel
theorem dX6_nerveOfAll_29 : decode cX6_nerveOfAll 29 = .ok (.iinc 2 1, 3) := by decide +kernel
theorem dX6_nerveOfAll_32 : decode cX6_nerveOfAll 32 = .ok (.goto (-28), 3) := by decide +kernel
theorem dX6_nerveOfAll_35 : decode cX6_nerveOfAll 35 = .ok (.iload_n 1, 1) := by decide +kernel
theorem dX6_nerveOfAll_36 : decode cX6_nerveOfAll 36 = .ok (.ireturn, 1) := by decide +kernel
theorem dX6_bottlesInAll_0 : decode cX6_bottlesInAll 0 = .ok (.iconst 0, 1) := by decide +kernel
theorem dX6_bottlesInAll_1 : decode cX6_bottlesInAll 1 = .ok (.istore_n 1, 1) := by decide +kernel
theorem dX6_bottlesInAll_2 : decode cX6_bottlesInAll 2 = .ok (.iconst 0, 1) := by decide +kernel
theorem dX6_bottlesInAll_3 : decode cX6_bottlesInAll 3 = .ok (.istore_n 2, 1) := by decide +kernel
theorem dX6_bottlesInAll_4 : decode cX6_bottlesInAll 4 = .ok (.iload_n 2, 1) := by decide +kernel
theorem dX6_bottlesInAll_5 : decode cX6_bottlesInAll 5 = .ok (.aload_n 0, 1) := by decide +kernel
theorem dX6_bottlesInAll_6 : decode cX6_bottlesInAll 6 = .ok (.getfield 60, 3) := by decide +kernel
theorem dX6_bottlesInAll_9 : decode cX6_bottlesInAll 9 = .ok (.if_icmp .ge 18, 3) := by decide +kernel
theorem dX6_bottlesInAll_12 : decode cX6_bottlesInAll 12 = .ok (.iload_n 1, 1) := by decide +kernel
theorem dX6_bottlesInAll_13 : decode cX6_bottlesInAll 13 = .ok (.aload_n 0, 1) := by decide +kernel
theorem dX6_bottlesInAll_14 : decode cX6_bottlesInAll 14 = .ok (.getfield 25, 3) := by decide +kernel
theorem dX6_bottlesInAll_17 : decode cX6_bottlesInAll 17 = .ok (.iload_n 2, 1) := by decide +kernel
theorem dX6_bottlesInAll_18 : decode cX6_bottlesInAll 18 = .ok (.iaload, 1) := by decide +kernel
theorem dX6_bottlesInAll_19 : decode cX6_bottlesInAll 19 = .ok (.iadd, 1) := by decide +kernel
theorem dX6_bottlesInAll_20 : decode cX6_bottlesInAll 20 = .ok (.istore_n 1, 1) := by decide +kernel
theorem dX6_bottlesInAll_21 : decode cX6_bottlesInAll 21 = .ok (.iinc 2 1, 3) := by decide +kernel
theorem dX6_bottlesInAll_24 : decode cX6_bottlesInAll 24 = .ok (.goto (-20), 3) := by decide +kernel
theorem dX6_bottlesInAll_27 : decode cX6_bottlesInAll 27 = .ok (.iload_n 1, 1) := by decide +kernel
theorem dX6_bottlesInAll_28 : decode cX6_bottlesInAll 28 = .ok (.ireturn, 1) := by decide +kernel
theorem dX6_pourOut_0 : decode cX6_pourOut 0 = .ok (.aload_n 0, 1) := by decide +kernel
theorem dX6_pourOut_1 : decode cX6_pourOut 1 = .ok (.getfield 25, 3) := by decide +kernel
theorem dX6_pourOut_4 : decode cX6_pourOut 4 = .ok (.iload_n 2, 1) := by decide +kernel
theorem dX6_pourOut_5 : decode cX6_pourOut 5 = .ok (.iaload, 1) := by decide +kernel
theorem dX6_pourOut_6 : decode cX6_pourOut 6 = .ok (.ifCond .ne 5, 3) := by decide +kernel
theorem dX6_pourOut_9 : decode cX6_pourOut 9 = .ok (.iconst 0, 1) := by decide +kernel
theorem dX6_pourOut_10 : decode cX6_pourOut 10 = .ok (.ireturn, 1) := by decide +kernel
theorem dX6_pourOut_11 : decode cX6_pourOut 11 = .ok (.aload_n 0, 1) := by decide +kernel
theorem dX6_pourOut_12 : decode cX6_pourOut 12 = .ok (.getfield 25, 3) := by decide +kernel
theorem dX6_pourOut_15 : decode cX6_pourOut 15 = .ok (.iload_n 2, 1) := by decide +kernel
theorem dX6_pourOut_16 : decode cX6_pourOut 16 = .ok (.dup2, 1) := by decide +kernel
theorem dX6_pourOut_17 : decode cX6_pourOut 17 = .ok (.iaload, 1) := by decide +kernel
theorem dX6_pourOut_18 : decode cX6_pourOut 18 = .ok (.iconst 1, 1) := by decide +kernel
theorem dX6_pourOut_19 : decode cX6_pourOut 19 = .ok (.isub, 1) := by decide +kernel
theorem dX6_pourOut_20 : decode cX6_pourOut 20 = .ok (.iastore, 1) := by decide +kernel
theorem dX6_pourOut_21 : decode cX6_pourOut 21 = .ok (.aload_n 0, 1) := by decide +kernel
theorem dX6_pourOut_22 : decode cX6_pourOut 22 = .ok (.getfield 17, 3) := by decide +kernel
theorem dX6_pourOut_25 : decode cX6_pourOut 25 = .ok (.iload_n 1, 1) := by decide +kernel
theorem dX6_pourOut_26 : decode cX6_pourOut 26 = .ok (.aaload, 1) := by decide +kernel
theorem dX6_pourOut_27 : decode cX6_pourOut 27 = .ok (.iload_n 2, 1) := by decide +kernel
theorem dX6_pourOut_28 : decode cX6_pourOut 28 = .ok (.putfield 112, 3) := by decide +kernel
theorem dX6_pourOut_31 : decode cX6_pourOut 31 = .ok (.iconst 1, 1) := by decide +kernel
theorem dX6_pourOut_32 : decode cX6_pourOut 32 = .ok (.ireturn, 1) := by decide +kernel
theorem dX6_growLight_0 : decode cX6_growLight 0 = .ok (.aload_n 0, 1) := by decide +kernel
theorem dX6_growLight_1 : decode cX6_growLight 1 = .ok (.dup, 1) := by decide +kernel
theorem dX6_growLight_2 : decode cX6_growLight 2 = .ok (.getfield 9, 3) := by decide +kernel
theorem dX6_growLight_5 : decode cX6_growLight 5 = .ok (.iload_n 1, 1) := by decide +kernel
theorem dX6_growLight_6 : decode cX6_growLight 6 = .ok (.iadd, 1) := by decide +kernel
theorem dX6_growLight_7 : decode cX6_growLight 7 = .ok (.putfield 9, 3) := by decide +kernel
theorem dX6_growLight_10 : decode cX6_growLight 10 = .ok (.iconst 0, 1) := by decide +kernel
theorem dX6_growLight_11 : decode cX6_growLight 11 = .ok (.istore_n 2, 1) := by decide +kernel
theorem dX6_growLight_12 : decode cX6_growLight 12 = .ok (.iload_n 2, 1) := by decide +kernel
theorem dX6_growLight_13 : decode cX6_growLight 13 = .ok (.aload_n 0, 1) := by decide +kernel
theorem dX6_growLight_14 : decode cX6_growLight 14 = .ok (.getfield 57, 3) := by decide +kernel
theorem dX6_growLight_17 : decode cX6_growLight 17 = .ok (.if_icmp .ge 19, 3) := by decide +kernel
theorem dX6_growLight_20 : decode cX6_growLight 20 = .ok (.aload_n 0, 1) := by decide +kernel
theorem dX6_growLight_21 : decode cX6_growLight 21 = .ok (.getfield 17, 3) := by decide +kernel
theorem dX6_growLight_24 : decode cX6_growLight 24 = .ok (.iload_n 2, 1) := by decide +kernel
theorem dX6_growLight_25 : decode cX6_growLight 25 = .ok (.aaload, 1) := by decide +kernel
theorem dX6_growLight_26 : decode cX6_growLight 26 = .ok (.iconst (-1), 1) := by decide +kernel
theorem dX6_growLight_27 : decode cX6_growLight 27 = .ok (.putfield 112, 3) := by decide +kernel
theorem dX6_growLight_30 : decode cX6_growLight 30 = .ok (.iinc 2 1, 3) := by decide +kernel
theorem dX6_growLight_33 : decode cX6_growLight 33 = .ok (.goto (-21), 3) := by decide +kernel
theorem dX6_growLight_36 : decode cX6_growLight 36 = .ok (.return_, 1) := by decide +kernel
theorem dX6_liveThroughNight_0 : decode cX6_liveThroughNight 0 = .ok (.iconst 0, 1) := by decide +kernel
theorem dX6_liveThroughNight_1 : decode cX6_liveThroughNight 1 = .ok (.istore_n 1, 1) := by decide +kernel
theorem dX6_liveThroughNight_2 : decode cX6_liveThroughNight 2 = .ok (.iload_n 1, 1) := by decide +kernel
theorem dX6_liveThroughNight_3 : decode cX6_liveThroughNight 3 = .ok (.aload_n 0, 1) := by decide +kernel
theorem dX6_liveThroughNight_4 : decode cX6_liveThroughNight 4 = .ok (.getfield 41, 3) := by decide +kernel
theorem dX6_liveThroughNight_7 : decode cX6_liveThroughNight 7 = .ok (.getfield 121, 3) := by decide +kernel
theorem dX6_liveThroughNight_10 : decode cX6_liveThroughNight 10 = .ok (.if_icmp .ge 86, 3) := by decide +kernel
theorem dX6_liveThroughNight_13 : decode cX6_liveThroughNight 13 = .ok (.aload_n 0, 1) := by decide +kernel
theorem dX6_liveThroughNight_14 : decode cX6_liveThroughNight 14 = .ok (.getfield 41, 3) := by decide +kernel
theorem dX6_liveThroughNight_17 : decode cX6_liveThroughNight 17 = .ok (.getfield 124, 3) := by decide +kernel
theorem dX6_liveThroughNight_20 : decode cX6_liveThroughNight 20 = .ok (.iload_n 1, 1) := by decide +kernel
theorem dX6_liveThroughNight_21 : decode cX6_liveThroughNight 21 = .ok (.iaload, 1) := by decide +kernel
theorem dX6_liveThroughNight_22 : decode cX6_liveThroughNight 22 = .ok (.ifCond .ne 11, 3) := by decide +kernel
theorem dX6_liveThroughNight_25 : decode cX6_liveThroughNight 25 = .ok (.aload_n 0, 1) := by decide +kernel
theorem dX6_liveThroughNight_26 : decode cX6_liveThroughNight 26 = .ok (.iconst 1, 1) := by decide +kernel
theorem dX6_liveThroughNight_27 : decode cX6_liveThroughNight 27 = .ok (.invokevirtual 127, 3) := by decide +kernel
theorem dX6_liveThroughNight_30 : decode cX6_liveThroughNight 30 = .ok (.goto 60, 3) := by decide +kernel
theorem dX6_liveThroughNight_33 : decode cX6_liveThroughNight 33 = .ok (.aload_n 0, 1) := by decide +kernel
theorem dX6_liveThroughNight_34 : decode cX6_liveThroughNight 34 = .ok (.getfield 41, 3) := by decide +kernel
theorem dX6_liveThroughNight_37 : decode cX6_liveThroughNight 37 = .ok (.getfield 124, 3) := by decide +kernel
theorem dX6_liveThroughNight_40 : decode cX6_liveThroughNight 40 = .ok (.iload_n 1, 1) := by decide +kernel
theorem dX6_liveThroughNight_41 : decode cX6_liveThroughNight 41 = .ok (.iaload, 1) := by decide +kernel
theorem dX6_liveThroughNight_42 : decode cX6_liveThroughNight 42 = .ok (.iconst 1, 1) := by decide +kernel
theorem dX6_liveThroughNight_43 : decode cX6_liveThroughNight 43 = .ok (.if_icmp .ne 29, 3) := by decide +kernel
theorem dX6_liveThroughNight_46 : decode cX6_liveThroughNight 46 = .ok (.aload_n 0, 1) := by decide +kernel
theorem dX6_liveThroughNight_47 : decode cX6_liveThroughNight 47 = .ok (.aload_n 0, 1) := by decide +kernel
theorem dX6_liveThroughNight_48 : decode cX6_liveThroughNight 48 = .ok (.getfield 41, 3) := by decide +kernel
theorem dX6_liveThroughNight_51 : decode cX6_liveThroughNight 51 = .ok (.getfield 130, 3) := by decide +kernel
theorem dX6_liveThroughNight_54 : decode cX6_liveThroughNight 54 = .ok (.iload_n 1, 1) := by decide +kernel
theorem dX6_liveThroughNight_55 : decode cX6_liveThroughNight 55 = .ok (.iaload, 1) := by decide +kernel
theorem dX6_liveThroughNight_56 : decode cX6_liveThroughNight 56 = .ok (.aload_n 0, 1) := by decide +kernel
theorem dX6_liveThroughNight_57 : decode cX6_liveThroughNight 57 = .ok (.getfield 41, 3) := by decide +kernel
theorem dX6_liveThroughNight_60 : decode cX6_liveThroughNight 60 = .ok (.getfield 133, 3) := by decide +kernel
theorem dX6_liveThroughNight_63 : decode cX6_liveThroughNight 63 = .ok (.iload_n 1, 1) := by decide +kernel
theorem dX6_liveThroughNight_64 : decode cX6_liveThroughNight 64 = .ok (.iaload, 1) := by decide +kernel
theorem dX6_liveThroughNight_65 : decode cX6_liveThroughNight 65 = .ok (.invokevirtual 136, 3) := by decide +kernel
theorem dX6_liveThroughNight_68 : decode cX6_liveThroughNight 68 = .ok (.pop, 1) := by decide +kernel
theorem dX6_liveThroughNight_69 : decode cX6_liveThroughNight 69 = .ok (.goto 21, 3) := by decide +kernel
theorem dX6_liveThroughNight_72 : decode cX6_liveThroughNight 72 = .ok (.aload_n 0, 1) := by decide +kernel
theorem dX6_liveThroughNight_73 : decode cX6_liveThroughNight 73 = .ok (.getfield 17, 3) := by decide +kernel
theorem dX6_liveThroughNight_76 : decode cX6_liveThroughNight 76 = .ok (.aload_n 0, 1) := by decide +kernel
theorem dX6_liveThroughNight_77 : decode cX6_liveThroughNight 77 = .ok (.getfield 41, 3) := by decide +kernel
theorem dX6_liveThroughNight_80 : decode cX6_liveThroughNight 80 = .ok (.getfield 130, 3) := by decide +kernel
theorem dX6_liveThroughNight_83 : decode cX6_liveThroughNight 83 = .ok (.iload_n 1, 1) := by decide +kernel
theorem dX6_liveThroughNight_84 : decode cX6_liveThroughNight 84 = .ok (.iaload, 1) := by decide +kernel
theorem dX6_liveThroughNight_85 : decode cX6_liveThroughNight 85 = .ok (.aaload, 1) := by decide +kernel
theorem dX6_liveThroughNight_86 : decode cX6_liveThroughNight 86 = .ok (.iconst (-1), 1) := by decide +kernel
theorem dX6_liveThroughNight_87 : decode cX6_liveThroughNight 87 = .ok (.putfield 112, 3) := by decide +kernel
theorem dX6_liveThroughNight_90 : decode cX6_liveThroughNight 90 = .ok (.iinc 1 1, 3) := by decide +kernel
theorem dX6_liveThroughNight_93 : decode cX6_liveThroughNight 93 = .ok (.goto (-91), 3) := by decide +kernel
theorem dX6_liveThroughNight_96 : decode cX6_liveThroughNight 96 = .ok (.return_, 1) := by decide +kernel
theorem dX6_isAsSeen_0 : decode cX6_isAsSeen 0 = .ok (.aload_n 0, 1) := by decide +kernel
theorem dX6_isAsSeen_1 : decode cX6_isAsSeen 1 = .ok (.getfield 17, 3) := by decide +kernel
theorem dX6_isAsSeen_4 : decode cX6_isAsSeen 4 = .ok (.iload_n 1, 1) := by decide +kernel
theorem dX6_isAsSeen_5 : decode cX6_isAsSeen 5 = .ok (.aaload, 1) := by decide +kernel
theorem dX6_isAsSeen_6 : decode cX6_isAsSeen 6 = .ok (.aload_n 0, 1) := by decide +kernel
theorem dX6_isAsSeen_7 : decode cX6_isAsSeen 7 = .ok (.getfield 9, 3) := by decide +kernel
theorem dX6_isAsSeen_10 : decode cX6_isAsSeen 10 = .ok (.iload_n 2, 1) := by decide +kernel
theorem dX6_isAsSeen_11 : decode cX6_isAsSeen 11 = .ok (.iconst (-1), 1) := by decide +kernel
theorem dX6_isAsSeen_12 : decode cX6_isAsSeen 12 = .ok (.if_icmp .ne 7, 3) := by decide +kernel
theorem dX6_isAsSeen_15 : decode cX6_isAsSeen 15 = .ok (.iconst (-1), 1) := by decide +kernel
theorem dX6_isAsSeen_16 : decode cX6_isAsSeen 16 = .ok (.goto 9, 3) := by decide +kernel
theorem dX6_isAsSeen_19 : decode cX6_isAsSeen 19 = .ok (.aload_n 0, 1) := by decide +kernel
theorem dX6_isAsSeen_20 : decode cX6_isAsSeen 20 = .ok (.getfield 21, 3) := by decide +kernel
theorem dX6_isAsSeen_23 : decode cX6_isAsSeen 23 = .ok (.iload_n 2, 1) := by decide +kernel
theorem dX6_isAsSeen_24 : decode cX6_isAsSeen 24 = .ok (.iaload, 1) := by decide +kernel
theorem dX6_isAsSeen_25 : decode cX6_isAsSeen 25 = .ok (.iload_n 3, 1) := by decide +kernel
theorem dX6_isAsSeen_26 : decode cX6_isAsSeen 26 = .ok (.iload 4, 2) := by decide +kernel
theorem dX6_isAsSeen_28 : decode cX6_isAsSeen 28 = .ok (.invokevirtual 140, 3) := by decide +kernel
theorem dX6_isAsSeen_31 : decode cX6_isAsSeen 31 = .ok (.istore 5, 2) := by decide +kernel
theorem dX6_isAsSeen_33 : decode cX6_isAsSeen 33 = .ok (.iconst 0, 1) := by decide +kernel
theorem dX6_isAsSeen_34 : decode cX6_isAsSeen 34 = .ok (.istore 6, 2) := by decide +kernel
theorem dX6_isAsSeen_36 : decode cX6_isAsSeen 36 = .ok (.iload 6, 2) := by decide +kernel
theorem dX6_isAsSeen_38 : decode cX6_isAsSeen 38 = .ok (.aload_n 0, 1) := by decide +kernel
theorem dX6_isAsSeen_39 : decode cX6_isAsSeen 39 = .ok (.getfield 37, 3) := by decide +kernel
theorem dX6_isAsSeen_42 : decode cX6_isAsSeen 42 = .ok (.getfield 121, 3) := by decide +kernel
theorem dX6_isAsSeen_45 : decode cX6_isAsSeen 45 = .ok (.if_icmp .ge 40, 3) := by decide +kernel
theorem dX6_isAsSeen_48 : decode cX6_isAsSeen 48 = .ok (.aload_n 0, 1) := by decide +kernel
theorem dX6_isAsSeen_49 : decode cX6_isAsSeen 49 = .ok (.getfield 37, 3) := by decide +kernel
theorem dX6_isAsSeen_52 : decode cX6_isAsSeen 52 = .ok (.getfield 130, 3) := by decide +kernel
theorem dX6_isAsSeen_55 : decode cX6_isAsSeen 55 = .ok (.iload 6, 2) := by decide +kernel
theorem dX6_isAsSeen_57 : decode cX6_isAsSeen 57 = .ok (.iaload, 1) := by decide +kernel
theorem dX6_isAsSeen_58 : decode cX6_isAsSeen 58 = .ok (.iload_n 1, 1) := by decide +kernel
theorem dX6_isAsSeen_59 : decode cX6_isAsSeen 59 = .ok (.if_icmp .ne 20, 3) := by decide +kernel
theorem dX6_isAsSeen_62 : decode cX6_isAsSeen 62 = .ok (.aload_n 0, 1) := by decide +kernel
theorem dX6_isAsSeen_63 : decode cX6_isAsSeen 63 = .ok (.getfield 37, 3) := by decide +kernel
theorem dX6_isAsSeen_66 : decode cX6_isAsSeen 66 = .ok (.getfield 133, 3) := by decide +kernel
theorem dX6_isAsSeen_69 : decode cX6_isAsSeen 69 = .ok (.iload 6, 2) := by decide +kernel
theorem dX6_isAsSeen_71 : decode cX6_isAsSeen 71 = .ok (.iaload, 1) := by decide +kernel
theorem dX6_isAsSeen_72 : decode cX6_isAsSeen 72 = .ok (.iload 5, 2) := by decide +kernel
theorem dX6_isAsSeen_74 : decode cX6_isAsSeen 74 = .ok (.if_icmp .eq 5, 3) := by decide +kernel
theorem dX6_isAsSeen_77 : decode cX6_isAsSeen 77 = .ok (.iconst 0, 1) := by decide +kernel
theorem dX6_isAsSeen_78 : decode cX6_isAsSeen 78 = .ok (.ireturn, 1) := by decide +kernel
theorem dX6_isAsSeen_79 : decode cX6_isAsSeen 79 = .ok (.iinc 6 1, 3) := by decide +kernel
theorem dX6_isAsSeen_82 : decode cX6_isAsSeen 82 = .ok (.goto (-46), 3) := by decide +kernel
theorem dX6_isAsSeen_85 : decode cX6_isAsSeen 85 = .ok (.iconst 1, 1) := by decide +kernel
theorem dX6_isAsSeen_86 : decode cX6_isAsSeen 86 = .ok (.ireturn, 1) := by decide +kernel
theorem dX7_init_0 : decode cX7_init 0 = .ok (.aload_n 0, 1) := by decide +kernel
theorem dX7_init_1 : decode cX7_init 1 = .ok (.invokespecial 3, 3) := by decide +kernel
theorem dX7_init_4 : decode cX7_init 4 = .ok (.aload_n 0, 1) := by decide +kernel
theorem dX7_init_5 : decode cX7_init 5 = .ok (.iconst 5, 1) := by decide +kernel
theorem dX7_init_6 : decode cX7_init 6 = .ok (.anewarray 11, 3) := by decide +kernel
theorem dX7_init_9 : decode cX7_init 9 = .ok (.putfield 13, 3) := by decide +kernel
theorem dX7_init_12 : decode cX7_init 12 = .ok (.aload_n 0, 1) := by decide +kernel
theorem dX7_init_13 : decode cX7_init 13 = .ok (.new 17, 3) := by decide +kernel
theorem dX7_init_16 : decode cX7_init 16 = .ok (.dup, 1) := by decide +kernel
theorem dX7_init_17 : decode cX7_init 17 = .ok (.invokespecial 19, 3) := by decide +kernel
theorem dX7_init_20 : decode cX7_init 20 = .ok (.putfield 20, 3) := by decide +kernel
theorem dX7_init_23 : decode cX7_init 23 = .ok (.new 11, 3) := by decide +kernel
theorem dX7_init_26 : decode cX7_init 26 = .ok (.dup, 1) := by decide +kernel
theorem dX7_init_27 : decode cX7_init 27 = .ok (.invokespecial 24, 3) := by decide +kernel
theorem dX7_init_30 : decode cX7_init 30 = .ok (.astore_n 1, 1) := by decide +kernel
theorem dX7_init_31 : decode cX7_init 31 = .ok (.aload_n 0, 1) := by decide +kernel
theorem dX7_init_32 : decode cX7_init 32 = .ok (.new 25, 3) := by decide +kernel
theorem dX7_init_35 : decode cX7_init 35 = .ok (.dup, 1) := by decide +kernel
theorem dX7_init_36 : decode cX7_init 36 = .ok (.aload_n 1, 1) := by decide +kernel
theorem dX7_init_37 : decode cX7_init 37 = .ok (.invokespecial 27, 3) := by decide +kernel
theorem dX7_init_40 : decode cX7_init 40 = .ok (.putfield 30, 3) := by decide +kernel
theorem dX7_init_43 : decode cX7_init 43 = .ok (.aload_n 0, 1) := by decide +kernel
theorem dX7_init_44 : decode cX7_init 44 = .ok (.new 25, 3) := by decide +kernel
theorem dX7_init_47 : decode cX7_init 47 = .ok (.dup, 1) := by decide +kernel
theorem dX7_init_48 : decode cX7_init 48 = .ok (.aload_n 1, 1) := by decide +kernel
theorem dX7_init_49 : decode cX7_init 49 = .ok (.invokespecial 27, 3) := by decide +kernel
theorem dX7_init_52 : decode cX7_init 52 = .ok (.putfield 34, 3) := by decide +kernel
theorem dX7_init_55 : decode cX7_init 55 = .ok (.aload_n 0, 1) := by decide +kernel
theorem dX7_init_56 : decode cX7_init 56 = .ok (.new 25, 3) := by decide +kernel
theorem dX7_init_59 : decode cX7_init 59 = .ok (.dup, 1) := by decide +kernel
theorem dX7_init_60 : decode cX7_init 60 = .ok (.aload_n 1, 1) := by decide +kernel
theorem dX7_init_61 : decode cX7_init 61 = .ok (.invokespecial 27, 3) := by decide +kernel
theorem dX7_init_64 : decode cX7_init 64 = .ok (.putfield 37, 3) := by decide +kernel
theorem dX7_init_67 : decode cX7_init 67 = .ok (.aload_n 0, 1) := by decide +kernel
theorem dX7_init_68 : decode cX7_init 68 = .ok (.new 40, 3) := by decide +kernel
theorem dX7_init_71 : decode cX7_init 71 = .ok (.dup, 1) := by decide +kernel
theorem dX7_init_72 : decode cX7_init 72 = .ok (.aload_n 0, 1) := by decide +kernel
theorem dX7_init_73 : decode cX7_init 73 = .ok (.getfield 30, 3) := by decide +kernel
theorem dX7_init_76 : decode cX7_init 76 = .ok (.invokespecial 42, 3) := by decide +kernel
theorem dX7_init_79 : decode cX7_init 79 = .ok (.putfield 45, 3) := by decide +kernel
theorem dX7_init_82 : decode cX7_init 82 = .ok (.iconst 0, 1) := by decide +kernel
theorem dX7_init_83 : decode cX7_init 83 = .ok (.istore_n 2, 1) := by decide +kernel
theorem dX7_init_84 : decode cX7_init 84 = .ok (.iload_n 2, 1) := by decide +kernel
theorem dX7_init_85 : decode cX7_init 85 = .ok (.aload_n 0, 1) := by decide +kernel
theorem dX7_init_86 : decode cX7_init 86 = .ok (.getfield 13, 3) := by decide +kernel
theorem dX7_init_89 : decode cX7_init 89 = .ok (.arraylength, 1) := by decide +kernel
theorem dX7_init_90 : decode cX7_init 90 = .ok (.if_icmp .ge 22, 3) := by decide +kernel
theorem dX7_init_93 : decode cX7_init 93 = .ok (.aload_n 0, 1) := by decide +kernel
theorem dX7_init_94 : decode cX7_init 94 = .ok (.getfield 13, 3) := by decide +kernel
theorem dX7_init_97 : decode cX7_init 97 = .ok (.iload_n 2, 1) := by decide +kernel
theorem dX7_init_98 : decode cX7_init 98 = .ok (.new 11, 3) := by decide +kernel
theorem dX7_init_101 : decode cX7_init 101 = .ok (.dup, 1) := by decide +kernel
theorem dX7_init_102 : decode cX7_init 102 = .ok (.invokespecial 24, 3) := by decide +kernel
theorem dX7_init_105 : decode cX7_init 105 = .ok (.aastore, 1) := by decide +kernel
theorem dX7_init_106 : decode cX7_init 106 = .ok (.iinc 2 1, 3) := by decide +kernel
theorem dX7_init_109 : decode cX7_init 109 = .ok (.goto (-25), 3) := by decide +kernel
theorem dX7_init_112 : decode cX7_init 112 = .ok (.return_, 1) := by decide +kernel
theorem dX7_feed_0 : decode cX7_feed 0 = .ok (.iload_n 1, 1) := by decide +kernel
theorem dX7_feed_1 : decode cX7_feed 1 = .ok (.ifCond .lt 9, 3) := by decide +kernel
theorem dX7_feed_4 : decode cX7_feed 4 = .ok (.iload_n 1, 1) := by decide +kernel
theorem dX7_feed_5 : decode cX7_feed 5 = .ok (.bipush 127, 2) := by decide +kernel
theorem dX7_feed_7 : decode cX7_feed 7 = .ok (.if_icmp .le 6, 3) := by decide +kernel
theorem dX7_feed_10 : decode cX7_feed 10 = .ok (.bipush (-2), 2) := by decide +kernel
theorem dX7_feed_12 : decode cX7_feed 12 = .ok (.ireturn, 1) := by decide +kernel
theorem dX7_feed_13 : decode cX7_feed 13 = .ok (.aload_n 0, 1) := by decide +kernel
theorem dX7_feed_14 : decode cX7_feed 14 = .ok (.getfield 30, 3) := by decide +kernel
theorem dX7_feed_17 : decode cX7_feed 17 = .ok (.getfield 49, 3) := by decide +kernel
theorem dX7_feed_20 : decode cX7_feed 20 = .ok (.bipush 100, 2) := by decide +kernel
theorem dX7_feed_22 : decode cX7_feed 22 = .ok (.if_icmp .lt 6, 3) := by decide +kernel
theorem dX7_feed_25 : decode cX7_feed 25 = .ok (.bipush (-4), 2) := by decide +kernel
theorem dX7_feed_27 : decode cX7_feed 27 = .ok (.ireturn, 1) := by decide +kernel
theorem dX7_feed_28 : decode cX7_feed 28 = .ok (.aload_n 0, 1) := by decide +kernel
theorem dX7_feed_29 : decode cX7_feed 29 = .ok (.getfield 30, 3) := by decide +kernel
theorem dX7_feed_32 : decode cX7_feed 32 = .ok (.getfield 53, 3) := by decide +kernel
theorem dX7_feed_35 : decode cX7_feed 35 = .ok (.aload_n 0, 1) := by decide +kernel
theorem dX7_feed_36 : decode cX7_feed 36 = .ok (.getfield 30, 3) := by decide +kernel
theorem dX7_feed_39 : decode cX7_feed 39 = .ok (.dup, 1) := by decide +kernel
theorem dX7_feed_40 : decode cX7_feed 40 = .ok (.getfield 49, 3) := by decide +kernel
theorem dX7_feed_43 : decode cX7_feed 43 = .ok (.dup_x1, 1) := by decide +kernel
theorem dX7_feed_44 : decode cX7_feed 44 = .ok (.iconst 1, 1) := by decide +kernel
theorem dX7_feed_45 : decode cX7_feed 45 = .ok (.iadd, 1) := by decide +kernel
theorem dX7_feed_46 : decode cX7_feed 46 = .ok (.putfield 49, 3) := by decide +kernel
theorem dX7_feed_49 : decode cX7_feed 49 = .ok (.iload_n 1, 1) := by decide +kernel
theorem dX7_feed_50 : decode cX7_feed 50 = .ok (.i2c, 1) := by decide +kernel
theorem dX7_feed_51 : decode cX7_feed 51 = .ok (.castore, 1) := by decide +kernel
theorem dX7_feed_52 : decode cX7_feed 52 = .ok (.aload_n 0, 1) := by decide +kernel
theorem dX7_feed_53 : decode cX7_feed 53 = .ok (.getfield 30, 3) := by decide +kernel
theorem dX7_feed_56 : decode cX7_feed 56 = .ok (.getfield 49, 3) := by decide +kernel
theorem dX7_feed_59 : decode cX7_feed 59 = .ok (.ireturn, 1) := by decide +kernel
theorem dX7_village_0 : decode cX7_village 0 = .ok (.aload_n 0, 1) := by decide +kernel
theorem dX7_village_1 : decode cX7_village 1 = .ok (.getfield 30, 3) := by decide +kernel
theorem dX7_village_4 : decode cX7_village 4 = .ok (.getfield 57, 3) := by decide +kernel
theorem dX7_village_7 : decode cX7_village 7 = .ok (.iconst 5, 1) := by decide +kernel
theorem dX7_village_8 : decode cX7_village 8 = .ok (.if_icmp .lt 6, 3) := by decide +kernel
theorem dX7_village_11 : decode cX7_village 11 = .ok (.bipush (-4), 2) := by decide +kernel
theorem dX7_village_13 : decode cX7_village 13 = .ok (.ireturn, 1) := by decide +kernel
theorem dX7_village_14 : decode cX7_village 14 = .ok (.aload_n 0, 1) := by decide +kernel
theorem dX7_village_15 : decode cX7_village 15 = .ok (.getfield 13, 3) := by decide +kernel
theorem dX7_village_18 : decode cX7_village 18 = .ok (.aload_n 0, 1) := by decide +kernel
theorem dX7_village_19 : decode cX7_village 19 = .ok (.getfield 30, 3) := by decide +kernel
theorem dX7_village_22 : decode cX7_village 22 = .ok (.getfield 57, 3) := by decide +kernel
theorem dX7_village_25 : decode cX7_village 25 = .ok (.aaload, 1) := by decide +kernel
theorem dX7_village_26 : decode cX7_village 26 = .ok (.astore_n 1, 1) := by decide +kernel
theorem dX7_village_27 : decode cX7_village 27 = .ok (.new 59, 3) := by decide +kernel
theorem dX7_village_30 : decode cX7_village 30 = .ok (.dup, 1) := by decide +kernel
theorem dX7_village_31 : decode cX7_village 31 = .ok (.aload_n 0, 1) := by decide +kernel
theorem dX7_village_32 : decode cX7_village 32 = .ok (.getfield 30, 3) := by decide +kernel
theorem dX7_village_35 : decode cX7_village 35 = .ok (.getfield 53, 3) := by decide +kernel
theorem dX7_village_38 : decode cX7_village 38 = .ok (.aload_n 0, 1) := by decide +kernel
theorem dX7_village_39 : decode cX7_village 39 = .ok (.getfield 30, 3) := by decide +kernel
theorem dX7_village_42 : decode cX7_village 42 = .ok (.getfield 49, 3) := by decide +kernel
theorem dX7_village_45 : decode cX7_village 45 = .ok (.aload_n 1, 1) := by decide +kernel
theorem dX7_village_46 : decode cX7_village 46 = .ok (.invokespecial 61, 3) := by decide +kernel
theorem dX7_village_49 : decode cX7_village 49 = .ok (.astore_n 2, 1) := by decide +kernel
theorem dX7_village_50 : decode cX7_village 50 = .ok (.aload_n 2, 1) := by decide +kernel
theorem dX7_village_51 : decode cX7_village 51 = .ok (.invokevirtual 64, 3) := by decide +kernel
theorem dX7_village_54 : decode cX7_village 54 = .ok (.istore_n 3, 1) := by decide +kernel
theorem dX7_village_55 : decode cX7_village 55 = .ok (.aload_n 0, 1) := by decide +kernel
theorem dX7_village_56 : decode cX7_village 56 = .ok (.getfield 30, 3) := by decide +kernel
theorem dX7_village_59 : decode cX7_village 59 = .ok (.iconst 0, 1) := by decide +kernel
theorem dX7_village_60 : decode cX7_village 60 = .ok (.putfield 49, 3) := by decide +kernel
theorem dX7_village_63 : decode cX7_village 63 = .ok (.iload_n 3, 1) := by decide +kernel
theorem dX7_village_64 : decode cX7_village 64 = .ok (.ifCond .ne 11, 3) := by decide +kernel
theorem dX7_village_67 : decode cX7_village 67 = .ok (.bipush (-10), 2) := by decide +kernel
theorem dX7_village_69 : decode cX7_village 69 = .ok (.aload_n 2, 1) := by decide +kernel
theorem dX7_village_70 : decode cX7_village 70 = .ok (.getfield 68, 3) := by decide +kernel
theorem dX7_village_73 : decode cX7_village 73 = .ok (.isub, 1) := by decide +kernel
theorem dX7_village_74 : decode cX7_village 74 = .ok (.ireturn, 1) := by decide +kernel
theorem dX7_village_75 : decode cX7_village 75 = .ok (.aload_n 0, 1) := by decide +kernel
theorem dX7_village_76 : decode cX7_village 76 = .ok (.getfield 30, 3) := by decide +kernel
theorem dX7_village_79 : decode cX7_village 79 = .ok (.aload_n 1, 1) := by decide +kernel
theorem dX7_village_80 : decode cX7_village 80 = .ok (.putfield 71, 3) := by decide +kernel
theorem dX7_village_83 : decode cX7_village 83 = .ok (.aload_n 0, 1) := by decide +kernel
theorem dX7_village_84 : decode cX7_village 84 = .ok (.getfield 30, 3) := by decide +kernel
theorem dX7_village_87 : decode cX7_village 87 = .ok (.dup, 1) := by decide +kernel
theorem dX7_village_88 : decode cX7_village 88 = .ok (.getfield 57, 3) := by decide +kernel
theorem dX7_village_91 : decode cX7_village 91 = .ok (.dup_x1, 1) := by decide +kernel
theorem dX7_village_92 : decode cX7_village 92 = .ok (.iconst 1, 1) := by decide +kernel
theorem dX7_village_93 : decode cX7_village 93 = .ok (.iadd, 1) := by decide +kernel
theorem dX7_village_94 : decode cX7_village 94 = .ok (.putfield 57, 3) := by decide +kernel
theorem dX7_village_97 : decode cX7_village 97 = .ok (.ireturn, 1) := by decide +kernel
theorem dX7_person_0 : decode cX7_person 0 = .ok (.iload_n 1, 1) := by decide +kernel
theorem dX7_person_1 : decode cX7_person 1 = .ok (.invokestatic 75, 3) := by decide +kernel
theorem dX7_person_4 : decode cX7_person 4 = .ok (.ifCond .ne 5, 3) := by decide +kernel
theorem dX7_person_7 : decode cX7_person 7 = .ok (.iconst (-1), 1) := by decide +kernel
theorem dX7_person_8 : decode cX7_person 8 = .ok (.ireturn, 1) := by decide +kernel
theorem dX7_person_9 : decode cX7_person 9 = .ok (.iload_n 2, 1) := by decide +kernel
theorem dX7_person_10 : decode cX7_person 10 = .ok (.invokestatic 79, 3) := by decide +kernel
theorem dX7_person_13 : decode cX7_person 13 = .ok (.ifCond .eq 26, 3) := by decide +kernel
theorem dX7_person_16 : decode cX7_person 16 = .ok (.iload_n 3, 1) := by decide +kernel
theorem dX7_person_17 : decode cX7_person 17 = .ok (.ifCond .lt 22, 3) := by decide +kernel
theorem dX7_person_20 : decode cX7_person 20 = .ok (.iload_n 3, 1) := by decide +kernel
theorem dX7_person_21 : decode cX7_person 21 = .ok (.sipush 200, 3) := by decide +kernel
theorem dX7_person_24 : decode cX7_person 24 = .ok (.if_icmp .ge 15, 3) := by decide +kernel
theorem dX7_person_27 : decode cX7_person 27 = .ok (.iload 4, 2) := by decide +kernel
theorem dX7_person_29 : decode cX7_person 29 = .ok (.ifCond .lt 10, 3) := by decide +kernel
theorem dX7_person_32 : decode cX7_person 32 = .ok (.iload 4, 2) := by decide +kernel
theorem dX7_person_34 : decode cX7_person 34 = .ok (.bipush 120, 2) := by decide +kernel
theorem dX7_person_36 : decode cX7_person 36 = .ok (.if_icmp .le 6, 3) := by decide +kernel
theorem dX7_person_39 : decode cX7_person 39 = .ok (.bipush (-2), 2) := by decide +kernel
theorem dX7_person_41 : decode cX7_person 41 = .ok (.ireturn, 1) := by decide +kernel
theorem dX7_person_42 : decode cX7_person 42 = .ok (.aload_n 0, 1) := by decide +kernel
theorem dX7_person_43 : decode cX7_person 43 = .ok (.getfield 30, 3) := by decide +kernel
theorem dX7_person_46 : decode cX7_person 46 = .ok (.getfield 82, 3) := by decide +kernel
theorem dX7_person_49 : decode cX7_person 49 = .ok (.bipush 6, 2) := by decide +kernel
theorem dX7_person_51 : decode cX7_person 51 = .ok (.if_icmp .lt 6, 3) := by decide +kernel
theorem dX7_person_54 : decode cX7_person 54 = .ok (.bipush (-4), 2) := by decide +kernel
theorem dX7_person_56 : decode cX7_person 56 = .ok (.ireturn, 1) := by decide +kernel
theorem dX7_person_57 : decode cX7_person 57 = .ok (.aload_n 0, 1) := by decide +kernel
theorem dX7_person_58 : decode cX7_person 58 = .ok (.getfield 30, 3) := by decide +kernel
theorem dX7_person_61 : decode cX7_person 61 = .ok (.getfield 85, 3) := by decide +kernel
theorem dX7_person_64 : decode cX7_person 64 = .ok (.aload_n 0, 1) := by decide +kernel
theorem dX7_person_65 : decode cX7_person 65 = .ok (.getfield 30, 3) := by decide +kernel
theorem dX7_person_68 : decode cX7_person 68 = .ok (.getfield 82, 3) := by decide +kernel
theorem dX7_person_71 : decode cX7_person 71 = .ok (.aaload, 1) := by decide +kernel
theorem dX7_person_72 : decode cX7_person 72 = .ok (.iload_n 1, 1) := by decide +kernel
theorem dX7_person_73 : decode cX7_person 73 = .ok (.iload_n 2, 1) := by decide +kernel
theorem dX7_person_74 : decode cX7_person 74 = .ok (.iload_n 3, 1) := by decide +kernel
theorem dX7_person_75 : decode cX7_person 75 = .ok (.iload 4, 2) := by decide +kernel
theorem dX7_person_77 : decode cX7_person 77 = .ok (.invokevirtual 89, 3) := by decide +kernel
theorem dX7_person_80 : decode cX7_person 80 = .ok (.aload_n 0, 1) := by decide +kernel
theorem dX7_person_81 : decode cX7_person 81 = .ok (.getfield 30, 3) := by decide +kernel
theorem dX7_person_84 : decode cX7_person 84 = .ok (.dup, 1) := by decide +kernel
theorem dX7_person_85 : decode cX7_person 85 = .ok (.getfield 82, 3) := by decide +kernel
theorem dX7_person_88 : decode cX7_person 88 = .ok (.dup_x1, 1) := by decide +kernel
theorem dX7_person_89 : decode cX7_person 89 = .ok (.iconst 1, 1) := by decide +kernel
theorem dX7_person_90 : decode cX7_person 90 = .ok (.iadd, 1) := by decide +kernel
theorem dX7_person_91 : decode cX7_person 91 = .ok (.putfield 82, 3) := by decide +kernel
theorem dX7_person_94 : decode cX7_person 94 = .ok (.ireturn, 1) := by decide +kernel
theorem dX7_vintage_0 : decode cX7_vintage 0 = .ok (.iload_n 1, 1) := by decide +kernel
theorem dX7_vintage_1 : decode cX7_vintage 1 = .ok (.ifCond .lt 17, 3) := by decide +kernel
theorem dX7_vintage_4 : decode cX7_vintage 4 = .ok (.iload_n 1, 1) := by decide +kernel
theorem dX7_vintage_5 : decode cX7_vintage 5 = .ok (.sipush 200, 3) := by decide +kernel
theorem dX7_vintage_8 : decode cX7_vintage 8 = .ok (.if_icmp .ge 10, 3) := by decide +kernel
theorem dX7_vintage_11 : decode cX7_vintage 11 = .ok (.iload_n 2, 1) := by decide +kernel
theorem dX7_vintage_12 : decode cX7_vintage 12 = .ok (.invokestatic 95, 3) := by decide +kernel
theorem dX7_vintage_15 : decode cX7_vintage 15 = .ok (.ifCond .ne 6, 3) := by decide +kernel
theorem dX7_vintage_18 : decode cX7_vintage 18 = .ok (.bipush (-2), 2) := by decide +kernel
theorem dX7_vintage_20 : decode cX7_vintage 20 = .ok (.ireturn, 1) := by decide +kernel
theorem dX7_vintage_21 : decode cX7_vintage 21 = .ok (.aload_n 0, 1) := by decide +kernel
theorem dX7_vintage_22 : decode cX7_vintage 22 = .ok (.getfield 30, 3) := by decide +kernel
theorem dX7_vintage_25 : decode cX7_vintage 25 = .ok (.getfield 98, 3) := by decide +kernel
theorem dX7_vintage_28 : decode cX7_vintage 28 = .ok (.iconst 5, 1) := by decide +kernel
theorem dX7_vintage_29 : decode cX7_vintage 29 = .ok (.if_icmp .lt 6, 3) := by decide +kernel
theorem dX7_vintage_32 : decode cX7_vintage 32 = .ok (.bipush (-4), 2) := by decide +kernel
theorem dX7_vintage_34 : decode cX7_vintage 34 = .ok (.ireturn, 1) := by decide +kernel
theorem dX7_vintage_35 : decode cX7_vintage 35 = .ok (.aload_n 0, 1) := by decide +kernel
theorem dX7_vintage_36 : decode cX7_vintage 36 = .ok (.getfield 30, 3) := by decide +kernel
theorem dX7_vintage_39 : decode cX7_vintage 39 = .ok (.iload_n 1, 1) := by decide +kernel
theorem dX7_vintage_40 : decode cX7_vintage 40 = .ok (.iload_n 2, 1) := by decide +kernel
theorem dX7_vintage_41 : decode cX7_vintage 41 = .ok (.invokevirtual 101, 3) := by decide +kernel
theorem dX7_vintage_44 : decode cX7_vintage 44 = .ok (.ireturn, 1) := by decide +kernel
theorem dX7_of_0 : decode cX7_of 0 = .ok (.aload_n 0, 1) := by decide +kernel
theorem dX7_of_1 : decode cX7_of 1 = .ok (.iload_n 1, 1) := by decide +kernel
theorem dX7_of_2 : decode cX7_of 2 = .ok (.invokevirtual 105, 3) := by decide +kernel
theorem dX7_of_5 : decode cX7_of 5 = .ok (.ifCond .ne 7, 3) := by decide +kernel
theorem dX7_of_8 : decode cX7_of 8 = .ok (.sipush (-10001), 3) := by decide +kernel
theorem dX7_of_11 : decode cX7_of 11 = .ok (.ireturn, 1) := by decide +kernel
theorem dX7_of_12 : decode cX7_of 12 = .ok (.aload_n 0, 1) := by decide +kernel
theorem dX7_of_13 : decode cX7_of 13 = .ok (.getfield 30, 3) := by decide +kernel
theorem dX7_of_16 : decode cX7_of 16 = .ok (.getfield 85, 3) := by decide +kernel
theorem dX7_of_19 : decode cX7_of 19 = .ok (.iload_n 1, 1) := by decide +kernel
theorem dX7_of_20 : decode cX7_of 20 = .ok (.aaload, 1) := by decide +kernel
theorem dX7_of_21 : decode cX7_of 21 = .ok (.astore_n 3, 1) := by decide +kernel
theorem dX7_of_22 : decode cX7_of 22 = .ok (.iload_n 2, 1) := by decide +kernel
theorem dX7_of_23 : decode cX7_of 23 = .ok (.tableswitch 137 0 8 #[49, 54, 59, 64, 69, 77, 90, 111, 124], 49) := by decide +kernel
theorem dX7_of_72 : decode cX7_of 72 = .ok (.aload_n 3, 1) := by decide +kernel
theorem dX7_of_73 : decode cX7_of 73 = .ok (.getfield 108, 3) := by decide +kernel
theorem dX7_of_76 : decode cX7_of 76 = .ok (.ireturn, 1) := by decide +kernel
theorem dX7_of_77 : decode cX7_of 77 = .ok (.aload_n 3, 1) := by decide +kernel
theorem dX7_of_78 : decode cX7_of 78 = .ok (.getfield 111, 3) := by decide +kernel
theorem dX7_of_81 : decode cX7_of 81 = .ok (.ireturn, 1) := by decide +kernel
theorem dX7_of_82 : decode cX7_of 82 = .ok (.aload_n 3, 1) := by decide +kernel
theorem dX7_of_83 : decode cX7_of 83 = .ok (.getfield 114, 3) := by decide +kernel
theorem dX7_of_86 : decode cX7_of 86 = .ok (.ireturn, 1) := by decide +kernel
theorem dX7_of_87 : decode cX7_of 87 = .ok (.aload_n 3, 1) := by decide +kernel
theorem dX7_of_88 : decode cX7_of 88 = .ok (.getfield 117, 3) := by decide +kernel
theorem dX7_of_91 : decode cX7_of 91 = .ok (.ireturn, 1) := by decide +kernel
theorem dX7_of_92 : decode cX7_of 92 = .ok (.aload_n 3, 1) := by decide +kernel
theorem dX7_of_93 : decode cX7_of 93 = .ok (.getfield 120, 3) := by decide +kernel
theorem dX7_of_96 : decode cX7_of 96 = .ok (.invokestatic 123, 3) := by decide +kernel
theorem dX7_of_99 : decode cX7_of 99 = .ok (.ireturn, 1) := by decide +kernel
theorem dX7_of_100 : decode cX7_of 100 = .ok (.aload_n 0, 1) := by decide +kernel
theorem dX7_of_101 : decode cX7_of 101 = .ok (.getfield 30, 3) := by decide +kernel
theorem dX7_of_104 : decode cX7_of 104 = .ok (.iload_n 1, 1) := by decide +kernel
theorem dX7_of_105 : decode cX7_of 105 = .ok (.aload_n 3, 1) := by decide +kernel
theorem dX7_of_106 : decode cX7_of 106 = .ok (.getfield 120, 3) := by decide +kernel
theorem dX7_of_109 : decode cX7_of 109 = .ok (.invokevirtual 127, 3) := by decide +kernel
theorem dX7_of_112 : decode cX7_of 112 = .ok (.ireturn, 1) := by decide +kernel
theorem dX7_of_113 : decode cX7_of 113 = .ok (.aload_n 0, 1) := by decide +kernel
theorem dX7_of_114 : decode cX7_of 114 = .ok (.getfield 30, 3) := by decide +kernel
theorem dX7_of_117 : decode cX7_of 117 = .ok (.iload_n 1, 1) := by decide +kernel
theorem dX7_of_118 : decode cX7_of 118 = .ok (.aload_n 3, 1) := by decide +kernel
theorem dX7_of_119 : decode cX7_of 119 = .ok (.getfield 120, 3) := by decide +kernel
theorem dX7_of_122 : decode cX7_of 122 = .ok (.invokevirtual 130, 3) := by decide +kernel
theorem dX7_of_125 : decode cX7_of 125 = .ok (.ifCond .le 7, 3) := by decide +kernel
theorem dX7_of_128 : decode cX7_of 128 = .ok (.iconst 1, 1) := by decide +kernel
theorem dX7_of_129 : decode cX7_of 129 = .ok (.goto 4, 3) := by decide +kernel
theorem dX7_of_132 : decode cX7_of 132 = .ok (.iconst 0, 1) := by decide +kernel
theorem dX7_of_133 : decode cX7_of 133 = .ok (.ireturn, 1) := by decide +kernel
theorem dX7_of_134 : decode cX7_of 134 = .ok (.aload_n 0, 1) := by decide +kernel
theorem dX7_of_135 : decode cX7_of 135 = .ok (.getfield 30, 3) := by decide +kernel
theorem dX7_of_138 : decode cX7_of 138 = .ok (.iload_n 1, 1) := by decide +kernel
theorem dX7_of_139 : decode cX7_of 139 = .ok (.aload_n 3, 1) := by decide +kernel
theorem dX7_of_140 : decode cX7_of 140 = .ok (.getfield 120, 3) := by decide +kernel
theorem dX7_of_143 : decode cX7_of 143 = .ok (.invokevirtual 130, 3) := by decide +kernel
theorem dX7_of_146 : decode cX7_of 146 = .ok (.ireturn, 1) := by decide +kernel
theorem dX7_of_147 : decode cX7_of 147 = .ok (.aload_n 0, 1) := by decide +kernel
theorem dX7_of_148 : decode cX7_of 148 = .ok (.getfield 30, 3) := by decide +kernel
theorem dX7_of_151 : decode cX7_of 151 = .ok (.iload_n 1, 1) := by decide +kernel
theorem dX7_of_152 : decode cX7_of 152 = .ok (.aload_n 3, 1) := by decide +kernel
theorem dX7_of_153 : decode cX7_of 153 = .ok (.getfield 120, 3) := by decide +kernel
theorem dX7_of_156 : decode cX7_of 156 = .ok (.invokevirtual 133, 3) := by decide +kernel
theorem dX7_of_159 : decode cX7_of 159 = .ok (.ireturn, 1) := by decide +kernel
theorem dX7_of_160 : decode cX7_of 160 = .ok (.sipush (-10001), 3) := by decide +kernel
theorem dX7_of_163 : decode cX7_of 163 = .ok (.ireturn, 1) := by decide +kernel
theorem dX7_row_0 : decode cX7_row 0 = .ok (.aload_n 0, 1) := by decide +kernel
theorem dX7_row_1 : decode cX7_row 1 = .ok (.iload_n 1, 1) := by decide +kernel
theorem dX7_row_2 : decode cX7_row 2 = .ok (.invokevirtual 105, 3) := by decide +kernel
theorem dX7_row_5 : decode cX7_row 5 = .ok (.ifCond .eq 12, 3) := by decide +kernel
theorem dX7_row_8 : decode cX7_row 8 = .ok (.iload_n 2, 1) := by decide +kernel
theorem dX7_row_9 : decode cX7_row 9 = .ok (.ifCond .lt 8, 3) := by decide +kernel
theorem dX7_row_12 : decode cX7_row 12 = .ok (.iload_n 2, 1) := by decide +kernel
theorem dX7_row_13 : decode cX7_row 13 = .ok (.iconst 3, 1) := by decide +kernel
theorem dX7_row_14 : decode cX7_row 14 = .ok (.if_icmp .le 5, 3) := by decide +kernel
theorem dX7_row_17 : decode cX7_row 17 = .ok (.iconst (-1), 1) := by decide +kernel
theorem dX7_row_18 : decode cX7_row 18 = .ok (.ireturn, 1) := by decide +kernel
theorem dX7_row_19 : decode cX7_row 19 = .ok (.iload_n 3, 1) := by decide +kernel
theorem dX7_row_20 : decode cX7_row 20 = .ok (.invokestatic 79, 3) := by decide +kernel
theorem dX7_row_23 : decode cX7_row 23 = .ok (.ifCond .ne 6, 3) := by decide +kernel
theorem dX7_row_26 : decode cX7_row 26 = .ok (.bipush (-2), 2) := by decide +kernel
theorem dX7_row_28 : decode cX7_row 28 = .ok (.ireturn, 1) := by decide +kernel
theorem dX7_row_29 : decode cX7_row 29 = .ok (.aload_n 0, 1) := by decide +kernel
theorem dX7_row_30 : decode cX7_row 30 = .ok (.getfield 30, 3) := by decide +kernel
theorem dX7_row_33 : decode cX7_row 33 = .ok (.getfield 85, 3) := by decide +kernel
theorem dX7_row_36 : decode cX7_row 36 = .ok (.iload_n 1, 1) := by decide +kernel
theorem dX7_row_37 : decode cX7_row 37 = .ok (.aaload, 1) := by decide +kernel
theorem dX7_row_38 : decode cX7_row 38 = .ok (.astore 4, 2) := by decide +kernel
theorem dX7_row_40 : decode cX7_row 40 = .ok (.aload 4, 2) := by decide +kernel
theorem dX7_row_42 : decode cX7_row 42 = .ok (.getfield 108, 3) := by decide +kernel
theorem dX7_row_45 : decode cX7_row 45 = .ok (.bipush 6, 2) := by decide +kernel
theorem dX7_row_47 : decode cX7_row 47 = .ok (.if_icmp .eq 6, 3) := by decide +kernel
theorem dX7_row_50 : decode cX7_row 50 = .ok (.bipush (-3), 2) := by decide +kernel
theorem dX7_row_52 : decode cX7_row 52 = .ok (.ireturn, 1) := by decide +kernel
theorem dX7_row_53 : decode cX7_row 53 = .ok (.aload 4, 2) := by decide +kernel
theorem dX7_row_55 : decode cX7_row 55 = .ok (.getfield 136, 3) := by decide +kernel
theorem dX7_row_58 : decode cX7_row 58 = .ok (.iload_n 2, 1) := by decide +kernel
theorem dX7_row_59 : decode cX7_row 59 = .ok (.iaload, 1) := by decide +kernel
theorem dX7_row_60 : decode cX7_row 60 = .ok (.istore 5, 2) := by decide +kernel
theorem dX7_row_62 : decode cX7_row 62 = .ok (.aload 4, 2) := by decide +kernel
theorem dX7_row_64 : decode cX7_row 64 = .ok (.getfield 136, 3) := by decide +kernel
theorem dX7_row_67 : decode cX7_row 67 = .ok (.iload_n 2, 1) := by decide +kernel
theorem dX7_row_68 : decode cX7_row 68 = .ok (.iload_n 3, 1) := by decide +kernel
theorem dX7_row_69 : decode cX7_row 69 = .ok (.iastore, 1) := by decide +kernel
theorem dX7_row_70 : decode cX7_row 70 = .ok (.iload 5, 2) := by decide +kernel
theorem dX7_row_72 : decode cX7_row 72 = .ok (.ireturn, 1) := by decide +kernel
theorem dX7_wine_0 : decode cX7_wine 0 = .ok (.aload_n 0, 1) := by decide +kernel
theorem dX7_wine_1 : decode cX7_wine 1 = .ok (.iload_n 1, 1) := by decide +kernel
theorem dX7_wine_2 : decode cX7_wine 2 = .ok (.invokevirtual 140, 3) := by decide +kernel
theorem dX7_wine_5 : decode cX7_wine 5 = .ok (.ifCond .eq 12, 3) := by decide +kernel
theorem dX7_wine_8 : decode cX7_wine 8 = .ok (.iload_n 2, 1) := by decide +kernel
theorem dX7_wine_9 : decode cX7_wine 9 = .ok (.ifCond .lt 8, 3) := by decide +kernel
theorem dX7_wine_12 : decode cX7_wine 12 = .ok (.iload_n 2, 1) := by decide +kernel
theorem dX7_wine_13 : decode cX7_wine 13 = .ok (.iconst 1, 1) := by decide +kernel
theorem dX7_wine_14 : decode cX7_wine 14 = .ok (.if_icmp .le 5, 3) := by decide +kernel
theorem dX7_wine_17 : decode cX7_wine 17 = .ok (.iconst (-1), 1) := by decide +kernel
theorem dX7_wine_18 : decode cX7_wine 18 = .ok (.ireturn, 1) := by decide +kernel
theorem dX7_wine_19 : decode cX7_wine 19 = .ok (.iload_n 2, 1) := by decide +kernel
theorem dX7_wine_20 : decode cX7_wine 20 = .ok (.ifCond .ne 15, 3) := by decide +kernel
theorem dX7_wine_23 : decode cX7_wine 23 = .ok (.aload_n 0, 1) := by decide +kernel
theorem dX7_wine_24 : decode cX7_wine 24 = .ok (.getfield 30, 3) := by decide +kernel
theorem dX7_wine_27 : decode cX7_wine 27 = .ok (.getfield 143, 3) := by decide +kernel
theorem dX7_wine_30 : decode cX7_wine 30 = .ok (.iload_n 1, 1) := by decide +kernel
theorem dX7_wine_31 : decode cX7_wine 31 = .ok (.iaload, 1) := by decide +kernel
theorem dX7_wine_32 : decode cX7_wine 32 = .ok (.goto 12, 3) := by decide +kernel
theorem dX7_wine_35 : decode cX7_wine 35 = .ok (.aload_n 0, 1) := by decide +kernel
theorem dX7_wine_36 : decode cX7_wine 36 = .ok (.getfield 30, 3) := by decide +kernel
theorem dX7_wine_39 : decode cX7_wine 39 = .ok (.getfield 146, 3) := by decide +kernel
theorem dX7_wine_42 : decode cX7_wine 42 = .ok (.iload_n 1, 1) := by decide +kernel
theorem dX7_wine_43 : decode cX7_wine 43 = .ok (.iaload, 1) := by decide +kernel
theorem dX7_wine_44 : decode cX7_wine 44 = .ok (.ireturn, 1) := by decide +kernel
theorem dX7_stock_0 : decode cX7_stock 0 = .ok (.aload_n 0, 1) := by decide +kernel
theorem dX7_stock_1 : decode cX7_stock 1 = .ok (.iload_n 1, 1) := by decide +kernel
theorem dX7_stock_2 : decode cX7_stock 2 = .ok (.invokevirtual 140, 3) := by decide +kernel
theorem dX7_stock_5 : decode cX7_stock 5 = .ok (.ifCond .ne 5, 3) := by decide +kernel
theorem dX7_stock_8 : decode cX7_stock 8 = .ok (.iconst (-1), 1) := by decide +kernel
theorem dX7_stock_9 : decode cX7_stock 9 = .ok (.ireturn, 1) := by decide +kernel
theorem dX7_stock_10 : decode cX7_stock 10 = .ok (.iload_n 2, 1) := by decide +kernel
theorem dX7_stock_11 : decode cX7_stock 11 = .ok (.invokestatic 95, 3) := by decide +kernel
theorem dX7_stock_14 : decode cX7_stock 14 = .ok (.ifCond .ne 6, 3) := by decide +kernel
theorem dX7_stock_17 : decode cX7_stock 17 = .ok (.bipush (-2), 2) := by decide +kernel
theorem dX7_stock_19 : decode cX7_stock 19 = .ok (.ireturn, 1) := by decide +kernel
theorem dX7_stock_20 : decode cX7_stock 20 = .ok (.aload_n 0, 1) := by decide +kernel
theorem dX7_stock_21 : decode cX7_stock 21 = .ok (.getfield 30, 3) := by decide +kernel
theorem dX7_stock_24 : decode cX7_stock 24 = .ok (.getfield 146, 3) := by decide +kernel
theorem dX7_stock_27 : decode cX7_stock 27 = .ok (.iload_n 1, 1) := by decide +kernel
theorem dX7_stock_28 : decode cX7_stock 28 = .ok (.iaload, 1) := by decide +kernel
theorem dX7_stock_29 : decode cX7_stock 29 = .ok (.istore_n 3, 1) := by decide +kernel
theorem dX7_stock_30 : decode cX7_stock 30 = .ok (.aload_n 0, 1) := by decide +kernel
theorem dX7_stock_31 : decode cX7_stock 31 = .ok (.getfield 30, 3) := by decide +kernel
theorem dX7_stock_34 : decode cX7_stock 34 = .ok (.getfield 146, 3) := by decide +kernel
theorem dX7_stock_37 : decode cX7_stock 37 = .ok (.iload_n 1, 1) := by decide +kernel
theorem dX7_stock_38 : decode cX7_stock 38 = .ok (.iload_n 2, 1) := by decide +kernel
theorem dX7_stock_39 : decode cX7_stock 39 = .ok (.iastore, 1) := by decide +kernel
theorem dX7_stock_40 : decode cX7_stock 40 = .ok (.iload_n 3, 1) := by decide +kernel
theorem dX7_stock_41 : decode cX7_stock 41 = .ok (.ireturn, 1) := by decide +kernel
theorem dX7_told_0 : decode cX7_told 0 = .ok (.iload_n 1, 1) := by decide +kernel
theorem dX7_told_1 : decode cX7_told 1 = .ok (.tableswitch 93 0 5 #[39, 47, 58, 69, 77, 85], 39) := by decide +kernel
theorem dX7_told_40 : decode cX7_told 40 = .ok (.aload_n 0, 1) := by decide +kernel
theorem dX7_told_41 : decode cX7_told 41 = .ok (.getfield 30, 3) := by decide +kernel
theorem dX7_told_44 : decode cX7_told 44 = .ok (.getfield 149, 3) := by decide +kernel
theorem dX7_told_47 : decode cX7_told 47 = .ok (.ireturn, 1) := by decide +kernel
theorem dX7_told_48 : decode cX7_told 48 = .ok (.aload_n 0, 1) := by decide +kernel
theorem dX7_told_49 : decode cX7_told 49 = .ok (.getfield 30, 3) := by decide +kernel
theorem dX7_told_52 : decode cX7_told 52 = .ok (.getfield 71, 3) := by decide +kernel
theorem dX7_told_55 : decode cX7_told 55 = .ok (.getfield 152, 3) := by decide +kernel
theorem dX7_told_58 : decode cX7_told 58 = .ok (.ireturn, 1) := by decide +kernel
theorem dX7_told_59 : decode cX7_told 59 = .ok (.aload_n 0, 1) := by decide +kernel
theorem dX7_told_60 : decode cX7_told 60 = .ok (.getfield 30, 3) := by decide +kernel
theorem dX7_told_63 : decode cX7_told 63 = .ok (.getfield 71, 3) := by decide +kernel
theorem dX7_told_66 : decode cX7_told 66 = .ok (.getfield 155, 3) := by decide +kernel
theorem dX7_told_69 : decode cX7_told 69 = .ok (.ireturn, 1) := by decide +kernel
theorem dX7_told_70 : decode cX7_told 70 = .ok (.aload_n 0, 1) := by decide +kernel
theorem dX7_told_71 : decode cX7_told 71 = .ok (.getfield 30, 3) := by decide +kernel
theorem dX7_told_74 : decode cX7_told 74 = .ok (.invokevirtual 158, 3) := by decide +kernel
theorem dX7_told_77 : decode cX7_told 77 = .ok (.ireturn, 1) := by decide +kernel
theorem dX7_told_78 : decode cX7_told 78 = .ok (.aload_n 0, 1) := by decide +kernel
theorem dX7_told_79 : decode cX7_told 79 = .ok (.getfield 30, 3) := by decide +kernel
theorem dX7_told_82 : decode cX7_told 82 = .ok (.invokevirtual 162, 3) := by decide +kernel
theorem dX7_told_85 : decode cX7_told 85 = .ok (.ireturn, 1) := by decide +kernel
theorem dX7_told_86 : decode cX7_told 86 = .ok (.aload_n 0, 1) := by decide +kernel
theorem dX7_told_87 : decode cX7_told 87 = .ok (.getfield 30, 3) := by decide +kernel
theorem dX7_told_90 : decode cX7_told 90 = .ok (.invokevirtual 165, 3) := by decide +kernel
theorem dX7_told_93 : decode cX7_told 93 = .ok (.ireturn, 1) := by decide +kernel
theorem dX7_told_94 : decode cX7_told 94 = .ok (.iconst (-1), 1) := by decide +kernel
theorem dX7_told_95 : decode cX7_told 95 = .ok (.ireturn, 1) := by decide +kernel
theorem dX7_pour_0 : decode cX7_pour 0 = .ok (.aload_n 0, 1) := by decide +kernel
theorem dX7_pour_1 : decode cX7_pour 1 = .ok (.iload_n 1, 1) := by decide +kernel
theorem dX7_pour_2 : decode cX7_pour 2 = .ok (.invokevirtual 105, 3) := by decide +kernel
theorem dX7_pour_5 : decode cX7_pour 5 = .ok (.ifCond .eq 11, 3) := by decide +kernel
theorem dX7_pour_8 : decode cX7_pour 8 = .ok (.aload_n 0, 1) := by decide +kernel
theorem dX7_pour_9 : decode cX7_pour 9 = .ok (.iload_n 2, 1) := by decide +kernel
theorem dX7_pour_10 : decode cX7_pour 10 = .ok (.invokevirtual 140, 3) := by decide +kernel
theorem dX7_pour_13 : decode cX7_pour 13 = .ok (.ifCond .ne 5, 3) := by decide +kernel
theorem dX7_pour_16 : decode cX7_pour 16 = .ok (.iconst (-1), 1) := by decide +kernel
theorem dX7_pour_17 : decode cX7_pour 17 = .ok (.ireturn, 1) := by decide +kernel
theorem dX7_pour_18 : decode cX7_pour 18 = .ok (.aload_n 0, 1) := by decide +kernel
theorem dX7_pour_19 : decode cX7_pour 19 = .ok (.getfield 30, 3) := by decide +kernel
theorem dX7_pour_22 : decode cX7_pour 22 = .ok (.iload_n 1, 1) := by decide +kernel
theorem dX7_pour_23 : decode cX7_pour 23 = .ok (.iload_n 2, 1) := by decide +kernel
theorem dX7_pour_24 : decode cX7_pour 24 = .ok (.invokevirtual 168, 3) := by decide +kernel
theorem dX7_pour_27 : decode cX7_pour 27 = .ok (.ifCond .ne 6, 3) := by decide +kernel
theorem dX7_pour_30 : decode cX7_pour 30 = .ok (.bipush (-3), 2) := by decide +kernel
theorem dX7_pour_32 : decode cX7_pour 32 = .ok (.ireturn, 1) := by decide +kernel
theorem dX7_pour_33 : decode cX7_pour 33 = .ok (.aload_n 0, 1) := by decide +kernel
theorem dX7_pour_34 : decode cX7_pour 34 = .ok (.getfield 30, 3) := by decide +kernel
theorem dX7_pour_37 : decode cX7_pour 37 = .ok (.iload_n 1, 1) := by decide +kernel
theorem dX7_pour_38 : decode cX7_pour 38 = .ok (.iload_n 2, 1) := by decide +kernel
theorem dX7_pour_39 : decode cX7_pour 39 = .ok (.invokevirtual 130, 3) := by decide +kernel
theorem dX7_pour_42 : decode cX7_pour 42 = .ok (.ireturn, 1) := by decide +kernel
theorem dX7_dry_0 : decode cX7_dry 0 = .ok (.aload_n 0, 1) := by decide +kernel
theorem dX7_dry_1 : decode cX7_dry 1 = .ok (.iload_n 1, 1) := by decide +kernel
theorem dX7_dry_2 : decode cX7_dry 2 = .ok (.invokevirtual 105, 3) := by decide +kernel
theorem dX7_dry_5 : decode cX7_dry 5 = .ok (.ifCond .ne 5, 3) := by decide +kernel
theorem dX7_dry_8 : decode cX7_dry 8 = .ok (.iconst (-1), 1) := by decide +kernel
theorem dX7_dry_9 : decode cX7_dry 9 = .ok (.ireturn, 1) := by decide +kernel
theorem dX7_dry_10 : decode cX7_dry 10 = .ok (.aload_n 0, 1) := by decide +kernel
theorem dX7_dry_11 : decode cX7_dry 11 = .ok (.getfield 30, 3) := by decide +kernel
theorem dX7_dry_14 : decode cX7_dry 14 = .ok (.getfield 85, 3) := by decide +kernel
theorem dX7_dry_17 : decode cX7_dry 17 = .ok (.iload_n 1, 1) := by decide +kernel
theorem dX7_dry_18 : decode cX7_dry 18 = .ok (.aaload, 1) := by decide +kernel
theorem dX7_dry_19 : decode cX7_dry 19 = .ok (.getfield 120, 3) := by decide +kernel
theorem dX7_dry_22 : decode cX7_dry 22 = .ok (.istore_n 2, 1) := by decide +kernel
theorem dX7_dry_23 : decode cX7_dry 23 = .ok (.aload_n 0, 1) := by decide +kernel
theorem dX7_dry_24 : decode cX7_dry 24 = .ok (.getfield 30, 3) := by decide +kernel
theorem dX7_dry_27 : decode cX7_dry 27 = .ok (.getfield 85, 3) := by decide +kernel
theorem dX7_dry_30 : decode cX7_dry 30 = .ok (.iload_n 1, 1) := by decide +kernel
theorem dX7_dry_31 : decode cX7_dry 31 = .ok (.aaload, 1) := by decide +kernel
theorem dX7_dry_32 : decode cX7_dry 32 = .ok (.iconst (-1), 1) := by decide +kernel
theorem dX7_dry_33 : decode cX7_dry 33 = .ok (.putfield 120, 3) := by decide +kernel
theorem dX7_dry_36 : decode cX7_dry 36 = .ok (.iload_n 2, 1) := by decide +kernel
theorem dX7_dry_37 : decode cX7_dry 37 = .ok (.invokestatic 123, 3) := by decide +kernel
theorem dX7_dry_40 : decode cX7_dry 40 = .ok (.ireturn, 1) := by decide +kernel
theorem dX7_dawn_0 : decode cX7_dawn 0 = .ok (.iload_n 1, 1) := by decide +kernel
theorem dX7_dawn_1 : decode cX7_dawn 1 = .ok (.iconst 1, 1) := by decide +kernel
theorem dX7_dawn_2 : decode cX7_dawn 2 = .ok (.if_icmp .lt 9, 3) := by decide +kernel
theorem dX7_dawn_5 : decode cX7_dawn 5 = .ok (.iload_n 1, 1) := by decide +kernel
theorem dX7_dawn_6 : decode cX7_dawn 6 = .ok (.bipush 99, 2) := by decide +kernel
theorem dX7_dawn_8 : decode cX7_dawn 8 = .ok (.if_icmp .le 6, 3) := by decide +kernel
theorem dX7_dawn_11 : decode cX7_dawn 11 = .ok (.bipush (-2), 2) := by decide +kernel
theorem dX7_dawn_13 : decode cX7_dawn 13 = .ok (.ireturn, 1) := by decide +kernel
theorem dX7_dawn_14 : decode cX7_dawn 14 = .ok (.aload_n 0, 1) := by decide +kernel
theorem dX7_dawn_15 : decode cX7_dawn 15 = .ok (.getfield 30, 3) := by decide +kernel
theorem dX7_dawn_18 : decode cX7_dawn 18 = .ok (.getfield 149, 3) := by decide +kernel
theorem dX7_dawn_21 : decode cX7_dawn 21 = .ok (.iload_n 1, 1) := by decide +kernel
theorem dX7_dawn_22 : decode cX7_dawn 22 = .ok (.iadd, 1) := by decide +kernel
theorem dX7_dawn_23 : decode cX7_dawn 23 = .ok (.sipush 999, 3) := by decide +kernel
theorem dX7_dawn_26 : decode cX7_dawn 26 = .ok (.if_icmp .le 6, 3) := by decide +kernel
theorem dX7_dawn_29 : decode cX7_dawn 29 = .ok (.bipush (-3), 2) := by decide +kernel
theorem dX7_dawn_31 : decode cX7_dawn 31 = .ok (.ireturn, 1) := by decide +kernel
theorem dX7_dawn_32 : decode cX7_dawn 32 = .ok (.aload_n 0, 1) := by decide +kernel
theorem dX7_dawn_33 : decode cX7_dawn 33 = .ok (.getfield 30, 3) := by decide +kernel
theorem dX7_dawn_36 : decode cX7_dawn 36 = .ok (.iload_n 1, 1) := by decide +kernel
theorem dX7_dawn_37 : decode cX7_dawn 37 = .ok (.invokevirtual 172, 3) := by decide +kernel
theorem dX7_dawn_40 : decode cX7_dawn 40 = .ok (.aload_n 0, 1) := by decide +kernel
theorem dX7_dawn_41 : decode cX7_dawn 41 = .ok (.getfield 30, 3) := by decide +kernel
theorem dX7_dawn_44 : decode cX7_dawn 44 = .ok (.getfield 149, 3) := by decide +kernel
theorem dX7_dawn_47 : decode cX7_dawn 47 = .ok (.ireturn, 1) := by decide +kernel
theorem dX7_blend_0 : decode cX7_blend 0 = .ok (.aload_n 0, 1) := by decide +kernel
theorem dX7_blend_1 : decode cX7_blend 1 = .ok (.iload_n 1, 1) := by decide +kernel
theorem dX7_blend_2 : decode cX7_blend 2 = .ok (.invokevirtual 140, 3) := by decide +kernel
theorem dX7_blend_5 : decode cX7_blend 5 = .ok (.ifCond .eq 11, 3) := by decide +kernel
theorem dX7_blend_8 : decode cX7_blend 8 = .ok (.aload_n 0, 1) := by decide +kernel
theorem dX7_blend_9 : decode cX7_blend 9 = .ok (.iload_n 2, 1) := by decide +kernel
theorem dX7_blend_10 : decode cX7_blend 10 = .ok (.invokevirtual 140, 3) := by decide +kernel
theorem dX7_blend_13 : decode cX7_blend 13 = .ok (.ifCond .ne 5, 3) := by decide +kernel
theorem dX7_blend_16 : decode cX7_blend 16 = .ok (.iconst (-1), 1) := by decide +kernel
theorem dX7_blend_17 : decode cX7_blend 17 = .ok (.ireturn, 1) := by decide +kernel
theorem dX7_blend_18 : decode cX7_blend 18 = .ok (.iload_n 1, 1) := by decide +kernel
theorem dX7_blend_19 : decode cX7_blend 19 = .ok (.iload_n 2, 1) := by decide +kernel
theorem dX7_blend_20 : decode cX7_blend 20 = .ok (.if_icmp .ne 6, 3) := by decide +kernel
theorem dX7_blend_23 : decode cX7_blend 23 = .ok (.bipush (-2), 2) := by decide +kernel
theorem dX7_blend_25 : decode cX7_blend 25 = .ok (.ireturn, 1) := by decide +kernel
theorem dX7_blend_26 : decode cX7_blend 26 = .ok (.aload_n 0, 1) := by decide +kernel
theorem dX7_blend_27 : decode cX7_blend 27 = .ok (.getfield 30, 3) := by decide +kernel
theorem dX7_blend_30 : decode cX7_blend 30 = .ok (.getfield 146, 3) := by decide +kernel
theorem dX7_blend_33 : decode cX7_blend 33 = .ok (.iload_n 1, 1) := by decide +kernel
theorem dX7_blend_34 : decode cX7_blend 34 = .ok (.iaload, 1) := by decide +kernel
theorem dX7_blend_35 : decode cX7_blend 35 = .ok (.ifCond .eq 15, 3) := by decide +kernel
theorem dX7_blend_38 : decode cX7_blend 38 = .ok (.aload_n 0, 1) := by decide +kernel
theorem dX7_blend_39 : decode cX7_blend 39 = .ok (.getfield 30, 3) := by decide +kernel
theorem dX7_blend_42 : decode cX7_blend 42 = .ok (.getfield 146, 3) := by decide +kernel
theorem dX7_blend_45 : decode cX7_blend 45 = .ok (.iload_n 2, 1) := by decide +kernel
theorem dX7_blend_46 : decode cX7_blend 46 = .ok (.iaload, 1) := by decide +kernel
theorem dX7_blend_47 : decode cX7_blend 47 = .ok (.ifCond .ne 6, 3) := by decide +kernel
theorem dX7_blend_50 : decode cX7_blend 50 = .ok (.bipush (-3), 2) := by decide +kernel
theorem dX7_blend_52 : decode cX7_blend 52 = .ok (.ireturn, 1) := by decide +kernel
theorem dX7_blend_53 : decode cX7_blend 53 = .ok (.aload_n 0, 1) := by decide +kernel
theorem dX7_blend_54 : decode cX7_blend 54 = .ok (.getfield 30, 3) := by decide +kernel
theorem dX7_blend_57 : decode cX7_blend 57 = .ok (.getfield 98, 3) := by decide +kernel
theorem dX7_blend_60 : decode cX7_blend 60 = .ok (.iconst 5, 1) := by decide +kernel
theorem dX7_blend_61 : decode cX7_blend 61 = .ok (.if_icmp .lt 6, 3) := by decide +kernel
theorem dX7_blend_64 : decode cX7_blend 64 = .ok (.bipush (-4), 2) := by decide +kernel
theorem dX7_blend_66 : decode cX7_blend 66 = .ok (.ireturn, 1) := by decide +kernel
theorem dX7_blend_67 : decode cX7_blend 67 = .ok (.aload_n 0, 1) := by decide +kernel
theorem dX7_blend_68 : decode cX7_blend 68 = .ok (.getfield 30, 3) := by decide +kernel
theorem dX7_blend_71 : decode cX7_blend 71 = .ok (.getfield 146, 3) := by decide +kernel
theorem dX7_blend_74 : decode cX7_blend 74 = .ok (.iload_n 1, 1) := by decide +kernel
theorem dX7_blend_75 : decode cX7_blend 75 = .ok (.dup2, 1) := by decide +kernel
theorem dX7_blend_76 : decode cX7_blend 76 = .ok (.iaload, 1) := by decide +kernel
theorem dX7_blend_77 : decode cX7_blend 77 = .ok (.iconst 1, 1) := by decide +kernel
theorem dX7_blend_78 : decode cX7_blend 78 = .ok (.isub, 1) := by decide +kernel
theorem dX7_blend_79 : decode cX7_blend 79 = .ok (.iastore, 1) := by decide +kernel
theorem dX7_blend_80 : decode cX7_blend 80 = .ok (.aload_n 0, 1) := by decide +kernel
theorem dX7_blend_81 : decode cX7_blend 81 = .ok (.getfield 30, 3) := by decide +kernel
theorem dX7_blend_84 : decode cX7_blend 84 = .ok (.getfield 146, 3) := by decide +kernel
theorem dX7_blend_87 : decode cX7_blend 87 = .ok (.iload_n 2, 1) := by decide +kernel
theorem dX7_blend_88 : decode cX7_blend 88 = .ok (.dup2, 1) := by decide +kernel
theorem dX7_blend_89 : decode cX7_blend 89 = .ok (.iaload, 1) := by decide +kernel
theorem dX7_blend_90 : decode cX7_blend 90 = .ok (.iconst 1, 1) := by decide +kernel
theorem dX7_blend_91 : decode cX7_blend 91 = .ok (.isub, 1) := by decide +kernel
theorem dX7_blend_92 : decode cX7_blend 92 = .ok (.iastore, 1) := by decide +kernel
theorem dX7_blend_93 : decode cX7_blend 93 = .ok (.aload_n 0, 1) := by decide +kernel
theorem dX7_blend_94 : decode cX7_blend 94 = .ok (.getfield 30, 3) := by decide +kernel
theorem dX7_blend_97 : decode cX7_blend 97 = .ok (.aload_n 0, 1) := by decide +kernel
theorem dX7_blend_98 : decode cX7_blend 98 = .ok (.getfield 30, 3) := by decide +kernel
theorem dX7_blend_101 : decode cX7_blend 101 = .ok (.getfield 143, 3) := by decide +kernel
theorem dX7_blend_104 : decode cX7_blend 104 = .ok (.iload_n 1, 1) := by decide +kernel
theorem dX7_blend_105 : decode cX7_blend 105 = .ok (.iaload, 1) := by decide +kernel
theorem dX7_blend_106 : decode cX7_blend 106 = .ok (.aload_n 0, 1) := by decide +kernel
theorem dX7_blend_107 : decode cX7_blend 107 = .ok (.getfield 30, 3) := by decide +kernel
theorem dX7_blend_110 : decode cX7_blend 110 = .ok (.getfield 143, 3) := by decide +kernel
theorem dX7_blend_113 : decode cX7_blend 113 = .ok (.iload_n 2, 1) := by decide +kernel
theorem dX7_blend_114 : decode cX7_blend 114 = .ok (.iaload, 1) := by decide +kernel
theorem dX7_blend_115 : decode cX7_blend 115 = .ok (.iadd, 1) := by decide +kernel
theorem dX7_blend_116 : decode cX7_blend 116 = .ok (.iconst 2, 1) := by decide +kernel
theorem dX7_blend_117 : decode cX7_blend 117 = .ok (.idiv, 1) := by decide +kernel
theorem dX7_blend_118 : decode cX7_blend 118 = .ok (.iconst 2, 1) := by decide +kernel
theorem dX7_blend_119 : decode cX7_blend 119 = .ok (.invokevirtual 101, 3) := by decide +kernel
theorem dX7_blend_122 : decode cX7_blend 122 = .ok (.ireturn, 1) := by decide +kernel
theorem dX7_alive_0 : decode cX7_alive 0 = .ok (.iload_n 1, 1) := by decide +kernel
theorem dX7_alive_1 : decode cX7_alive 1 = .ok (.ifCond .lt 9, 3) := by decide +kernel
theorem dX7_alive_4 : decode cX7_alive 4 = .ok (.iload_n 1, 1) := by decide +kernel
theorem dX7_alive_5 : decode cX7_alive 5 = .ok (.bipush 99, 2) := by decide +kernel
theorem dX7_alive_7 : decode cX7_alive 7 = .ok (.if_icmp .le 6, 3) := by decide +kernel
theorem dX7_alive_10 : decode cX7_alive 10 = .ok (.bipush (-2), 2) := by decide +kernel
theorem dX7_alive_12 : decode cX7_alive 12 = .ok (.ireturn, 1) := by decide +kernel
theorem dX7_alive_13 : decode cX7_alive 13 = .ok (.iload_n 1, 1) := by decide +kernel
theorem dX7_alive_14 : decode cX7_alive 14 = .ok (.ifCond .ne 11, 3) := by decide +kernel
theorem dX7_alive_17 : decode cX7_alive 17 = .ok (.aload_n 0, 1) := by decide +kernel
theorem dX7_alive_18 : decode cX7_alive 18 = .ok (.getfield 30, 3) := by decide +kernel
theorem dX7_alive_21 : decode cX7_alive 21 = .ok (.invokevirtual 158, 3) := by decide +kernel
theorem dX7_alive_24 : decode cX7_alive 24 = .ok (.ireturn, 1) := by decide +kernel
theorem dX7_alive_25 : decode cX7_alive 25 = .ok (.iconst 0, 1) := by decide +kernel
theorem dX7_alive_26 : decode cX7_alive 26 = .ok (.istore_n 2, 1) := by decide +kernel
theorem dX7_alive_27 : decode cX7_alive 27 = .ok (.iconst 0, 1) := by decide +kernel
theorem dX7_alive_28 : decode cX7_alive 28 = .ok (.istore_n 3, 1) := by decide +kernel
theorem dX7_alive_29 : decode cX7_alive 29 = .ok (.iload_n 3, 1) := by decide +kernel
theorem dX7_alive_30 : decode cX7_alive 30 = .ok (.aload_n 0, 1) := by decide +kernel
theorem dX7_alive_31 : decode cX7_alive 31 = .ok (.getfield 30, 3) := by decide +kernel
theorem dX7_alive_34 : decode cX7_alive 34 = .ok (.getfield 82, 3) := by decide +kernel
theorem dX7_alive_37 : decode cX7_alive 37 = .ok (.if_icmp .ge 49, 3) := by decide +kernel
theorem dX7_alive_40 : decode cX7_alive 40 = .ok (.aload_n 0, 1) := by decide +kernel
theorem dX7_alive_41 : decode cX7_alive 41 = .ok (.getfield 30, 3) := by decide +kernel
theorem dX7_alive_44 : decode cX7_alive 44 = .ok (.getfield 85, 3) := by decide +kernel
theorem dX7_alive_47 : decode cX7_alive 47 = .ok (.iload_n 3, 1) := by decide +kernel
theorem dX7_alive_48 : decode cX7_alive 48 = .ok (.aaload, 1) := by decide +kernel
theorem dX7_alive_49 : decode cX7_alive 49 = .ok (.astore 4, 2) := by decide +kernel
theorem dX7_alive_51 : decode cX7_alive 51 = .ok (.aload 4, 2) := by decide +kernel
theorem dX7_alive_53 : decode cX7_alive 53 = .ok (.aload 4, 2) := by decide +kernel
theorem dX7_alive_55 : decode cX7_alive 55 = .ok (.aload_n 0, 1) := by decide +kernel
theorem dX7_alive_56 : decode cX7_alive 56 = .ok (.getfield 30, 3) := by decide +kernel
theorem dX7_alive_59 : decode cX7_alive 59 = .ok (.getfield 149, 3) := by decide +kernel
theorem dX7_alive_62 : decode cX7_alive 62 = .ok (.iload_n 1, 1) := by decide +kernel
theorem dX7_alive_63 : decode cX7_alive 63 = .ok (.iadd, 1) := by decide +kernel
theorem dX7_alive_64 : decode cX7_alive 64 = .ok (.iconst (-1), 1) := by decide +kernel
theorem dX7_alive_65 : decode cX7_alive 65 = .ok (.invokevirtual 176, 3) := by decide +kernel
theorem dX7_alive_68 : decode cX7_alive 68 = .ok (.invokevirtual 179, 3) := by decide +kernel
theorem dX7_alive_71 : decode cX7_alive 71 = .ok (.ifCond .eq 9, 3) := by decide +kernel
theorem dX7_alive_74 : decode cX7_alive 74 = .ok (.iload_n 2, 1) := by decide +kernel
theorem dX7_alive_75 : decode cX7_alive 75 = .ok (.iconst 1, 1) := by decide +kernel
theorem dX7_alive_76 : decode cX7_alive 76 = .ok (.iload_n 3, 1) := by decide +kernel
theorem dX7_alive_77 : decode cX7_alive 77 = .ok (.ishl, 1) := by decide +kernel
theorem dX7_alive_78 : decode cX7_alive 78 = .ok (.ior, 1) := by decide +kernel
theorem dX7_alive_79 : decode cX7_alive 79 = .ok (.istore_n 2, 1) := by decide +kernel
theorem dX7_alive_80 : decode cX7_alive 80 = .ok (.iinc 3 1, 3) := by decide +kernel
theorem dX7_alive_83 : decode cX7_alive 83 = .ok (.goto (-54), 3) := by decide +kernel
theorem dX7_alive_86 : decode cX7_alive 86 = .ok (.iload_n 2, 1) := by decide +kernel
theorem dX7_alive_87 : decode cX7_alive 87 = .ok (.ireturn, 1) := by decide +kernel
theorem dX7_brings_0 : decode cX7_brings 0 = .ok (.aload_n 0, 1) := by decide +kernel
theorem dX7_brings_1 : decode cX7_brings 1 = .ok (.iload_n 1, 1) := by decide +kernel
theorem dX7_brings_2 : decode cX7_brings 2 = .ok (.invokevirtual 105, 3) := by decide +kernel
theorem dX7_brings_5 : decode cX7_brings 5 = .ok (.ifCond .ne 5, 3) := by decide +kernel
theorem dX7_brings_8 : decode cX7_brings 8 = .ok (.iconst (-1), 1) := by decide +kernel
theorem dX7_brings_9 : decode cX7_brings 9 = .ok (.ireturn, 1) := by decide +kernel
theorem dX7_brings_10 : decode cX7_brings 10 = .ok (.iconst 0, 1) := by decide +kernel
theorem dX7_brings_11 : decode cX7_brings 11 = .ok (.istore_n 2, 1) := by decide +kernel
theorem dX7_brings_12 : decode cX7_brings 12 = .ok (.iconst 0, 1) := by decide +kernel
theorem dX7_brings_13 : decode cX7_brings 13 = .ok (.istore_n 3, 1) := by decide +kernel
theorem dX7_brings_14 : decode cX7_brings 14 = .ok (.iload_n 3, 1) := by decide +kernel
theorem dX7_brings_15 : decode cX7_brings 15 = .ok (.aload_n 0, 1) := by decide +kernel
theorem dX7_brings_16 : decode cX7_brings 16 = .ok (.getfield 30, 3) := by decide +kernel
theorem dX7_brings_19 : decode cX7_brings 19 = .ok (.getfield 98, 3) := by decide +kernel
theorem dX7_brings_22 : decode cX7_brings 22 = .ok (.if_icmp .ge 39, 3) := by decide +kernel
theorem dX7_brings_25 : decode cX7_brings 25 = .ok (.aload_n 0, 1) := by decide +kernel
theorem dX7_brings_26 : decode cX7_brings 26 = .ok (.getfield 30, 3) := by decide +kernel
theorem dX7_brings_29 : decode cX7_brings 29 = .ok (.getfield 146, 3) := by decide +kernel
theorem dX7_brings_32 : decode cX7_brings 32 = .ok (.iload_n 3, 1) := by decide +kernel
theorem dX7_brings_33 : decode cX7_brings 33 = .ok (.iaload, 1) := by decide +kernel
theorem dX7_brings_34 : decode cX7_brings 34 = .ok (.ifCond .le 21, 3) := by decide +kernel
theorem dX7_brings_37 : decode cX7_brings 37 = .ok (.aload_n 0, 1) := by decide +kernel
theorem dX7_brings_38 : decode cX7_brings 38 = .ok (.getfield 30, 3) := by decide +kernel
theorem dX7_brings_41 : decode cX7_brings 41 = .ok (.iload_n 1, 1) := by decide +kernel
theorem dX7_brings_42 : decode cX7_brings 42 = .ok (.iload_n 3, 1) := by decide +kernel
theorem dX7_brings_43 : decode cX7_brings 43 = .ok (.invokevirtual 130, 3) := by decide +kernel
theorem dX7_brings_46 : decode cX7_brings 46 = .ok (.ifCond .le 9, 3) := by decide +kernel
theorem dX7_brings_49 : decode cX7_brings 49 = .ok (.iload_n 2, 1) := by decide +kernel
theorem dX7_brings_50 : decode cX7_brings 50 = .ok (.iconst 1, 1) := by decide +kernel
theorem dX7_brings_51 : decode cX7_brings 51 = .ok (.iload_n 3, 1) := by decide +kernel
theorem dX7_brings_52 : decode cX7_brings 52 = .ok (.ishl, 1) := by decide +kernel
theorem dX7_brings_53 : decode cX7_brings 53 = .ok (.ior, 1) := by decide +kernel
theorem dX7_brings_54 : decode cX7_brings 54 = .ok (.istore_n 2, 1) := by decide +kernel
theorem dX7_brings_55 : decode cX7_brings 55 = .ok (.iinc 3 1, 3) := by decide +kernel
theorem dX7_brings_58 : decode cX7_brings 58 = .ok (.goto (-44), 3) := by decide +kernel
theorem dX7_brings_61 : decode cX7_brings 61 = .ok (.iload_n 2, 1) := by decide +kernel
theorem dX7_brings_62 : decode cX7_brings 62 = .ok (.ireturn, 1) := by decide +kernel
theorem dX7_nearest_0 : decode cX7_nearest 0 = .ok (.aload_n 0, 1) := by decide +kernel
theorem dX7_nearest_1 : decode cX7_nearest 1 = .ok (.iload_n 1, 1) := by decide +kernel
theorem dX7_nearest_2 : decode cX7_nearest 2 = .ok (.invokevirtual 105, 3) := by decide +kernel
theorem dX7_nearest_5 : decode cX7_nearest 5 = .ok (.ifCond .ne 5, 3) := by decide +kernel
theorem dX7_nearest_8 : decode cX7_nearest 8 = .ok (.iconst (-1), 1) := by decide +kernel
theorem dX7_nearest_9 : decode cX7_nearest 9 = .ok (.ireturn, 1) := by decide +kernel
theorem dX7_nearest_10 : decode cX7_nearest 10 = .ok (.iload_n 2, 1) := by decide +kernel
theorem dX7_nearest_11 : decode cX7_nearest 11 = .ok (.ifCond .lt 9, 3) := by decide +kernel
theorem dX7_nearest_14 : decode cX7_nearest 14 = .ok (.iload_n 2, 1) := by decide +kernel
theorem dX7_nearest_15 : decode cX7_nearest 15 = .ok (.bipush 120, 2) := by decide +kernel
theorem dX7_nearest_17 : decode cX7_nearest 17 = .ok (.if_icmp .le 6, 3) := by decide +kernel
theorem dX7_nearest_20 : decode cX7_nearest 20 = .ok (.bipush (-2), 2) := by decide +kernel
theorem dX7_nearest_22 : decode cX7_nearest 22 = .ok (.ireturn, 1) := by decide +kernel
theorem dX7_nearest_23 : decode cX7_nearest 23 = .ok (.bipush (-5), 2) := by decide +kernel
theorem dX7_nearest_25 : decode cX7_nearest 25 = .ok (.istore_n 3, 1) := by decide +kernel
theorem dX7_nearest_26 : decode cX7_nearest 26 = .ok (.ldc 182, 2) := by decide +kernel
theorem dX7_nearest_28 : decode cX7_nearest 28 = .ok (.istore 4, 2) := by decide +kernel
theorem dX7_nearest_30 : decode cX7_nearest 30 = .ok (.iconst 0, 1) := by decide +kernel
theorem dX7_nearest_31 : decode cX7_nearest 31 = .ok (.istore 5, 2) := by decide +kernel
theorem dX7_nearest_33 : decode cX7_nearest 33 = .ok (.iload 5, 2) := by decide +kernel
theorem dX7_nearest_35 : decode cX7_nearest 35 = .ok (.aload_n 0, 1) := by decide +kernel
theorem dX7_nearest_36 : decode cX7_nearest 36 = .ok (.getfield 30, 3) := by decide +kernel
theorem dX7_nearest_39 : decode cX7_nearest 39 = .ok (.getfield 98, 3) := by decide +kernel
theorem dX7_nearest_42 : decode cX7_nearest 42 = .ok (.if_icmp .ge 53, 3) := by decide +kernel
theorem dX7_nearest_45 : decode cX7_nearest 45 = .ok (.aload_n 0, 1) := by decide +kernel
theorem dX7_nearest_46 : decode cX7_nearest 46 = .ok (.getfield 30, 3) := by decide +kernel
theorem dX7_nearest_49 : decode cX7_nearest 49 = .ok (.iload_n 1, 1) := by decide +kernel
theorem dX7_nearest_50 : decode cX7_nearest 50 = .ok (.iload 5, 2) := by decide +kernel
theorem dX7_nearest_52 : decode cX7_nearest 52 = .ok (.invokevirtual 127, 3) := by decide +kernel
theorem dX7_nearest_55 : decode cX7_nearest 55 = .ok (.iload_n 2, 1) := by decide +kernel
theorem dX7_nearest_56 : decode cX7_nearest 56 = .ok (.isub, 1) := by decide +kernel
theorem dX7_nearest_57 : decode cX7_nearest 57 = .ok (.invokestatic 183, 3) := by decide +kernel
theorem dX7_nearest_60 : decode cX7_nearest 60 = .ok (.istore 6, 2) := by decide +kernel
theorem dX7_nearest_62 : decode cX7_nearest 62 = .ok (.aload_n 0, 1) := by decide +kernel
theorem dX7_nearest_63 : decode cX7_nearest 63 = .ok (.getfield 30, 3) := by decide +kernel
theorem dX7_nearest_66 : decode cX7_nearest 66 = .ok (.getfield 146, 3) := by decide +kernel
theorem dX7_nearest_69 : decode cX7_nearest 69 = .ok (.iload 5, 2) := by decide +kernel
theorem dX7_nearest_71 : decode cX7_nearest 71 = .ok (.iaload, 1) := by decide +kernel
theorem dX7_nearest_72 : decode cX7_nearest 72 = .ok (.ifCond .le 17, 3) := by decide +kernel
theorem dX7_nearest_75 : decode cX7_nearest 75 = .ok (.iload 6, 2) := by decide +kernel
theorem dX7_nearest_77 : decode cX7_nearest 77 = .ok (.iload 4, 2) := by decide +kernel
theorem dX7_nearest_79 : decode cX7_nearest 79 = .ok (.if_icmp .ge 10, 3) := by decide +kernel
theorem dX7_nearest_82 : decode cX7_nearest 82 = .ok (.iload 5, 2) := by decide +kernel
theorem dX7_nearest_84 : decode cX7_nearest 84 = .ok (.istore_n 3, 1) := by decide +kernel
theorem dX7_nearest_85 : decode cX7_nearest 85 = .ok (.iload 6, 2) := by decide +kernel
theorem dX7_nearest_87 : decode cX7_nearest 87 = .ok (.istore 4, 2) := by decide +kernel
theorem dX7_nearest_89 : decode cX7_nearest 89 = .ok (.iinc 5 1, 3) := by decide +kernel
theorem dX7_nearest_92 : decode cX7_nearest 92 = .ok (.goto (-59), 3) := by decide +kernel
theorem dX7_nearest_95 : decode cX7_nearest 95 = .ok (.iload_n 3, 1) := by decide +kernel
theorem dX7_nearest_96 : decode cX7_nearest 96 = .ok (.ireturn, 1) := by decide +kernel
theorem dX7_two_0 : decode cX7_two 0 = .ok (.aload_n 0, 1) := by decide +kernel
theorem dX7_two_1 : decode cX7_two 1 = .ok (.getfield 30, 3) := by decide +kernel
theorem dX7_two_4 : decode cX7_two 4 = .ok (.invokevirtual 158, 3) := by decide +kernel
theorem dX7_two_7 : decode cX7_two 7 = .ok (.istore_n 1, 1) := by decide +kernel
theorem dX7_two_8 : decode cX7_two 8 = .ok (.bipush (-5), 2) := by decide +kernel
theorem dX7_two_10 : decode cX7_two 10 = .ok (.istore_n 2, 1) := by decide +kernel
theorem dX7_two_11 : decode cX7_two 11 = .ok (.ldc 182, 2) := by decide +kernel
theorem dX7_two_13 : decode cX7_two 13 = .ok (.istore_n 3, 1) := by decide +kernel
theorem dX7_two_14 : decode cX7_two 14 = .ok (.iconst 0, 1) := by decide +kernel
theorem dX7_two_15 : decode cX7_two 15 = .ok (.istore 4, 2) := by decide +kernel
theorem dX7_two_17 : decode cX7_two 17 = .ok (.iload 4, 2) := by decide +kernel
theorem dX7_two_19 : decode cX7_two 19 = .ok (.aload_n 0, 1) := by decide +kernel
theorem dX7_two_20 : decode cX7_two 20 = .ok (.getfield 30, 3) := by decide +kernel
theorem dX7_two_23 : decode cX7_two 23 = .ok (.getfield 82, 3) := by decide +kernel
theorem dX7_two_26 : decode cX7_two 26 = .ok (.if_icmp .ge 116, 3) := by decide +kernel
theorem dX7_two_29 : decode cX7_two 29 = .ok (.iload 4, 2) := by decide +kernel
theorem dX7_two_31 : decode cX7_two 31 = .ok (.iconst 1, 1) := by decide +kernel
theorem dX7_two_32 : decode cX7_two 32 = .ok (.iadd, 1) := by decide +kernel
theorem dX7_two_33 : decode cX7_two 33 = .ok (.istore 5, 2) := by decide +kernel
theorem dX7_two_35 : decode cX7_two 35 = .ok (.iload 5, 2) := by decide +kernel
theorem dX7_two_37 : decode cX7_two 37 = .ok (.aload_n 0, 1) := by decide +kernel
theorem dX7_two_38 : decode cX7_two 38 = .ok (.getfield 30, 3) := by decide +kernel
theorem dX7_two_41 : decode cX7_two 41 = .ok (.getfield 82, 3) := by decide +kernel
theorem dX7_two_44 : decode cX7_two 44 = .ok (.if_icmp .ge 92, 3) := by decide +kernel
theorem dX7_two_47 : decode cX7_two 47 = .ok (.aload_n 0, 1) := by decide +kernel
theorem dX7_two_48 : decode cX7_two 48 = .ok (.getfield 30, 3) := by decide +kernel
theorem dX7_two_51 : decode cX7_two 51 = .ok (.iload 4, 2) := by decide +kernel
theorem dX7_two_53 : decode cX7_two 53 = .ok (.aload_n 0, 1) := by decide +kernel
theorem dX7_two_54 : decode cX7_two 54 = .ok (.getfield 30, 3) := by decide +kernel
theorem dX7_two_57 : decode cX7_two 57 = .ok (.getfield 85, 3) := by decide +kernel
theorem dX7_two_60 : decode cX7_two 60 = .ok (.iload 4, 2) := by decide +kernel
theorem dX7_two_62 : decode cX7_two 62 = .ok (.aaload, 1) := by decide +kernel
theorem dX7_two_63 : decode cX7_two 63 = .ok (.getfield 120, 3) := by decide +kernel
theorem dX7_two_66 : decode cX7_two 66 = .ok (.invokevirtual 127, 3) := by decide +kernel
theorem dX7_two_69 : decode cX7_two 69 = .ok (.aload_n 0, 1) := by decide +kernel
theorem dX7_two_70 : decode cX7_two 70 = .ok (.getfield 30, 3) := by decide +kernel
theorem dX7_two_73 : decode cX7_two 73 = .ok (.iload 5, 2) := by decide +kernel
theorem dX7_two_75 : decode cX7_two 75 = .ok (.aload_n 0, 1) := by decide +kernel
theorem dX7_two_76 : decode cX7_two 76 = .ok (.getfield 30, 3) := by decide +kernel
theorem dX7_two_79 : decode cX7_two 79 = .ok (.getfield 85, 3) := by decide +kernel
theorem dX7_two_82 : decode cX7_two 82 = .ok (.iload 5, 2) := by decide +kernel
theorem dX7_two_84 : decode cX7_two 84 = .ok (.aaload, 1) := by decide +kernel
theorem dX7_two_85 : decode cX7_two 85 = .ok (.getfield 120, 3) := by decide +kernel
theorem dX7_two_88 : decode cX7_two 88 = .ok (.invokevirtual 127, 3) := by decide +kernel
theorem dX7_two_91 : decode cX7_two 91 = .ok (.isub, 1) := by decide +kernel
theorem dX7_two_92 : decode cX7_two 92 = .ok (.invokestatic 183, 3) := by decide +kernel
theorem dX7_two_95 : decode cX7_two 95 = .ok (.istore 6, 2) := by decide +kernel
theorem dX7_two_97 : decode cX7_two 97 = .ok (.iload_n 1, 1) := by decide +kernel
theorem dX7_two_98 : decode cX7_two 98 = .ok (.iload 4, 2) := by decide +kernel
theorem dX7_two_100 : decode cX7_two 100 = .ok (.ishr, 1) := by decide +kernel
theorem dX7_two_101 : decode cX7_two 101 = .ok (.iload_n 1, 1) := by decide +kernel
theorem dX7_two_102 : decode cX7_two 102 = .ok (.iload 5, 2) := by decide +kernel
theorem dX7_two_104 : decode cX7_two 104 = .ok (.ishr, 1) := by decide +kernel
theorem dX7_two_105 : decode cX7_two 105 = .ok (.iand, 1) := by decide +kernel
theorem dX7_two_106 : decode cX7_two 106 = .ok (.iconst 1, 1) := by decide +kernel
theorem dX7_two_107 : decode cX7_two 107 = .ok (.iand, 1) := by decide +kernel
theorem dX7_two_108 : decode cX7_two 108 = .ok (.iconst 1, 1) := by decide +kernel
theorem dX7_two_109 : decode cX7_two 109 = .ok (.if_icmp .ne 21, 3) := by decide +kernel
theorem dX7_two_112 : decode cX7_two 112 = .ok (.iload 6, 2) := by decide +kernel
theorem dX7_two_114 : decode cX7_two 114 = .ok (.iload_n 3, 1) := by decide +kernel
theorem dX7_two_115 : decode cX7_two 115 = .ok (.if_icmp .ge 15, 3) := by decide +kernel
theorem dX7_two_118 : decode cX7_two 118 = .ok (.bipush 10, 2) := by decide +kernel
theorem dX7_two_120 : decode cX7_two 120 = .ok (.iload 4, 2) := by decide +kernel
theorem dX7_two_122 : decode cX7_two 122 = .ok (.imul, 1) := by decide +kernel
theorem dX7_two_123 : decode cX7_two 123 = .ok (.iload 5, 2) := by decide +kernel
theorem dX7_two_125 : decode cX7_two 125 = .ok (.iadd, 1) := by decide +kernel
theorem dX7_two_126 : decode cX7_two 126 = .ok (.istore_n 2, 1) := by decide +kernel
theorem dX7_two_127 : decode cX7_two 127 = .ok (.iload 6, 2) := by decide +kernel
theorem dX7_two_129 : decode cX7_two 129 = .ok (.istore_n 3, 1) := by decide +kernel
theorem dX7_two_130 : decode cX7_two 130 = .ok (.iinc 5 1, 3) := by decide +kernel
theorem dX7_two_133 : decode cX7_two 133 = .ok (.goto (-98), 3) := by decide +kernel
theorem dX7_two_136 : decode cX7_two 136 = .ok (.iinc 4 1, 3) := by decide +kernel
theorem dX7_two_139 : decode cX7_two 139 = .ok (.goto (-122), 3) := by decide +kernel
theorem dX7_two_142 : decode cX7_two 142 = .ok (.iload_n 2, 1) := by decide +kernel
theorem dX7_two_143 : decode cX7_two 143 = .ok (.ireturn, 1) := by decide +kernel
theorem dX7_meet_0 : decode cX7_meet 0 = .ok (.aload_n 0, 1) := by decide +kernel
theorem dX7_meet_1 : decode cX7_meet 1 = .ok (.iload_n 1, 1) := by decide +kernel
theorem dX7_meet_2 : decode cX7_meet 2 = .ok (.invokevirtual 105, 3) := by decide +kernel
theorem dX7_meet_5 : decode cX7_meet 5 = .ok (.ifCond .eq 18, 3) := by decide +kernel
theorem dX7_meet_8 : decode cX7_meet 8 = .ok (.aload_n 0, 1) := by decide +kernel
theorem dX7_meet_9 : decode cX7_meet 9 = .ok (.iload_n 2, 1) := by decide +kernel
theorem dX7_meet_10 : decode cX7_meet 10 = .ok (.invokevirtual 105, 3) := by decide +kernel
theorem dX7_meet_13 : decode cX7_meet 13 = .ok (.ifCond .eq 10, 3) := by decide +kernel
theorem dX7_meet_16 : decode cX7_meet 16 = .ok (.iload_n 3, 1) := by decide +kernel
theorem dX7_meet_17 : decode cX7_meet 17 = .ok (.invokestatic 188, 3) := by decide +kernel
theorem dX7_meet_20 : decode cX7_meet 20 = .ok (.ifCond .ne 5, 3) := by decide +kernel
theorem dX7_meet_23 : decode cX7_meet 23 = .ok (.iconst (-1), 1) := by decide +kernel
theorem dX7_meet_24 : decode cX7_meet 24 = .ok (.ireturn, 1) := by decide +kernel
theorem dX7_meet_25 : decode cX7_meet 25 = .ok (.iload_n 1, 1) := by decide +kernel
theorem dX7_meet_26 : decode cX7_meet 26 = .ok (.iload_n 2, 1) := by decide +kernel
theorem dX7_meet_27 : decode cX7_meet 27 = .ok (.if_icmp .ne 6, 3) := by decide +kernel
theorem dX7_meet_30 : decode cX7_meet 30 = .ok (.bipush (-2), 2) := by decide +kernel
theorem dX7_meet_32 : decode cX7_meet 32 = .ok (.ireturn, 1) := by decide +kernel
theorem dX7_meet_33 : decode cX7_meet 33 = .ok (.aload_n 0, 1) := by decide +kernel
theorem dX7_meet_34 : decode cX7_meet 34 = .ok (.getfield 30, 3) := by decide +kernel
theorem dX7_meet_37 : decode cX7_meet 37 = .ok (.getfield 85, 3) := by decide +kernel
theorem dX7_meet_40 : decode cX7_meet 40 = .ok (.iload_n 1, 1) := by decide +kernel
theorem dX7_meet_41 : decode cX7_meet 41 = .ok (.aaload, 1) := by decide +kernel
theorem dX7_meet_42 : decode cX7_meet 42 = .ok (.astore 4, 2) := by decide +kernel
theorem dX7_meet_44 : decode cX7_meet 44 = .ok (.aload_n 0, 1) := by decide +kernel
theorem dX7_meet_45 : decode cX7_meet 45 = .ok (.getfield 30, 3) := by decide +kernel
theorem dX7_meet_48 : decode cX7_meet 48 = .ok (.getfield 85, 3) := by decide +kernel
theorem dX7_meet_51 : decode cX7_meet 51 = .ok (.iload_n 2, 1) := by decide +kernel
theorem dX7_meet_52 : decode cX7_meet 52 = .ok (.aaload, 1) := by decide +kernel
theorem dX7_meet_53 : decode cX7_meet 53 = .ok (.astore 5, 2) := by decide +kernel
theorem dX7_meet_55 : decode cX7_meet 55 = .ok (.iconst 0, 1) := by decide +kernel
theorem dX7_meet_56 : decode cX7_meet 56 = .ok (.istore 6, 2) := by decide +kernel
theorem dX7_meet_58 : decode cX7_meet 58 = .ok (.bipush (-5), 2) := by decide +kernel
theorem dX7_meet_60 : decode cX7_meet 60 = .ok (.istore 7, 2) := by decide +kernel
theorem dX7_meet_62 : decode cX7_meet 62 = .ok (.sipush 199, 3) := by decide +kernel
theorem dX7_meet_65 : decode cX7_meet 65 = .ok (.istore 8, 2) := by decide +kernel
theorem dX7_meet_67 : decode cX7_meet 67 = .ok (.iload 8, 2) := by decide +kernel
theorem dX7_meet_69 : decode cX7_meet 69 = .ok (.ifCond .lt 60, 3) := by decide +kernel
theorem dX7_meet_72 : decode cX7_meet 72 = .ok (.aload 4, 2) := by decide +kernel
theorem dX7_meet_74 : decode cX7_meet 74 = .ok (.aload 4, 2) := by decide +kernel
theorem dX7_meet_76 : decode cX7_meet 76 = .ok (.aload_n 0, 1) := by decide +kernel
theorem dX7_meet_77 : decode cX7_meet 77 = .ok (.getfield 30, 3) := by decide +kernel
theorem dX7_meet_80 : decode cX7_meet 80 = .ok (.getfield 149, 3) := by decide +kernel
theorem dX7_meet_83 : decode cX7_meet 83 = .ok (.iload 8, 2) := by decide +kernel
theorem dX7_meet_85 : decode cX7_meet 85 = .ok (.invokevirtual 176, 3) := by decide +kernel
theorem dX7_meet_88 : decode cX7_meet 88 = .ok (.invokevirtual 179, 3) := by decide +kernel
theorem dX7_meet_91 : decode cX7_meet 91 = .ok (.ifCond .eq 32, 3) := by decide +kernel
theorem dX7_meet_94 : decode cX7_meet 94 = .ok (.aload 5, 2) := by decide +kernel
theorem dX7_meet_96 : decode cX7_meet 96 = .ok (.aload 5, 2) := by decide +kernel
theorem dX7_meet_98 : decode cX7_meet 98 = .ok (.aload_n 0, 1) := by decide +kernel
theorem dX7_meet_99 : decode cX7_meet 99 = .ok (.getfield 30, 3) := by decide +kernel
theorem dX7_meet_102 : decode cX7_meet 102 = .ok (.getfield 149, 3) := by decide +kernel
theorem dX7_meet_105 : decode cX7_meet 105 = .ok (.iload 8, 2) := by decide +kernel
theorem dX7_meet_107 : decode cX7_meet 107 = .ok (.invokevirtual 176, 3) := by decide +kernel
theorem dX7_meet_110 : decode cX7_meet 110 = .ok (.invokevirtual 179, 3) := by decide +kernel
theorem dX7_meet_113 : decode cX7_meet 113 = .ok (.ifCond .eq 10, 3) := by decide +kernel
theorem dX7_meet_116 : decode cX7_meet 116 = .ok (.iinc 6 1, 3) := by decide +kernel
theorem dX7_meet_119 : decode cX7_meet 119 = .ok (.iload 8, 2) := by decide +kernel
theorem dX7_meet_121 : decode cX7_meet 121 = .ok (.istore 7, 2) := by decide +kernel
theorem dX7_meet_123 : decode cX7_meet 123 = .ok (.iinc 8 (-1), 3) := by decide +kernel
theorem dX7_meet_126 : decode cX7_meet 126 = .ok (.goto (-59), 3) := by decide +kernel
theorem dX7_meet_129 : decode cX7_meet 129 = .ok (.iload_n 3, 1) := by decide +kernel
theorem dX7_meet_130 : decode cX7_meet 130 = .ok (.ifCond .ne 8, 3) := by decide +kernel
theorem dX7_meet_133 : decode cX7_meet 133 = .ok (.iload 6, 2) := by decide +kernel
theorem dX7_meet_135 : decode cX7_meet 135 = .ok (.goto 5, 3) := by decide +kernel
theorem dX7_meet_138 : decode cX7_meet 138 = .ok (.iload 7, 2) := by decide +kernel
theorem dX7_meet_140 : decode cX7_meet 140 = .ok (.ireturn, 1) := by decide +kernel
theorem dX7_fewest_0 : decode cX7_fewest 0 = .ok (.aload_n 0, 1) := by decide +kernel
theorem dX7_fewest_1 : decode cX7_fewest 1 = .ok (.iload_n 2, 1) := by decide +kernel
theorem dX7_fewest_2 : decode cX7_fewest 2 = .ok (.invokevirtual 191, 3) := by decide +kernel
theorem dX7_fewest_5 : decode cX7_fewest 5 = .ok (.ifCond .ne 5, 3) := by decide +kernel
theorem dX7_fewest_8 : decode cX7_fewest 8 = .ok (.iconst (-1), 1) := by decide +kernel
theorem dX7_fewest_9 : decode cX7_fewest 9 = .ok (.ireturn, 1) := by decide +kernel
theorem dX7_fewest_10 : decode cX7_fewest 10 = .ok (.iload_n 1, 1) := by decide +kernel
theorem dX7_fewest_11 : decode cX7_fewest 11 = .ok (.ifCond .lt 16, 3) := by decide +kernel
theorem dX7_fewest_14 : decode cX7_fewest 14 = .ok (.iload_n 1, 1) := by decide +kernel
theorem dX7_fewest_15 : decode cX7_fewest 15 = .ok (.iconst 1, 1) := by decide +kernel
theorem dX7_fewest_16 : decode cX7_fewest 16 = .ok (.aload_n 0, 1) := by decide +kernel
theorem dX7_fewest_17 : decode cX7_fewest 17 = .ok (.getfield 30, 3) := by decide +kernel
theorem dX7_fewest_20 : decode cX7_fewest 20 = .ok (.getfield 82, 3) := by decide +kernel
theorem dX7_fewest_23 : decode cX7_fewest 23 = .ok (.ishl, 1) := by decide +kernel
theorem dX7_fewest_24 : decode cX7_fewest 24 = .ok (.if_icmp .lt 6, 3) := by decide +kernel
theorem dX7_fewest_27 : decode cX7_fewest 27 = .ok (.bipush (-2), 2) := by decide +kernel
theorem dX7_fewest_29 : decode cX7_fewest 29 = .ok (.ireturn, 1) := by decide +kernel
theorem dX7_fewest_30 : decode cX7_fewest 30 = .ok (.aload_n 0, 1) := by decide +kernel
theorem dX7_fewest_31 : decode cX7_fewest 31 = .ok (.getfield 45, 3) := by decide +kernel
theorem dX7_fewest_34 : decode cX7_fewest 34 = .ok (.iconst 0, 1) := by decide +kernel
theorem dX7_fewest_35 : decode cX7_fewest 35 = .ok (.iload_n 1, 1) := by decide +kernel
theorem dX7_fewest_36 : decode cX7_fewest 36 = .ok (.iload_n 2, 1) := by decide +kernel
theorem dX7_fewest_37 : decode cX7_fewest 37 = .ok (.invokevirtual 194, 3) := by decide +kernel
theorem dX7_fewest_40 : decode cX7_fewest 40 = .ok (.ireturn, 1) := by decide +kernel
theorem dX7_close_0 : decode cX7_close 0 = .ok (.aload_n 0, 1) := by decide +kernel
theorem dX7_close_1 : decode cX7_close 1 = .ok (.iload_n 1, 1) := by decide +kernel
theorem dX7_close_2 : decode cX7_close 2 = .ok (.invokevirtual 191, 3) := by decide +kernel
theorem dX7_close_5 : decode cX7_close 5 = .ok (.ifCond .eq 16, 3) := by decide +kernel
theorem dX7_close_8 : decode cX7_close 8 = .ok (.aload_n 0, 1) := by decide +kernel
theorem dX7_close_9 : decode cX7_close 9 = .ok (.getfield 45, 3) := by decide +kernel
theorem dX7_close_12 : decode cX7_close 12 = .ok (.iconst 1, 1) := by decide +kernel
theorem dX7_close_13 : decode cX7_close 13 = .ok (.iconst 0, 1) := by decide +kernel
theorem dX7_close_14 : decode cX7_close 14 = .ok (.iload_n 1, 1) := by decide +kernel
theorem dX7_close_15 : decode cX7_close 15 = .ok (.invokevirtual 194, 3) := by decide +kernel
theorem dX7_close_18 : decode cX7_close 18 = .ok (.goto 4, 3) := by decide +kernel
theorem dX7_close_21 : decode cX7_close 21 = .ok (.iconst (-1), 1) := by decide +kernel
theorem dX7_close_22 : decode cX7_close 22 = .ok (.ireturn, 1) := by decide +kernel
theorem dX7_boldest_0 : decode cX7_boldest 0 = .ok (.aload_n 0, 1) := by decide +kernel
theorem dX7_boldest_1 : decode cX7_boldest 1 = .ok (.iload_n 1, 1) := by decide +kernel
theorem dX7_boldest_2 : decode cX7_boldest 2 = .ok (.invokevirtual 191, 3) := by decide +kernel
theorem dX7_boldest_5 : decode cX7_boldest 5 = .ok (.ifCond .eq 16, 3) := by decide +kernel
theorem dX7_boldest_8 : decode cX7_boldest 8 = .ok (.aload_n 0, 1) := by decide +kernel
theorem dX7_boldest_9 : decode cX7_boldest 9 = .ok (.getfield 45, 3) := by decide +kernel
theorem dX7_boldest_12 : decode cX7_boldest 12 = .ok (.iconst 2, 1) := by decide +kernel
theorem dX7_boldest_13 : decode cX7_boldest 13 = .ok (.iconst 0, 1) := by decide +kernel
theorem dX7_boldest_14 : decode cX7_boldest 14 = .ok (.iload_n 1, 1) := by decide +kernel
theorem dX7_boldest_15 : decode cX7_boldest 15 = .ok (.invokevirtual 194, 3) := by decide +kernel
theorem dX7_boldest_18 : decode cX7_boldest 18 = .ok (.goto 4, 3) := by decide +kernel
theorem dX7_boldest_21 : decode cX7_boldest 21 = .ok (.iconst (-1), 1) := by decide +kernel
theorem dX7_boldest_22 : decode cX7_boldest 22 = .ok (.ireturn, 1) := by decide +kernel
theorem dX7_see_0 : decode cX7_see 0 = .ok (.aload_n 0, 1) := by decide +kernel
theorem dX7_see_1 : decode cX7_see 1 = .ok (.aload_n 0, 1) := by decide +kernel
theorem dX7_see_2 : decode cX7_see 2 = .ok (.getfield 30, 3) := by decide +kernel
theorem dX7_see_5 : decode cX7_see 5 = .ok (.getfield 198, 3) := by decide +kernel
theorem dX7_see_8 : decode cX7_see 8 = .ok (.iload_n 1, 1) := by decide +kernel
theorem dX7_see_9 : decode cX7_see 9 = .ok (.iload_n 2, 1) := by decide +kernel
theorem dX7_see_10 : decode cX7_see 10 = .ok (.invokevirtual 202, 3) := by decide +kernel
theorem dX7_see_13 : decode cX7_see 13 = .ok (.ireturn, 1) := by decide +kernel
theorem dX7_drank_0 : decode cX7_drank 0 = .ok (.aload_n 0, 1) := by decide +kernel
theorem dX7_drank_1 : decode cX7_drank 1 = .ok (.iload_n 1, 1) := by decide +kernel
theorem dX7_drank_2 : decode cX7_drank 2 = .ok (.invokevirtual 105, 3) := by decide +kernel
theorem dX7_drank_5 : decode cX7_drank 5 = .ok (.ifCond .ne 5, 3) := by decide +kernel
theorem dX7_drank_8 : decode cX7_drank 8 = .ok (.iconst (-1), 1) := by decide +kernel
theorem dX7_drank_9 : decode cX7_drank 9 = .ok (.ireturn, 1) := by decide +kernel
theorem dX7_drank_10 : decode cX7_drank 10 = .ok (.aload_n 0, 1) := by decide +kernel
theorem dX7_drank_11 : decode cX7_drank 11 = .ok (.getfield 30, 3) := by decide +kernel
theorem dX7_drank_14 : decode cX7_drank 14 = .ok (.getfield 85, 3) := by decide +kernel
theorem dX7_drank_17 : decode cX7_drank 17 = .ok (.iload_n 1, 1) := by decide +kernel
theorem dX7_drank_18 : decode cX7_drank 18 = .ok (.aaload, 1) := by decide +kernel
theorem dX7_drank_19 : decode cX7_drank 19 = .ok (.astore_n 2, 1) := by decide +kernel
theorem dX7_drank_20 : decode cX7_drank 20 = .ok (.aload_n 0, 1) := by decide +kernel
theorem dX7_drank_21 : decode cX7_drank 21 = .ok (.getfield 30, 3) := by decide +kernel
theorem dX7_drank_24 : decode cX7_drank 24 = .ok (.iload_n 1, 1) := by decide +kernel
theorem dX7_drank_25 : decode cX7_drank 25 = .ok (.iconst (-1), 1) := by decide +kernel
theorem dX7_drank_26 : decode cX7_drank 26 = .ok (.aload_n 2, 1) := by decide +kernel
theorem dX7_drank_27 : decode cX7_drank 27 = .ok (.getfield 114, 3) := by decide +kernel
theorem dX7_drank_30 : decode cX7_drank 30 = .ok (.aload_n 2, 1) := by decide +kernel
theorem dX7_drank_31 : decode cX7_drank 31 = .ok (.getfield 111, 3) := by decide +kernel
theorem dX7_drank_34 : decode cX7_drank 34 = .ok (.invokevirtual 206, 3) := by decide +kernel
theorem dX7_drank_37 : decode cX7_drank 37 = .ok (.ifCond .eq 8, 3) := by decide +kernel
theorem dX7_drank_40 : decode cX7_drank 40 = .ok (.bipush 32, 2) := by decide +kernel
theorem dX7_drank_42 : decode cX7_drank 42 = .ok (.goto 4, 3) := by decide +kernel
theorem dX7_drank_45 : decode cX7_drank 45 = .ok (.iconst 0, 1) := by decide +kernel
theorem dX7_drank_46 : decode cX7_drank 46 = .ok (.istore_n 3, 1) := by decide +kernel
theorem dX7_drank_47 : decode cX7_drank 47 = .ok (.iconst 0, 1) := by decide +kernel
theorem dX7_drank_48 : decode cX7_drank 48 = .ok (.istore 4, 2) := by decide +kernel
theorem dX7_drank_50 : decode cX7_drank 50 = .ok (.iload 4, 2) := by decide +kernel
theorem dX7_drank_52 : decode cX7_drank 52 = .ok (.aload_n 0, 1) := by decide +kernel
theorem dX7_drank_53 : decode cX7_drank 53 = .ok (.getfield 30, 3) := by decide +kernel
theorem dX7_drank_56 : decode cX7_drank 56 = .ok (.getfield 98, 3) := by decide +kernel
theorem dX7_drank_59 : decode cX7_drank 59 = .ok (.if_icmp .ge 37, 3) := by decide +kernel
theorem dX7_drank_62 : decode cX7_drank 62 = .ok (.aload_n 0, 1) := by decide +kernel
theorem dX7_drank_63 : decode cX7_drank 63 = .ok (.getfield 30, 3) := by decide +kernel
theorem dX7_drank_66 : decode cX7_drank 66 = .ok (.iload_n 1, 1) := by decide +kernel
theorem dX7_drank_67 : decode cX7_drank 67 = .ok (.iload 4, 2) := by decide +kernel
theorem dX7_drank_69 : decode cX7_drank 69 = .ok (.aload_n 2, 1) := by decide +kernel
theorem dX7_drank_70 : decode cX7_drank 70 = .ok (.getfield 114, 3) := by decide +kernel
theorem dX7_drank_73 : decode cX7_drank 73 = .ok (.aload_n 2, 1) := by decide +kernel
theorem dX7_drank_74 : decode cX7_drank 74 = .ok (.getfield 111, 3) := by decide +kernel
theorem dX7_drank_77 : decode cX7_drank 77 = .ok (.invokevirtual 206, 3) := by decide +kernel
theorem dX7_drank_80 : decode cX7_drank 80 = .ok (.ifCond .eq 10, 3) := by decide +kernel
theorem dX7_drank_83 : decode cX7_drank 83 = .ok (.iload_n 3, 1) := by decide +kernel
theorem dX7_drank_84 : decode cX7_drank 84 = .ok (.iconst 1, 1) := by decide +kernel
theorem dX7_drank_85 : decode cX7_drank 85 = .ok (.iload 4, 2) := by decide +kernel
theorem dX7_drank_87 : decode cX7_drank 87 = .ok (.ishl, 1) := by decide +kernel
theorem dX7_drank_88 : decode cX7_drank 88 = .ok (.ior, 1) := by decide +kernel
theorem dX7_drank_89 : decode cX7_drank 89 = .ok (.istore_n 3, 1) := by decide +kernel
theorem dX7_drank_90 : decode cX7_drank 90 = .ok (.iinc 4 1, 3) := by decide +kernel
theorem dX7_drank_93 : decode cX7_drank 93 = .ok (.goto (-43), 3) := by decide +kernel
theorem dX7_drank_96 : decode cX7_drank 96 = .ok (.iload_n 3, 1) := by decide +kernel
theorem dX7_drank_97 : decode cX7_drank 97 = .ok (.ireturn, 1) := by decide +kernel
theorem dX7_birth_0 : decode cX7_birth 0 = .ok (.aload_n 0, 1) := by decide +kernel
theorem dX7_birth_1 : decode cX7_birth 1 = .ok (.iload_n 1, 1) := by decide +kernel
theorem dX7_birth_2 : decode cX7_birth 2 = .ok (.invokevirtual 105, 3) := by decide +kernel
theorem dX7_birth_5 : decode cX7_birth 5 = .ok (.ifCond .eq 10, 3) := by decide +kernel
theorem dX7_birth_8 : decode cX7_birth 8 = .ok (.iload_n 2, 1) := by decide +kernel
theorem dX7_birth_9 : decode cX7_birth 9 = .ok (.invokestatic 188, 3) := by decide +kernel
theorem dX7_birth_12 : decode cX7_birth 12 = .ok (.ifCond .ne 5, 3) := by decide +kernel
theorem dX7_birth_15 : decode cX7_birth 15 = .ok (.iconst (-1), 1) := by decide +kernel
theorem dX7_birth_16 : decode cX7_birth 16 = .ok (.ireturn, 1) := by decide +kernel
theorem dX7_birth_17 : decode cX7_birth 17 = .ok (.aload_n 0, 1) := by decide +kernel
theorem dX7_birth_18 : decode cX7_birth 18 = .ok (.getfield 30, 3) := by decide +kernel
theorem dX7_birth_21 : decode cX7_birth 21 = .ok (.getfield 85, 3) := by decide +kernel
theorem dX7_birth_24 : decode cX7_birth 24 = .ok (.iload_n 1, 1) := by decide +kernel
theorem dX7_birth_25 : decode cX7_birth 25 = .ok (.aaload, 1) := by decide +kernel
theorem dX7_birth_26 : decode cX7_birth 26 = .ok (.astore_n 3, 1) := by decide +kernel
theorem dX7_birth_27 : decode cX7_birth 27 = .ok (.iconst 0, 1) := by decide +kernel
theorem dX7_birth_28 : decode cX7_birth 28 = .ok (.istore 4, 2) := by decide +kernel
theorem dX7_birth_30 : decode cX7_birth 30 = .ok (.bipush (-5), 2) := by decide +kernel
theorem dX7_birth_32 : decode cX7_birth 32 = .ok (.istore 5, 2) := by decide +kernel
theorem dX7_birth_34 : decode cX7_birth 34 = .ok (.sipush 199, 3) := by decide +kernel
theorem dX7_birth_37 : decode cX7_birth 37 = .ok (.istore 6, 2) := by decide +kernel
theorem dX7_birth_39 : decode cX7_birth 39 = .ok (.iload 6, 2) := by decide +kernel
theorem dX7_birth_41 : decode cX7_birth 41 = .ok (.ifCond .lt 37, 3) := by decide +kernel
theorem dX7_birth_44 : decode cX7_birth 44 = .ok (.aload_n 0, 1) := by decide +kernel
theorem dX7_birth_45 : decode cX7_birth 45 = .ok (.getfield 30, 3) := by decide +kernel
theorem dX7_birth_48 : decode cX7_birth 48 = .ok (.iload_n 1, 1) := by decide +kernel
theorem dX7_birth_49 : decode cX7_birth 49 = .ok (.aload_n 3, 1) := by decide +kernel
theorem dX7_birth_50 : decode cX7_birth 50 = .ok (.getfield 120, 3) := by decide +kernel
theorem dX7_birth_53 : decode cX7_birth 53 = .ok (.iload 6, 2) := by decide +kernel
theorem dX7_birth_55 : decode cX7_birth 55 = .ok (.aload_n 3, 1) := by decide +kernel
theorem dX7_birth_56 : decode cX7_birth 56 = .ok (.getfield 111, 3) := by decide +kernel
theorem dX7_birth_59 : decode cX7_birth 59 = .ok (.invokevirtual 206, 3) := by decide +kernel
theorem dX7_birth_62 : decode cX7_birth 62 = .ok (.ifCond .eq 10, 3) := by decide +kernel
theorem dX7_birth_65 : decode cX7_birth 65 = .ok (.iinc 4 1, 3) := by decide +kernel
theorem dX7_birth_68 : decode cX7_birth 68 = .ok (.iload 6, 2) := by decide +kernel
theorem dX7_birth_70 : decode cX7_birth 70 = .ok (.istore 5, 2) := by decide +kernel
theorem dX7_birth_72 : decode cX7_birth 72 = .ok (.iinc 6 (-1), 3) := by decide +kernel
theorem dX7_birth_75 : decode cX7_birth 75 = .ok (.goto (-36), 3) := by decide +kernel
theorem dX7_birth_78 : decode cX7_birth 78 = .ok (.iload_n 2, 1) := by decide +kernel
theorem dX7_birth_79 : decode cX7_birth 79 = .ok (.ifCond .ne 8, 3) := by decide +kernel
theorem dX7_birth_82 : decode cX7_birth 82 = .ok (.iload 4, 2) := by decide +kernel
theorem dX7_birth_84 : decode cX7_birth 84 = .ok (.goto 5, 3) := by decide +kernel
theorem dX7_birth_87 : decode cX7_birth 87 = .ok (.iload 5, 2) := by decide +kernel
theorem dX7_birth_89 : decode cX7_birth 89 = .ok (.ireturn, 1) := by decide +kernel
theorem dX7_firm_0 : decode cX7_firm 0 = .ok (.aload_n 0, 1) := by decide +kernel
theorem dX7_firm_1 : decode cX7_firm 1 = .ok (.iload_n 1, 1) := by decide +kernel
theorem dX7_firm_2 : decode cX7_firm 2 = .ok (.invokevirtual 105, 3) := by decide +kernel
theorem dX7_firm_5 : decode cX7_firm 5 = .ok (.ifCond .eq 10, 3) := by decide +kernel
theorem dX7_firm_8 : decode cX7_firm 8 = .ok (.iload_n 2, 1) := by decide +kernel
theorem dX7_firm_9 : decode cX7_firm 9 = .ok (.invokestatic 188, 3) := by decide +kernel
theorem dX7_firm_12 : decode cX7_firm 12 = .ok (.ifCond .ne 5, 3) := by decide +kernel
theorem dX7_firm_15 : decode cX7_firm 15 = .ok (.iconst (-1), 1) := by decide +kernel
theorem dX7_firm_16 : decode cX7_firm 16 = .ok (.ireturn, 1) := by decide +kernel
theorem dX7_firm_17 : decode cX7_firm 17 = .ok (.aload_n 0, 1) := by decide +kernel
theorem dX7_firm_18 : decode cX7_firm 18 = .ok (.getfield 30, 3) := by decide +kernel
theorem dX7_firm_21 : decode cX7_firm 21 = .ok (.getfield 85, 3) := by decide +kernel
theorem dX7_firm_24 : decode cX7_firm 24 = .ok (.iload_n 1, 1) := by decide +kernel
theorem dX7_firm_25 : decode cX7_firm 25 = .ok (.aaload, 1) := by decide +kernel
theorem dX7_firm_26 : decode cX7_firm 26 = .ok (.astore_n 3, 1) := by decide +kernel
theorem dX7_firm_27 : decode cX7_firm 27 = .ok (.iconst 0, 1) := by decide +kernel
theorem dX7_firm_28 : decode cX7_firm 28 = .ok (.istore 4, 2) := by decide +kernel
theorem dX7_firm_30 : decode cX7_firm 30 = .ok (.bipush (-5), 2) := by decide +kernel
theorem dX7_firm_32 : decode cX7_firm 32 = .ok (.istore 5, 2) := by decide +kernel
theorem dX7_firm_34 : decode cX7_firm 34 = .ok (.bipush 9, 2) := by decide +kernel
theorem dX7_firm_36 : decode cX7_firm 36 = .ok (.istore 6, 2) := by decide +kernel
theorem dX7_firm_38 : decode cX7_firm 38 = .ok (.iload 6, 2) := by decide +kernel
theorem dX7_firm_40 : decode cX7_firm 40 = .ok (.ifCond .lt 37, 3) := by decide +kernel
theorem dX7_firm_43 : decode cX7_firm 43 = .ok (.aload_n 0, 1) := by decide +kernel
theorem dX7_firm_44 : decode cX7_firm 44 = .ok (.getfield 30, 3) := by decide +kernel
theorem dX7_firm_47 : decode cX7_firm 47 = .ok (.iload_n 1, 1) := by decide +kernel
theorem dX7_firm_48 : decode cX7_firm 48 = .ok (.aload_n 3, 1) := by decide +kernel
theorem dX7_firm_49 : decode cX7_firm 49 = .ok (.getfield 120, 3) := by decide +kernel
theorem dX7_firm_52 : decode cX7_firm 52 = .ok (.aload_n 3, 1) := by decide +kernel
theorem dX7_firm_53 : decode cX7_firm 53 = .ok (.getfield 114, 3) := by decide +kernel
theorem dX7_firm_56 : decode cX7_firm 56 = .ok (.iload 6, 2) := by decide +kernel
theorem dX7_firm_58 : decode cX7_firm 58 = .ok (.invokevirtual 206, 3) := by decide +kernel
theorem dX7_firm_61 : decode cX7_firm 61 = .ok (.ifCond .eq 10, 3) := by decide +kernel
theorem dX7_firm_64 : decode cX7_firm 64 = .ok (.iinc 4 1, 3) := by decide +kernel
theorem dX7_firm_67 : decode cX7_firm 67 = .ok (.iload 6, 2) := by decide +kernel
theorem dX7_firm_69 : decode cX7_firm 69 = .ok (.istore 5, 2) := by decide +kernel
theorem dX7_firm_71 : decode cX7_firm 71 = .ok (.iinc 6 (-1), 3) := by decide +kernel
theorem dX7_firm_74 : decode cX7_firm 74 = .ok (.goto (-36), 3) := by decide +kernel
theorem dX7_firm_77 : decode cX7_firm 77 = .ok (.iload_n 2, 1) := by decide +kernel
theorem dX7_firm_78 : decode cX7_firm 78 = .ok (.ifCond .ne 8, 3) := by decide +kernel
theorem dX7_firm_81 : decode cX7_firm 81 = .ok (.iload 4, 2) := by decide +kernel
theorem dX7_firm_83 : decode cX7_firm 83 = .ok (.goto 5, 3) := by decide +kernel
theorem dX7_firm_86 : decode cX7_firm 86 = .ok (.iload 5, 2) := by decide +kernel
theorem dX7_firm_88 : decode cX7_firm 88 = .ok (.ireturn, 1) := by decide +kernel
theorem dX7_odds_0 : decode cX7_odds 0 = .ok (.aload_n 0, 1) := by decide +kernel
theorem dX7_odds_1 : decode cX7_odds 1 = .ok (.iload_n 1, 1) := by decide +kernel
theorem dX7_odds_2 : decode cX7_odds 2 = .ok (.invokevirtual 105, 3) := by decide +kernel
theorem dX7_odds_5 : decode cX7_odds 5 = .ok (.ifCond .eq 12, 3) := by decide +kernel
theorem dX7_odds_8 : decode cX7_odds 8 = .ok (.iload_n 2, 1) := by decide +kernel
theorem dX7_odds_9 : decode cX7_odds 9 = .ok (.ifCond .lt 8, 3) := by decide +kernel
theorem dX7_odds_12 : decode cX7_odds 12 = .ok (.iload_n 2, 1) := by decide +kernel
theorem dX7_odds_13 : decode cX7_odds 13 = .ok (.iconst 3, 1) := by decide +kernel
theorem dX7_odds_14 : decode cX7_odds 14 = .ok (.if_icmp .le 7, 3) := by decide +kernel
theorem dX7_odds_17 : decode cX7_odds 17 = .ok (.ldc2_w 210, 3) := by decide +kernel
theorem dX7_odds_20 : decode cX7_odds 20 = .ok (.lreturn, 1) := by decide +kernel
theorem dX7_odds_21 : decode cX7_odds 21 = .ok (.iconst 0, 1) := by decide +kernel
theorem dX7_odds_22 : decode cX7_odds 22 = .ok (.istore 4, 2) := by decide +kernel
theorem dX7_odds_24 : decode cX7_odds 24 = .ok (.iconst 0, 1) := by decide +kernel
theorem dX7_odds_25 : decode cX7_odds 25 = .ok (.istore 5, 2) := by decide +kernel
theorem dX7_odds_27 : decode cX7_odds 27 = .ok (.iload 5, 2) := by decide +kernel
theorem dX7_odds_29 : decode cX7_odds 29 = .ok (.aload_n 0, 1) := by decide +kernel
theorem dX7_odds_30 : decode cX7_odds 30 = .ok (.getfield 30, 3) := by decide +kernel
theorem dX7_odds_33 : decode cX7_odds 33 = .ok (.getfield 98, 3) := by decide +kernel
theorem dX7_odds_36 : decode cX7_odds 36 = .ok (.if_icmp .ge 38, 3) := by decide +kernel
theorem dX7_odds_39 : decode cX7_odds 39 = .ok (.aload_n 0, 1) := by decide +kernel
theorem dX7_odds_40 : decode cX7_odds 40 = .ok (.getfield 30, 3) := by decide +kernel
theorem dX7_odds_43 : decode cX7_odds 43 = .ok (.iload_n 1, 1) := by decide +kernel
theorem dX7_odds_44 : decode cX7_odds 44 = .ok (.iload 5, 2) := by decide +kernel
theorem dX7_odds_46 : decode cX7_odds 46 = .ok (.invokevirtual 130, 3) := by decide +kernel
theorem dX7_odds_49 : decode cX7_odds 49 = .ok (.iload_n 2, 1) := by decide +kernel
theorem dX7_odds_50 : decode cX7_odds 50 = .ok (.if_icmp .ne 18, 3) := by decide +kernel
theorem dX7_odds_53 : decode cX7_odds 53 = .ok (.iload 4, 2) := by decide +kernel
theorem dX7_odds_55 : decode cX7_odds 55 = .ok (.aload_n 0, 1) := by decide +kernel
theorem dX7_odds_56 : decode cX7_odds 56 = .ok (.getfield 30, 3) := by decide +kernel
theorem dX7_odds_59 : decode cX7_odds 59 = .ok (.getfield 146, 3) := by decide +kernel
theorem dX7_odds_62 : decode cX7_odds 62 = .ok (.iload 5, 2) := by decide +kernel
theorem dX7_odds_64 : decode cX7_odds 64 = .ok (.iaload, 1) := by decide +kernel
theorem dX7_odds_65 : decode cX7_odds 65 = .ok (.iadd, 1) := by decide +kernel
theorem dX7_odds_66 : decode cX7_odds 66 = .ok (.istore 4, 2) := by decide +kernel
theorem dX7_odds_68 : decode cX7_odds 68 = .ok (.iinc 5 1, 3) := by decide +kernel
theorem dX7_odds_71 : decode cX7_odds 71 = .ok (.goto (-44), 3) := by decide +kernel
theorem dX7_odds_74 : decode cX7_odds 74 = .ok (.iload 4, 2) := by decide +kernel
theorem dX7_odds_76 : decode cX7_odds 76 = .ok (.aload_n 0, 1) := by decide +kernel
theorem dX7_odds_77 : decode cX7_odds 77 = .ok (.getfield 30, 3) := by decide +kernel
theorem dX7_odds_80 : decode cX7_odds 80 = .ok (.invokevirtual 165, 3) := by decide +kernel
theorem dX7_odds_83 : decode cX7_odds 83 = .ok (.iload_n 3, 1) := by decide +kernel
theorem dX7_odds_84 : decode cX7_odds 84 = .ok (.invokestatic 212, 3) := by decide +kernel
theorem dX7_odds_87 : decode cX7_odds 87 = .ok (.lreturn, 1) := by decide +kernel
theorem dX7_mean_0 : decode cX7_mean 0 = .ok (.iconst 0, 1) := by decide +kernel
theorem dX7_mean_1 : decode cX7_mean 1 = .ok (.istore_n 2, 1) := by decide +kernel
theorem dX7_mean_2 : decode cX7_mean 2 = .ok (.iconst 0, 1) := by decide +kernel
theorem dX7_mean_3 : decode cX7_mean 3 = .ok (.istore_n 3, 1) := by decide +kernel
theorem dX7_mean_4 : decode cX7_mean 4 = .ok (.iconst 0, 1) := by decide +kernel
theorem dX7_mean_5 : decode cX7_mean 5 = .ok (.istore 4, 2) := by decide +kernel
theorem dX7_mean_7 : decode cX7_mean 7 = .ok (.iload 4, 2) := by decide +kernel
theorem dX7_mean_9 : decode cX7_mean 9 = .ok (.aload_n 0, 1) := by decide +kernel
theorem dX7_mean_10 : decode cX7_mean 10 = .ok (.getfield 30, 3) := by decide +kernel
theorem dX7_mean_13 : decode cX7_mean 13 = .ok (.getfield 82, 3) := by decide +kernel
theorem dX7_mean_16 : decode cX7_mean 16 = .ok (.if_icmp .ge 55, 3) := by decide +kernel
theorem dX7_mean_19 : decode cX7_mean 19 = .ok (.aload_n 0, 1) := by decide +kernel
theorem dX7_mean_20 : decode cX7_mean 20 = .ok (.getfield 30, 3) := by decide +kernel
theorem dX7_mean_23 : decode cX7_mean 23 = .ok (.getfield 85, 3) := by decide +kernel
theorem dX7_mean_26 : decode cX7_mean 26 = .ok (.iload 4, 2) := by decide +kernel
theorem dX7_mean_28 : decode cX7_mean 28 = .ok (.aaload, 1) := by decide +kernel
theorem dX7_mean_29 : decode cX7_mean 29 = .ok (.getfield 120, 3) := by decide +kernel
theorem dX7_mean_32 : decode cX7_mean 32 = .ok (.istore 5, 2) := by decide +kernel
theorem dX7_mean_34 : decode cX7_mean 34 = .ok (.aload_n 0, 1) := by decide +kernel
theorem dX7_mean_35 : decode cX7_mean 35 = .ok (.getfield 30, 3) := by decide +kernel
theorem dX7_mean_38 : decode cX7_mean 38 = .ok (.iload 4, 2) := by decide +kernel
theorem dX7_mean_40 : decode cX7_mean 40 = .ok (.iload 5, 2) := by decide +kernel
theorem dX7_mean_42 : decode cX7_mean 42 = .ok (.invokevirtual 130, 3) := by decide +kernel
theorem dX7_mean_45 : decode cX7_mean 45 = .ok (.ifCond .le 20, 3) := by decide +kernel
theorem dX7_mean_48 : decode cX7_mean 48 = .ok (.iload_n 2, 1) := by decide +kernel
theorem dX7_mean_49 : decode cX7_mean 49 = .ok (.aload_n 0, 1) := by decide +kernel
theorem dX7_mean_50 : decode cX7_mean 50 = .ok (.getfield 30, 3) := by decide +kernel
theorem dX7_mean_53 : decode cX7_mean 53 = .ok (.iload 4, 2) := by decide +kernel
theorem dX7_mean_55 : decode cX7_mean 55 = .ok (.iload 5, 2) := by decide +kernel
theorem dX7_mean_57 : decode cX7_mean 57 = .ok (.invokevirtual 127, 3) := by decide +kernel
theorem dX7_mean_60 : decode cX7_mean 60 = .ok (.iadd, 1) := by decide +kernel
theorem dX7_mean_61 : decode cX7_mean 61 = .ok (.istore_n 2, 1) := by decide +kernel
theorem dX7_mean_62 : decode cX7_mean 62 = .ok (.iinc 3 1, 3) := by decide +kernel
theorem dX7_mean_65 : decode cX7_mean 65 = .ok (.iinc 4 1, 3) := by decide +kernel
theorem dX7_mean_68 : decode cX7_mean 68 = .ok (.goto (-61), 3) := by decide +kernel
theorem dX7_mean_71 : decode cX7_mean 71 = .ok (.iload_n 2, 1) := by decide +kernel
theorem dX7_mean_72 : decode cX7_mean 72 = .ok (.iload_n 3, 1) := by decide +kernel
theorem dX7_mean_73 : decode cX7_mean 73 = .ok (.iload_n 1, 1) := by decide +kernel
theorem dX7_mean_74 : decode cX7_mean 74 = .ok (.invokestatic 212, 3) := by decide +kernel
theorem dX7_mean_77 : decode cX7_mean 77 = .ok (.lreturn, 1) := by decide +kernel
theorem dX7_night_0 : decode cX7_night 0 = .ok (.iload_n 1, 1) := by decide +kernel
theorem dX7_night_1 : decode cX7_night 1 = .ok (.iconst (-1), 1) := by decide +kernel
theorem dX7_night_2 : decode cX7_night 2 = .ok (.if_icmp .ne 14, 3) := by decide +kernel
theorem dX7_night_5 : decode cX7_night 5 = .ok (.aload_n 0, 1) := by decide +kernel
theorem dX7_night_6 : decode cX7_night 6 = .ok (.getfield 30, 3) := by decide +kernel
theorem dX7_night_9 : decode cX7_night 9 = .ok (.getfield 216, 3) := by decide +kernel
theorem dX7_night_12 : decode cX7_night 12 = .ok (.invokevirtual 219, 3) := by decide +kernel
theorem dX7_night_15 : decode cX7_night 15 = .ok (.ireturn, 1) := by decide +kernel
theorem dX7_night_16 : decode cX7_night 16 = .ok (.iload_n 1, 1) := by decide +kernel
theorem dX7_night_17 : decode cX7_night 17 = .ok (.ifCond .lt 33, 3) := by decide +kernel
theorem dX7_night_20 : decode cX7_night 20 = .ok (.iload_n 1, 1) := by decide +kernel
theorem dX7_night_21 : decode cX7_night 21 = .ok (.iconst 2, 1) := by decide +kernel
theorem dX7_night_22 : decode cX7_night 22 = .ok (.if_icmp .gt 28, 3) := by decide +kernel
theorem dX7_night_25 : decode cX7_night 25 = .ok (.iload_n 1, 1) := by decide +kernel
theorem dX7_night_26 : decode cX7_night 26 = .ok (.ifCond .eq 11, 3) := by decide +kernel
theorem dX7_night_29 : decode cX7_night 29 = .ok (.aload_n 0, 1) := by decide +kernel
theorem dX7_night_30 : decode cX7_night 30 = .ok (.iload_n 2, 1) := by decide +kernel
theorem dX7_night_31 : decode cX7_night 31 = .ok (.invokevirtual 105, 3) := by decide +kernel
theorem dX7_night_34 : decode cX7_night 34 = .ok (.ifCond .eq 16, 3) := by decide +kernel
theorem dX7_night_37 : decode cX7_night 37 = .ok (.iload_n 1, 1) := by decide +kernel
theorem dX7_night_38 : decode cX7_night 38 = .ok (.iconst 1, 1) := by decide +kernel
theorem dX7_night_39 : decode cX7_night 39 = .ok (.if_icmp .ne 13, 3) := by decide +kernel
theorem dX7_night_42 : decode cX7_night 42 = .ok (.aload_n 0, 1) := by decide +kernel
theorem dX7_night_43 : decode cX7_night 43 = .ok (.iload_n 3, 1) := by decide +kernel
theorem dX7_night_44 : decode cX7_night 44 = .ok (.invokevirtual 140, 3) := by decide +kernel
theorem dX7_night_47 : decode cX7_night 47 = .ok (.ifCond .ne 5, 3) := by decide +kernel
theorem dX7_night_50 : decode cX7_night 50 = .ok (.iconst (-1), 1) := by decide +kernel
theorem dX7_night_51 : decode cX7_night 51 = .ok (.ireturn, 1) := by decide +kernel
theorem dX7_night_52 : decode cX7_night 52 = .ok (.aload_n 0, 1) := by decide +kernel
theorem dX7_night_53 : decode cX7_night 53 = .ok (.getfield 30, 3) := by decide +kernel
theorem dX7_night_56 : decode cX7_night 56 = .ok (.getfield 216, 3) := by decide +kernel
theorem dX7_night_59 : decode cX7_night 59 = .ok (.iload_n 1, 1) := by decide +kernel
theorem dX7_night_60 : decode cX7_night 60 = .ok (.iload_n 2, 1) := by decide +kernel
theorem dX7_night_61 : decode cX7_night 61 = .ok (.iload_n 3, 1) := by decide +kernel
theorem dX7_night_62 : decode cX7_night 62 = .ok (.invokevirtual 224, 3) := by decide +kernel
theorem dX7_night_65 : decode cX7_night 65 = .ok (.ireturn, 1) := by decide +kernel
theorem dX7_done_0 : decode cX7_done 0 = .ok (.iload_n 1, 1) := by decide +kernel
theorem dX7_done_1 : decode cX7_done 1 = .ok (.ifCond .lt 8, 3) := by decide +kernel
theorem dX7_done_4 : decode cX7_done 4 = .ok (.iload_n 1, 1) := by decide +kernel
theorem dX7_done_5 : decode cX7_done 5 = .ok (.iconst 1, 1) := by decide +kernel
theorem dX7_done_6 : decode cX7_done 6 = .ok (.if_icmp .le 5, 3) := by decide +kernel
theorem dX7_done_9 : decode cX7_done 9 = .ok (.iconst (-1), 1) := by decide +kernel
theorem dX7_done_10 : decode cX7_done 10 = .ok (.ireturn, 1) := by decide +kernel
theorem dX7_done_11 : decode cX7_done 11 = .ok (.aload_n 0, 1) := by decide +kernel
theorem dX7_done_12 : decode cX7_done 12 = .ok (.getfield 37, 3) := by decide +kernel
theorem dX7_done_15 : decode cX7_done 15 = .ok (.aload_n 0, 1) := by decide +kernel
theorem dX7_done_16 : decode cX7_done 16 = .ok (.getfield 30, 3) := by decide +kernel
theorem dX7_done_19 : decode cX7_done 19 = .ok (.invokevirtual 227, 3) := by decide +kernel
theorem dX7_done_22 : decode cX7_done 22 = .ok (.aload_n 0, 1) := by decide +kernel
theorem dX7_done_23 : decode cX7_done 23 = .ok (.getfield 37, 3) := by decide +kernel
theorem dX7_done_26 : decode cX7_done 26 = .ok (.invokevirtual 230, 3) := by decide +kernel
theorem dX7_done_29 : decode cX7_done 29 = .ok (.iload_n 1, 1) := by decide +kernel
theorem dX7_done_30 : decode cX7_done 30 = .ok (.ifCond .ne 16, 3) := by decide +kernel
theorem dX7_done_33 : decode cX7_done 33 = .ok (.aload_n 0, 1) := by decide +kernel
theorem dX7_done_34 : decode cX7_done 34 = .ok (.getfield 37, 3) := by decide +kernel
theorem dX7_done_37 : decode cX7_done 37 = .ok (.invokevirtual 158, 3) := by decide +kernel
theorem dX7_done_40 : decode cX7_done 40 = .ok (.invokestatic 233, 3) := by decide +kernel
theorem dX7_done_43 : decode cX7_done 43 = .ok (.goto 10, 3) := by decide +kernel
theorem dX7_done_46 : decode cX7_done 46 = .ok (.aload_n 0, 1) := by decide +kernel
theorem dX7_done_47 : decode cX7_done 47 = .ok (.getfield 37, 3) := by decide +kernel
theorem dX7_done_50 : decode cX7_done 50 = .ok (.invokevirtual 162, 3) := by decide +kernel
theorem dX7_done_53 : decode cX7_done 53 = .ok (.ireturn, 1) := by decide +kernel
theorem dX7_book_0 : decode cX7_book 0 = .ok (.aload_n 0, 1) := by decide +kernel
theorem dX7_book_1 : decode cX7_book 1 = .ok (.aload_n 0, 1) := by decide +kernel
theorem dX7_book_2 : decode cX7_book 2 = .ok (.getfield 30, 3) := by decide +kernel
theorem dX7_book_5 : decode cX7_book 5 = .ok (.getfield 238, 3) := by decide +kernel
theorem dX7_book_8 : decode cX7_book 8 = .ok (.iload_n 1, 1) := by decide +kernel
theorem dX7_book_9 : decode cX7_book 9 = .ok (.iload_n 2, 1) := by decide +kernel
theorem dX7_book_10 : decode cX7_book 10 = .ok (.invokevirtual 202, 3) := by decide +kernel
theorem dX7_book_13 : decode cX7_book 13 = .ok (.ireturn, 1) := by decide +kernel
theorem dX7_looked_0 : decode cX7_looked 0 = .ok (.iconst 0, 1) := by decide +kernel
theorem dX7_looked_1 : decode cX7_looked 1 = .ok (.istore_n 1, 1) := by decide +kernel
theorem dX7_looked_2 : decode cX7_looked 2 = .ok (.iload_n 1, 1) := by decide +kernel
theorem dX7_looked_3 : decode cX7_looked 3 = .ok (.aload_n 0, 1) := by decide +kernel
theorem dX7_looked_4 : decode cX7_looked 4 = .ok (.getfield 30, 3) := by decide +kernel
theorem dX7_looked_7 : decode cX7_looked 7 = .ok (.getfield 238, 3) := by decide +kernel
theorem dX7_looked_10 : decode cX7_looked 10 = .ok (.getfield 241, 3) := by decide +kernel
theorem dX7_looked_13 : decode cX7_looked 13 = .ok (.if_icmp .ge 59, 3) := by decide +kernel
theorem dX7_looked_16 : decode cX7_looked 16 = .ok (.aload_n 0, 1) := by decide +kernel
theorem dX7_looked_17 : decode cX7_looked 17 = .ok (.getfield 30, 3) := by decide +kernel
theorem dX7_looked_20 : decode cX7_looked 20 = .ok (.getfield 238, 3) := by decide +kernel
theorem dX7_looked_23 : decode cX7_looked 23 = .ok (.getfield 244, 3) := by decide +kernel
theorem dX7_looked_26 : decode cX7_looked 26 = .ok (.iload_n 1, 1) := by decide +kernel
theorem dX7_looked_27 : decode cX7_looked 27 = .ok (.iaload, 1) := by decide +kernel
theorem dX7_looked_28 : decode cX7_looked 28 = .ok (.istore_n 2, 1) := by decide +kernel
theorem dX7_looked_29 : decode cX7_looked 29 = .ok (.aload_n 0, 1) := by decide +kernel
theorem dX7_looked_30 : decode cX7_looked 30 = .ok (.getfield 30, 3) := by decide +kernel
theorem dX7_looked_33 : decode cX7_looked 33 = .ok (.iload_n 2, 1) := by decide +kernel
theorem dX7_looked_34 : decode cX7_looked 34 = .ok (.aload_n 0, 1) := by decide +kernel
theorem dX7_looked_35 : decode cX7_looked 35 = .ok (.getfield 30, 3) := by decide +kernel
theorem dX7_looked_38 : decode cX7_looked 38 = .ok (.getfield 85, 3) := by decide +kernel
theorem dX7_looked_41 : decode cX7_looked 41 = .ok (.iload_n 2, 1) := by decide +kernel
theorem dX7_looked_42 : decode cX7_looked 42 = .ok (.aaload, 1) := by decide +kernel
theorem dX7_looked_43 : decode cX7_looked 43 = .ok (.getfield 120, 3) := by decide +kernel
theorem dX7_looked_46 : decode cX7_looked 46 = .ok (.invokevirtual 127, 3) := by decide +kernel
theorem dX7_looked_49 : decode cX7_looked 49 = .ok (.aload_n 0, 1) := by decide +kernel
theorem dX7_looked_50 : decode cX7_looked 50 = .ok (.getfield 30, 3) := by decide +kernel
theorem dX7_looked_53 : decode cX7_looked 53 = .ok (.getfield 238, 3) := by decide +kernel
theorem dX7_looked_56 : decode cX7_looked 56 = .ok (.getfield 247, 3) := by decide +kernel
theorem dX7_looked_59 : decode cX7_looked 59 = .ok (.iload_n 1, 1) := by decide +kernel
theorem dX7_looked_60 : decode cX7_looked 60 = .ok (.iaload, 1) := by decide +kernel
theorem dX7_looked_61 : decode cX7_looked 61 = .ok (.if_icmp .eq 5, 3) := by decide +kernel
theorem dX7_looked_64 : decode cX7_looked 64 = .ok (.iload_n 1, 1) := by decide +kernel
theorem dX7_looked_65 : decode cX7_looked 65 = .ok (.ireturn, 1) := by decide +kernel
theorem dX7_looked_66 : decode cX7_looked 66 = .ok (.iinc 1 1, 3) := by decide +kernel
theorem dX7_looked_69 : decode cX7_looked 69 = .ok (.goto (-67), 3) := by decide +kernel
theorem dX7_looked_72 : decode cX7_looked 72 = .ok (.bipush (-5), 2) := by decide +kernel
theorem dX7_looked_74 : decode cX7_looked 74 = .ok (.ireturn, 1) := by decide +kernel
theorem dX7_act_0 : decode cX7_act 0 = .ok (.aload_n 0, 1) := by decide +kernel
theorem dX7_act_1 : decode cX7_act 1 = .ok (.getfield 20, 3) := by decide +kernel
theorem dX7_act_4 : decode cX7_act 4 = .ok (.iconst 0, 1) := by decide +kernel
theorem dX7_act_5 : decode cX7_act 5 = .ok (.putfield 250, 3) := by decide +kernel
theorem dX7_act_8 : decode cX7_act 8 = .ok (.aload_n 0, 1) := by decide +kernel
theorem dX7_act_9 : decode cX7_act 9 = .ok (.iload_n 1, 1) := by decide +kernel
theorem dX7_act_10 : decode cX7_act 10 = .ok (.invokevirtual 105, 3) := by decide +kernel
theorem dX7_act_13 : decode cX7_act 13 = .ok (.ifCond .eq 12, 3) := by decide +kernel
theorem dX7_act_16 : decode cX7_act 16 = .ok (.iload_n 2, 1) := by decide +kernel
theorem dX7_act_17 : decode cX7_act 17 = .ok (.ifCond .lt 8, 3) := by decide +kernel
theorem dX7_act_20 : decode cX7_act 20 = .ok (.iload_n 2, 1) := by decide +kernel
theorem dX7_act_21 : decode cX7_act 21 = .ok (.iconst 2, 1) := by decide +kernel
theorem dX7_act_22 : decode cX7_act 22 = .ok (.if_icmp .le 5, 3) := by decide +kernel
theorem dX7_act_25 : decode cX7_act 25 = .ok (.iconst 0, 1) := by decide +kernel
theorem dX7_act_26 : decode cX7_act 26 = .ok (.ireturn, 1) := by decide +kernel
theorem dX7_act_27 : decode cX7_act 27 = .ok (.aload_n 0, 1) := by decide +kernel
theorem dX7_act_28 : decode cX7_act 28 = .ok (.getfield 30, 3) := by decide +kernel
theorem dX7_act_31 : decode cX7_act 31 = .ok (.getfield 85, 3) := by decide +kernel
theorem dX7_act_34 : decode cX7_act 34 = .ok (.iload_n 1, 1) := by decide +kernel
theorem dX7_act_35 : decode cX7_act 35 = .ok (.aaload, 1) := by decide +kernel
theorem dX7_act_36 : decode cX7_act 36 = .ok (.astore 4, 2) := by decide +kernel
theorem dX7_act_38 : decode cX7_act 38 = .ok (.aload_n 0, 1) := by decide +kernel
theorem dX7_act_39 : decode cX7_act 39 = .ok (.getfield 20, 3) := by decide +kernel
theorem dX7_act_42 : decode cX7_act 42 = .ok (.aload 4, 2) := by decide +kernel
theorem dX7_act_44 : decode cX7_act 44 = .ok (.iload_n 2, 1) := by decide +kernel
theorem dX7_act_45 : decode cX7_act 45 = .ok (.aload 4, 2) := by decide +kernel
theorem dX7_act_47 : decode cX7_act 47 = .ok (.getfield 108, 3) := by decide +kernel
theorem dX7_act_50 : decode cX7_act 50 = .ok (.iload_n 3, 1) := by decide +kernel
theorem dX7_act_51 : decode cX7_act 51 = .ok (.iconst 0, 1) := by decide +kernel
theorem dX7_act_52 : decode cX7_act 52 = .ok (.invokevirtual 253, 3) := by decide +kernel
theorem dX7_act_55 : decode cX7_act 55 = .ok (.ireturn, 1) := by decide +kernel
theorem dX7_trace_0 : decode cX7_trace 0 = .ok (.iload_n 1, 1) := by decide +kernel
theorem dX7_trace_1 : decode cX7_trace 1 = .ok (.ifCond .lt 32, 3) := by decide +kernel
theorem dX7_trace_4 : decode cX7_trace 4 = .ok (.iload_n 1, 1) := by decide +kernel
theorem dX7_trace_5 : decode cX7_trace 5 = .ok (.aload_n 0, 1) := by decide +kernel
theorem dX7_trace_6 : decode cX7_trace 6 = .ok (.getfield 20, 3) := by decide +kernel
theorem dX7_trace_9 : decode cX7_trace 9 = .ok (.getfield 250, 3) := by decide +kernel
theorem dX7_trace_12 : decode cX7_trace 12 = .ok (.if_icmp .ge 21, 3) := by decide +kernel
theorem dX7_trace_15 : decode cX7_trace 15 = .ok (.iload_n 1, 1) := by decide +kernel
theorem dX7_trace_16 : decode cX7_trace 16 = .ok (.bipush 20, 2) := by decide +kernel
theorem dX7_trace_18 : decode cX7_trace 18 = .ok (.if_icmp .ge 15, 3) := by decide +kernel
theorem dX7_trace_21 : decode cX7_trace 21 = .ok (.aload_n 0, 1) := by decide +kernel
theorem dX7_trace_22 : decode cX7_trace 22 = .ok (.getfield 20, 3) := by decide +kernel
theorem dX7_trace_25 : decode cX7_trace 25 = .ok (.getfield 257, 3) := by decide +kernel
theorem dX7_trace_28 : decode cX7_trace 28 = .ok (.iload_n 1, 1) := by decide +kernel
theorem dX7_trace_29 : decode cX7_trace 29 = .ok (.iaload, 1) := by decide +kernel
theorem dX7_trace_30 : decode cX7_trace 30 = .ok (.goto 4, 3) := by decide +kernel
theorem dX7_trace_33 : decode cX7_trace 33 = .ok (.iconst (-1), 1) := by decide +kernel
theorem dX7_trace_34 : decode cX7_trace 34 = .ok (.ireturn, 1) := by decide +kernel
theorem dX7_as_0 : decode cX7_as 0 = .ok (.aload_n 0, 1) := by decide +kernel
theorem dX7_as_1 : decode cX7_as 1 = .ok (.iload_n 1, 1) := by decide +kernel
theorem dX7_as_2 : decode cX7_as 2 = .ok (.invokevirtual 105, 3) := by decide +kernel
theorem dX7_as_5 : decode cX7_as 5 = .ok (.ifCond .eq 10, 3) := by decide +kernel
theorem dX7_as_8 : decode cX7_as 8 = .ok (.iload_n 2, 1) := by decide +kernel
theorem dX7_as_9 : decode cX7_as 9 = .ok (.invokestatic 75, 3) := by decide +kernel
theorem dX7_as_12 : decode cX7_as 12 = .ok (.ifCond .ne 5, 3) := by decide +kernel
theorem dX7_as_15 : decode cX7_as 15 = .ok (.iconst (-1), 1) := by decide +kernel
theorem dX7_as_16 : decode cX7_as 16 = .ok (.ireturn, 1) := by decide +kernel
theorem dX7_as_17 : decode cX7_as 17 = .ok (.aload_n 0, 1) := by decide +kernel
theorem dX7_as_18 : decode cX7_as 18 = .ok (.getfield 30, 3) := by decide +kernel
theorem dX7_as_21 : decode cX7_as 21 = .ok (.getfield 85, 3) := by decide +kernel
theorem dX7_as_24 : decode cX7_as 24 = .ok (.iload_n 1, 1) := by decide +kernel
theorem dX7_as_25 : decode cX7_as 25 = .ok (.aaload, 1) := by decide +kernel
theorem dX7_as_26 : decode cX7_as 26 = .ok (.getfield 108, 3) := by decide +kernel
theorem dX7_as_29 : decode cX7_as 29 = .ok (.istore_n 3, 1) := by decide +kernel
theorem dX7_as_30 : decode cX7_as 30 = .ok (.iconst 0, 1) := by decide +kernel
theorem dX7_as_31 : decode cX7_as 31 = .ok (.istore 4, 2) := by decide +kernel
theorem dX7_as_33 : decode cX7_as 33 = .ok (.iload 4, 2) := by decide +kernel
theorem dX7_as_35 : decode cX7_as 35 = .ok (.getstatic 260, 3) := by decide +kernel
theorem dX7_as_38 : decode cX7_as 38 = .ok (.arraylength, 1) := by decide +kernel
theorem dX7_as_39 : decode cX7_as 39 = .ok (.if_icmp .ge 20, 3) := by decide +kernel
theorem dX7_as_42 : decode cX7_as 42 = .ok (.iload_n 3, 1) := by decide +kernel
theorem dX7_as_43 : decode cX7_as 43 = .ok (.iload_n 2, 1) := by decide +kernel
theorem dX7_as_44 : decode cX7_as 44 = .ok (.if_icmp .le 15, 3) := by decide +kernel
theorem dX7_as_47 : decode cX7_as 47 = .ok (.getstatic 260, 3) := by decide +kernel
theorem dX7_as_50 : decode cX7_as 50 = .ok (.iload_n 3, 1) := by decide +kernel
theorem dX7_as_51 : decode cX7_as 51 = .ok (.iaload, 1) := by decide +kernel
theorem dX7_as_52 : decode cX7_as 52 = .ok (.istore_n 3, 1) := by decide +kernel
theorem dX7_as_53 : decode cX7_as 53 = .ok (.iinc 4 1, 3) := by decide +kernel
theorem dX7_as_56 : decode cX7_as 56 = .ok (.goto (-23), 3) := by decide +kernel
theorem dX7_as_59 : decode cX7_as 59 = .ok (.iload_n 3, 1) := by decide +kernel
theorem dX7_as_60 : decode cX7_as 60 = .ok (.iload_n 2, 1) := by decide +kernel
theorem dX7_as_61 : decode cX7_as 61 = .ok (.if_icmp .ne 18, 3) := by decide +kernel
theorem dX7_as_64 : decode cX7_as 64 = .ok (.aload_n 0, 1) := by decide +kernel
theorem dX7_as_65 : decode cX7_as 65 = .ok (.getfield 30, 3) := by decide +kernel
theorem dX7_as_68 : decode cX7_as 68 = .ok (.getfield 85, 3) := by decide +kernel
theorem dX7_as_71 : decode cX7_as 71 = .ok (.iload_n 1, 1) := by decide +kernel
theorem dX7_as_72 : decode cX7_as 72 = .ok (.aaload, 1) := by decide +kernel
theorem dX7_as_73 : decode cX7_as 73 = .ok (.getfield 111, 3) := by decide +kernel
theorem dX7_as_76 : decode cX7_as 76 = .ok (.goto 5, 3) := by decide +kernel
theorem dX7_as_79 : decode cX7_as 79 = .ok (.bipush (-6), 2) := by decide +kernel
theorem dX7_as_81 : decode cX7_as 81 = .ok (.ireturn, 1) := by decide +kernel
theorem dX7_image_0 : decode cX7_image 0 = .ok (.aload_n 0, 1) := by decide +kernel
theorem dX7_image_1 : decode cX7_image 1 = .ok (.getfield 34, 3) := by decide +kernel
theorem dX7_image_4 : decode cX7_image 4 = .ok (.aload_n 0, 1) := by decide +kernel
theorem dX7_image_5 : decode cX7_image 5 = .ok (.getfield 30, 3) := by decide +kernel
theorem dX7_image_8 : decode cX7_image 8 = .ok (.invokevirtual 227, 3) := by decide +kernel
theorem dX7_image_11 : decode cX7_image 11 = .ok (.aload_n 0, 1) := by decide +kernel
theorem dX7_image_12 : decode cX7_image 12 = .ok (.iconst 1, 1) := by decide +kernel
theorem dX7_image_13 : decode cX7_image 13 = .ok (.putfield 263, 3) := by decide +kernel
theorem dX7_image_16 : decode cX7_image 16 = .ok (.aload_n 0, 1) := by decide +kernel
theorem dX7_image_17 : decode cX7_image 17 = .ok (.getfield 30, 3) := by decide +kernel
theorem dX7_image_20 : decode cX7_image 20 = .ok (.getfield 82, 3) := by decide +kernel
theorem dX7_image_23 : decode cX7_image 23 = .ok (.ireturn, 1) := by decide +kernel
theorem dX7_undo_0 : decode cX7_undo 0 = .ok (.aload_n 0, 1) := by decide +kernel
theorem dX7_undo_1 : decode cX7_undo 1 = .ok (.getfield 263, 3) := by decide +kernel
theorem dX7_undo_4 : decode cX7_undo 4 = .ok (.ifCond .ne 6, 3) := by decide +kernel
theorem dX7_undo_7 : decode cX7_undo 7 = .ok (.bipush (-3), 2) := by decide +kernel
theorem dX7_undo_9 : decode cX7_undo 9 = .ok (.ireturn, 1) := by decide +kernel
theorem dX7_undo_10 : decode cX7_undo 10 = .ok (.aload_n 0, 1) := by decide +kernel
theorem dX7_undo_11 : decode cX7_undo 11 = .ok (.getfield 30, 3) := by decide +kernel
theorem dX7_undo_14 : decode cX7_undo 14 = .ok (.aload_n 0, 1) := by decide +kernel
theorem dX7_undo_15 : decode cX7_undo 15 = .ok (.getfield 34, 3) := by decide +kernel
theorem dX7_undo_18 : decode cX7_undo 18 = .ok (.invokevirtual 227, 3) := by decide +kernel
theorem dX7_undo_21 : decode cX7_undo 21 = .ok (.aload_n 0, 1) := by decide +kernel
theorem dX7_undo_22 : decode cX7_undo 22 = .ok (.getfield 30, 3) := by decide +kernel
theorem dX7_undo_25 : decode cX7_undo 25 = .ok (.getfield 82, 3) := by decide +kernel
theorem dX7_undo_28 : decode cX7_undo 28 = .ok (.ireturn, 1) := by decide +kernel
theorem dX7_count_0 : decode cX7_count 0 = .ok (.iload_n 1, 1) := by decide +kernel
theorem dX7_count_1 : decode cX7_count 1 = .ok (.tableswitch 120 0 7 #[47, 55, 63, 74, 85, 96, 104, 112], 47) := by decide +kernel
theorem dX7_count_48 : decode cX7_count 48 = .ok (.aload_n 0, 1) := by decide +kernel
theorem dX7_count_49 : decode cX7_count 49 = .ok (.getfield 30, 3) := by decide +kernel
theorem dX7_count_52 : decode cX7_count 52 = .ok (.getfield 82, 3) := by decide +kernel
theorem dX7_count_55 : decode cX7_count 55 = .ok (.ireturn, 1) := by decide +kernel
theorem dX7_count_56 : decode cX7_count 56 = .ok (.aload_n 0, 1) := by decide +kernel
theorem dX7_count_57 : decode cX7_count 57 = .ok (.getfield 30, 3) := by decide +kernel
theorem dX7_count_60 : decode cX7_count 60 = .ok (.getfield 57, 3) := by decide +kernel
theorem dX7_count_63 : decode cX7_count 63 = .ok (.ireturn, 1) := by decide +kernel
theorem dX7_count_64 : decode cX7_count 64 = .ok (.aload_n 0, 1) := by decide +kernel
theorem dX7_count_65 : decode cX7_count 65 = .ok (.getfield 30, 3) := by decide +kernel
theorem dX7_count_68 : decode cX7_count 68 = .ok (.getfield 198, 3) := by decide +kernel
theorem dX7_count_71 : decode cX7_count 71 = .ok (.getfield 241, 3) := by decide +kernel
theorem dX7_count_74 : decode cX7_count 74 = .ok (.ireturn, 1) := by decide +kernel
theorem dX7_count_75 : decode cX7_count 75 = .ok (.aload_n 0, 1) := by decide +kernel
theorem dX7_count_76 : decode cX7_count 76 = .ok (.getfield 30, 3) := by decide +kernel
theorem dX7_count_79 : decode cX7_count 79 = .ok (.getfield 216, 3) := by decide +kernel
theorem dX7_count_82 : decode cX7_count 82 = .ok (.getfield 241, 3) := by decide +kernel
theorem dX7_count_85 : decode cX7_count 85 = .ok (.ireturn, 1) := by decide +kernel
theorem dX7_count_86 : decode cX7_count 86 = .ok (.aload_n 0, 1) := by decide +kernel
theorem dX7_count_87 : decode cX7_count 87 = .ok (.getfield 30, 3) := by decide +kernel
theorem dX7_count_90 : decode cX7_count 90 = .ok (.getfield 238, 3) := by decide +kernel
theorem dX7_count_93 : decode cX7_count 93 = .ok (.getfield 241, 3) := by decide +kernel
theorem dX7_count_96 : decode cX7_count 96 = .ok (.ireturn, 1) := by decide +kernel
theorem dX7_count_97 : decode cX7_count 97 = .ok (.aload_n 0, 1) := by decide +kernel
theorem dX7_count_98 : decode cX7_count 98 = .ok (.getfield 30, 3) := by decide +kernel
theorem dX7_count_101 : decode cX7_count 101 = .ok (.getfield 49, 3) := by decide +kernel
theorem dX7_count_104 : decode cX7_count 104 = .ok (.ireturn, 1) := by decide +kernel
theorem dX7_count_105 : decode cX7_count 105 = .ok (.aload_n 0, 1) := by decide +kernel
theorem dX7_count_106 : decode cX7_count 106 = .ok (.getfield 20, 3) := by decide +kernel
theorem dX7_count_109 : decode cX7_count 109 = .ok (.getfield 250, 3) := by decide +kernel
theorem dX7_count_112 : decode cX7_count 112 = .ok (.ireturn, 1) := by decide +kernel
theorem dX7_count_113 : decode cX7_count 113 = .ok (.aload_n 0, 1) := by decide +kernel
theorem dX7_count_114 : decode cX7_count 114 = .ok (.getfield 30, 3) := by decide +kernel
theorem dX7_count_117 : decode cX7_count 117 = .ok (.getfield 98, 3) := by decide +kernel
theorem dX7_count_120 : decode cX7_count 120 = .ok (.ireturn, 1) := by decide +kernel
theorem dX7_count_121 : decode cX7_count 121 = .ok (.iconst (-1), 1) := by decide +kernel
theorem dX7_count_122 : decode cX7_count 122 = .ok (.ireturn, 1) := by decide +kernel
theorem dX7_isOne_0 : decode cX7_isOne 0 = .ok (.iload_n 1, 1) := by decide +kernel
theorem dX7_isOne_1 : decode cX7_isOne 1 = .ok (.ifCond .lt 18, 3) := by decide +kernel
theorem dX7_isOne_4 : decode cX7_isOne 4 = .ok (.iload_n 1, 1) := by decide +kernel
theorem dX7_isOne_5 : decode cX7_isOne 5 = .ok (.aload_n 0, 1) := by decide +kernel
theorem dX7_isOne_6 : decode cX7_isOne 6 = .ok (.getfield 30, 3) := by decide +kernel
theorem dX7_isOne_9 : decode cX7_isOne 9 = .ok (.getfield 82, 3) := by decide +kernel
theorem dX7_isOne_12 : decode cX7_isOne 12 = .ok (.if_icmp .ge 7, 3) := by decide +kernel
theorem dX7_isOne_15 : decode cX7_isOne 15 = .ok (.iconst 1, 1) := by decide +kernel
theorem dX7_isOne_16 : decode cX7_isOne 16 = .ok (.goto 4, 3) := by decide +kernel
theorem dX7_isOne_19 : decode cX7_isOne 19 = .ok (.iconst 0, 1) := by decide +kernel
theorem dX7_isOne_20 : decode cX7_isOne 20 = .ok (.ireturn, 1) := by decide +kernel
theorem dX7_isVintage_0 : decode cX7_isVintage 0 = .ok (.iload_n 1, 1) := by decide +kernel
theorem dX7_isVintage_1 : decode cX7_isVintage 1 = .ok (.ifCond .lt 18, 3) := by decide +kernel
theorem dX7_isVintage_4 : decode cX7_isVintage 4 = .ok (.iload_n 1, 1) := by decide +kernel
theorem dX7_isVintage_5 : decode cX7_isVintage 5 = .ok (.aload_n 0, 1) := by decide +kernel
theorem dX7_isVintage_6 : decode cX7_isVintage 6 = .ok (.getfield 30, 3) := by decide +kernel
theorem dX7_isVintage_9 : decode cX7_isVintage 9 = .ok (.getfield 98, 3) := by decide +kernel
theorem dX7_isVintage_12 : decode cX7_isVintage 12 = .ok (.if_icmp .ge 7, 3) := by decide +kernel
theorem dX7_isVintage_15 : decode cX7_isVintage 15 = .ok (.iconst 1, 1) := by decide +kernel
theorem dX7_isVintage_16 : decode cX7_isVintage 16 = .ok (.goto 4, 3) := by decide +kernel
theorem dX7_isVintage_19 : decode cX7_isVintage 19 = .ok (.iconst 0, 1) := by decide +kernel
theorem dX7_isVintage_20 : decode cX7_isVintage 20 = .ok (.ireturn, 1) := by decide +kernel
theorem dX7_isOfSeating_0 : decode cX7_isOfSeating 0 = .ok (.iload_n 1, 1) := by decide +kernel
theorem dX7_isOfSeating_1 : decode cX7_isOfSeating 1 = .ok (.ifCond .eq 20, 3) := by decide +kernel
theorem dX7_isOfSeating_4 : decode cX7_isOfSeating 4 = .ok (.iload_n 1, 1) := by decide +kernel
theorem dX7_isOfSeating_5 : decode cX7_isOfSeating 5 = .ok (.bipush 10, 2) := by decide +kernel
theorem dX7_isOfSeating_7 : decode cX7_isOfSeating 7 = .ok (.if_icmp .lt 18, 3) := by decide +kernel
theorem dX7_isOfSeating_10 : decode cX7_isOfSeating 10 = .ok (.aload_n 0, 1) := by decide +kernel
theorem dX7_isOfSeating_11 : decode cX7_isOfSeating 11 = .ok (.iload_n 1, 1) := by decide +kernel
theorem dX7_isOfSeating_12 : decode cX7_isOfSeating 12 = .ok (.bipush 10, 2) := by decide +kernel
theorem dX7_isOfSeating_14 : decode cX7_isOfSeating 14 = .ok (.isub, 1) := by decide +kernel
theorem dX7_isOfSeating_15 : decode cX7_isOfSeating 15 = .ok (.invokevirtual 105, 3) := by decide +kernel
theorem dX7_isOfSeating_18 : decode cX7_isOfSeating 18 = .ok (.ifCond .eq 7, 3) := by decide +kernel
theorem dX7_isOfSeating_21 : decode cX7_isOfSeating 21 = .ok (.iconst 1, 1) := by decide +kernel
theorem dX7_isOfSeating_22 : decode cX7_isOfSeating 22 = .ok (.goto 4, 3) := by decide +kernel
theorem dX7_isOfSeating_25 : decode cX7_isOfSeating 25 = .ok (.iconst 0, 1) := by decide +kernel
theorem dX7_isOfSeating_26 : decode cX7_isOfSeating 26 = .ok (.ireturn, 1) := by decide +kernel
theorem dX7_isKind_0 : decode cX7_isKind 0 = .ok (.iload_n 0, 1) := by decide +kernel
theorem dX7_isKind_1 : decode cX7_isKind 1 = .ok (.ifCond .lt 15, 3) := by decide +kernel
theorem dX7_isKind_4 : decode cX7_isKind 4 = .ok (.iload_n 0, 1) := by decide +kernel
theorem dX7_isKind_5 : decode cX7_isKind 5 = .ok (.getstatic 260, 3) := by decide +kernel
theorem dX7_isKind_8 : decode cX7_isKind 8 = .ok (.arraylength, 1) := by decide +kernel
theorem dX7_isKind_9 : decode cX7_isKind 9 = .ok (.if_icmp .ge 7, 3) := by decide +kernel
theorem dX7_isKind_12 : decode cX7_isKind 12 = .ok (.iconst 1, 1) := by decide +kernel
theorem dX7_isKind_13 : decode cX7_isKind 13 = .ok (.goto 4, 3) := by decide +kernel
theorem dX7_isKind_16 : decode cX7_isKind 16 = .ok (.iconst 0, 1) := by decide +kernel
theorem dX7_isKind_17 : decode cX7_isKind 17 = .ok (.ireturn, 1) := by decide +kernel
theorem dX7_isDigit_0 : decode cX7_isDigit 0 = .ok (.iload_n 0, 1) := by decide +kernel
theorem dX7_isDigit_1 : decode cX7_isDigit 1 = .ok (.ifCond .lt 13, 3) := by decide +kernel
theorem dX7_isDigit_4 : decode cX7_isDigit 4 = .ok (.iload_n 0, 1) := by decide +kernel
theorem dX7_isDigit_5 : decode cX7_isDigit 5 = .ok (.bipush 9, 2) := by decide +kernel
theorem dX7_isDigit_7 : decode cX7_isDigit 7 = .ok (.if_icmp .gt 7, 3) := by decide +kernel
theorem dX7_isDigit_10 : decode cX7_isDigit 10 = .ok (.iconst 1, 1) := by decide +kernel
theorem dX7_isDigit_11 : decode cX7_isDigit 11 = .ok (.goto 4, 3) := by decide +kernel
theorem dX7_isDigit_14 : decode cX7_isDigit 14 = .ok (.iconst 0, 1) := by decide +kernel
theorem dX7_isDigit_15 : decode cX7_isDigit 15 = .ok (.ireturn, 1) := by decide +kernel
theorem dX7_isBottles_0 : decode cX7_isBottles 0 = .ok (.iload_n 0, 1) := by decide +kernel
theorem dX7_isBottles_1 : decode cX7_isBottles 1 = .ok (.ifCond .lt 13, 3) := by decide +kernel
theorem dX7_isBottles_4 : decode cX7_isBottles 4 = .ok (.iload_n 0, 1) := by decide +kernel
theorem dX7_isBottles_5 : decode cX7_isBottles 5 = .ok (.bipush 99, 2) := by decide +kernel
theorem dX7_isBottles_7 : decode cX7_isBottles 7 = .ok (.if_icmp .gt 7, 3) := by decide +kernel
theorem dX7_isBottles_10 : decode cX7_isBottles 10 = .ok (.iconst 1, 1) := by decide +kernel
theorem dX7_isBottles_11 : decode cX7_isBottles 11 = .ok (.goto 4, 3) := by decide +kernel
theorem dX7_isBottles_14 : decode cX7_isBottles 14 = .ok (.iconst 0, 1) := by decide +kernel
theorem dX7_isBottles_15 : decode cX7_isBottles 15 = .ok (.ireturn, 1) := by decide +kernel
theorem dX7_isCountOrFirst_0 : decode cX7_isCountOrFirst 0 = .ok (.iload_n 0, 1) := by decide +kernel
theorem dX7_isCountOrFirst_1 : decode cX7_isCountOrFirst 1 = .ok (.ifCond .eq 8, 3) := by decide +kernel
theorem dX7_isCountOrFirst_4 : decode cX7_isCountOrFirst 4 = .ok (.iload_n 0, 1) := by decide +kernel
theorem dX7_isCountOrFirst_5 : decode cX7_isCountOrFirst 5 = .ok (.iconst 1, 1) := by decide +kernel
theorem dX7_isCountOrFirst_6 : decode cX7_isCountOrFirst 6 = .ok (.if_icmp .ne 7, 3) := by decide +kernel
theorem dX7_isCountOrFirst_9 : decode cX7_isCountOrFirst 9 = .ok (.iconst 1, 1) := by decide +kernel
theorem dX7_isCountOrFirst_10 : decode cX7_isCountOrFirst 10 = .ok (.goto 4, 3) := by decide +kernel
theorem dX7_isCountOrFirst_13 : decode cX7_isCountOrFirst 13 = .ok (.iconst 0, 1) := by decide +kernel
theorem dX7_isCountOrFirst_14 : decode cX7_isCountOrFirst 14 = .ok (.ireturn, 1) := by decide +kernel
theorem dX7_shown_0 : decode cX7_shown 0 = .ok (.iload_n 0, 1) := by decide +kernel
theorem dX7_shown_1 : decode cX7_shown 1 = .ok (.iconst (-1), 1) := by decide +kernel
theorem dX7_shown_2 : decode cX7_shown 2 = .ok (.if_icmp .ne 8, 3) := by decide +kernel
theorem dX7_shown_5 : decode cX7_shown 5 = .ok (.bipush (-5), 2) := by decide +kernel
theorem dX7_shown_7 : decode cX7_shown 7 = .ok (.goto 4, 3) := by decide +kernel
theorem dX7_shown_10 : decode cX7_shown 10 = .ok (.iload_n 0, 1) := by decide +kernel
theorem dX7_shown_11 : decode cX7_shown 11 = .ok (.ireturn, 1) := by decide +kernel
theorem dX7_tellAge_0 : decode cX7_tellAge 0 = .ok (.iload_n 2, 1) := by decide +kernel
theorem dX7_tellAge_1 : decode cX7_tellAge 1 = .ok (.iconst (-1), 1) := by decide +kernel
theorem dX7_tellAge_2 : decode cX7_tellAge 2 = .ok (.if_icmp .ne 8, 3) := by decide +kernel
theorem dX7_tellAge_5 : decode cX7_tellAge 5 = .ok (.aload_n 1, 1) := by decide +kernel
theorem dX7_tellAge_6 : decode cX7_tellAge 6 = .ok (.invokevirtual 219, 3) := by decide +kernel
theorem dX7_tellAge_9 : decode cX7_tellAge 9 = .ok (.ireturn, 1) := by decide +kernel
theorem dX7_tellAge_10 : decode cX7_tellAge 10 = .ok (.aload_n 0, 1) := by decide +kernel
theorem dX7_tellAge_11 : decode cX7_tellAge 11 = .ok (.iload_n 2, 1) := by decide +kernel
theorem dX7_tellAge_12 : decode cX7_tellAge 12 = .ok (.invokevirtual 105, 3) := by decide +kernel
theorem dX7_tellAge_15 : decode cX7_tellAge 15 = .ok (.ifCond .ne 5, 3) := by decide +kernel
theorem dX7_tellAge_18 : decode cX7_tellAge 18 = .ok (.iconst (-1), 1) := by decide +kernel
theorem dX7_tellAge_19 : decode cX7_tellAge 19 = .ok (.ireturn, 1) := by decide +kernel
theorem dX7_tellAge_20 : decode cX7_tellAge 20 = .ok (.iload_n 3, 1) := by decide +kernel
theorem dX7_tellAge_21 : decode cX7_tellAge 21 = .ok (.sipush (-200), 3) := by decide +kernel
theorem dX7_tellAge_24 : decode cX7_tellAge 24 = .ok (.if_icmp .lt 10, 3) := by decide +kernel
theorem dX7_tellAge_27 : decode cX7_tellAge 27 = .ok (.iload_n 3, 1) := by decide +kernel
theorem dX7_tellAge_28 : decode cX7_tellAge 28 = .ok (.sipush 400, 3) := by decide +kernel
theorem dX7_tellAge_31 : decode cX7_tellAge 31 = .ok (.if_icmp .le 6, 3) := by decide +kernel
theorem dX7_tellAge_34 : decode cX7_tellAge 34 = .ok (.bipush (-2), 2) := by decide +kernel
theorem dX7_tellAge_36 : decode cX7_tellAge 36 = .ok (.ireturn, 1) := by decide +kernel
theorem dX7_tellAge_37 : decode cX7_tellAge 37 = .ok (.aload_n 1, 1) := by decide +kernel
theorem dX7_tellAge_38 : decode cX7_tellAge 38 = .ok (.iconst 0, 1) := by decide +kernel
theorem dX7_tellAge_39 : decode cX7_tellAge 39 = .ok (.iload_n 2, 1) := by decide +kernel
theorem dX7_tellAge_40 : decode cX7_tellAge 40 = .ok (.iload_n 3, 1) := by decide +kernel
theorem dX7_tellAge_41 : decode cX7_tellAge 41 = .ok (.invokevirtual 224, 3) := by decide +kernel
theorem dX7_tellAge_44 : decode cX7_tellAge 44 = .ok (.ireturn, 1) := by decide +kernel
theorem dX7_partOfFraction_0 : decode cX7_partOfFraction 0 = .ok (.iload_n 1, 1) := by decide +kernel
theorem dX7_partOfFraction_1 : decode cX7_partOfFraction 1 = .ok (.ifCond .le 12, 3) := by decide +kernel
theorem dX7_partOfFraction_4 : decode cX7_partOfFraction 4 = .ok (.iload_n 2, 1) := by decide +kernel
theorem dX7_partOfFraction_5 : decode cX7_partOfFraction 5 = .ok (.ifCond .lt 8, 3) := by decide +kernel
theorem dX7_partOfFraction_8 : decode cX7_partOfFraction 8 = .ok (.iload_n 2, 1) := by decide +kernel
theorem dX7_partOfFraction_9 : decode cX7_partOfFraction 9 = .ok (.iconst 1, 1) := by decide +kernel
theorem dX7_partOfFraction_10 : decode cX7_partOfFraction 10 = .ok (.if_icmp .le 7, 3) := by decide +kernel
theorem dX7_partOfFraction_13 : decode cX7_partOfFraction 13 = .ok (.ldc2_w 210, 3) := by decide +kernel
theorem dX7_partOfFraction_16 : decode cX7_partOfFraction 16 = .ok (.lreturn, 1) := by decide +kernel
theorem dX7_partOfFraction_17 : decode cX7_partOfFraction 17 = .ok (.iload_n 1, 1) := by decide +kernel
theorem dX7_partOfFraction_18 : decode cX7_partOfFraction 18 = .ok (.istore_n 3, 1) := by decide +kernel
theorem dX7_partOfFraction_19 : decode cX7_partOfFraction 19 = .ok (.iload_n 0, 1) := by decide +kernel
theorem dX7_partOfFraction_20 : decode cX7_partOfFraction 20 = .ok (.istore 4, 2) := by decide +kernel
theorem dX7_partOfFraction_22 : decode cX7_partOfFraction 22 = .ok (.iconst 0, 1) := by decide +kernel
theorem dX7_partOfFraction_23 : decode cX7_partOfFraction 23 = .ok (.istore 5, 2) := by decide +kernel
theorem dX7_partOfFraction_25 : decode cX7_partOfFraction 25 = .ok (.iload 5, 2) := by decide +kernel
theorem dX7_partOfFraction_27 : decode cX7_partOfFraction 27 = .ok (.bipush 64, 2) := by decide +kernel
theorem dX7_partOfFraction_29 : decode cX7_partOfFraction 29 = .ok (.if_icmp .ge 27, 3) := by decide +kernel
theorem dX7_partOfFraction_32 : decode cX7_partOfFraction 32 = .ok (.iload 4, 2) := by decide +kernel
theorem dX7_partOfFraction_34 : decode cX7_partOfFraction 34 = .ok (.ifCond .le 22, 3) := by decide +kernel
theorem dX7_partOfFraction_37 : decode cX7_partOfFraction 37 = .ok (.iload_n 3, 1) := by decide +kernel
theorem dX7_partOfFraction_38 : decode cX7_partOfFraction 38 = .ok (.iload 4, 2) := by decide +kernel
theorem dX7_partOfFraction_40 : decode cX7_partOfFraction 40 = .ok (.irem, 1) := by decide +kernel
theorem dX7_partOfFraction_41 : decode cX7_partOfFraction 41 = .ok (.istore 6, 2) := by decide +kernel
theorem dX7_partOfFraction_43 : decode cX7_partOfFraction 43 = .ok (.iload 4, 2) := by decide +kernel
theorem dX7_partOfFraction_45 : decode cX7_partOfFraction 45 = .ok (.istore_n 3, 1) := by decide +kernel
theorem dX7_partOfFraction_46 : decode cX7_partOfFraction 46 = .ok (.iload 6, 2) := by decide +kernel
theorem dX7_partOfFraction_48 : decode cX7_partOfFraction 48 = .ok (.istore 4, 2) := by decide +kernel
theorem dX7_partOfFraction_50 : decode cX7_partOfFraction 50 = .ok (.iinc 5 1, 3) := by decide +kernel
theorem dX7_partOfFraction_53 : decode cX7_partOfFraction 53 = .ok (.goto (-28), 3) := by decide +kernel
theorem dX7_partOfFraction_56 : decode cX7_partOfFraction 56 = .ok (.iload_n 2, 1) := by decide +kernel
theorem dX7_partOfFraction_57 : decode cX7_partOfFraction 57 = .ok (.ifCond .ne 7, 3) := by decide +kernel
theorem dX7_partOfFraction_60 : decode cX7_partOfFraction 60 = .ok (.iload_n 0, 1) := by decide +kernel
theorem dX7_partOfFraction_61 : decode cX7_partOfFraction 61 = .ok (.goto 4, 3) := by decide +kernel
theorem dX7_partOfFraction_64 : decode cX7_partOfFraction 64 = .ok (.iload_n 1, 1) := by decide +kernel
theorem dX7_partOfFraction_65 : decode cX7_partOfFraction 65 = .ok (.iload_n 3, 1) := by decide +kernel
theorem dX7_partOfFraction_66 : decode cX7_partOfFraction 66 = .ok (.ifCond .le 7, 3) := by decide +kernel
theorem dX7_partOfFraction_69 : decode cX7_partOfFraction 69 = .ok (.iload_n 3, 1) := by decide +kernel
theorem dX7_partOfFraction_70 : decode cX7_partOfFraction 70 = .ok (.goto 4, 3) := by decide +kernel
theorem dX7_partOfFraction_73 : decode cX7_partOfFraction 73 = .ok (.iconst 1, 1) := by decide +kernel
theorem dX7_partOfFraction_74 : decode cX7_partOfFraction 74 = .ok (.idiv, 1) := by decide +kernel
theorem dX7_partOfFraction_75 : decode cX7_partOfFraction 75 = .ok (.i2l, 1) := by decide +kernel
theorem dX7_partOfFraction_76 : decode cX7_partOfFraction 76 = .ok (.lreturn, 1) := by decide +kernel
theorem dJ6_bitCount_0f7a4_0 : decode cJ6_bitCount_0f7a4 0 = .ok (.iload_n 0, 1) := by decide +kernel
theorem dJ6_bitCount_0f7a4_1 : decode cJ6_bitCount_0f7a4 1 = .ok (.iload_n 0, 1) := by decide +kernel
theorem dJ6_bitCount_0f7a4_2 : decode cJ6_bitCount_0f7a4 2 = .ok (.iconst 1, 1) := by decide +kernel
theorem dJ6_bitCount_0f7a4_3 : decode cJ6_bitCount_0f7a4 3 = .ok (.iushr, 1) := by decide +kernel
theorem dJ6_bitCount_0f7a4_4 : decode cJ6_bitCount_0f7a4 4 = .ok (.ldc_w 265, 3) := by decide +kernel
theorem dJ6_bitCount_0f7a4_7 : decode cJ6_bitCount_0f7a4 7 = .ok (.iand, 1) := by decide +kernel
theorem dJ6_bitCount_0f7a4_8 : decode cJ6_bitCount_0f7a4 8 = .ok (.isub, 1) := by decide +kernel
theorem dJ6_bitCount_0f7a4_9 : decode cJ6_bitCount_0f7a4 9 = .ok (.istore_n 0, 1) := by decide +kernel
theorem dJ6_bitCount_0f7a4_10 : decode cJ6_bitCount_0f7a4 10 = .ok (.iload_n 0, 1) := by decide +kernel
theorem dJ6_bitCount_0f7a4_11 : decode cJ6_bitCount_0f7a4 11 = .ok (.ldc_w 266, 3) := by decide +kernel
theorem dJ6_bitCount_0f7a4_14 : decode cJ6_bitCount_0f7a4 14 = .ok (.iand, 1) := by decide +kernel
theorem dJ6_bitCount_0f7a4_15 : decode cJ6_bitCount_0f7a4 15 = .ok (.iload_n 0, 1) := by decide +kernel
theorem dJ6_bitCount_0f7a4_16 : decode cJ6_bitCount_0f7a4 16 = .ok (.iconst 2, 1) := by decide +kernel
theorem dJ6_bitCount_0f7a4_17 : decode cJ6_bitCount_0f7a4 17 = .ok (.iushr, 1) := by decide +kernel
theorem dJ6_bitCount_0f7a4_18 : decode cJ6_bitCount_0f7a4 18 = .ok (.ldc_w 266, 3) := by decide +kernel
theorem dJ6_bitCount_0f7a4_21 : decode cJ6_bitCount_0f7a4 21 = .ok (.iand, 1) := by decide +kernel
theorem dJ6_bitCount_0f7a4_22 : decode cJ6_bitCount_0f7a4 22 = .ok (.iadd, 1) := by decide +kernel
theorem dJ6_bitCount_0f7a4_23 : decode cJ6_bitCount_0f7a4 23 = .ok (.istore_n 0, 1) := by decide +kernel
theorem dJ6_bitCount_0f7a4_24 : decode cJ6_bitCount_0f7a4 24 = .ok (.iload_n 0, 1) := by decide +kernel
theorem dJ6_bitCount_0f7a4_25 : decode cJ6_bitCount_0f7a4 25 = .ok (.iload_n 0, 1) := by decide +kernel
theorem dJ6_bitCount_0f7a4_26 : decode cJ6_bitCount_0f7a4 26 = .ok (.iconst 4, 1) := by decide +kernel
theorem dJ6_bitCount_0f7a4_27 : decode cJ6_bitCount_0f7a4 27 = .ok (.iushr, 1) := by decide +kernel
theorem dJ6_bitCount_0f7a4_28 : decode cJ6_bitCount_0f7a4 28 = .ok (.iadd, 1) := by decide +kernel
theorem dJ6_bitCount_0f7a4_29 : decode cJ6_bitCount_0f7a4 29 = .ok (.ldc_w 267, 3) := by decide +kernel
theorem dJ6_bitCount_0f7a4_32 : decode cJ6_bitCount_0f7a4 32 = .ok (.iand, 1) := by decide +kernel
theorem dJ6_bitCount_0f7a4_33 : decode cJ6_bitCount_0f7a4 33 = .ok (.istore_n 0, 1) := by decide +kernel
theorem dJ6_bitCount_0f7a4_34 : decode cJ6_bitCount_0f7a4 34 = .ok (.iload_n 0, 1) := by decide +kernel
theorem dJ6_bitCount_0f7a4_35 : decode cJ6_bitCount_0f7a4 35 = .ok (.iload_n 0, 1) := by decide +kernel
theorem dJ6_bitCount_0f7a4_36 : decode cJ6_bitCount_0f7a4 36 = .ok (.bipush 8, 2) := by decide +kernel
theorem dJ6_bitCount_0f7a4_38 : decode cJ6_bitCount_0f7a4 38 = .ok (.iushr, 1) := by decide +kernel
theorem dJ6_bitCount_0f7a4_39 : decode cJ6_bitCount_0f7a4 39 = .ok (.iadd, 1) := by decide +kernel
theorem dJ6_bitCount_0f7a4_40 : decode cJ6_bitCount_0f7a4 40 = .ok (.istore_n 0, 1) := by decide +kernel
theorem dJ6_bitCount_0f7a4_41 : decode cJ6_bitCount_0f7a4 41 = .ok (.iload_n 0, 1) := by decide +kernel
theorem dJ6_bitCount_0f7a4_42 : decode cJ6_bitCount_0f7a4 42 = .ok (.iload_n 0, 1) := by decide +kernel
theorem dJ6_bitCount_0f7a4_43 : decode cJ6_bitCount_0f7a4 43 = .ok (.bipush 16, 2) := by decide +kernel
theorem dJ6_bitCount_0f7a4_45 : decode cJ6_bitCount_0f7a4 45 = .ok (.iushr, 1) := by decide +kernel
theorem dJ6_bitCount_0f7a4_46 : decode cJ6_bitCount_0f7a4 46 = .ok (.iadd, 1) := by decide +kernel
theorem dJ6_bitCount_0f7a4_47 : decode cJ6_bitCount_0f7a4 47 = .ok (.istore_n 0, 1) := by decide +kernel
theorem dJ6_bitCount_0f7a4_48 : decode cJ6_bitCount_0f7a4 48 = .ok (.iload_n 0, 1) := by decide +kernel
theorem dJ6_bitCount_0f7a4_49 : decode cJ6_bitCount_0f7a4 49 = .ok (.bipush 63, 2) := by decide +kernel
theorem dJ6_bitCount_0f7a4_51 : decode cJ6_bitCount_0f7a4 51 = .ok (.iand, 1) := by decide +kernel
theorem dJ6_bitCount_0f7a4_52 : decode cJ6_bitCount_0f7a4 52 = .ok (.ireturn, 1) := by decide +kernel
theorem dJ0_length_8abf5_0 : decode cJ0_length_8abf5 0 = .ok (.aload_n 0, 1) := by decide +kernel
theorem dJ0_length_8abf5_1 : decode cJ0_length_8abf5 1 = .ok (.getfield 9, 3) := by decide +kernel
theorem dJ0_length_8abf5_4 : decode cJ0_length_8abf5 4 = .ok (.arraylength, 1) := by decide +kernel
theorem dJ0_length_8abf5_5 : decode cJ0_length_8abf5 5 = .ok (.aload_n 0, 1) := by decide +kernel
theorem dJ0_length_8abf5_6 : decode cJ0_length_8abf5 6 = .ok (.invokevirtual 335, 3) := by decide +kernel
theorem dJ0_length_8abf5_9 : decode cJ0_length_8abf5 9 = .ok (.ishr, 1) := by decide +kernel
theorem dJ0_length_8abf5_10 : decode cJ0_length_8abf5 10 = .ok (.ireturn, 1) := by decide +kernel
theorem dJ0_charAt_5068e_0 : decode cJ0_charAt_5068e 0 = .ok (.aload_n 0, 1) := by decide +kernel
theorem dJ0_charAt_5068e_1 : decode cJ0_charAt_5068e 1 = .ok (.invokevirtual 492, 3) := by decide +kernel
theorem dJ0_charAt_5068e_4 : decode cJ0_charAt_5068e 4 = .ok (.ifCond .eq 12, 3) := by decide +kernel
theorem dJ0_charAt_5068e_7 : decode cJ0_charAt_5068e 7 = .ok (.aload_n 0, 1) := by decide +kernel
theorem dJ0_charAt_5068e_8 : decode cJ0_charAt_5068e 8 = .ok (.getfield 9, 3) := by decide +kernel
theorem dJ0_charAt_5068e_11 : decode cJ0_charAt_5068e 11 = .ok (.iload_n 1, 1) := by decide +kernel
theorem dJ0_charAt_5068e_12 : decode cJ0_charAt_5068e 12 = .ok (.invokestatic 495, 3) := by decide +kernel
theorem dJ0_charAt_5068e_15 : decode cJ0_charAt_5068e 15 = .ok (.ireturn, 1) := by decide +kernel
theorem dJ0_charAt_5068e_16 : decode cJ0_charAt_5068e 16 = .ok (.aload_n 0, 1) := by decide +kernel
theorem dJ0_charAt_5068e_17 : decode cJ0_charAt_5068e 17 = .ok (.getfield 9, 3) := by decide +kernel
theorem dJ0_charAt_5068e_20 : decode cJ0_charAt_5068e 20 = .ok (.iload_n 1, 1) := by decide +kernel
theorem dJ0_charAt_5068e_21 : decode cJ0_charAt_5068e 21 = .ok (.invokestatic 498, 3) := by decide +kernel
theorem dJ0_charAt_5068e_24 : decode cJ0_charAt_5068e 24 = .ok (.ireturn, 1) := by decide +kernel
theorem dJ0_indexOf_0f7a4_0 : decode cJ0_indexOf_0f7a4 0 = .ok (.aload_n 0, 1) := by decide +kernel
theorem dJ0_indexOf_0f7a4_1 : decode cJ0_indexOf_0f7a4 1 = .ok (.iload_n 1, 1) := by decide +kernel
theorem dJ0_indexOf_0f7a4_2 : decode cJ0_indexOf_0f7a4 2 = .ok (.iconst 0, 1) := by decide +kernel
theorem dJ0_indexOf_0f7a4_3 : decode cJ0_indexOf_0f7a4 3 = .ok (.invokevirtual 633, 3) := by decide +kernel
theorem dJ0_indexOf_0f7a4_6 : decode cJ0_indexOf_0f7a4 6 = .ok (.ireturn, 1) := by decide +kernel
theorem dJ0_indexOf_7cf53_0 : decode cJ0_indexOf_7cf53 0 = .ok (.aload_n 0, 1) := by decide +kernel
theorem dJ0_indexOf_7cf53_1 : decode cJ0_indexOf_7cf53 1 = .ok (.invokevirtual 492, 3) := by decide +kernel
theorem dJ0_indexOf_7cf53_4 : decode cJ0_indexOf_7cf53 4 = .ok (.ifCond .eq 19, 3) := by decide +kernel
theorem dJ0_indexOf_7cf53_7 : decode cJ0_indexOf_7cf53 7 = .ok (.aload_n 0, 1) := by decide +kernel
theorem dJ0_indexOf_7cf53_8 : decode cJ0_indexOf_7cf53 8 = .ok (.getfield 9, 3) := by decide +kernel
theorem dJ0_indexOf_7cf53_11 : decode cJ0_indexOf_7cf53 11 = .ok (.iload_n 1, 1) := by decide +kernel
theorem dJ0_indexOf_7cf53_12 : decode cJ0_indexOf_7cf53 12 = .ok (.iload_n 2, 1) := by decide +kernel
theorem dJ0_indexOf_7cf53_13 : decode cJ0_indexOf_7cf53 13 = .ok (.aload_n 0, 1) := by decide +kernel
theorem dJ0_indexOf_7cf53_14 : decode cJ0_indexOf_7cf53 14 = .ok (.invokevirtual 505, 3) := by decide +kernel
theorem dJ0_indexOf_7cf53_17 : decode cJ0_indexOf_7cf53 17 = .ok (.invokestatic 637, 3) := by decide +kernel
theorem dJ0_indexOf_7cf53_20 : decode cJ0_indexOf_7cf53 20 = .ok (.goto 16, 3) := by decide +kernel
theorem dJ0_indexOf_7cf53_23 : decode cJ0_indexOf_7cf53 23 = .ok (.aload_n 0, 1) := by decide +kernel
theorem dJ0_indexOf_7cf53_24 : decode cJ0_indexOf_7cf53 24 = .ok (.getfield 9, 3) := by decide +kernel
theorem dJ0_indexOf_7cf53_27 : decode cJ0_indexOf_7cf53 27 = .ok (.iload_n 1, 1) := by decide +kernel
theorem dJ0_indexOf_7cf53_28 : decode cJ0_indexOf_7cf53 28 = .ok (.iload_n 2, 1) := by decide +kernel
theorem dJ0_indexOf_7cf53_29 : decode cJ0_indexOf_7cf53 29 = .ok (.aload_n 0, 1) := by decide +kernel
theorem dJ0_indexOf_7cf53_30 : decode cJ0_indexOf_7cf53 30 = .ok (.invokevirtual 505, 3) := by decide +kernel
theorem dJ0_indexOf_7cf53_33 : decode cJ0_indexOf_7cf53 33 = .ok (.invokestatic 640, 3) := by decide +kernel
theorem dJ0_indexOf_7cf53_36 : decode cJ0_indexOf_7cf53 36 = .ok (.ireturn, 1) := by decide +kernel
theorem dJ0_coder_7d493_0 : decode cJ0_coder_7d493 0 = .ok (.getstatic 38, 3) := by decide +kernel
theorem dJ0_coder_7d493_3 : decode cJ0_coder_7d493 3 = .ok (.ifCond .eq 10, 3) := by decide +kernel
theorem dJ0_coder_7d493_6 : decode cJ0_coder_7d493 6 = .ok (.aload_n 0, 1) := by decide +kernel
theorem dJ0_coder_7d493_7 : decode cJ0_coder_7d493 7 = .ok (.getfield 15, 3) := by decide +kernel
theorem dJ0_coder_7d493_10 : decode cJ0_coder_7d493 10 = .ok (.goto 4, 3) := by decide +kernel
theorem dJ0_coder_7d493_13 : decode cJ0_coder_7d493 13 = .ok (.iconst 1, 1) := by decide +kernel
theorem dJ0_coder_7d493_14 : decode cJ0_coder_7d493 14 = .ok (.ireturn, 1) := by decide +kernel
theorem dJ0_isLatin1_aae02_0 : decode cJ0_isLatin1_aae02 0 = .ok (.getstatic 38, 3) := by decide +kernel
theorem dJ0_isLatin1_aae02_3 : decode cJ0_isLatin1_aae02 3 = .ok (.ifCond .eq 14, 3) := by decide +kernel
theorem dJ0_isLatin1_aae02_6 : decode cJ0_isLatin1_aae02 6 = .ok (.aload_n 0, 1) := by decide +kernel
theorem dJ0_isLatin1_aae02_7 : decode cJ0_isLatin1_aae02 7 = .ok (.getfield 15, 3) := by decide +kernel
theorem dJ0_isLatin1_aae02_10 : decode cJ0_isLatin1_aae02 10 = .ok (.ifCond .ne 7, 3) := by decide +kernel
theorem dJ0_isLatin1_aae02_13 : decode cJ0_isLatin1_aae02 13 = .ok (.iconst 1, 1) := by decide +kernel
theorem dJ0_isLatin1_aae02_14 : decode cJ0_isLatin1_aae02 14 = .ok (.goto 4, 3) := by decide +kernel
theorem dJ0_isLatin1_aae02_17 : decode cJ0_isLatin1_aae02 17 = .ok (.iconst 0, 1) := by decide +kernel
theorem dJ0_isLatin1_aae02_18 : decode cJ0_isLatin1_aae02 18 = .ok (.ireturn, 1) := by decide +kernel
theorem dJ0_checkIndex_df160_0 : decode cJ0_checkIndex_df160 0 = .ok (.iload_n 0, 1) := by decide +kernel
theorem dJ0_checkIndex_df160_1 : decode cJ0_checkIndex_df160 1 = .ok (.iload_n 1, 1) := by decide +kernel
theorem dJ0_checkIndex_df160_2 : decode cJ0_checkIndex_df160 2 = .ok (.getstatic 1053, 3) := by decide +kernel
theorem dJ0_checkIndex_df160_5 : decode cJ0_checkIndex_df160 5 = .ok (.invokestatic 1059, 3) := by decide +kernel
theorem dJ0_checkIndex_df160_8 : decode cJ0_checkIndex_df160 8 = .ok (.pop, 1) := by decide +kernel
theorem dJ0_checkIndex_df160_9 : decode cJ0_checkIndex_df160 9 = .ok (.return_, 1) := by decide +kernel
theorem dJ0_checkBoundsBeginEnd_23922_0 : decode cJ0_checkBoundsBeginEnd_23922 0 = .ok (.iload_n 0, 1) := by decide +kernel
theorem dJ0_checkBoundsBeginEnd_23922_1 : decode cJ0_checkBoundsBeginEnd_23922 1 = .ok (.iload_n 1, 1) := by decide +kernel
theorem dJ0_checkBoundsBeginEnd_23922_2 : decode cJ0_checkBoundsBeginEnd_23922 2 = .ok (.iload_n 2, 1) := by decide +kernel
theorem dJ0_checkBoundsBeginEnd_23922_3 : decode cJ0_checkBoundsBeginEnd_23922 3 = .ok (.getstatic 1053, 3) := by decide +kernel
theorem dJ0_checkBoundsBeginEnd_23922_6 : decode cJ0_checkBoundsBeginEnd_23922 6 = .ok (.invokestatic 1062, 3) := by decide +kernel
theorem dJ0_checkBoundsBeginEnd_23922_9 : decode cJ0_checkBoundsBeginEnd_23922 9 = .ok (.pop, 1) := by decide +kernel
theorem dJ0_checkBoundsBeginEnd_23922_10 : decode cJ0_checkBoundsBeginEnd_23922 10 = .ok (.return_, 1) := by decide +kernel
theorem dJ1_charAt_3b067_0 : decode cJ1_charAt_3b067 0 = .ok (.iload_n 1, 1) := by decide +kernel
theorem dJ1_charAt_3b067_1 : decode cJ1_charAt_3b067 1 = .ok (.aload_n 0, 1) := by decide +kernel
theorem dJ1_charAt_3b067_2 : decode cJ1_charAt_3b067 2 = .ok (.arraylength, 1) := by decide +kernel
theorem dJ1_charAt_3b067_3 : decode cJ1_charAt_3b067 3 = .ok (.invokestatic 9, 3) := by decide +kernel
theorem dJ1_charAt_3b067_6 : decode cJ1_charAt_3b067 6 = .ok (.aload_n 0, 1) := by decide +kernel
theorem dJ1_charAt_3b067_7 : decode cJ1_charAt_3b067 7 = .ok (.iload_n 1, 1) := by decide +kernel
theorem dJ1_charAt_3b067_8 : decode cJ1_charAt_3b067 8 = .ok (.baload, 1) := by decide +kernel
theorem dJ1_charAt_3b067_9 : decode cJ1_charAt_3b067 9 = .ok (.sipush 255, 3) := by decide +kernel
theorem dJ1_charAt_3b067_12 : decode cJ1_charAt_3b067 12 = .ok (.iand, 1) := by decide +kernel
theorem dJ1_charAt_3b067_13 : decode cJ1_charAt_3b067 13 = .ok (.i2c, 1) := by decide +kernel
theorem dJ1_charAt_3b067_14 : decode cJ1_charAt_3b067 14 = .ok (.ireturn, 1) := by decide +kernel
theorem dJ1_canEncode_9a6ad_0 : decode cJ1_canEncode_9a6ad 0 = .ok (.iload_n 0, 1) := by decide +kernel
theorem dJ1_canEncode_9a6ad_1 : decode cJ1_canEncode_9a6ad 1 = .ok (.ifCond .lt 14, 3) := by decide +kernel
theorem dJ1_canEncode_9a6ad_4 : decode cJ1_canEncode_9a6ad 4 = .ok (.iload_n 0, 1) := by decide +kernel
theorem dJ1_canEncode_9a6ad_5 : decode cJ1_canEncode_9a6ad 5 = .ok (.sipush 255, 3) := by decide +kernel
theorem dJ1_canEncode_9a6ad_8 : decode cJ1_canEncode_9a6ad 8 = .ok (.if_icmp .gt 7, 3) := by decide +kernel
theorem dJ1_canEncode_9a6ad_11 : decode cJ1_canEncode_9a6ad 11 = .ok (.iconst 1, 1) := by decide +kernel
theorem dJ1_canEncode_9a6ad_12 : decode cJ1_canEncode_9a6ad 12 = .ok (.goto 4, 3) := by decide +kernel
theorem dJ1_canEncode_9a6ad_15 : decode cJ1_canEncode_9a6ad 15 = .ok (.iconst 0, 1) := by decide +kernel
theorem dJ1_canEncode_9a6ad_16 : decode cJ1_canEncode_9a6ad 16 = .ok (.ireturn, 1) := by decide +kernel
theorem dJ1_indexOf_4cfef_0 : decode cJ1_indexOf_4cfef 0 = .ok (.iload_n 1, 1) := by decide +kernel
theorem dJ1_indexOf_4cfef_1 : decode cJ1_indexOf_4cfef 1 = .ok (.invokestatic 88, 3) := by decide +kernel
theorem dJ1_indexOf_4cfef_4 : decode cJ1_indexOf_4cfef 4 = .ok (.ifCond .ne 5, 3) := by decide +kernel
theorem dJ1_indexOf_4cfef_7 : decode cJ1_indexOf_4cfef 7 = .ok (.iconst (-1), 1) := by decide +kernel
theorem dJ1_indexOf_4cfef_8 : decode cJ1_indexOf_4cfef 8 = .ok (.ireturn, 1) := by decide +kernel
theorem dJ1_indexOf_4cfef_9 : decode cJ1_indexOf_4cfef 9 = .ok (.iload_n 2, 1) := by decide +kernel
theorem dJ1_indexOf_4cfef_10 : decode cJ1_indexOf_4cfef 10 = .ok (.iconst 0, 1) := by decide +kernel
theorem dJ1_indexOf_4cfef_11 : decode cJ1_indexOf_4cfef 11 = .ok (.invokestatic 92, 3) := by decide +kernel
theorem dJ1_indexOf_4cfef_14 : decode cJ1_indexOf_4cfef 14 = .ok (.istore_n 2, 1) := by decide +kernel
theorem dJ1_indexOf_4cfef_15 : decode cJ1_indexOf_4cfef 15 = .ok (.iload_n 3, 1) := by decide +kernel
theorem dJ1_indexOf_4cfef_16 : decode cJ1_indexOf_4cfef 16 = .ok (.aload_n 0, 1) := by decide +kernel
theorem dJ1_indexOf_4cfef_17 : decode cJ1_indexOf_4cfef 17 = .ok (.arraylength, 1) := by decide +kernel
theorem dJ1_indexOf_4cfef_18 : decode cJ1_indexOf_4cfef 18 = .ok (.invokestatic 38, 3) := by decide +kernel
theorem dJ1_indexOf_4cfef_21 : decode cJ1_indexOf_4cfef 21 = .ok (.istore_n 3, 1) := by decide +kernel
theorem dJ1_indexOf_4cfef_22 : decode cJ1_indexOf_4cfef 22 = .ok (.iload_n 2, 1) := by decide +kernel
theorem dJ1_indexOf_4cfef_23 : decode cJ1_indexOf_4cfef 23 = .ok (.iload_n 3, 1) := by decide +kernel
theorem dJ1_indexOf_4cfef_24 : decode cJ1_indexOf_4cfef 24 = .ok (.if_icmp .lt 5, 3) := by decide +kernel
theorem dJ1_indexOf_4cfef_27 : decode cJ1_indexOf_4cfef 27 = .ok (.iconst (-1), 1) := by decide +kernel
theorem dJ1_indexOf_4cfef_28 : decode cJ1_indexOf_4cfef 28 = .ok (.ireturn, 1) := by decide +kernel
theorem dJ1_indexOf_4cfef_29 : decode cJ1_indexOf_4cfef 29 = .ok (.aload_n 0, 1) := by decide +kernel
theorem dJ1_indexOf_4cfef_30 : decode cJ1_indexOf_4cfef 30 = .ok (.iload_n 1, 1) := by decide +kernel
theorem dJ1_indexOf_4cfef_31 : decode cJ1_indexOf_4cfef 31 = .ok (.iload_n 2, 1) := by decide +kernel
theorem dJ1_indexOf_4cfef_32 : decode cJ1_indexOf_4cfef 32 = .ok (.iload_n 3, 1) := by decide +kernel
theorem dJ1_indexOf_4cfef_33 : decode cJ1_indexOf_4cfef 33 = .ok (.invokestatic 95, 3) := by decide +kernel
theorem dJ1_indexOf_4cfef_36 : decode cJ1_indexOf_4cfef 36 = .ok (.ireturn, 1) := by decide +kernel
theorem dJ1_indexOfChar_4cfef_0 : decode cJ1_indexOfChar_4cfef 0 = .ok (.iload_n 1, 1) := by decide +kernel
theorem dJ1_indexOfChar_4cfef_1 : decode cJ1_indexOfChar_4cfef 1 = .ok (.i2b, 1) := by decide +kernel
theorem dJ1_indexOfChar_4cfef_2 : decode cJ1_indexOfChar_4cfef 2 = .ok (.istore 4, 2) := by decide +kernel
theorem dJ1_indexOfChar_4cfef_4 : decode cJ1_indexOfChar_4cfef 4 = .ok (.iload_n 2, 1) := by decide +kernel
theorem dJ1_indexOfChar_4cfef_5 : decode cJ1_indexOfChar_4cfef 5 = .ok (.istore 5, 2) := by decide +kernel
theorem dJ1_indexOfChar_4cfef_7 : decode cJ1_indexOfChar_4cfef 7 = .ok (.iload 5, 2) := by decide +kernel
theorem dJ1_indexOfChar_4cfef_9 : decode cJ1_indexOfChar_4cfef 9 = .ok (.iload_n 3, 1) := by decide +kernel
theorem dJ1_indexOfChar_4cfef_10 : decode cJ1_indexOfChar_4cfef 10 = .ok (.if_icmp .ge 21, 3) := by decide +kernel
theorem dJ1_indexOfChar_4cfef_13 : decode cJ1_indexOfChar_4cfef 13 = .ok (.aload_n 0, 1) := by decide +kernel
theorem dJ1_indexOfChar_4cfef_14 : decode cJ1_indexOfChar_4cfef 14 = .ok (.iload 5, 2) := by decide +kernel
theorem dJ1_indexOfChar_4cfef_16 : decode cJ1_indexOfChar_4cfef 16 = .ok (.baload, 1) := by decide +kernel
theorem dJ1_indexOfChar_4cfef_17 : decode cJ1_indexOfChar_4cfef 17 = .ok (.iload 4, 2) := by decide +kernel
theorem dJ1_indexOfChar_4cfef_19 : decode cJ1_indexOfChar_4cfef 19 = .ok (.if_icmp .ne 6, 3) := by decide +kernel
theorem dJ1_indexOfChar_4cfef_22 : decode cJ1_indexOfChar_4cfef 22 = .ok (.iload 5, 2) := by decide +kernel
theorem dJ1_indexOfChar_4cfef_24 : decode cJ1_indexOfChar_4cfef 24 = .ok (.ireturn, 1) := by decide +kernel
theorem dJ1_indexOfChar_4cfef_25 : decode cJ1_indexOfChar_4cfef 25 = .ok (.iinc 5 1, 3) := by decide +kernel
theorem dJ1_indexOfChar_4cfef_28 : decode cJ1_indexOfChar_4cfef 28 = .ok (.goto (-21), 3) := by decide +kernel
theorem dJ1_indexOfChar_4cfef_31 : decode cJ1_indexOfChar_4cfef 31 = .ok (.iconst (-1), 1) := by decide +kernel
theorem dJ1_indexOfChar_4cfef_32 : decode cJ1_indexOfChar_4cfef 32 = .ok (.ireturn, 1) := by decide +kernel
theorem dJ3_checkIndex_8e157_0 : decode cJ3_checkIndex_8e157 0 = .ok (.iload_n 0, 1) := by decide +kernel
theorem dJ3_checkIndex_8e157_1 : decode cJ3_checkIndex_8e157 1 = .ok (.ifCond .lt 8, 3) := by decide +kernel
theorem dJ3_checkIndex_8e157_4 : decode cJ3_checkIndex_8e157 4 = .ok (.iload_n 0, 1) := by decide +kernel
theorem dJ3_checkIndex_8e157_5 : decode cJ3_checkIndex_8e157 5 = .ok (.iload_n 1, 1) := by decide +kernel
theorem dJ3_checkIndex_8e157_6 : decode cJ3_checkIndex_8e157 6 = .ok (.if_icmp .lt 10, 3) := by decide +kernel
theorem dJ3_checkIndex_8e157_9 : decode cJ3_checkIndex_8e157 9 = .ok (.aload_n 2, 1) := by decide +kernel
theorem dJ3_checkIndex_8e157_10 : decode cJ3_checkIndex_8e157 10 = .ok (.iload_n 0, 1) := by decide +kernel
theorem dJ3_checkIndex_8e157_11 : decode cJ3_checkIndex_8e157 11 = .ok (.iload_n 1, 1) := by decide +kernel
theorem dJ3_checkIndex_8e157_12 : decode cJ3_checkIndex_8e157 12 = .ok (.invokestatic 95, 3) := by decide +kernel
theorem dJ3_checkIndex_8e157_15 : decode cJ3_checkIndex_8e157 15 = .ok (.athrow, 1) := by decide +kernel
theorem dJ3_checkIndex_8e157_16 : decode cJ3_checkIndex_8e157 16 = .ok (.iload_n 0, 1) := by decide +kernel
theorem dJ3_checkIndex_8e157_17 : decode cJ3_checkIndex_8e157 17 = .ok (.ireturn, 1) := by decide +kernel
