theorem dX12_takesE_0 : decode cX12_takesE 0 = .ok (.iconst 0, 1) := by decide +kernel
theorem dX12_takesE_1 : decode cX12_takesE 1 = .ok (.istore_n 1, 1) := by decide +kernel
theorem dX12_takesE_2 : decode cX12_takesE 2 = .ok (.iconst 0, 1) := by decide +kernel
theorem dX12_takesE_3 : decode cX12_takesE 3 = .ok (.istore_n 2, 1) := by decide +kernel
theorem dX12_takesE_4 : decode cX12_takesE 4 = .ok (.iconst 1, 1) := by decide +kernel
theorem dX12_takesE_5 : decode cX12_takesE 5 = .ok (.istore_n 3, 1) := by decide +kernel
theorem dX12_takesE_6 : decode cX12_takesE 6 = .ok (.aload_n 0, 1) := by decide +kernel
theorem dX12_takesE_7 : decode cX12_takesE 7 = .ok (.iconst 0, 1) := by decide +kernel
theorem dX12_takesE_8 : decode cX12_takesE 8 = .ok (.putfield 221, 3) := by decide +kernel
theorem dX12_takesE_11 : decode cX12_takesE 11 = .ok (.aload_n 0, 1) := by decide +kernel
theorem dX12_takesE_12 : decode cX12_takesE 12 = .ok (.iconst 0, 1) := by decide +kernel
theorem dX12_takesE_13 : decode cX12_takesE 13 = .ok (.putfield 227, 3) := by decide +kernel
theorem dX12_takesE_16 : decode cX12_takesE 16 = .ok (.aload_n 0, 1) := by decide +kernel
theorem dX12_takesE_17 : decode cX12_takesE 17 = .ok (.iconst 0, 1) := by decide +kernel
theorem dX12_takesE_18 : decode cX12_takesE 18 = .ok (.putfield 215, 3) := by decide +kernel
theorem dX12_takesE_21 : decode cX12_takesE 21 = .ok (.aload_n 0, 1) := by decide +kernel
theorem dX12_takesE_22 : decode cX12_takesE 22 = .ok (.getfield 35, 3) := by decide +kernel
theorem dX12_takesE_25 : decode cX12_takesE 25 = .ok (.iconst 0, 1) := by decide +kernel
theorem dX12_takesE_26 : decode cX12_takesE 26 = .ok (.iconst 0, 1) := by decide +kernel
theorem dX12_takesE_27 : decode cX12_takesE 27 = .ok (.bastore, 1) := by decide +kernel
theorem dX12_takesE_28 : decode cX12_takesE 28 = .ok (.iload_n 3, 1) := by decide +kernel
theorem dX12_takesE_29 : decode cX12_takesE 29 = .ok (.ifCond .ne 10, 3) := by decide +kernel
theorem dX12_takesE_32 : decode cX12_takesE 32 = .ok (.aload_n 0, 1) := by decide +kernel
theorem dX12_takesE_33 : decode cX12_takesE 33 = .ok (.getfield 197, 3) := by decide +kernel
theorem dX12_takesE_36 : decode cX12_takesE 36 = .ok (.ifCond .eq 309, 3) := by decide +kernel
theorem dX12_takesE_39 : decode cX12_takesE 39 = .ok (.iload_n 3, 1) := by decide +kernel
theorem dX12_takesE_40 : decode cX12_takesE 40 = .ok (.ifCond .eq 140, 3) := by decide +kernel
theorem dX12_takesE_43 : decode cX12_takesE 43 = .ok (.aload_n 0, 1) := by decide +kernel
theorem dX12_takesE_44 : decode cX12_takesE 44 = .ok (.getfield 197, 3) := by decide +kernel
theorem dX12_takesE_47 : decode cX12_takesE 47 = .ok (.iconst 3, 1) := by decide +kernel
theorem dX12_takesE_48 : decode cX12_takesE 48 = .ok (.if_icmp .ne 49, 3) := by decide +kernel
theorem dX12_takesE_51 : decode cX12_takesE 51 = .ok (.aload_n 0, 1) := by decide +kernel
theorem dX12_takesE_52 : decode cX12_takesE 52 = .ok (.getfield 203, 3) := by decide +kernel
theorem dX12_takesE_55 : decode cX12_takesE 55 = .ok (.bipush 33, 2) := by decide +kernel
theorem dX12_takesE_57 : decode cX12_takesE 57 = .ok (.if_icmp .ne 40, 3) := by decide +kernel
theorem dX12_takesE_60 : decode cX12_takesE 60 = .ok (.iload_n 2, 1) := by decide +kernel
theorem dX12_takesE_61 : decode cX12_takesE 61 = .ok (.bipush 8, 2) := by decide +kernel
theorem dX12_takesE_63 : decode cX12_takesE 63 = .ok (.if_icmp .ge 34, 3) := by decide +kernel
theorem dX12_takesE_66 : decode cX12_takesE 66 = .ok (.aload_n 0, 1) := by decide +kernel
theorem dX12_takesE_67 : decode cX12_takesE 67 = .ok (.getfield 32, 3) := by decide +kernel
theorem dX12_takesE_70 : decode cX12_takesE 70 = .ok (.aload_n 0, 1) := by decide +kernel
theorem dX12_takesE_71 : decode cX12_takesE 71 = .ok (.getfield 215, 3) := by decide +kernel
theorem dX12_takesE_74 : decode cX12_takesE 74 = .ok (.bipush (-10), 2) := by decide +kernel
theorem dX12_takesE_76 : decode cX12_takesE 76 = .ok (.iastore, 1) := by decide +kernel
theorem dX12_takesE_77 : decode cX12_takesE 77 = .ok (.aload_n 0, 1) := by decide +kernel
theorem dX12_takesE_78 : decode cX12_takesE 78 = .ok (.dup, 1) := by decide +kernel
theorem dX12_takesE_79 : decode cX12_takesE 79 = .ok (.getfield 215, 3) := by decide +kernel
theorem dX12_takesE_82 : decode cX12_takesE 82 = .ok (.iconst 1, 1) := by decide +kernel
theorem dX12_takesE_83 : decode cX12_takesE 83 = .ok (.iadd, 1) := by decide +kernel
theorem dX12_takesE_84 : decode cX12_takesE 84 = .ok (.putfield 215, 3) := by decide +kernel
theorem dX12_takesE_87 : decode cX12_takesE 87 = .ok (.iinc 2 1, 3) := by decide +kernel
theorem dX12_takesE_90 : decode cX12_takesE 90 = .ok (.aload_n 0, 1) := by decide +kernel
theorem dX12_takesE_91 : decode cX12_takesE 91 = .ok (.invokevirtual 212, 3) := by decide +kernel
theorem dX12_takesE_94 : decode cX12_takesE 94 = .ok (.goto 78, 3) := by decide +kernel
theorem dX12_takesE_97 : decode cX12_takesE 97 = .ok (.aload_n 0, 1) := by decide +kernel
theorem dX12_takesE_98 : decode cX12_takesE 98 = .ok (.getfield 197, 3) := by decide +kernel
theorem dX12_takesE_101 : decode cX12_takesE 101 = .ok (.iconst 3, 1) := by decide +kernel
theorem dX12_takesE_102 : decode cX12_takesE 102 = .ok (.if_icmp .ne 56, 3) := by decide +kernel
theorem dX12_takesE_105 : decode cX12_takesE 105 = .ok (.aload_n 0, 1) := by decide +kernel
theorem dX12_takesE_106 : decode cX12_takesE 106 = .ok (.getfield 203, 3) := by decide +kernel
theorem dX12_takesE_109 : decode cX12_takesE 109 = .ok (.bipush 40, 2) := by decide +kernel
theorem dX12_takesE_111 : decode cX12_takesE 111 = .ok (.if_icmp .ne 47, 3) := by decide +kernel
theorem dX12_takesE_114 : decode cX12_takesE 114 = .ok (.iload_n 1, 1) := by decide +kernel
theorem dX12_takesE_115 : decode cX12_takesE 115 = .ok (.bipush 8, 2) := by decide +kernel
theorem dX12_takesE_117 : decode cX12_takesE 117 = .ok (.if_icmp .ge 41, 3) := by decide +kernel
theorem dX12_takesE_120 : decode cX12_takesE 120 = .ok (.aload_n 0, 1) := by decide +kernel
theorem dX12_takesE_121 : decode cX12_takesE 121 = .ok (.getfield 32, 3) := by decide +kernel
theorem dX12_takesE_124 : decode cX12_takesE 124 = .ok (.aload_n 0, 1) := by decide +kernel
theorem dX12_takesE_125 : decode cX12_takesE 125 = .ok (.getfield 215, 3) := by decide +kernel
theorem dX12_takesE_128 : decode cX12_takesE 128 = .ok (.bipush (-11), 2) := by decide +kernel
theorem dX12_takesE_130 : decode cX12_takesE 130 = .ok (.iastore, 1) := by decide +kernel
theorem dX12_takesE_131 : decode cX12_takesE 131 = .ok (.aload_n 0, 1) := by decide +kernel
theorem dX12_takesE_132 : decode cX12_takesE 132 = .ok (.dup, 1) := by decide +kernel
theorem dX12_takesE_133 : decode cX12_takesE 133 = .ok (.getfield 215, 3) := by decide +kernel
theorem dX12_takesE_136 : decode cX12_takesE 136 = .ok (.iconst 1, 1) := by decide +kernel
theorem dX12_takesE_137 : decode cX12_takesE 137 = .ok (.iadd, 1) := by decide +kernel
theorem dX12_takesE_138 : decode cX12_takesE 138 = .ok (.putfield 215, 3) := by decide +kernel
theorem dX12_takesE_141 : decode cX12_takesE 141 = .ok (.iinc 1 1, 3) := by decide +kernel
theorem dX12_takesE_144 : decode cX12_takesE 144 = .ok (.aload_n 0, 1) := by decide +kernel
theorem dX12_takesE_145 : decode cX12_takesE 145 = .ok (.getfield 35, 3) := by decide +kernel
theorem dX12_takesE_148 : decode cX12_takesE 148 = .ok (.iload_n 1, 1) := by decide +kernel
theorem dX12_takesE_149 : decode cX12_takesE 149 = .ok (.iconst 0, 1) := by decide +kernel
theorem dX12_takesE_150 : decode cX12_takesE 150 = .ok (.bastore, 1) := by decide +kernel
theorem dX12_takesE_151 : decode cX12_takesE 151 = .ok (.aload_n 0, 1) := by decide +kernel
theorem dX12_takesE_152 : decode cX12_takesE 152 = .ok (.invokevirtual 212, 3) := by decide +kernel
theorem dX12_takesE_155 : decode cX12_takesE 155 = .ok (.goto 17, 3) := by decide +kernel
theorem dX12_takesE_158 : decode cX12_takesE 158 = .ok (.aload_n 0, 1) := by decide +kernel
theorem dX12_takesE_159 : decode cX12_takesE 159 = .ok (.invokevirtual 234, 3) := by decide +kernel
theorem dX12_takesE_162 : decode cX12_takesE 162 = .ok (.ifCond .eq 8, 3) := by decide +kernel
theorem dX12_takesE_165 : decode cX12_takesE 165 = .ok (.iconst 0, 1) := by decide +kernel
theorem dX12_takesE_166 : decode cX12_takesE 166 = .ok (.istore_n 3, 1) := by decide +kernel
theorem dX12_takesE_167 : decode cX12_takesE 167 = .ok (.goto 5, 3) := by decide +kernel
theorem dX12_takesE_170 : decode cX12_takesE 170 = .ok (.iconst 0, 1) := by decide +kernel
theorem dX12_takesE_171 : decode cX12_takesE 171 = .ok (.ireturn, 1) := by decide +kernel
theorem dX12_takesE_172 : decode cX12_takesE 172 = .ok (.aload_n 0, 1) := by decide +kernel
theorem dX12_takesE_173 : decode cX12_takesE 173 = .ok (.invokevirtual 238, 3) := by decide +kernel
theorem dX12_takesE_176 : decode cX12_takesE 176 = .ok (.istore_n 2, 1) := by decide +kernel
theorem dX12_takesE_177 : decode cX12_takesE 177 = .ok (.goto (-149), 3) := by decide +kernel
theorem dX12_takesE_180 : decode cX12_takesE 180 = .ok (.aload_n 0, 1) := by decide +kernel
theorem dX12_takesE_181 : decode cX12_takesE 181 = .ok (.getfield 197, 3) := by decide +kernel
theorem dX12_takesE_184 : decode cX12_takesE 184 = .ok (.iconst 3, 1) := by decide +kernel
theorem dX12_takesE_185 : decode cX12_takesE 185 = .ok (.if_icmp .ne 52, 3) := by decide +kernel
theorem dX12_takesE_188 : decode cX12_takesE 188 = .ok (.aload_n 0, 1) := by decide +kernel
theorem dX12_takesE_189 : decode cX12_takesE 189 = .ok (.getfield 203, 3) := by decide +kernel
theorem dX12_takesE_192 : decode cX12_takesE 192 = .ok (.bipush 41, 2) := by decide +kernel
theorem dX12_takesE_194 : decode cX12_takesE 194 = .ok (.if_icmp .ne 43, 3) := by decide +kernel
theorem dX12_takesE_197 : decode cX12_takesE 197 = .ok (.iload_n 1, 1) := by decide +kernel
theorem dX12_takesE_198 : decode cX12_takesE 198 = .ok (.ifCond .le 39, 3) := by decide +kernel
theorem dX12_takesE_201 : decode cX12_takesE 201 = .ok (.aload_n 0, 1) := by decide +kernel
theorem dX12_takesE_202 : decode cX12_takesE 202 = .ok (.iconst 0, 1) := by decide +kernel
theorem dX12_takesE_203 : decode cX12_takesE 203 = .ok (.invokevirtual 230, 3) := by decide +kernel
theorem dX12_takesE_206 : decode cX12_takesE 206 = .ok (.aload_n 0, 1) := by decide +kernel
theorem dX12_takesE_207 : decode cX12_takesE 207 = .ok (.dup, 1) := by decide +kernel
theorem dX12_takesE_208 : decode cX12_takesE 208 = .ok (.getfield 215, 3) := by decide +kernel
theorem dX12_takesE_211 : decode cX12_takesE 211 = .ok (.iconst 1, 1) := by decide +kernel
theorem dX12_takesE_212 : decode cX12_takesE 212 = .ok (.isub, 1) := by decide +kernel
theorem dX12_takesE_213 : decode cX12_takesE 213 = .ok (.putfield 215, 3) := by decide +kernel
theorem dX12_takesE_216 : decode cX12_takesE 216 = .ok (.iinc 1 (-1), 3) := by decide +kernel
theorem dX12_takesE_219 : decode cX12_takesE 219 = .ok (.aload_n 0, 1) := by decide +kernel
theorem dX12_takesE_220 : decode cX12_takesE 220 = .ok (.bipush 6, 2) := by decide +kernel
theorem dX12_takesE_222 : decode cX12_takesE 222 = .ok (.invokevirtual 230, 3) := by decide +kernel
theorem dX12_takesE_225 : decode cX12_takesE 225 = .ok (.aload_n 0, 1) := by decide +kernel
theorem dX12_takesE_226 : decode cX12_takesE 226 = .ok (.invokevirtual 238, 3) := by decide +kernel
theorem dX12_takesE_229 : decode cX12_takesE 229 = .ok (.istore_n 2, 1) := by decide +kernel
theorem dX12_takesE_230 : decode cX12_takesE 230 = .ok (.aload_n 0, 1) := by decide +kernel
theorem dX12_takesE_231 : decode cX12_takesE 231 = .ok (.invokevirtual 212, 3) := by decide +kernel
theorem dX12_takesE_234 : decode cX12_takesE 234 = .ok (.goto (-206), 3) := by decide +kernel
theorem dX12_takesE_237 : decode cX12_takesE 237 = .ok (.aload_n 0, 1) := by decide +kernel
theorem dX12_takesE_238 : decode cX12_takesE 238 = .ok (.invokevirtual 241, 3) := by decide +kernel
theorem dX12_takesE_241 : decode cX12_takesE 241 = .ok (.istore 4, 2) := by decide +kernel
theorem dX12_takesE_243 : decode cX12_takesE 243 = .ok (.iload 4, 2) := by decide +kernel
theorem dX12_takesE_245 : decode cX12_takesE 245 = .ok (.ifCond .eq 21, 3) := by decide +kernel
theorem dX12_takesE_248 : decode cX12_takesE 248 = .ok (.iload 4, 2) := by decide +kernel
theorem dX12_takesE_250 : decode cX12_takesE 250 = .ok (.invokestatic 218, 3) := by decide +kernel
theorem dX12_takesE_253 : decode cX12_takesE 253 = .ok (.iconst 3, 1) := by decide +kernel
theorem dX12_takesE_254 : decode cX12_takesE 254 = .ok (.if_icmp .ne 14, 3) := by decide +kernel
theorem dX12_takesE_257 : decode cX12_takesE 257 = .ok (.aload_n 0, 1) := by decide +kernel
theorem dX12_takesE_258 : decode cX12_takesE 258 = .ok (.getfield 35, 3) := by decide +kernel
theorem dX12_takesE_261 : decode cX12_takesE 261 = .ok (.iload_n 1, 1) := by decide +kernel
theorem dX12_takesE_262 : decode cX12_takesE 262 = .ok (.baload, 1) := by decide +kernel
theorem dX12_takesE_263 : decode cX12_takesE 263 = .ok (.ifCond .eq 5, 3) := by decide +kernel
theorem dX12_takesE_266 : decode cX12_takesE 266 = .ok (.iconst 0, 1) := by decide +kernel
theorem dX12_takesE_267 : decode cX12_takesE 267 = .ok (.ireturn, 1) := by decide +kernel
theorem dX12_takesE_268 : decode cX12_takesE 268 = .ok (.aload_n 0, 1) := by decide +kernel
theorem dX12_takesE_269 : decode cX12_takesE 269 = .ok (.getfield 35, 3) := by decide +kernel
theorem dX12_takesE_272 : decode cX12_takesE 272 = .ok (.iload_n 1, 1) := by decide +kernel
theorem dX12_takesE_273 : decode cX12_takesE 273 = .ok (.iload 4, 2) := by decide +kernel
theorem dX12_takesE_275 : decode cX12_takesE 275 = .ok (.invokestatic 218, 3) := by decide +kernel
theorem dX12_takesE_278 : decode cX12_takesE 278 = .ok (.iconst 3, 1) := by decide +kernel
theorem dX12_takesE_279 : decode cX12_takesE 279 = .ok (.if_icmp .eq 21, 3) := by decide +kernel
theorem dX12_takesE_282 : decode cX12_takesE 282 = .ok (.iload 4, 2) := by decide +kernel
theorem dX12_takesE_284 : decode cX12_takesE 284 = .ok (.invokestatic 218, 3) := by decide +kernel
theorem dX12_takesE_287 : decode cX12_takesE 287 = .ok (.iconst 3, 1) := by decide +kernel
theorem dX12_takesE_288 : decode cX12_takesE 288 = .ok (.if_icmp .le 16, 3) := by decide +kernel
theorem dX12_takesE_291 : decode cX12_takesE 291 = .ok (.aload_n 0, 1) := by decide +kernel
theorem dX12_takesE_292 : decode cX12_takesE 292 = .ok (.getfield 35, 3) := by decide +kernel
theorem dX12_takesE_295 : decode cX12_takesE 295 = .ok (.iload_n 1, 1) := by decide +kernel
theorem dX12_takesE_296 : decode cX12_takesE 296 = .ok (.baload, 1) := by decide +kernel
theorem dX12_takesE_297 : decode cX12_takesE 297 = .ok (.ifCond .eq 7, 3) := by decide +kernel
theorem dX12_takesE_300 : decode cX12_takesE 300 = .ok (.iconst 1, 1) := by decide +kernel
theorem dX12_takesE_301 : decode cX12_takesE 301 = .ok (.goto 4, 3) := by decide +kernel
theorem dX12_takesE_304 : decode cX12_takesE 304 = .ok (.iconst 0, 1) := by decide +kernel
theorem dX12_takesE_305 : decode cX12_takesE 305 = .ok (.bastore, 1) := by decide +kernel
theorem dX12_takesE_306 : decode cX12_takesE 306 = .ok (.aload_n 0, 1) := by decide +kernel
theorem dX12_takesE_307 : decode cX12_takesE 307 = .ok (.iload 4, 2) := by decide +kernel
theorem dX12_takesE_309 : decode cX12_takesE 309 = .ok (.invokestatic 218, 3) := by decide +kernel
theorem dX12_takesE_312 : decode cX12_takesE 312 = .ok (.invokevirtual 230, 3) := by decide +kernel
theorem dX12_takesE_315 : decode cX12_takesE 315 = .ok (.aload_n 0, 1) := by decide +kernel
theorem dX12_takesE_316 : decode cX12_takesE 316 = .ok (.getfield 32, 3) := by decide +kernel
theorem dX12_takesE_319 : decode cX12_takesE 319 = .ok (.aload_n 0, 1) := by decide +kernel
theorem dX12_takesE_320 : decode cX12_takesE 320 = .ok (.getfield 215, 3) := by decide +kernel
theorem dX12_takesE_323 : decode cX12_takesE 323 = .ok (.iload 4, 2) := by decide +kernel
theorem dX12_takesE_325 : decode cX12_takesE 325 = .ok (.iastore, 1) := by decide +kernel
theorem dX12_takesE_326 : decode cX12_takesE 326 = .ok (.aload_n 0, 1) := by decide +kernel
theorem dX12_takesE_327 : decode cX12_takesE 327 = .ok (.dup, 1) := by decide +kernel
theorem dX12_takesE_328 : decode cX12_takesE 328 = .ok (.getfield 215, 3) := by decide +kernel
theorem dX12_takesE_331 : decode cX12_takesE 331 = .ok (.iconst 1, 1) := by decide +kernel
theorem dX12_takesE_332 : decode cX12_takesE 332 = .ok (.iadd, 1) := by decide +kernel
theorem dX12_takesE_333 : decode cX12_takesE 333 = .ok (.putfield 215, 3) := by decide +kernel
theorem dX12_takesE_336 : decode cX12_takesE 336 = .ok (.iconst 1, 1) := by decide +kernel
theorem dX12_takesE_337 : decode cX12_takesE 337 = .ok (.istore_n 3, 1) := by decide +kernel
theorem dX12_takesE_338 : decode cX12_takesE 338 = .ok (.aload_n 0, 1) := by decide +kernel
theorem dX12_takesE_339 : decode cX12_takesE 339 = .ok (.invokevirtual 212, 3) := by decide +kernel
theorem dX12_takesE_342 : decode cX12_takesE 342 = .ok (.goto (-314), 3) := by decide +kernel
theorem dX12_takesE_345 : decode cX12_takesE 345 = .ok (.aload_n 0, 1) := by decide +kernel
theorem dX12_takesE_346 : decode cX12_takesE 346 = .ok (.iconst 0, 1) := by decide +kernel
theorem dX12_takesE_347 : decode cX12_takesE 347 = .ok (.invokevirtual 230, 3) := by decide +kernel
theorem dX12_takesE_350 : decode cX12_takesE 350 = .ok (.iload_n 1, 1) := by decide +kernel
theorem dX12_takesE_351 : decode cX12_takesE 351 = .ok (.ifCond .ne 7, 3) := by decide +kernel
theorem dX12_takesE_354 : decode cX12_takesE 354 = .ok (.iconst 1, 1) := by decide +kernel
theorem dX12_takesE_355 : decode cX12_takesE 355 = .ok (.goto 4, 3) := by decide +kernel
theorem dX12_takesE_358 : decode cX12_takesE 358 = .ok (.iconst 0, 1) := by decide +kernel
theorem dX12_takesE_359 : decode cX12_takesE 359 = .ok (.ireturn, 1) := by decide +kernel
theorem dX12_notsOpen_0 : decode cX12_notsOpen 0 = .ok (.iconst 0, 1) := by decide +kernel
theorem dX12_notsOpen_1 : decode cX12_notsOpen 1 = .ok (.istore_n 1, 1) := by decide +kernel
theorem dX12_notsOpen_2 : decode cX12_notsOpen 2 = .ok (.iconst 0, 1) := by decide +kernel
theorem dX12_notsOpen_3 : decode cX12_notsOpen 3 = .ok (.istore_n 2, 1) := by decide +kernel
theorem dX12_notsOpen_4 : decode cX12_notsOpen 4 = .ok (.iload_n 2, 1) := by decide +kernel
theorem dX12_notsOpen_5 : decode cX12_notsOpen 5 = .ok (.aload_n 0, 1) := by decide +kernel
theorem dX12_notsOpen_6 : decode cX12_notsOpen 6 = .ok (.getfield 215, 3) := by decide +kernel
theorem dX12_notsOpen_9 : decode cX12_notsOpen 9 = .ok (.if_icmp .ge 28, 3) := by decide +kernel
theorem dX12_notsOpen_12 : decode cX12_notsOpen 12 = .ok (.iload_n 1, 1) := by decide +kernel
theorem dX12_notsOpen_13 : decode cX12_notsOpen 13 = .ok (.aload_n 0, 1) := by decide +kernel
theorem dX12_notsOpen_14 : decode cX12_notsOpen 14 = .ok (.getfield 32, 3) := by decide +kernel
theorem dX12_notsOpen_17 : decode cX12_notsOpen 17 = .ok (.iload_n 2, 1) := by decide +kernel
theorem dX12_notsOpen_18 : decode cX12_notsOpen 18 = .ok (.iaload, 1) := by decide +kernel
theorem dX12_notsOpen_19 : decode cX12_notsOpen 19 = .ok (.bipush (-10), 2) := by decide +kernel
theorem dX12_notsOpen_21 : decode cX12_notsOpen 21 = .ok (.if_icmp .ne 7, 3) := by decide +kernel
theorem dX12_notsOpen_24 : decode cX12_notsOpen 24 = .ok (.iconst 1, 1) := by decide +kernel
theorem dX12_notsOpen_25 : decode cX12_notsOpen 25 = .ok (.goto 4, 3) := by decide +kernel
theorem dX12_notsOpen_28 : decode cX12_notsOpen 28 = .ok (.iconst 0, 1) := by decide +kernel
theorem dX12_notsOpen_29 : decode cX12_notsOpen 29 = .ok (.iadd, 1) := by decide +kernel
theorem dX12_notsOpen_30 : decode cX12_notsOpen 30 = .ok (.istore_n 1, 1) := by decide +kernel
theorem dX12_notsOpen_31 : decode cX12_notsOpen 31 = .ok (.iinc 2 1, 3) := by decide +kernel
theorem dX12_notsOpen_34 : decode cX12_notsOpen 34 = .ok (.goto (-30), 3) := by decide +kernel
theorem dX12_notsOpen_37 : decode cX12_notsOpen 37 = .ok (.iload_n 1, 1) := by decide +kernel
theorem dX12_notsOpen_38 : decode cX12_notsOpen 38 = .ok (.ireturn, 1) := by decide +kernel
theorem dX12_text_0 : decode cX12_text 0 = .ok (.aload_n 0, 1) := by decide +kernel
theorem dX12_text_1 : decode cX12_text 1 = .ok (.iconst 0, 1) := by decide +kernel
theorem dX12_text_2 : decode cX12_text 2 = .ok (.putfield 188, 3) := by decide +kernel
theorem dX12_text_5 : decode cX12_text 5 = .ok (.aload_n 0, 1) := by decide +kernel
theorem dX12_text_6 : decode cX12_text 6 = .ok (.iconst (-1), 1) := by decide +kernel
theorem dX12_text_7 : decode cX12_text 7 = .ok (.putfield 194, 3) := by decide +kernel
theorem dX12_text_10 : decode cX12_text 10 = .ok (.aload_n 0, 1) := by decide +kernel
theorem dX12_text_11 : decode cX12_text 11 = .ok (.invokevirtual 212, 3) := by decide +kernel
theorem dX12_text_14 : decode cX12_text 14 = .ok (.aload_n 0, 1) := by decide +kernel
theorem dX12_text_15 : decode cX12_text 15 = .ok (.invokevirtual 244, 3) := by decide +kernel
theorem dX12_text_18 : decode cX12_text 18 = .ok (.ifCond .eq 14, 3) := by decide +kernel
theorem dX12_text_21 : decode cX12_text 21 = .ok (.aload_n 0, 1) := by decide +kernel
theorem dX12_text_22 : decode cX12_text 22 = .ok (.invokevirtual 247, 3) := by decide +kernel
theorem dX12_text_25 : decode cX12_text 25 = .ok (.ifCond .eq 7, 3) := by decide +kernel
theorem dX12_text_28 : decode cX12_text 28 = .ok (.iconst 1, 1) := by decide +kernel
theorem dX12_text_29 : decode cX12_text 29 = .ok (.goto 4, 3) := by decide +kernel
theorem dX12_text_32 : decode cX12_text 32 = .ok (.iconst 0, 1) := by decide +kernel
theorem dX12_text_33 : decode cX12_text 33 = .ok (.istore_n 1, 1) := by decide +kernel
theorem dX12_text_34 : decode cX12_text 34 = .ok (.aload_n 0, 1) := by decide +kernel
theorem dX12_text_35 : decode cX12_text 35 = .ok (.iconst 0, 1) := by decide +kernel
theorem dX12_text_36 : decode cX12_text 36 = .ok (.putfield 184, 3) := by decide +kernel
theorem dX12_text_39 : decode cX12_text 39 = .ok (.iload_n 1, 1) := by decide +kernel
theorem dX12_text_40 : decode cX12_text 40 = .ok (.ifCond .ne 11, 3) := by decide +kernel
theorem dX12_text_43 : decode cX12_text 43 = .ok (.bipush (-100), 2) := by decide +kernel
theorem dX12_text_45 : decode cX12_text 45 = .ok (.aload_n 0, 1) := by decide +kernel
theorem dX12_text_46 : decode cX12_text 46 = .ok (.getfield 191, 3) := by decide +kernel
theorem dX12_text_49 : decode cX12_text 49 = .ok (.isub, 1) := by decide +kernel
theorem dX12_text_50 : decode cX12_text 50 = .ok (.ireturn, 1) := by decide +kernel
theorem dX12_text_51 : decode cX12_text 51 = .ok (.aload_n 0, 1) := by decide +kernel
theorem dX12_text_52 : decode cX12_text 52 = .ok (.getfield 9, 3) := by decide +kernel
theorem dX12_text_55 : decode cX12_text 55 = .ok (.bipush 9, 2) := by decide +kernel
theorem dX12_text_57 : decode cX12_text 57 = .ok (.iaload, 1) := by decide +kernel
theorem dX12_text_58 : decode cX12_text 58 = .ok (.bipush 14, 2) := by decide +kernel
theorem dX12_text_60 : decode cX12_text 60 = .ok (.if_icmp .ne 6, 3) := by decide +kernel
theorem dX12_text_63 : decode cX12_text 63 = .ok (.ldc 83, 2) := by decide +kernel
theorem dX12_text_65 : decode cX12_text 65 = .ok (.ireturn, 1) := by decide +kernel
theorem dX12_text_66 : decode cX12_text 66 = .ok (.aload_n 0, 1) := by decide +kernel
theorem dX12_text_67 : decode cX12_text 67 = .ok (.getfield 9, 3) := by decide +kernel
theorem dX12_text_70 : decode cX12_text 70 = .ok (.bipush 9, 2) := by decide +kernel
theorem dX12_text_72 : decode cX12_text 72 = .ok (.iaload, 1) := by decide +kernel
theorem dX12_text_73 : decode cX12_text 73 = .ok (.istore_n 2, 1) := by decide +kernel
theorem dX12_text_74 : decode cX12_text 74 = .ok (.aload_n 0, 1) := by decide +kernel
theorem dX12_text_75 : decode cX12_text 75 = .ok (.getfield 9, 3) := by decide +kernel
theorem dX12_text_78 : decode cX12_text 78 = .ok (.sipush 347, 3) := by decide +kernel
theorem dX12_text_81 : decode cX12_text 81 = .ok (.iconst 2, 1) := by decide +kernel
theorem dX12_text_82 : decode cX12_text 82 = .ok (.iload_n 2, 1) := by decide +kernel
theorem dX12_text_83 : decode cX12_text 83 = .ok (.imul, 1) := by decide +kernel
theorem dX12_text_84 : decode cX12_text 84 = .ok (.iadd, 1) := by decide +kernel
theorem dX12_text_85 : decode cX12_text 85 = .ok (.sipush 1000, 3) := by decide +kernel
theorem dX12_text_88 : decode cX12_text 88 = .ok (.aload_n 0, 1) := by decide +kernel
theorem dX12_text_89 : decode cX12_text 89 = .ok (.getfield 209, 3) := by decide +kernel
theorem dX12_text_92 : decode cX12_text 92 = .ok (.imul, 1) := by decide +kernel
theorem dX12_text_93 : decode cX12_text 93 = .ok (.aload_n 0, 1) := by decide +kernel
theorem dX12_text_94 : decode cX12_text 94 = .ok (.getfield 221, 3) := by decide +kernel
theorem dX12_text_97 : decode cX12_text 97 = .ok (.iadd, 1) := by decide +kernel
theorem dX12_text_98 : decode cX12_text 98 = .ok (.iastore, 1) := by decide +kernel
theorem dX12_text_99 : decode cX12_text 99 = .ok (.aload_n 0, 1) := by decide +kernel
theorem dX12_text_100 : decode cX12_text 100 = .ok (.getfield 9, 3) := by decide +kernel
theorem dX12_text_103 : decode cX12_text 103 = .ok (.sipush 347, 3) := by decide +kernel
theorem dX12_text_106 : decode cX12_text 106 = .ok (.iconst 2, 1) := by decide +kernel
theorem dX12_text_107 : decode cX12_text 107 = .ok (.iload_n 2, 1) := by decide +kernel
theorem dX12_text_108 : decode cX12_text 108 = .ok (.imul, 1) := by decide +kernel
theorem dX12_text_109 : decode cX12_text 109 = .ok (.iadd, 1) := by decide +kernel
theorem dX12_text_110 : decode cX12_text 110 = .ok (.iconst 1, 1) := by decide +kernel
theorem dX12_text_111 : decode cX12_text 111 = .ok (.iadd, 1) := by decide +kernel
theorem dX12_text_112 : decode cX12_text 112 = .ok (.aload_n 0, 1) := by decide +kernel
theorem dX12_text_113 : decode cX12_text 113 = .ok (.getfield 227, 3) := by decide +kernel
theorem dX12_text_116 : decode cX12_text 116 = .ok (.iastore, 1) := by decide +kernel
theorem dX12_text_117 : decode cX12_text 117 = .ok (.iconst 0, 1) := by decide +kernel
theorem dX12_text_118 : decode cX12_text 118 = .ok (.istore_n 3, 1) := by decide +kernel
theorem dX12_text_119 : decode cX12_text 119 = .ok (.iload_n 3, 1) := by decide +kernel
theorem dX12_text_120 : decode cX12_text 120 = .ok (.aload_n 0, 1) := by decide +kernel
theorem dX12_text_121 : decode cX12_text 121 = .ok (.getfield 221, 3) := by decide +kernel
theorem dX12_text_124 : decode cX12_text 124 = .ok (.if_icmp .ge 30, 3) := by decide +kernel
theorem dX12_text_127 : decode cX12_text 127 = .ok (.aload_n 0, 1) := by decide +kernel
theorem dX12_text_128 : decode cX12_text 128 = .ok (.getfield 9, 3) := by decide +kernel
theorem dX12_text_131 : decode cX12_text 131 = .ok (.sipush 375, 3) := by decide +kernel
theorem dX12_text_134 : decode cX12_text 134 = .ok (.bipush 96, 2) := by decide +kernel
theorem dX12_text_136 : decode cX12_text 136 = .ok (.iload_n 2, 1) := by decide +kernel
theorem dX12_text_137 : decode cX12_text 137 = .ok (.imul, 1) := by decide +kernel
theorem dX12_text_138 : decode cX12_text 138 = .ok (.iadd, 1) := by decide +kernel
theorem dX12_text_139 : decode cX12_text 139 = .ok (.iload_n 3, 1) := by decide +kernel
theorem dX12_text_140 : decode cX12_text 140 = .ok (.iadd, 1) := by decide +kernel
theorem dX12_text_141 : decode cX12_text 141 = .ok (.aload_n 0, 1) := by decide +kernel
theorem dX12_text_142 : decode cX12_text 142 = .ok (.getfield 29, 3) := by decide +kernel
theorem dX12_text_145 : decode cX12_text 145 = .ok (.iload_n 3, 1) := by decide +kernel
theorem dX12_text_146 : decode cX12_text 146 = .ok (.iaload, 1) := by decide +kernel
theorem dX12_text_147 : decode cX12_text 147 = .ok (.iastore, 1) := by decide +kernel
theorem dX12_text_148 : decode cX12_text 148 = .ok (.iinc 3 1, 3) := by decide +kernel
theorem dX12_text_151 : decode cX12_text 151 = .ok (.goto (-32), 3) := by decide +kernel
theorem dX12_text_154 : decode cX12_text 154 = .ok (.aload_n 0, 1) := by decide +kernel
theorem dX12_text_155 : decode cX12_text 155 = .ok (.getfield 9, 3) := by decide +kernel
theorem dX12_text_158 : decode cX12_text 158 = .ok (.bipush 9, 2) := by decide +kernel
theorem dX12_text_160 : decode cX12_text 160 = .ok (.dup2, 1) := by decide +kernel
theorem dX12_text_161 : decode cX12_text 161 = .ok (.iaload, 1) := by decide +kernel
theorem dX12_text_162 : decode cX12_text 162 = .ok (.iconst 1, 1) := by decide +kernel
theorem dX12_text_163 : decode cX12_text 163 = .ok (.iadd, 1) := by decide +kernel
theorem dX12_text_164 : decode cX12_text 164 = .ok (.iastore, 1) := by decide +kernel
theorem dX12_text_165 : decode cX12_text 165 = .ok (.iload_n 2, 1) := by decide +kernel
theorem dX12_text_166 : decode cX12_text 166 = .ok (.ireturn, 1) := by decide +kernel
theorem dX12_textTold_0 : decode cX12_textTold 0 = .ok (.iload_n 1, 1) := by decide +kernel
theorem dX12_textTold_1 : decode cX12_textTold 1 = .ok (.iconst 0, 1) := by decide +kernel
theorem dX12_textTold_2 : decode cX12_textTold 2 = .ok (.aload_n 0, 1) := by decide +kernel
theorem dX12_textTold_3 : decode cX12_textTold 3 = .ok (.getfield 9, 3) := by decide +kernel
theorem dX12_textTold_6 : decode cX12_textTold 6 = .ok (.bipush 9, 2) := by decide +kernel
theorem dX12_textTold_8 : decode cX12_textTold 8 = .ok (.iaload, 1) := by decide +kernel
theorem dX12_textTold_9 : decode cX12_textTold 9 = .ok (.iconst 1, 1) := by decide +kernel
theorem dX12_textTold_10 : decode cX12_textTold 10 = .ok (.isub, 1) := by decide +kernel
theorem dX12_textTold_11 : decode cX12_textTold 11 = .ok (.invokestatic 78, 3) := by decide +kernel
theorem dX12_textTold_14 : decode cX12_textTold 14 = .ok (.ifCond .eq 12, 3) := by decide +kernel
theorem dX12_textTold_17 : decode cX12_textTold 17 = .ok (.iload_n 2, 1) := by decide +kernel
theorem dX12_textTold_18 : decode cX12_textTold 18 = .ok (.iconst 0, 1) := by decide +kernel
theorem dX12_textTold_19 : decode cX12_textTold 19 = .ok (.iconst 1, 1) := by decide +kernel
theorem dX12_textTold_20 : decode cX12_textTold 20 = .ok (.invokestatic 78, 3) := by decide +kernel
theorem dX12_textTold_23 : decode cX12_textTold 23 = .ok (.ifCond .ne 6, 3) := by decide +kernel
theorem dX12_textTold_26 : decode cX12_textTold 26 = .ok (.ldc 82, 2) := by decide +kernel
theorem dX12_textTold_28 : decode cX12_textTold 28 = .ok (.ireturn, 1) := by decide +kernel
theorem dX12_textTold_29 : decode cX12_textTold 29 = .ok (.iload_n 2, 1) := by decide +kernel
theorem dX12_textTold_30 : decode cX12_textTold 30 = .ok (.ifCond .ne 22, 3) := by decide +kernel
theorem dX12_textTold_33 : decode cX12_textTold 33 = .ok (.aload_n 0, 1) := by decide +kernel
theorem dX12_textTold_34 : decode cX12_textTold 34 = .ok (.getfield 9, 3) := by decide +kernel
theorem dX12_textTold_37 : decode cX12_textTold 37 = .ok (.sipush 347, 3) := by decide +kernel
theorem dX12_textTold_40 : decode cX12_textTold 40 = .ok (.iconst 2, 1) := by decide +kernel
theorem dX12_textTold_41 : decode cX12_textTold 41 = .ok (.iload_n 1, 1) := by decide +kernel
theorem dX12_textTold_42 : decode cX12_textTold 42 = .ok (.imul, 1) := by decide +kernel
theorem dX12_textTold_43 : decode cX12_textTold 43 = .ok (.iadd, 1) := by decide +kernel
theorem dX12_textTold_44 : decode cX12_textTold 44 = .ok (.iaload, 1) := by decide +kernel
theorem dX12_textTold_45 : decode cX12_textTold 45 = .ok (.sipush 1000, 3) := by decide +kernel
theorem dX12_textTold_48 : decode cX12_textTold 48 = .ok (.idiv, 1) := by decide +kernel
theorem dX12_textTold_49 : decode cX12_textTold 49 = .ok (.goto 17, 3) := by decide +kernel
theorem dX12_textTold_52 : decode cX12_textTold 52 = .ok (.aload_n 0, 1) := by decide +kernel
theorem dX12_textTold_53 : decode cX12_textTold 53 = .ok (.getfield 9, 3) := by decide +kernel
theorem dX12_textTold_56 : decode cX12_textTold 56 = .ok (.sipush 347, 3) := by decide +kernel
theorem dX12_textTold_59 : decode cX12_textTold 59 = .ok (.iconst 2, 1) := by decide +kernel
theorem dX12_textTold_60 : decode cX12_textTold 60 = .ok (.iload_n 1, 1) := by decide +kernel
theorem dX12_textTold_61 : decode cX12_textTold 61 = .ok (.imul, 1) := by decide +kernel
theorem dX12_textTold_62 : decode cX12_textTold 62 = .ok (.iadd, 1) := by decide +kernel
theorem dX12_textTold_63 : decode cX12_textTold 63 = .ok (.iconst 1, 1) := by decide +kernel
theorem dX12_textTold_64 : decode cX12_textTold 64 = .ok (.iadd, 1) := by decide +kernel
theorem dX12_textTold_65 : decode cX12_textTold 65 = .ok (.iaload, 1) := by decide +kernel
theorem dX12_textTold_66 : decode cX12_textTold 66 = .ok (.ireturn, 1) := by decide +kernel
theorem dX12_counts_0 : decode cX12_counts 0 = .ok (.aload_n 0, 1) := by decide +kernel
theorem dX12_counts_1 : decode cX12_counts 1 = .ok (.getfield 9, 3) := by decide +kernel
theorem dX12_counts_4 : decode cX12_counts 4 = .ok (.bipush 9, 2) := by decide +kernel
theorem dX12_counts_6 : decode cX12_counts 6 = .ok (.iaload, 1) := by decide +kernel
theorem dX12_counts_7 : decode cX12_counts 7 = .ok (.iconst 1, 1) := by decide +kernel
theorem dX12_counts_8 : decode cX12_counts 8 = .ok (.isub, 1) := by decide +kernel
theorem dX12_counts_9 : decode cX12_counts 9 = .ok (.istore_n 2, 1) := by decide +kernel
theorem dX12_counts_10 : decode cX12_counts 10 = .ok (.iload_n 2, 1) := by decide +kernel
theorem dX12_counts_11 : decode cX12_counts 11 = .ok (.ifCond .lt 31, 3) := by decide +kernel
theorem dX12_counts_14 : decode cX12_counts 14 = .ok (.aload_n 0, 1) := by decide +kernel
theorem dX12_counts_15 : decode cX12_counts 15 = .ok (.getfield 9, 3) := by decide +kernel
theorem dX12_counts_18 : decode cX12_counts 18 = .ok (.sipush 347, 3) := by decide +kernel
theorem dX12_counts_21 : decode cX12_counts 21 = .ok (.iconst 2, 1) := by decide +kernel
theorem dX12_counts_22 : decode cX12_counts 22 = .ok (.iload_n 2, 1) := by decide +kernel
theorem dX12_counts_23 : decode cX12_counts 23 = .ok (.imul, 1) := by decide +kernel
theorem dX12_counts_24 : decode cX12_counts 24 = .ok (.iadd, 1) := by decide +kernel
theorem dX12_counts_25 : decode cX12_counts 25 = .ok (.iaload, 1) := by decide +kernel
theorem dX12_counts_26 : decode cX12_counts 26 = .ok (.sipush 1000, 3) := by decide +kernel
theorem dX12_counts_29 : decode cX12_counts 29 = .ok (.idiv, 1) := by decide +kernel
theorem dX12_counts_30 : decode cX12_counts 30 = .ok (.iload_n 1, 1) := by decide +kernel
theorem dX12_counts_31 : decode cX12_counts 31 = .ok (.if_icmp .ne 5, 3) := by decide +kernel
theorem dX12_counts_34 : decode cX12_counts 34 = .ok (.iload_n 2, 1) := by decide +kernel
theorem dX12_counts_35 : decode cX12_counts 35 = .ok (.ireturn, 1) := by decide +kernel
theorem dX12_counts_36 : decode cX12_counts 36 = .ok (.iinc 2 (-1), 3) := by decide +kernel
theorem dX12_counts_39 : decode cX12_counts 39 = .ok (.goto (-29), 3) := by decide +kernel
theorem dX12_counts_42 : decode cX12_counts 42 = .ok (.iconst (-1), 1) := by decide +kernel
theorem dX12_counts_43 : decode cX12_counts 43 = .ok (.ireturn, 1) := by decide +kernel
theorem dX12_why_0 : decode cX12_why 0 = .ok (.iload_n 1, 1) := by decide +kernel
theorem dX12_why_1 : decode cX12_why 1 = .ok (.iconst 0, 1) := by decide +kernel
theorem dX12_why_2 : decode cX12_why 2 = .ok (.iconst 2, 1) := by decide +kernel
theorem dX12_why_3 : decode cX12_why 3 = .ok (.invokestatic 78, 3) := by decide +kernel
theorem dX12_why_6 : decode cX12_why 6 = .ok (.ifCond .ne 6, 3) := by decide +kernel
theorem dX12_why_9 : decode cX12_why 9 = .ok (.ldc 82, 2) := by decide +kernel
theorem dX12_why_11 : decode cX12_why 11 = .ok (.ireturn, 1) := by decide +kernel
theorem dX12_why_12 : decode cX12_why 12 = .ok (.aload_n 0, 1) := by decide +kernel
theorem dX12_why_13 : decode cX12_why 13 = .ok (.iload_n 1, 1) := by decide +kernel
theorem dX12_why_14 : decode cX12_why 14 = .ok (.invokevirtual 140, 3) := by decide +kernel
theorem dX12_why_17 : decode cX12_why 17 = .ok (.istore_n 2, 1) := by decide +kernel
theorem dX12_why_18 : decode cX12_why 18 = .ok (.iload_n 2, 1) := by decide +kernel
theorem dX12_why_19 : decode cX12_why 19 = .ok (.ifCond .ge 8, 3) := by decide +kernel
theorem dX12_why_22 : decode cX12_why 22 = .ok (.ldc 96, 2) := by decide +kernel
theorem dX12_why_24 : decode cX12_why 24 = .ok (.goto 4, 3) := by decide +kernel
theorem dX12_why_27 : decode cX12_why 27 = .ok (.iload_n 2, 1) := by decide +kernel
theorem dX12_why_28 : decode cX12_why 28 = .ok (.ireturn, 1) := by decide +kernel
theorem dX12_two_0 : decode cX12_two 0 = .ok (.iload_n 0, 1) := by decide +kernel
theorem dX12_two_1 : decode cX12_two 1 = .ok (.tableswitch 120 (-8) (-1) #[116, 112, 108, 97, 86, 75, 61, 47], 47) := by decide +kernel
theorem dX12_two_48 : decode cX12_two 48 = .ok (.iload_n 1, 1) := by decide +kernel
theorem dX12_two_49 : decode cX12_two 49 = .ok (.ifCond .ne 7, 3) := by decide +kernel
theorem dX12_two_52 : decode cX12_two 52 = .ok (.iload_n 2, 1) := by decide +kernel
theorem dX12_two_53 : decode cX12_two 53 = .ok (.ifCond .eq 7, 3) := by decide +kernel
theorem dX12_two_56 : decode cX12_two 56 = .ok (.iconst 1, 1) := by decide +kernel
theorem dX12_two_57 : decode cX12_two 57 = .ok (.goto 4, 3) := by decide +kernel
theorem dX12_two_60 : decode cX12_two 60 = .ok (.iconst 0, 1) := by decide +kernel
theorem dX12_two_61 : decode cX12_two 61 = .ok (.ireturn, 1) := by decide +kernel
theorem dX12_two_62 : decode cX12_two 62 = .ok (.iload_n 1, 1) := by decide +kernel
theorem dX12_two_63 : decode cX12_two 63 = .ok (.ifCond .eq 11, 3) := by decide +kernel
theorem dX12_two_66 : decode cX12_two 66 = .ok (.iload_n 2, 1) := by decide +kernel
theorem dX12_two_67 : decode cX12_two 67 = .ok (.ifCond .eq 7, 3) := by decide +kernel
theorem dX12_two_70 : decode cX12_two 70 = .ok (.iconst 1, 1) := by decide +kernel
theorem dX12_two_71 : decode cX12_two 71 = .ok (.goto 4, 3) := by decide +kernel
theorem dX12_two_74 : decode cX12_two 74 = .ok (.iconst 0, 1) := by decide +kernel
theorem dX12_two_75 : decode cX12_two 75 = .ok (.ireturn, 1) := by decide +kernel
theorem dX12_two_76 : decode cX12_two 76 = .ok (.iload_n 1, 1) := by decide +kernel
theorem dX12_two_77 : decode cX12_two 77 = .ok (.iload_n 2, 1) := by decide +kernel
theorem dX12_two_78 : decode cX12_two 78 = .ok (.if_icmp .ge 7, 3) := by decide +kernel
theorem dX12_two_81 : decode cX12_two 81 = .ok (.iconst 1, 1) := by decide +kernel
theorem dX12_two_82 : decode cX12_two 82 = .ok (.goto 4, 3) := by decide +kernel
theorem dX12_two_85 : decode cX12_two 85 = .ok (.iconst 0, 1) := by decide +kernel
theorem dX12_two_86 : decode cX12_two 86 = .ok (.ireturn, 1) := by decide +kernel
theorem dX12_two_87 : decode cX12_two 87 = .ok (.iload_n 1, 1) := by decide +kernel
theorem dX12_two_88 : decode cX12_two 88 = .ok (.iload_n 2, 1) := by decide +kernel
theorem dX12_two_89 : decode cX12_two 89 = .ok (.if_icmp .ne 7, 3) := by decide +kernel
theorem dX12_two_92 : decode cX12_two 92 = .ok (.iconst 1, 1) := by decide +kernel
theorem dX12_two_93 : decode cX12_two 93 = .ok (.goto 4, 3) := by decide +kernel
theorem dX12_two_96 : decode cX12_two 96 = .ok (.iconst 0, 1) := by decide +kernel
theorem dX12_two_97 : decode cX12_two 97 = .ok (.ireturn, 1) := by decide +kernel
theorem dX12_two_98 : decode cX12_two 98 = .ok (.iload_n 1, 1) := by decide +kernel
theorem dX12_two_99 : decode cX12_two 99 = .ok (.iload_n 2, 1) := by decide +kernel
theorem dX12_two_100 : decode cX12_two 100 = .ok (.if_icmp .le 7, 3) := by decide +kernel
theorem dX12_two_103 : decode cX12_two 103 = .ok (.iconst 1, 1) := by decide +kernel
theorem dX12_two_104 : decode cX12_two 104 = .ok (.goto 4, 3) := by decide +kernel
theorem dX12_two_107 : decode cX12_two 107 = .ok (.iconst 0, 1) := by decide +kernel
theorem dX12_two_108 : decode cX12_two 108 = .ok (.ireturn, 1) := by decide +kernel
theorem dX12_two_109 : decode cX12_two 109 = .ok (.iload_n 1, 1) := by decide +kernel
theorem dX12_two_110 : decode cX12_two 110 = .ok (.iload_n 2, 1) := by decide +kernel
theorem dX12_two_111 : decode cX12_two 111 = .ok (.iadd, 1) := by decide +kernel
theorem dX12_two_112 : decode cX12_two 112 = .ok (.ireturn, 1) := by decide +kernel
theorem dX12_two_113 : decode cX12_two 113 = .ok (.iload_n 1, 1) := by decide +kernel
theorem dX12_two_114 : decode cX12_two 114 = .ok (.iload_n 2, 1) := by decide +kernel
theorem dX12_two_115 : decode cX12_two 115 = .ok (.isub, 1) := by decide +kernel
theorem dX12_two_116 : decode cX12_two 116 = .ok (.ireturn, 1) := by decide +kernel
theorem dX12_two_117 : decode cX12_two 117 = .ok (.iload_n 1, 1) := by decide +kernel
theorem dX12_two_118 : decode cX12_two 118 = .ok (.iload_n 2, 1) := by decide +kernel
theorem dX12_two_119 : decode cX12_two 119 = .ok (.imul, 1) := by decide +kernel
theorem dX12_two_120 : decode cX12_two 120 = .ok (.ireturn, 1) := by decide +kernel
theorem dX12_two_121 : decode cX12_two 121 = .ok (.iload_n 2, 1) := by decide +kernel
theorem dX12_two_122 : decode cX12_two 122 = .ok (.ifCond .ne 7, 3) := by decide +kernel
theorem dX12_two_125 : decode cX12_two 125 = .ok (.iconst 0, 1) := by decide +kernel
theorem dX12_two_126 : decode cX12_two 126 = .ok (.goto 6, 3) := by decide +kernel
theorem dX12_two_129 : decode cX12_two 129 = .ok (.iload_n 1, 1) := by decide +kernel
theorem dX12_two_130 : decode cX12_two 130 = .ok (.iload_n 2, 1) := by decide +kernel
theorem dX12_two_131 : decode cX12_two 131 = .ok (.idiv, 1) := by decide +kernel
theorem dX12_two_132 : decode cX12_two 132 = .ok (.ireturn, 1) := by decide +kernel
theorem dX12_worksOut_0 : decode cX12_worksOut 0 = .ok (.iconst 0, 1) := by decide +kernel
theorem dX12_worksOut_1 : decode cX12_worksOut 1 = .ok (.istore_n 2, 1) := by decide +kernel
theorem dX12_worksOut_2 : decode cX12_worksOut 2 = .ok (.aload_n 0, 1) := by decide +kernel
theorem dX12_worksOut_3 : decode cX12_worksOut 3 = .ok (.getfield 9, 3) := by decide +kernel
theorem dX12_worksOut_6 : decode cX12_worksOut 6 = .ok (.sipush 347, 3) := by decide +kernel
theorem dX12_worksOut_9 : decode cX12_worksOut 9 = .ok (.iconst 2, 1) := by decide +kernel
theorem dX12_worksOut_10 : decode cX12_worksOut 10 = .ok (.iload_n 1, 1) := by decide +kernel
theorem dX12_worksOut_11 : decode cX12_worksOut 11 = .ok (.imul, 1) := by decide +kernel
theorem dX12_worksOut_12 : decode cX12_worksOut 12 = .ok (.iadd, 1) := by decide +kernel
theorem dX12_worksOut_13 : decode cX12_worksOut 13 = .ok (.iaload, 1) := by decide +kernel
theorem dX12_worksOut_14 : decode cX12_worksOut 14 = .ok (.sipush 1000, 3) := by decide +kernel
theorem dX12_worksOut_17 : decode cX12_worksOut 17 = .ok (.irem, 1) := by decide +kernel
theorem dX12_worksOut_18 : decode cX12_worksOut 18 = .ok (.istore_n 3, 1) := by decide +kernel
theorem dX12_worksOut_19 : decode cX12_worksOut 19 = .ok (.iconst 0, 1) := by decide +kernel
theorem dX12_worksOut_20 : decode cX12_worksOut 20 = .ok (.istore 4, 2) := by decide +kernel
theorem dX12_worksOut_22 : decode cX12_worksOut 22 = .ok (.iload 4, 2) := by decide +kernel
theorem dX12_worksOut_24 : decode cX12_worksOut 24 = .ok (.iload_n 3, 1) := by decide +kernel
theorem dX12_worksOut_25 : decode cX12_worksOut 25 = .ok (.if_icmp .ge 132, 3) := by decide +kernel
theorem dX12_worksOut_28 : decode cX12_worksOut 28 = .ok (.aload_n 0, 1) := by decide +kernel
theorem dX12_worksOut_29 : decode cX12_worksOut 29 = .ok (.getfield 9, 3) := by decide +kernel
theorem dX12_worksOut_32 : decode cX12_worksOut 32 = .ok (.sipush 375, 3) := by decide +kernel
theorem dX12_worksOut_35 : decode cX12_worksOut 35 = .ok (.bipush 96, 2) := by decide +kernel
theorem dX12_worksOut_37 : decode cX12_worksOut 37 = .ok (.iload_n 1, 1) := by decide +kernel
theorem dX12_worksOut_38 : decode cX12_worksOut 38 = .ok (.imul, 1) := by decide +kernel
theorem dX12_worksOut_39 : decode cX12_worksOut 39 = .ok (.iadd, 1) := by decide +kernel
theorem dX12_worksOut_40 : decode cX12_worksOut 40 = .ok (.iload 4, 2) := by decide +kernel
theorem dX12_worksOut_42 : decode cX12_worksOut 42 = .ok (.iadd, 1) := by decide +kernel
theorem dX12_worksOut_43 : decode cX12_worksOut 43 = .ok (.iaload, 1) := by decide +kernel
theorem dX12_worksOut_44 : decode cX12_worksOut 44 = .ok (.istore 5, 2) := by decide +kernel
theorem dX12_worksOut_46 : decode cX12_worksOut 46 = .ok (.iload 5, 2) := by decide +kernel
theorem dX12_worksOut_48 : decode cX12_worksOut 48 = .ok (.ifCond .lt 39, 3) := by decide +kernel
theorem dX12_worksOut_51 : decode cX12_worksOut 51 = .ok (.aload_n 0, 1) := by decide +kernel
theorem dX12_worksOut_52 : decode cX12_worksOut 52 = .ok (.getfield 39, 3) := by decide +kernel
theorem dX12_worksOut_55 : decode cX12_worksOut 55 = .ok (.iload_n 2, 1) := by decide +kernel
theorem dX12_worksOut_56 : decode cX12_worksOut 56 = .ok (.iload 5, 2) := by decide +kernel
theorem dX12_worksOut_58 : decode cX12_worksOut 58 = .ok (.sipush 10000, 3) := by decide +kernel
theorem dX12_worksOut_61 : decode cX12_worksOut 61 = .ok (.if_icmp .ge 8, 3) := by decide +kernel
theorem dX12_worksOut_64 : decode cX12_worksOut 64 = .ok (.iload 5, 2) := by decide +kernel
theorem dX12_worksOut_66 : decode cX12_worksOut 66 = .ok (.goto 14, 3) := by decide +kernel
theorem dX12_worksOut_69 : decode cX12_worksOut 69 = .ok (.aload_n 0, 1) := by decide +kernel
theorem dX12_worksOut_70 : decode cX12_worksOut 70 = .ok (.getfield 42, 3) := by decide +kernel
theorem dX12_worksOut_73 : decode cX12_worksOut 73 = .ok (.iload 5, 2) := by decide +kernel
theorem dX12_worksOut_75 : decode cX12_worksOut 75 = .ok (.sipush 10000, 3) := by decide +kernel
theorem dX12_worksOut_78 : decode cX12_worksOut 78 = .ok (.isub, 1) := by decide +kernel
theorem dX12_worksOut_79 : decode cX12_worksOut 79 = .ok (.iaload, 1) := by decide +kernel
theorem dX12_worksOut_80 : decode cX12_worksOut 80 = .ok (.iastore, 1) := by decide +kernel
theorem dX12_worksOut_81 : decode cX12_worksOut 81 = .ok (.iinc 2 1, 3) := by decide +kernel
theorem dX12_worksOut_84 : decode cX12_worksOut 84 = .ok (.goto 67, 3) := by decide +kernel
theorem dX12_worksOut_87 : decode cX12_worksOut 87 = .ok (.iload 5, 2) := by decide +kernel
theorem dX12_worksOut_89 : decode cX12_worksOut 89 = .ok (.bipush (-10), 2) := by decide +kernel
theorem dX12_worksOut_91 : decode cX12_worksOut 91 = .ok (.if_icmp .ne 30, 3) := by decide +kernel
theorem dX12_worksOut_94 : decode cX12_worksOut 94 = .ok (.aload_n 0, 1) := by decide +kernel
theorem dX12_worksOut_95 : decode cX12_worksOut 95 = .ok (.getfield 39, 3) := by decide +kernel
theorem dX12_worksOut_98 : decode cX12_worksOut 98 = .ok (.iload_n 2, 1) := by decide +kernel
theorem dX12_worksOut_99 : decode cX12_worksOut 99 = .ok (.iconst 1, 1) := by decide +kernel
theorem dX12_worksOut_100 : decode cX12_worksOut 100 = .ok (.isub, 1) := by decide +kernel
theorem dX12_worksOut_101 : decode cX12_worksOut 101 = .ok (.aload_n 0, 1) := by decide +kernel
theorem dX12_worksOut_102 : decode cX12_worksOut 102 = .ok (.getfield 39, 3) := by decide +kernel
theorem dX12_worksOut_105 : decode cX12_worksOut 105 = .ok (.iload_n 2, 1) := by decide +kernel
theorem dX12_worksOut_106 : decode cX12_worksOut 106 = .ok (.iconst 1, 1) := by decide +kernel
theorem dX12_worksOut_107 : decode cX12_worksOut 107 = .ok (.isub, 1) := by decide +kernel
theorem dX12_worksOut_108 : decode cX12_worksOut 108 = .ok (.iaload, 1) := by decide +kernel
theorem dX12_worksOut_109 : decode cX12_worksOut 109 = .ok (.ifCond .ne 7, 3) := by decide +kernel
theorem dX12_worksOut_112 : decode cX12_worksOut 112 = .ok (.iconst 1, 1) := by decide +kernel
theorem dX12_worksOut_113 : decode cX12_worksOut 113 = .ok (.goto 4, 3) := by decide +kernel
theorem dX12_worksOut_116 : decode cX12_worksOut 116 = .ok (.iconst 0, 1) := by decide +kernel
theorem dX12_worksOut_117 : decode cX12_worksOut 117 = .ok (.iastore, 1) := by decide +kernel
theorem dX12_worksOut_118 : decode cX12_worksOut 118 = .ok (.goto 33, 3) := by decide +kernel
theorem dX12_worksOut_121 : decode cX12_worksOut 121 = .ok (.iinc 2 (-1), 3) := by decide +kernel
theorem dX12_worksOut_124 : decode cX12_worksOut 124 = .ok (.aload_n 0, 1) := by decide +kernel
theorem dX12_worksOut_125 : decode cX12_worksOut 125 = .ok (.getfield 39, 3) := by decide +kernel
theorem dX12_worksOut_128 : decode cX12_worksOut 128 = .ok (.iload_n 2, 1) := by decide +kernel
theorem dX12_worksOut_129 : decode cX12_worksOut 129 = .ok (.iconst 1, 1) := by decide +kernel
theorem dX12_worksOut_130 : decode cX12_worksOut 130 = .ok (.isub, 1) := by decide +kernel
theorem dX12_worksOut_131 : decode cX12_worksOut 131 = .ok (.iload 5, 2) := by decide +kernel
theorem dX12_worksOut_133 : decode cX12_worksOut 133 = .ok (.aload_n 0, 1) := by decide +kernel
theorem dX12_worksOut_134 : decode cX12_worksOut 134 = .ok (.getfield 39, 3) := by decide +kernel
theorem dX12_worksOut_137 : decode cX12_worksOut 137 = .ok (.iload_n 2, 1) := by decide +kernel
theorem dX12_worksOut_138 : decode cX12_worksOut 138 = .ok (.iconst 1, 1) := by decide +kernel
theorem dX12_worksOut_139 : decode cX12_worksOut 139 = .ok (.isub, 1) := by decide +kernel
theorem dX12_worksOut_140 : decode cX12_worksOut 140 = .ok (.iaload, 1) := by decide +kernel
theorem dX12_worksOut_141 : decode cX12_worksOut 141 = .ok (.aload_n 0, 1) := by decide +kernel
theorem dX12_worksOut_142 : decode cX12_worksOut 142 = .ok (.getfield 39, 3) := by decide +kernel
theorem dX12_worksOut_145 : decode cX12_worksOut 145 = .ok (.iload_n 2, 1) := by decide +kernel
theorem dX12_worksOut_146 : decode cX12_worksOut 146 = .ok (.iaload, 1) := by decide +kernel
theorem dX12_worksOut_147 : decode cX12_worksOut 147 = .ok (.invokestatic 250, 3) := by decide +kernel
theorem dX12_worksOut_150 : decode cX12_worksOut 150 = .ok (.iastore, 1) := by decide +kernel
theorem dX12_worksOut_151 : decode cX12_worksOut 151 = .ok (.iinc 4 1, 3) := by decide +kernel
theorem dX12_worksOut_154 : decode cX12_worksOut 154 = .ok (.goto (-132), 3) := by decide +kernel
theorem dX12_worksOut_157 : decode cX12_worksOut 157 = .ok (.aload_n 0, 1) := by decide +kernel
theorem dX12_worksOut_158 : decode cX12_worksOut 158 = .ok (.getfield 39, 3) := by decide +kernel
theorem dX12_worksOut_161 : decode cX12_worksOut 161 = .ok (.iconst 0, 1) := by decide +kernel
theorem dX12_worksOut_162 : decode cX12_worksOut 162 = .ok (.iaload, 1) := by decide +kernel
theorem dX12_worksOut_163 : decode cX12_worksOut 163 = .ok (.ireturn, 1) := by decide +kernel
theorem dX12_knock_0 : decode cX12_knock 0 = .ok (.iload_n 1, 1) := by decide +kernel
theorem dX12_knock_1 : decode cX12_knock 1 = .ok (.sipush (-999), 3) := by decide +kernel
theorem dX12_knock_4 : decode cX12_knock 4 = .ok (.sipush 999, 3) := by decide +kernel
theorem dX12_knock_7 : decode cX12_knock 7 = .ok (.invokestatic 78, 3) := by decide +kernel
theorem dX12_knock_10 : decode cX12_knock 10 = .ok (.ifCond .ne 6, 3) := by decide +kernel
theorem dX12_knock_13 : decode cX12_knock 13 = .ok (.ldc 82, 2) := by decide +kernel
theorem dX12_knock_15 : decode cX12_knock 15 = .ok (.ireturn, 1) := by decide +kernel
theorem dX12_knock_16 : decode cX12_knock 16 = .ok (.aload_n 0, 1) := by decide +kernel
theorem dX12_knock_17 : decode cX12_knock 17 = .ok (.getfield 9, 3) := by decide +kernel
theorem dX12_knock_20 : decode cX12_knock 20 = .ok (.bipush 10, 2) := by decide +kernel
theorem dX12_knock_22 : decode cX12_knock 22 = .ok (.iaload, 1) := by decide +kernel
theorem dX12_knock_23 : decode cX12_knock 23 = .ok (.bipush 60, 2) := by decide +kernel
theorem dX12_knock_25 : decode cX12_knock 25 = .ok (.if_icmp .ne 6, 3) := by decide +kernel
theorem dX12_knock_28 : decode cX12_knock 28 = .ok (.ldc 83, 2) := by decide +kernel
theorem dX12_knock_30 : decode cX12_knock 30 = .ok (.ireturn, 1) := by decide +kernel
theorem dX12_knock_31 : decode cX12_knock 31 = .ok (.aload_n 0, 1) := by decide +kernel
theorem dX12_knock_32 : decode cX12_knock 32 = .ok (.getfield 9, 3) := by decide +kernel
theorem dX12_knock_35 : decode cX12_knock 35 = .ok (.sipush 251, 3) := by decide +kernel
theorem dX12_knock_38 : decode cX12_knock 38 = .ok (.aload_n 0, 1) := by decide +kernel
theorem dX12_knock_39 : decode cX12_knock 39 = .ok (.getfield 9, 3) := by decide +kernel
theorem dX12_knock_42 : decode cX12_knock 42 = .ok (.bipush 10, 2) := by decide +kernel
theorem dX12_knock_44 : decode cX12_knock 44 = .ok (.iaload, 1) := by decide +kernel
theorem dX12_knock_45 : decode cX12_knock 45 = .ok (.iadd, 1) := by decide +kernel
theorem dX12_knock_46 : decode cX12_knock 46 = .ok (.iload_n 1, 1) := by decide +kernel
theorem dX12_knock_47 : decode cX12_knock 47 = .ok (.iastore, 1) := by decide +kernel
theorem dX12_knock_48 : decode cX12_knock 48 = .ok (.aload_n 0, 1) := by decide +kernel
theorem dX12_knock_49 : decode cX12_knock 49 = .ok (.getfield 9, 3) := by decide +kernel
theorem dX12_knock_52 : decode cX12_knock 52 = .ok (.bipush 10, 2) := by decide +kernel
theorem dX12_knock_54 : decode cX12_knock 54 = .ok (.dup2, 1) := by decide +kernel
theorem dX12_knock_55 : decode cX12_knock 55 = .ok (.iaload, 1) := by decide +kernel
theorem dX12_knock_56 : decode cX12_knock 56 = .ok (.iconst 1, 1) := by decide +kernel
theorem dX12_knock_57 : decode cX12_knock 57 = .ok (.iadd, 1) := by decide +kernel
theorem dX12_knock_58 : decode cX12_knock 58 = .ok (.iastore, 1) := by decide +kernel
theorem dX12_knock_59 : decode cX12_knock 59 = .ok (.aload_n 0, 1) := by decide +kernel
theorem dX12_knock_60 : decode cX12_knock 60 = .ok (.getfield 9, 3) := by decide +kernel
theorem dX12_knock_63 : decode cX12_knock 63 = .ok (.bipush 10, 2) := by decide +kernel
theorem dX12_knock_65 : decode cX12_knock 65 = .ok (.iaload, 1) := by decide +kernel
theorem dX12_knock_66 : decode cX12_knock 66 = .ok (.iconst 1, 1) := by decide +kernel
theorem dX12_knock_67 : decode cX12_knock 67 = .ok (.isub, 1) := by decide +kernel
theorem dX12_knock_68 : decode cX12_knock 68 = .ok (.ireturn, 1) := by decide +kernel
theorem dX12_fitting_0 : decode cX12_fitting 0 = .ok (.iconst 0, 1) := by decide +kernel
theorem dX12_fitting_1 : decode cX12_fitting 1 = .ok (.istore_n 2, 1) := by decide +kernel
theorem dX12_fitting_2 : decode cX12_fitting 2 = .ok (.iconst 0, 1) := by decide +kernel
theorem dX12_fitting_3 : decode cX12_fitting 3 = .ok (.istore_n 3, 1) := by decide +kernel
theorem dX12_fitting_4 : decode cX12_fitting 4 = .ok (.iload_n 3, 1) := by decide +kernel
theorem dX12_fitting_5 : decode cX12_fitting 5 = .ok (.aload_n 0, 1) := by decide +kernel
theorem dX12_fitting_6 : decode cX12_fitting 6 = .ok (.getfield 9, 3) := by decide +kernel
theorem dX12_fitting_9 : decode cX12_fitting 9 = .ok (.bipush 10, 2) := by decide +kernel
theorem dX12_fitting_11 : decode cX12_fitting 11 = .ok (.iaload, 1) := by decide +kernel
theorem dX12_fitting_12 : decode cX12_fitting 12 = .ok (.if_icmp .ge 35, 3) := by decide +kernel
theorem dX12_fitting_15 : decode cX12_fitting 15 = .ok (.iload_n 2, 1) := by decide +kernel
theorem dX12_fitting_16 : decode cX12_fitting 16 = .ok (.aload_n 0, 1) := by decide +kernel
theorem dX12_fitting_17 : decode cX12_fitting 17 = .ok (.aload_n 0, 1) := by decide +kernel
theorem dX12_fitting_18 : decode cX12_fitting 18 = .ok (.getfield 9, 3) := by decide +kernel
theorem dX12_fitting_21 : decode cX12_fitting 21 = .ok (.sipush 251, 3) := by decide +kernel
theorem dX12_fitting_24 : decode cX12_fitting 24 = .ok (.iload_n 3, 1) := by decide +kernel
theorem dX12_fitting_25 : decode cX12_fitting 25 = .ok (.iadd, 1) := by decide +kernel
theorem dX12_fitting_26 : decode cX12_fitting 26 = .ok (.iaload, 1) := by decide +kernel
theorem dX12_fitting_27 : decode cX12_fitting 27 = .ok (.iload_n 1, 1) := by decide +kernel
theorem dX12_fitting_28 : decode cX12_fitting 28 = .ok (.invokevirtual 121, 3) := by decide +kernel
theorem dX12_fitting_31 : decode cX12_fitting 31 = .ok (.ifCond .eq 7, 3) := by decide +kernel
theorem dX12_fitting_34 : decode cX12_fitting 34 = .ok (.iconst 1, 1) := by decide +kernel
theorem dX12_fitting_35 : decode cX12_fitting 35 = .ok (.goto 4, 3) := by decide +kernel
theorem dX12_fitting_38 : decode cX12_fitting 38 = .ok (.iconst 0, 1) := by decide +kernel
theorem dX12_fitting_39 : decode cX12_fitting 39 = .ok (.iadd, 1) := by decide +kernel
theorem dX12_fitting_40 : decode cX12_fitting 40 = .ok (.istore_n 2, 1) := by decide +kernel
theorem dX12_fitting_41 : decode cX12_fitting 41 = .ok (.iinc 3 1, 3) := by decide +kernel
theorem dX12_fitting_44 : decode cX12_fitting 44 = .ok (.goto (-40), 3) := by decide +kernel
theorem dX12_fitting_47 : decode cX12_fitting 47 = .ok (.iload_n 2, 1) := by decide +kernel
theorem dX12_fitting_48 : decode cX12_fitting 48 = .ok (.ireturn, 1) := by decide +kernel
theorem dX12_chance_0 : decode cX12_chance 0 = .ok (.aload_n 0, 1) := by decide +kernel
theorem dX12_chance_1 : decode cX12_chance 1 = .ok (.aload_n 0, 1) := by decide +kernel
theorem dX12_chance_2 : decode cX12_chance 2 = .ok (.getfield 9, 3) := by decide +kernel
theorem dX12_chance_5 : decode cX12_chance 5 = .ok (.iconst 3, 1) := by decide +kernel
theorem dX12_chance_6 : decode cX12_chance 6 = .ok (.iaload, 1) := by decide +kernel
theorem dX12_chance_7 : decode cX12_chance 7 = .ok (.invokevirtual 253, 3) := by decide +kernel
theorem dX12_chance_10 : decode cX12_chance 10 = .ok (.ireturn, 1) := by decide +kernel
theorem dX12_width_0 : decode cX12_width 0 = .ok (.iload_n 1, 1) := by decide +kernel
theorem dX12_width_1 : decode cX12_width 1 = .ok (.iconst 0, 1) := by decide +kernel
theorem dX12_width_2 : decode cX12_width 2 = .ok (.bipush 60, 2) := by decide +kernel
theorem dX12_width_4 : decode cX12_width 4 = .ok (.invokestatic 78, 3) := by decide +kernel
theorem dX12_width_7 : decode cX12_width 7 = .ok (.ifCond .ne 6, 3) := by decide +kernel
theorem dX12_width_10 : decode cX12_width 10 = .ok (.ldc 82, 2) := by decide +kernel
theorem dX12_width_12 : decode cX12_width 12 = .ok (.ireturn, 1) := by decide +kernel
theorem dX12_width_13 : decode cX12_width 13 = .ok (.iconst 0, 1) := by decide +kernel
theorem dX12_width_14 : decode cX12_width 14 = .ok (.istore_n 2, 1) := by decide +kernel
theorem dX12_width_15 : decode cX12_width 15 = .ok (.iload_n 2, 1) := by decide +kernel
theorem dX12_width_16 : decode cX12_width 16 = .ok (.bipush 100, 2) := by decide +kernel
theorem dX12_width_18 : decode cX12_width 18 = .ok (.if_icmp .ge 20, 3) := by decide +kernel
theorem dX12_width_21 : decode cX12_width 21 = .ok (.aload_n 0, 1) := by decide +kernel
theorem dX12_width_22 : decode cX12_width 22 = .ok (.iload_n 2, 1) := by decide +kernel
theorem dX12_width_23 : decode cX12_width 23 = .ok (.invokevirtual 253, 3) := by decide +kernel
theorem dX12_width_26 : decode cX12_width 26 = .ok (.iload_n 1, 1) := by decide +kernel
theorem dX12_width_27 : decode cX12_width 27 = .ok (.if_icmp .lt 5, 3) := by decide +kernel
theorem dX12_width_30 : decode cX12_width 30 = .ok (.iload_n 2, 1) := by decide +kernel
theorem dX12_width_31 : decode cX12_width 31 = .ok (.ireturn, 1) := by decide +kernel
theorem dX12_width_32 : decode cX12_width 32 = .ok (.iinc 2 1, 3) := by decide +kernel
theorem dX12_width_35 : decode cX12_width 35 = .ok (.goto (-20), 3) := by decide +kernel
theorem dX12_width_38 : decode cX12_width 38 = .ok (.ldc 96, 2) := by decide +kernel
theorem dX12_width_40 : decode cX12_width 40 = .ok (.ireturn, 1) := by decide +kernel
theorem dX12_key_0 : decode cX12_key 0 = .ok (.iload_n 1, 1) := by decide +kernel
theorem dX12_key_1 : decode cX12_key 1 = .ok (.iload_n 2, 1) := by decide +kernel
theorem dX12_key_2 : decode cX12_key 2 = .ok (.invokestatic 104, 3) := by decide +kernel
theorem dX12_key_5 : decode cX12_key 5 = .ok (.ifCond .ne 6, 3) := by decide +kernel
theorem dX12_key_8 : decode cX12_key 8 = .ok (.ldc 82, 2) := by decide +kernel
theorem dX12_key_10 : decode cX12_key 10 = .ok (.ireturn, 1) := by decide +kernel
theorem dX12_key_11 : decode cX12_key 11 = .ok (.aload_n 0, 1) := by decide +kernel
theorem dX12_key_12 : decode cX12_key 12 = .ok (.getfield 9, 3) := by decide +kernel
theorem dX12_key_15 : decode cX12_key 15 = .ok (.bipush 11, 2) := by decide +kernel
theorem dX12_key_17 : decode cX12_key 17 = .ok (.iaload, 1) := by decide +kernel
theorem dX12_key_18 : decode cX12_key 18 = .ok (.bipush 10, 2) := by decide +kernel
theorem dX12_key_20 : decode cX12_key 20 = .ok (.if_icmp .ne 6, 3) := by decide +kernel
theorem dX12_key_23 : decode cX12_key 23 = .ok (.ldc 83, 2) := by decide +kernel
theorem dX12_key_25 : decode cX12_key 25 = .ok (.ireturn, 1) := by decide +kernel
theorem dX12_key_26 : decode cX12_key 26 = .ok (.aload_n 0, 1) := by decide +kernel
theorem dX12_key_27 : decode cX12_key 27 = .ok (.getfield 9, 3) := by decide +kernel
theorem dX12_key_30 : decode cX12_key 30 = .ok (.sipush 311, 3) := by decide +kernel
theorem dX12_key_33 : decode cX12_key 33 = .ok (.iconst 2, 1) := by decide +kernel
theorem dX12_key_34 : decode cX12_key 34 = .ok (.aload_n 0, 1) := by decide +kernel
theorem dX12_key_35 : decode cX12_key 35 = .ok (.getfield 9, 3) := by decide +kernel
theorem dX12_key_38 : decode cX12_key 38 = .ok (.bipush 11, 2) := by decide +kernel
theorem dX12_key_40 : decode cX12_key 40 = .ok (.iaload, 1) := by decide +kernel
theorem dX12_key_41 : decode cX12_key 41 = .ok (.imul, 1) := by decide +kernel
theorem dX12_key_42 : decode cX12_key 42 = .ok (.iadd, 1) := by decide +kernel
theorem dX12_key_43 : decode cX12_key 43 = .ok (.iload_n 1, 1) := by decide +kernel
theorem dX12_key_44 : decode cX12_key 44 = .ok (.iastore, 1) := by decide +kernel
theorem dX12_key_45 : decode cX12_key 45 = .ok (.aload_n 0, 1) := by decide +kernel
theorem dX12_key_46 : decode cX12_key 46 = .ok (.getfield 9, 3) := by decide +kernel
theorem dX12_key_49 : decode cX12_key 49 = .ok (.sipush 311, 3) := by decide +kernel
theorem dX12_key_52 : decode cX12_key 52 = .ok (.iconst 2, 1) := by decide +kernel
theorem dX12_key_53 : decode cX12_key 53 = .ok (.aload_n 0, 1) := by decide +kernel
theorem dX12_key_54 : decode cX12_key 54 = .ok (.getfield 9, 3) := by decide +kernel
theorem dX12_key_57 : decode cX12_key 57 = .ok (.bipush 11, 2) := by decide +kernel
theorem dX12_key_59 : decode cX12_key 59 = .ok (.iaload, 1) := by decide +kernel
theorem dX12_key_60 : decode cX12_key 60 = .ok (.imul, 1) := by decide +kernel
theorem dX12_key_61 : decode cX12_key 61 = .ok (.iadd, 1) := by decide +kernel
theorem dX12_key_62 : decode cX12_key 62 = .ok (.iconst 1, 1) := by decide +kernel
theorem dX12_key_63 : decode cX12_key 63 = .ok (.iadd, 1) := by decide +kernel
theorem dX12_key_64 : decode cX12_key 64 = .ok (.iload_n 2, 1) := by decide +kernel
theorem dX12_key_65 : decode cX12_key 65 = .ok (.iastore, 1) := by decide +kernel
theorem dX12_key_66 : decode cX12_key 66 = .ok (.aload_n 0, 1) := by decide +kernel
theorem dX12_key_67 : decode cX12_key 67 = .ok (.getfield 9, 3) := by decide +kernel
theorem dX12_key_70 : decode cX12_key 70 = .ok (.bipush 11, 2) := by decide +kernel
theorem dX12_key_72 : decode cX12_key 72 = .ok (.dup2, 1) := by decide +kernel
theorem dX12_key_73 : decode cX12_key 73 = .ok (.iaload, 1) := by decide +kernel
theorem dX12_key_74 : decode cX12_key 74 = .ok (.iconst 1, 1) := by decide +kernel
theorem dX12_key_75 : decode cX12_key 75 = .ok (.iadd, 1) := by decide +kernel
theorem dX12_key_76 : decode cX12_key 76 = .ok (.iastore, 1) := by decide +kernel
theorem dX12_key_77 : decode cX12_key 77 = .ok (.aload_n 0, 1) := by decide +kernel
theorem dX12_key_78 : decode cX12_key 78 = .ok (.getfield 9, 3) := by decide +kernel
theorem dX12_key_81 : decode cX12_key 81 = .ok (.bipush 11, 2) := by decide +kernel
theorem dX12_key_83 : decode cX12_key 83 = .ok (.iaload, 1) := by decide +kernel
theorem dX12_key_84 : decode cX12_key 84 = .ok (.iconst 1, 1) := by decide +kernel
theorem dX12_key_85 : decode cX12_key 85 = .ok (.isub, 1) := by decide +kernel
theorem dX12_key_86 : decode cX12_key 86 = .ok (.ireturn, 1) := by decide +kernel
theorem dX12_keysOn_0 : decode cX12_keysOn 0 = .ok (.iconst 0, 1) := by decide +kernel
theorem dX12_keysOn_1 : decode cX12_keysOn 1 = .ok (.istore_n 2, 1) := by decide +kernel
theorem dX12_keysOn_2 : decode cX12_keysOn 2 = .ok (.iconst 0, 1) := by decide +kernel
theorem dX12_keysOn_3 : decode cX12_keysOn 3 = .ok (.istore_n 3, 1) := by decide +kernel
theorem dX12_keysOn_4 : decode cX12_keysOn 4 = .ok (.iload_n 3, 1) := by decide +kernel
theorem dX12_keysOn_5 : decode cX12_keysOn 5 = .ok (.aload_n 0, 1) := by decide +kernel
theorem dX12_keysOn_6 : decode cX12_keysOn 6 = .ok (.getfield 9, 3) := by decide +kernel
theorem dX12_keysOn_9 : decode cX12_keysOn 9 = .ok (.bipush 11, 2) := by decide +kernel
theorem dX12_keysOn_11 : decode cX12_keysOn 11 = .ok (.iaload, 1) := by decide +kernel
theorem dX12_keysOn_12 : decode cX12_keysOn 12 = .ok (.if_icmp .ge 50, 3) := by decide +kernel
theorem dX12_keysOn_15 : decode cX12_keysOn 15 = .ok (.iload_n 2, 1) := by decide +kernel
theorem dX12_keysOn_16 : decode cX12_keysOn 16 = .ok (.iload_n 1, 1) := by decide +kernel
theorem dX12_keysOn_17 : decode cX12_keysOn 17 = .ok (.aload_n 0, 1) := by decide +kernel
theorem dX12_keysOn_18 : decode cX12_keysOn 18 = .ok (.getfield 9, 3) := by decide +kernel
theorem dX12_keysOn_21 : decode cX12_keysOn 21 = .ok (.sipush 311, 3) := by decide +kernel
theorem dX12_keysOn_24 : decode cX12_keysOn 24 = .ok (.iconst 2, 1) := by decide +kernel
theorem dX12_keysOn_25 : decode cX12_keysOn 25 = .ok (.iload_n 3, 1) := by decide +kernel
theorem dX12_keysOn_26 : decode cX12_keysOn 26 = .ok (.imul, 1) := by decide +kernel
theorem dX12_keysOn_27 : decode cX12_keysOn 27 = .ok (.iadd, 1) := by decide +kernel
theorem dX12_keysOn_28 : decode cX12_keysOn 28 = .ok (.iaload, 1) := by decide +kernel
theorem dX12_keysOn_29 : decode cX12_keysOn 29 = .ok (.aload_n 0, 1) := by decide +kernel
theorem dX12_keysOn_30 : decode cX12_keysOn 30 = .ok (.getfield 9, 3) := by decide +kernel
theorem dX12_keysOn_33 : decode cX12_keysOn 33 = .ok (.sipush 311, 3) := by decide +kernel
theorem dX12_keysOn_36 : decode cX12_keysOn 36 = .ok (.iconst 2, 1) := by decide +kernel
theorem dX12_keysOn_37 : decode cX12_keysOn 37 = .ok (.iload_n 3, 1) := by decide +kernel
theorem dX12_keysOn_38 : decode cX12_keysOn 38 = .ok (.imul, 1) := by decide +kernel
theorem dX12_keysOn_39 : decode cX12_keysOn 39 = .ok (.iadd, 1) := by decide +kernel
theorem dX12_keysOn_40 : decode cX12_keysOn 40 = .ok (.iconst 1, 1) := by decide +kernel
theorem dX12_keysOn_41 : decode cX12_keysOn 41 = .ok (.iadd, 1) := by decide +kernel
theorem dX12_keysOn_42 : decode cX12_keysOn 42 = .ok (.iaload, 1) := by decide +kernel
theorem dX12_keysOn_43 : decode cX12_keysOn 43 = .ok (.invokestatic 78, 3) := by decide +kernel
theorem dX12_keysOn_46 : decode cX12_keysOn 46 = .ok (.ifCond .eq 7, 3) := by decide +kernel
theorem dX12_keysOn_49 : decode cX12_keysOn 49 = .ok (.iconst 1, 1) := by decide +kernel
theorem dX12_keysOn_50 : decode cX12_keysOn 50 = .ok (.goto 4, 3) := by decide +kernel
theorem dX12_keysOn_53 : decode cX12_keysOn 53 = .ok (.iconst 0, 1) := by decide +kernel
theorem dX12_keysOn_54 : decode cX12_keysOn 54 = .ok (.iadd, 1) := by decide +kernel
theorem dX12_keysOn_55 : decode cX12_keysOn 55 = .ok (.istore_n 2, 1) := by decide +kernel
theorem dX12_keysOn_56 : decode cX12_keysOn 56 = .ok (.iinc 3 1, 3) := by decide +kernel
theorem dX12_keysOn_59 : decode cX12_keysOn 59 = .ok (.goto (-55), 3) := by decide +kernel
theorem dX12_keysOn_62 : decode cX12_keysOn 62 = .ok (.iload_n 2, 1) := by decide +kernel
theorem dX12_keysOn_63 : decode cX12_keysOn 63 = .ok (.ireturn, 1) := by decide +kernel
theorem dX12_keys_0 : decode cX12_keys 0 = .ok (.iload_n 1, 1) := by decide +kernel
theorem dX12_keys_1 : decode cX12_keys 1 = .ok (.invokestatic 101, 3) := by decide +kernel
theorem dX12_keys_4 : decode cX12_keys 4 = .ok (.ifCond .eq 11, 3) := by decide +kernel
theorem dX12_keys_7 : decode cX12_keys 7 = .ok (.aload_n 0, 1) := by decide +kernel
theorem dX12_keys_8 : decode cX12_keys 8 = .ok (.iload_n 1, 1) := by decide +kernel
theorem dX12_keys_9 : decode cX12_keys 9 = .ok (.invokevirtual 256, 3) := by decide +kernel
theorem dX12_keys_12 : decode cX12_keys 12 = .ok (.goto 5, 3) := by decide +kernel
theorem dX12_keys_15 : decode cX12_keys 15 = .ok (.ldc 82, 2) := by decide +kernel
theorem dX12_keys_17 : decode cX12_keys 17 = .ok (.ireturn, 1) := by decide +kernel
theorem dX12_jokes_0 : decode cX12_jokes 0 = .ok (.iconst 0, 1) := by decide +kernel
theorem dX12_jokes_1 : decode cX12_jokes 1 = .ok (.istore_n 1, 1) := by decide +kernel
theorem dX12_jokes_2 : decode cX12_jokes 2 = .ok (.iconst 0, 1) := by decide +kernel
theorem dX12_jokes_3 : decode cX12_jokes 3 = .ok (.istore_n 2, 1) := by decide +kernel
theorem dX12_jokes_4 : decode cX12_jokes 4 = .ok (.iload_n 2, 1) := by decide +kernel
theorem dX12_jokes_5 : decode cX12_jokes 5 = .ok (.aload_n 0, 1) := by decide +kernel
theorem dX12_jokes_6 : decode cX12_jokes 6 = .ok (.getfield 9, 3) := by decide +kernel
theorem dX12_jokes_9 : decode cX12_jokes 9 = .ok (.bipush 8, 2) := by decide +kernel
theorem dX12_jokes_11 : decode cX12_jokes 11 = .ok (.iaload, 1) := by decide +kernel
theorem dX12_jokes_12 : decode cX12_jokes 12 = .ok (.if_icmp .ge 38, 3) := by decide +kernel
theorem dX12_jokes_15 : decode cX12_jokes 15 = .ok (.iload_n 1, 1) := by decide +kernel
theorem dX12_jokes_16 : decode cX12_jokes 16 = .ok (.aload_n 0, 1) := by decide +kernel
theorem dX12_jokes_17 : decode cX12_jokes 17 = .ok (.aload_n 0, 1) := by decide +kernel
theorem dX12_jokes_18 : decode cX12_jokes 18 = .ok (.iload_n 2, 1) := by decide +kernel
theorem dX12_jokes_19 : decode cX12_jokes 19 = .ok (.iconst 2, 1) := by decide +kernel
theorem dX12_jokes_20 : decode cX12_jokes 20 = .ok (.invokevirtual 97, 3) := by decide +kernel
theorem dX12_jokes_23 : decode cX12_jokes 23 = .ok (.invokevirtual 256, 3) := by decide +kernel
theorem dX12_jokes_26 : decode cX12_jokes 26 = .ok (.ifCond .le 15, 3) := by decide +kernel
theorem dX12_jokes_29 : decode cX12_jokes 29 = .ok (.aload_n 0, 1) := by decide +kernel
theorem dX12_jokes_30 : decode cX12_jokes 30 = .ok (.iload_n 2, 1) := by decide +kernel
theorem dX12_jokes_31 : decode cX12_jokes 31 = .ok (.invokevirtual 130, 3) := by decide +kernel
theorem dX12_jokes_34 : decode cX12_jokes 34 = .ok (.ifCond .eq 7, 3) := by decide +kernel
theorem dX12_jokes_37 : decode cX12_jokes 37 = .ok (.iconst 1, 1) := by decide +kernel
theorem dX12_jokes_38 : decode cX12_jokes 38 = .ok (.goto 4, 3) := by decide +kernel
theorem dX12_jokes_41 : decode cX12_jokes 41 = .ok (.iconst 0, 1) := by decide +kernel
theorem dX12_jokes_42 : decode cX12_jokes 42 = .ok (.iadd, 1) := by decide +kernel
theorem dX12_jokes_43 : decode cX12_jokes 43 = .ok (.istore_n 1, 1) := by decide +kernel
theorem dX12_jokes_44 : decode cX12_jokes 44 = .ok (.iinc 2 1, 3) := by decide +kernel
theorem dX12_jokes_47 : decode cX12_jokes 47 = .ok (.goto (-43), 3) := by decide +kernel
theorem dX12_jokes_50 : decode cX12_jokes 50 = .ok (.iload_n 1, 1) := by decide +kernel
theorem dX12_jokes_51 : decode cX12_jokes 51 = .ok (.ireturn, 1) := by decide +kernel
theorem dX12_offer_0 : decode cX12_offer 0 = .ok (.iload_n 1, 1) := by decide +kernel
theorem dX12_offer_1 : decode cX12_offer 1 = .ok (.iconst 1, 1) := by decide +kernel
theorem dX12_offer_2 : decode cX12_offer 2 = .ok (.bipush 9, 2) := by decide +kernel
theorem dX12_offer_4 : decode cX12_offer 4 = .ok (.invokestatic 78, 3) := by decide +kernel
theorem dX12_offer_7 : decode cX12_offer 7 = .ok (.ifCond .eq 14, 3) := by decide +kernel
theorem dX12_offer_10 : decode cX12_offer 10 = .ok (.iload_n 2, 1) := by decide +kernel
theorem dX12_offer_11 : decode cX12_offer 11 = .ok (.iconst 0, 1) := by decide +kernel
theorem dX12_offer_12 : decode cX12_offer 12 = .ok (.sipush 999, 3) := by decide +kernel
theorem dX12_offer_15 : decode cX12_offer 15 = .ok (.invokestatic 78, 3) := by decide +kernel
theorem dX12_offer_18 : decode cX12_offer 18 = .ok (.ifCond .ne 6, 3) := by decide +kernel
theorem dX12_offer_21 : decode cX12_offer 21 = .ok (.ldc 82, 2) := by decide +kernel
theorem dX12_offer_23 : decode cX12_offer 23 = .ok (.ireturn, 1) := by decide +kernel
theorem dX12_offer_24 : decode cX12_offer 24 = .ok (.aload_n 0, 1) := by decide +kernel
theorem dX12_offer_25 : decode cX12_offer 25 = .ok (.getfield 9, 3) := by decide +kernel
theorem dX12_offer_28 : decode cX12_offer 28 = .ok (.bipush 12, 2) := by decide +kernel
theorem dX12_offer_30 : decode cX12_offer 30 = .ok (.iaload, 1) := by decide +kernel
theorem dX12_offer_31 : decode cX12_offer 31 = .ok (.bipush 8, 2) := by decide +kernel
theorem dX12_offer_33 : decode cX12_offer 33 = .ok (.if_icmp .ne 6, 3) := by decide +kernel
theorem dX12_offer_36 : decode cX12_offer 36 = .ok (.ldc 83, 2) := by decide +kernel
theorem dX12_offer_38 : decode cX12_offer 38 = .ok (.ireturn, 1) := by decide +kernel
theorem dX12_offer_39 : decode cX12_offer 39 = .ok (.aload_n 0, 1) := by decide +kernel
theorem dX12_offer_40 : decode cX12_offer 40 = .ok (.getfield 9, 3) := by decide +kernel
theorem dX12_offer_43 : decode cX12_offer 43 = .ok (.sipush 331, 3) := by decide +kernel
theorem dX12_offer_46 : decode cX12_offer 46 = .ok (.iconst 2, 1) := by decide +kernel
theorem dX12_offer_47 : decode cX12_offer 47 = .ok (.aload_n 0, 1) := by decide +kernel
theorem dX12_offer_48 : decode cX12_offer 48 = .ok (.getfield 9, 3) := by decide +kernel
theorem dX12_offer_51 : decode cX12_offer 51 = .ok (.bipush 12, 2) := by decide +kernel
theorem dX12_offer_53 : decode cX12_offer 53 = .ok (.iaload, 1) := by decide +kernel
theorem dX12_offer_54 : decode cX12_offer 54 = .ok (.imul, 1) := by decide +kernel
theorem dX12_offer_55 : decode cX12_offer 55 = .ok (.iadd, 1) := by decide +kernel
theorem dX12_offer_56 : decode cX12_offer 56 = .ok (.iload_n 1, 1) := by decide +kernel
theorem dX12_offer_57 : decode cX12_offer 57 = .ok (.iastore, 1) := by decide +kernel
theorem dX12_offer_58 : decode cX12_offer 58 = .ok (.aload_n 0, 1) := by decide +kernel
theorem dX12_offer_59 : decode cX12_offer 59 = .ok (.getfield 9, 3) := by decide +kernel
theorem dX12_offer_62 : decode cX12_offer 62 = .ok (.sipush 331, 3) := by decide +kernel
theorem dX12_offer_65 : decode cX12_offer 65 = .ok (.iconst 2, 1) := by decide +kernel
theorem dX12_offer_66 : decode cX12_offer 66 = .ok (.aload_n 0, 1) := by decide +kernel
theorem dX12_offer_67 : decode cX12_offer 67 = .ok (.getfield 9, 3) := by decide +kernel
theorem dX12_offer_70 : decode cX12_offer 70 = .ok (.bipush 12, 2) := by decide +kernel
theorem dX12_offer_72 : decode cX12_offer 72 = .ok (.iaload, 1) := by decide +kernel
theorem dX12_offer_73 : decode cX12_offer 73 = .ok (.imul, 1) := by decide +kernel
theorem dX12_offer_74 : decode cX12_offer 74 = .ok (.iadd, 1) := by decide +kernel
theorem dX12_offer_75 : decode cX12_offer 75 = .ok (.iconst 1, 1) := by decide +kernel
theorem dX12_offer_76 : decode cX12_offer 76 = .ok (.iadd, 1) := by decide +kernel
theorem dX12_offer_77 : decode cX12_offer 77 = .ok (.iload_n 2, 1) := by decide +kernel
theorem dX12_offer_78 : decode cX12_offer 78 = .ok (.iastore, 1) := by decide +kernel
theorem dX12_offer_79 : decode cX12_offer 79 = .ok (.aload_n 0, 1) := by decide +kernel
theorem dX12_offer_80 : decode cX12_offer 80 = .ok (.getfield 9, 3) := by decide +kernel
theorem dX12_offer_83 : decode cX12_offer 83 = .ok (.bipush 12, 2) := by decide +kernel
theorem dX12_offer_85 : decode cX12_offer 85 = .ok (.dup2, 1) := by decide +kernel
theorem dX12_offer_86 : decode cX12_offer 86 = .ok (.iaload, 1) := by decide +kernel
theorem dX12_offer_87 : decode cX12_offer 87 = .ok (.iconst 1, 1) := by decide +kernel
theorem dX12_offer_88 : decode cX12_offer 88 = .ok (.iadd, 1) := by decide +kernel
theorem dX12_offer_89 : decode cX12_offer 89 = .ok (.iastore, 1) := by decide +kernel
theorem dX12_offer_90 : decode cX12_offer 90 = .ok (.aload_n 0, 1) := by decide +kernel
theorem dX12_offer_91 : decode cX12_offer 91 = .ok (.getfield 9, 3) := by decide +kernel
theorem dX12_offer_94 : decode cX12_offer 94 = .ok (.bipush 12, 2) := by decide +kernel
theorem dX12_offer_96 : decode cX12_offer 96 = .ok (.iaload, 1) := by decide +kernel
theorem dX12_offer_97 : decode cX12_offer 97 = .ok (.iconst 1, 1) := by decide +kernel
theorem dX12_offer_98 : decode cX12_offer 98 = .ok (.isub, 1) := by decide +kernel
theorem dX12_offer_99 : decode cX12_offer 99 = .ok (.ireturn, 1) := by decide +kernel
theorem dX12_clear_0 : decode cX12_clear 0 = .ok (.aload_n 0, 1) := by decide +kernel
theorem dX12_clear_1 : decode cX12_clear 1 = .ok (.getfield 9, 3) := by decide +kernel
theorem dX12_clear_4 : decode cX12_clear 4 = .ok (.bipush 12, 2) := by decide +kernel
theorem dX12_clear_6 : decode cX12_clear 6 = .ok (.iaload, 1) := by decide +kernel
theorem dX12_clear_7 : decode cX12_clear 7 = .ok (.istore_n 1, 1) := by decide +kernel
theorem dX12_clear_8 : decode cX12_clear 8 = .ok (.aload_n 0, 1) := by decide +kernel
theorem dX12_clear_9 : decode cX12_clear 9 = .ok (.getfield 9, 3) := by decide +kernel
theorem dX12_clear_12 : decode cX12_clear 12 = .ok (.bipush 12, 2) := by decide +kernel
theorem dX12_clear_14 : decode cX12_clear 14 = .ok (.iconst 0, 1) := by decide +kernel
theorem dX12_clear_15 : decode cX12_clear 15 = .ok (.iastore, 1) := by decide +kernel
theorem dX12_clear_16 : decode cX12_clear 16 = .ok (.iload_n 1, 1) := by decide +kernel
theorem dX12_clear_17 : decode cX12_clear 17 = .ok (.ireturn, 1) := by decide +kernel
theorem dX12_sumOf_0 : decode cX12_sumOf 0 = .ok (.iconst 0, 1) := by decide +kernel
theorem dX12_sumOf_1 : decode cX12_sumOf 1 = .ok (.istore_n 3, 1) := by decide +kernel
theorem dX12_sumOf_2 : decode cX12_sumOf 2 = .ok (.iconst 0, 1) := by decide +kernel
theorem dX12_sumOf_3 : decode cX12_sumOf 3 = .ok (.istore 4, 2) := by decide +kernel
theorem dX12_sumOf_5 : decode cX12_sumOf 5 = .ok (.iload 4, 2) := by decide +kernel
theorem dX12_sumOf_7 : decode cX12_sumOf 7 = .ok (.aload_n 0, 1) := by decide +kernel
theorem dX12_sumOf_8 : decode cX12_sumOf 8 = .ok (.getfield 9, 3) := by decide +kernel
theorem dX12_sumOf_11 : decode cX12_sumOf 11 = .ok (.bipush 12, 2) := by decide +kernel
theorem dX12_sumOf_13 : decode cX12_sumOf 13 = .ok (.iaload, 1) := by decide +kernel
theorem dX12_sumOf_14 : decode cX12_sumOf 14 = .ok (.if_icmp .ge 41, 3) := by decide +kernel
theorem dX12_sumOf_17 : decode cX12_sumOf 17 = .ok (.iload_n 3, 1) := by decide +kernel
theorem dX12_sumOf_18 : decode cX12_sumOf 18 = .ok (.iload_n 1, 1) := by decide +kernel
theorem dX12_sumOf_19 : decode cX12_sumOf 19 = .ok (.iload 4, 2) := by decide +kernel
theorem dX12_sumOf_21 : decode cX12_sumOf 21 = .ok (.ishr, 1) := by decide +kernel
theorem dX12_sumOf_22 : decode cX12_sumOf 22 = .ok (.iconst 1, 1) := by decide +kernel
theorem dX12_sumOf_23 : decode cX12_sumOf 23 = .ok (.iand, 1) := by decide +kernel
theorem dX12_sumOf_24 : decode cX12_sumOf 24 = .ok (.iconst 1, 1) := by decide +kernel
theorem dX12_sumOf_25 : decode cX12_sumOf 25 = .ok (.if_icmp .ne 21, 3) := by decide +kernel
theorem dX12_sumOf_28 : decode cX12_sumOf 28 = .ok (.aload_n 0, 1) := by decide +kernel
theorem dX12_sumOf_29 : decode cX12_sumOf 29 = .ok (.getfield 9, 3) := by decide +kernel
theorem dX12_sumOf_32 : decode cX12_sumOf 32 = .ok (.sipush 331, 3) := by decide +kernel
theorem dX12_sumOf_35 : decode cX12_sumOf 35 = .ok (.iconst 2, 1) := by decide +kernel
theorem dX12_sumOf_36 : decode cX12_sumOf 36 = .ok (.iload 4, 2) := by decide +kernel
theorem dX12_sumOf_38 : decode cX12_sumOf 38 = .ok (.imul, 1) := by decide +kernel
theorem dX12_sumOf_39 : decode cX12_sumOf 39 = .ok (.iadd, 1) := by decide +kernel
theorem dX12_sumOf_40 : decode cX12_sumOf 40 = .ok (.iload_n 2, 1) := by decide +kernel
theorem dX12_sumOf_41 : decode cX12_sumOf 41 = .ok (.iadd, 1) := by decide +kernel
theorem dX12_sumOf_42 : decode cX12_sumOf 42 = .ok (.iaload, 1) := by decide +kernel
theorem dX12_sumOf_43 : decode cX12_sumOf 43 = .ok (.goto 4, 3) := by decide +kernel
theorem dX12_sumOf_46 : decode cX12_sumOf 46 = .ok (.iconst 0, 1) := by decide +kernel
theorem dX12_sumOf_47 : decode cX12_sumOf 47 = .ok (.iadd, 1) := by decide +kernel
theorem dX12_sumOf_48 : decode cX12_sumOf 48 = .ok (.istore_n 3, 1) := by decide +kernel
theorem dX12_sumOf_49 : decode cX12_sumOf 49 = .ok (.iinc 4 1, 3) := by decide +kernel
theorem dX12_sumOf_52 : decode cX12_sumOf 52 = .ok (.goto (-47), 3) := by decide +kernel
theorem dX12_sumOf_55 : decode cX12_sumOf 55 = .ok (.iload_n 3, 1) := by decide +kernel
theorem dX12_sumOf_56 : decode cX12_sumOf 56 = .ok (.ireturn, 1) := by decide +kernel
theorem dX12_best_0 : decode cX12_best 0 = .ok (.iload_n 1, 1) := by decide +kernel
theorem dX12_best_1 : decode cX12_best 1 = .ok (.iconst 0, 1) := by decide +kernel
theorem dX12_best_2 : decode cX12_best 2 = .ok (.sipush 9999, 3) := by decide +kernel
theorem dX12_best_5 : decode cX12_best 5 = .ok (.invokestatic 78, 3) := by decide +kernel
theorem dX12_best_8 : decode cX12_best 8 = .ok (.ifCond .eq 12, 3) := by decide +kernel
theorem dX12_best_11 : decode cX12_best 11 = .ok (.iload_n 2, 1) := by decide +kernel
theorem dX12_best_12 : decode cX12_best 12 = .ok (.iconst 0, 1) := by decide +kernel
theorem dX12_best_13 : decode cX12_best 13 = .ok (.iconst 2, 1) := by decide +kernel
theorem dX12_best_14 : decode cX12_best 14 = .ok (.invokestatic 78, 3) := by decide +kernel
theorem dX12_best_17 : decode cX12_best 17 = .ok (.ifCond .ne 6, 3) := by decide +kernel
theorem dX12_best_20 : decode cX12_best 20 = .ok (.ldc 82, 2) := by decide +kernel
theorem dX12_best_22 : decode cX12_best 22 = .ok (.ireturn, 1) := by decide +kernel
theorem dX12_best_23 : decode cX12_best 23 = .ok (.iconst 0, 1) := by decide +kernel
theorem dX12_best_24 : decode cX12_best 24 = .ok (.istore_n 3, 1) := by decide +kernel
theorem dX12_best_25 : decode cX12_best 25 = .ok (.iconst 1, 1) := by decide +kernel
theorem dX12_best_26 : decode cX12_best 26 = .ok (.istore 4, 2) := by decide +kernel
theorem dX12_best_28 : decode cX12_best 28 = .ok (.iload 4, 2) := by decide +kernel
theorem dX12_best_30 : decode cX12_best 30 = .ok (.iconst 1, 1) := by decide +kernel
theorem dX12_best_31 : decode cX12_best 31 = .ok (.aload_n 0, 1) := by decide +kernel
theorem dX12_best_32 : decode cX12_best 32 = .ok (.getfield 9, 3) := by decide +kernel
theorem dX12_best_35 : decode cX12_best 35 = .ok (.bipush 12, 2) := by decide +kernel
theorem dX12_best_37 : decode cX12_best 37 = .ok (.iaload, 1) := by decide +kernel
theorem dX12_best_38 : decode cX12_best 38 = .ok (.ishl, 1) := by decide +kernel
theorem dX12_best_39 : decode cX12_best 39 = .ok (.if_icmp .ge 69, 3) := by decide +kernel
theorem dX12_best_42 : decode cX12_best 42 = .ok (.aload_n 0, 1) := by decide +kernel
theorem dX12_best_43 : decode cX12_best 43 = .ok (.iload 4, 2) := by decide +kernel
theorem dX12_best_45 : decode cX12_best 45 = .ok (.iconst 1, 1) := by decide +kernel
theorem dX12_best_46 : decode cX12_best 46 = .ok (.invokevirtual 259, 3) := by decide +kernel
theorem dX12_best_49 : decode cX12_best 49 = .ok (.iload_n 1, 1) := by decide +kernel
theorem dX12_best_50 : decode cX12_best 50 = .ok (.if_icmp .gt 52, 3) := by decide +kernel
theorem dX12_best_53 : decode cX12_best 53 = .ok (.aload_n 0, 1) := by decide +kernel
theorem dX12_best_54 : decode cX12_best 54 = .ok (.iload 4, 2) := by decide +kernel
theorem dX12_best_56 : decode cX12_best 56 = .ok (.iconst 0, 1) := by decide +kernel
theorem dX12_best_57 : decode cX12_best 57 = .ok (.invokevirtual 259, 3) := by decide +kernel
theorem dX12_best_60 : decode cX12_best 60 = .ok (.aload_n 0, 1) := by decide +kernel
theorem dX12_best_61 : decode cX12_best 61 = .ok (.iload_n 3, 1) := by decide +kernel
theorem dX12_best_62 : decode cX12_best 62 = .ok (.iconst 0, 1) := by decide +kernel
theorem dX12_best_63 : decode cX12_best 63 = .ok (.invokevirtual 259, 3) := by decide +kernel
theorem dX12_best_66 : decode cX12_best 66 = .ok (.isub, 1) := by decide +kernel
theorem dX12_best_67 : decode cX12_best 67 = .ok (.istore 5, 2) := by decide +kernel
theorem dX12_best_69 : decode cX12_best 69 = .ok (.iload 5, 2) := by decide +kernel
theorem dX12_best_71 : decode cX12_best 71 = .ok (.ifCond .gt 24, 3) := by decide +kernel
theorem dX12_best_74 : decode cX12_best 74 = .ok (.iload 5, 2) := by decide +kernel
theorem dX12_best_76 : decode cX12_best 76 = .ok (.ifCond .ne 24, 3) := by decide +kernel
theorem dX12_best_79 : decode cX12_best 79 = .ok (.aload_n 0, 1) := by decide +kernel
theorem dX12_best_80 : decode cX12_best 80 = .ok (.iload 4, 2) := by decide +kernel
theorem dX12_best_82 : decode cX12_best 82 = .ok (.iconst 1, 1) := by decide +kernel
theorem dX12_best_83 : decode cX12_best 83 = .ok (.invokevirtual 259, 3) := by decide +kernel
theorem dX12_best_86 : decode cX12_best 86 = .ok (.aload_n 0, 1) := by decide +kernel
theorem dX12_best_87 : decode cX12_best 87 = .ok (.iload_n 3, 1) := by decide +kernel
theorem dX12_best_88 : decode cX12_best 88 = .ok (.iconst 1, 1) := by decide +kernel
theorem dX12_best_89 : decode cX12_best 89 = .ok (.invokevirtual 259, 3) := by decide +kernel
theorem dX12_best_92 : decode cX12_best 92 = .ok (.if_icmp .ge 8, 3) := by decide +kernel
theorem dX12_best_95 : decode cX12_best 95 = .ok (.iload 4, 2) := by decide +kernel
theorem dX12_best_97 : decode cX12_best 97 = .ok (.goto 4, 3) := by decide +kernel
theorem dX12_best_100 : decode cX12_best 100 = .ok (.iload_n 3, 1) := by decide +kernel
theorem dX12_best_101 : decode cX12_best 101 = .ok (.istore_n 3, 1) := by decide +kernel
theorem dX12_best_102 : decode cX12_best 102 = .ok (.iinc 4 1, 3) := by decide +kernel
theorem dX12_best_105 : decode cX12_best 105 = .ok (.goto (-77), 3) := by decide +kernel
theorem dX12_best_108 : decode cX12_best 108 = .ok (.iload_n 2, 1) := by decide +kernel
theorem dX12_best_109 : decode cX12_best 109 = .ok (.ifCond .ne 7, 3) := by decide +kernel
theorem dX12_best_112 : decode cX12_best 112 = .ok (.iload_n 3, 1) := by decide +kernel
theorem dX12_best_113 : decode cX12_best 113 = .ok (.goto 11, 3) := by decide +kernel
theorem dX12_best_116 : decode cX12_best 116 = .ok (.aload_n 0, 1) := by decide +kernel
theorem dX12_best_117 : decode cX12_best 117 = .ok (.iload_n 3, 1) := by decide +kernel
theorem dX12_best_118 : decode cX12_best 118 = .ok (.iload_n 2, 1) := by decide +kernel
theorem dX12_best_119 : decode cX12_best 119 = .ok (.iconst 1, 1) := by decide +kernel
theorem dX12_best_120 : decode cX12_best 120 = .ok (.isub, 1) := by decide +kernel
theorem dX12_best_121 : decode cX12_best 121 = .ok (.invokevirtual 259, 3) := by decide +kernel
theorem dX12_best_124 : decode cX12_best 124 = .ok (.ireturn, 1) := by decide +kernel
theorem dX12_daysFor_0 : decode cX12_daysFor 0 = .ok (.aload_n 0, 1) := by decide +kernel
theorem dX12_daysFor_1 : decode cX12_daysFor 1 = .ok (.getfield 9, 3) := by decide +kernel
theorem dX12_daysFor_4 : decode cX12_daysFor 4 = .ok (.iconst 4, 1) := by decide +kernel
theorem dX12_daysFor_5 : decode cX12_daysFor 5 = .ok (.iaload, 1) := by decide +kernel
theorem dX12_daysFor_6 : decode cX12_daysFor 6 = .ok (.istore_n 3, 1) := by decide +kernel
theorem dX12_daysFor_7 : decode cX12_daysFor 7 = .ok (.iconst 0, 1) := by decide +kernel
theorem dX12_daysFor_8 : decode cX12_daysFor 8 = .ok (.istore 4, 2) := by decide +kernel
theorem dX12_daysFor_10 : decode cX12_daysFor 10 = .ok (.iload 4, 2) := by decide +kernel
theorem dX12_daysFor_12 : decode cX12_daysFor 12 = .ok (.bipush 60, 2) := by decide +kernel
theorem dX12_daysFor_14 : decode cX12_daysFor 14 = .ok (.if_icmp .ge 72, 3) := by decide +kernel
theorem dX12_daysFor_17 : decode cX12_daysFor 17 = .ok (.aload_n 0, 1) := by decide +kernel
theorem dX12_daysFor_18 : decode cX12_daysFor 18 = .ok (.getfield 9, 3) := by decide +kernel
theorem dX12_daysFor_21 : decode cX12_daysFor 21 = .ok (.iconst 1, 1) := by decide +kernel
theorem dX12_daysFor_22 : decode cX12_daysFor 22 = .ok (.iaload, 1) := by decide +kernel
theorem dX12_daysFor_23 : decode cX12_daysFor 23 = .ok (.iload 4, 2) := by decide +kernel
theorem dX12_daysFor_25 : decode cX12_daysFor 25 = .ok (.iadd, 1) := by decide +kernel
theorem dX12_daysFor_26 : decode cX12_daysFor 26 = .ok (.istore 5, 2) := by decide +kernel
theorem dX12_daysFor_28 : decode cX12_daysFor 28 = .ok (.iload_n 3, 1) := by decide +kernel
theorem dX12_daysFor_29 : decode cX12_daysFor 29 = .ok (.aload_n 0, 1) := by decide +kernel
theorem dX12_daysFor_30 : decode cX12_daysFor 30 = .ok (.aload_n 0, 1) := by decide +kernel
theorem dX12_daysFor_31 : decode cX12_daysFor 31 = .ok (.getfield 45, 3) := by decide +kernel
theorem dX12_daysFor_34 : decode cX12_daysFor 34 = .ok (.iload 4, 2) := by decide +kernel
theorem dX12_daysFor_36 : decode cX12_daysFor 36 = .ok (.iaload, 1) := by decide +kernel
theorem dX12_daysFor_37 : decode cX12_daysFor 37 = .ok (.iload_n 1, 1) := by decide +kernel
theorem dX12_daysFor_38 : decode cX12_daysFor 38 = .ok (.iadd, 1) := by decide +kernel
theorem dX12_daysFor_39 : decode cX12_daysFor 39 = .ok (.iload 5, 2) := by decide +kernel
theorem dX12_daysFor_41 : decode cX12_daysFor 41 = .ok (.invokevirtual 153, 3) := by decide +kernel
theorem dX12_daysFor_44 : decode cX12_daysFor 44 = .ok (.aload_n 0, 1) := by decide +kernel
theorem dX12_daysFor_45 : decode cX12_daysFor 45 = .ok (.aload_n 0, 1) := by decide +kernel
theorem dX12_daysFor_46 : decode cX12_daysFor 46 = .ok (.getfield 45, 3) := by decide +kernel
theorem dX12_daysFor_49 : decode cX12_daysFor 49 = .ok (.iload 4, 2) := by decide +kernel
theorem dX12_daysFor_51 : decode cX12_daysFor 51 = .ok (.iaload, 1) := by decide +kernel
theorem dX12_daysFor_52 : decode cX12_daysFor 52 = .ok (.iload_n 1, 1) := by decide +kernel
theorem dX12_daysFor_53 : decode cX12_daysFor 53 = .ok (.iadd, 1) := by decide +kernel
theorem dX12_daysFor_54 : decode cX12_daysFor 54 = .ok (.iload 5, 2) := by decide +kernel
theorem dX12_daysFor_56 : decode cX12_daysFor 56 = .ok (.invokevirtual 156, 3) := by decide +kernel
theorem dX12_daysFor_59 : decode cX12_daysFor 59 = .ok (.aload_n 0, 1) := by decide +kernel
theorem dX12_daysFor_60 : decode cX12_daysFor 60 = .ok (.getfield 48, 3) := by decide +kernel
theorem dX12_daysFor_63 : decode cX12_daysFor 63 = .ok (.iload 4, 2) := by decide +kernel
theorem dX12_daysFor_65 : decode cX12_daysFor 65 = .ok (.baload, 1) := by decide +kernel
theorem dX12_daysFor_66 : decode cX12_daysFor 66 = .ok (.invokestatic 172, 3) := by decide +kernel
theorem dX12_daysFor_69 : decode cX12_daysFor 69 = .ok (.istore_n 3, 1) := by decide +kernel
theorem dX12_daysFor_70 : decode cX12_daysFor 70 = .ok (.iload_n 3, 1) := by decide +kernel
theorem dX12_daysFor_71 : decode cX12_daysFor 71 = .ok (.iload_n 2, 1) := by decide +kernel
theorem dX12_daysFor_72 : decode cX12_daysFor 72 = .ok (.if_icmp .ge 8, 3) := by decide +kernel
theorem dX12_daysFor_75 : decode cX12_daysFor 75 = .ok (.iload 4, 2) := by decide +kernel
theorem dX12_daysFor_77 : decode cX12_daysFor 77 = .ok (.iconst 1, 1) := by decide +kernel
theorem dX12_daysFor_78 : decode cX12_daysFor 78 = .ok (.iadd, 1) := by decide +kernel
theorem dX12_daysFor_79 : decode cX12_daysFor 79 = .ok (.ireturn, 1) := by decide +kernel
theorem dX12_daysFor_80 : decode cX12_daysFor 80 = .ok (.iinc 4 1, 3) := by decide +kernel
theorem dX12_daysFor_83 : decode cX12_daysFor 83 = .ok (.goto (-73), 3) := by decide +kernel
theorem dX12_daysFor_86 : decode cX12_daysFor 86 = .ok (.bipush 61, 2) := by decide +kernel
theorem dX12_daysFor_88 : decode cX12_daysFor 88 = .ok (.ireturn, 1) := by decide +kernel
theorem dX12_soonest_0 : decode cX12_soonest 0 = .ok (.iload_n 1, 1) := by decide +kernel
theorem dX12_soonest_1 : decode cX12_soonest 1 = .ok (.iconst 0, 1) := by decide +kernel
theorem dX12_soonest_2 : decode cX12_soonest 2 = .ok (.sipush 9999, 3) := by decide +kernel
theorem dX12_soonest_5 : decode cX12_soonest 5 = .ok (.invokestatic 78, 3) := by decide +kernel
theorem dX12_soonest_8 : decode cX12_soonest 8 = .ok (.ifCond .eq 23, 3) := by decide +kernel
theorem dX12_soonest_11 : decode cX12_soonest 11 = .ok (.iload_n 2, 1) := by decide +kernel
theorem dX12_soonest_12 : decode cX12_soonest 12 = .ok (.iconst 0, 1) := by decide +kernel
theorem dX12_soonest_13 : decode cX12_soonest 13 = .ok (.sipush 10000, 3) := by decide +kernel
theorem dX12_soonest_16 : decode cX12_soonest 16 = .ok (.invokestatic 78, 3) := by decide +kernel
theorem dX12_soonest_19 : decode cX12_soonest 19 = .ok (.ifCond .eq 12, 3) := by decide +kernel
theorem dX12_soonest_22 : decode cX12_soonest 22 = .ok (.iload_n 3, 1) := by decide +kernel
theorem dX12_soonest_23 : decode cX12_soonest 23 = .ok (.iconst 0, 1) := by decide +kernel
theorem dX12_soonest_24 : decode cX12_soonest 24 = .ok (.iconst 2, 1) := by decide +kernel
theorem dX12_soonest_25 : decode cX12_soonest 25 = .ok (.invokestatic 78, 3) := by decide +kernel
theorem dX12_soonest_28 : decode cX12_soonest 28 = .ok (.ifCond .ne 6, 3) := by decide +kernel
theorem dX12_soonest_31 : decode cX12_soonest 31 = .ok (.ldc 82, 2) := by decide +kernel
theorem dX12_soonest_33 : decode cX12_soonest 33 = .ok (.ireturn, 1) := by decide +kernel
theorem dX12_soonest_34 : decode cX12_soonest 34 = .ok (.iconst 0, 1) := by decide +kernel
theorem dX12_soonest_35 : decode cX12_soonest 35 = .ok (.istore 4, 2) := by decide +kernel
theorem dX12_soonest_37 : decode cX12_soonest 37 = .ok (.iload 4, 2) := by decide +kernel
theorem dX12_soonest_39 : decode cX12_soonest 39 = .ok (.bipush 60, 2) := by decide +kernel
theorem dX12_soonest_41 : decode cX12_soonest 41 = .ok (.if_icmp .ge 49, 3) := by decide +kernel
theorem dX12_soonest_44 : decode cX12_soonest 44 = .ok (.aload_n 0, 1) := by decide +kernel
theorem dX12_soonest_45 : decode cX12_soonest 45 = .ok (.getfield 45, 3) := by decide +kernel
theorem dX12_soonest_48 : decode cX12_soonest 48 = .ok (.iload 4, 2) := by decide +kernel
theorem dX12_soonest_50 : decode cX12_soonest 50 = .ok (.aload_n 0, 1) := by decide +kernel
theorem dX12_soonest_51 : decode cX12_soonest 51 = .ok (.aload_n 0, 1) := by decide +kernel
theorem dX12_soonest_52 : decode cX12_soonest 52 = .ok (.getfield 9, 3) := by decide +kernel
theorem dX12_soonest_55 : decode cX12_soonest 55 = .ok (.iconst 1, 1) := by decide +kernel
theorem dX12_soonest_56 : decode cX12_soonest 56 = .ok (.iaload, 1) := by decide +kernel
theorem dX12_soonest_57 : decode cX12_soonest 57 = .ok (.iload 4, 2) := by decide +kernel
theorem dX12_soonest_59 : decode cX12_soonest 59 = .ok (.iadd, 1) := by decide +kernel
theorem dX12_soonest_60 : decode cX12_soonest 60 = .ok (.invokevirtual 107, 3) := by decide +kernel
theorem dX12_soonest_63 : decode cX12_soonest 63 = .ok (.iastore, 1) := by decide +kernel
theorem dX12_soonest_64 : decode cX12_soonest 64 = .ok (.aload_n 0, 1) := by decide +kernel
theorem dX12_soonest_65 : decode cX12_soonest 65 = .ok (.getfield 48, 3) := by decide +kernel
theorem dX12_soonest_68 : decode cX12_soonest 68 = .ok (.iload 4, 2) := by decide +kernel
theorem dX12_soonest_70 : decode cX12_soonest 70 = .ok (.aload_n 0, 1) := by decide +kernel
theorem dX12_soonest_71 : decode cX12_soonest 71 = .ok (.aload_n 0, 1) := by decide +kernel
theorem dX12_soonest_72 : decode cX12_soonest 72 = .ok (.getfield 9, 3) := by decide +kernel
theorem dX12_soonest_75 : decode cX12_soonest 75 = .ok (.iconst 1, 1) := by decide +kernel
theorem dX12_soonest_76 : decode cX12_soonest 76 = .ok (.iaload, 1) := by decide +kernel
theorem dX12_soonest_77 : decode cX12_soonest 77 = .ok (.iload 4, 2) := by decide +kernel
theorem dX12_soonest_79 : decode cX12_soonest 79 = .ok (.iadd, 1) := by decide +kernel
theorem dX12_soonest_80 : decode cX12_soonest 80 = .ok (.invokevirtual 169, 3) := by decide +kernel
theorem dX12_soonest_83 : decode cX12_soonest 83 = .ok (.bastore, 1) := by decide +kernel
theorem dX12_soonest_84 : decode cX12_soonest 84 = .ok (.iinc 4 1, 3) := by decide +kernel
theorem dX12_soonest_87 : decode cX12_soonest 87 = .ok (.goto (-50), 3) := by decide +kernel
theorem dX12_soonest_90 : decode cX12_soonest 90 = .ok (.iconst 0, 1) := by decide +kernel
theorem dX12_soonest_91 : decode cX12_soonest 91 = .ok (.istore 4, 2) := by decide +kernel
theorem dX12_soonest_93 : decode cX12_soonest 93 = .ok (.bipush 61, 2) := by decide +kernel
theorem dX12_soonest_95 : decode cX12_soonest 95 = .ok (.istore 5, 2) := by decide +kernel
theorem dX12_soonest_97 : decode cX12_soonest 97 = .ok (.iconst 0, 1) := by decide +kernel
theorem dX12_soonest_98 : decode cX12_soonest 98 = .ok (.istore 6, 2) := by decide +kernel
theorem dX12_soonest_100 : decode cX12_soonest 100 = .ok (.iconst 0, 1) := by decide +kernel
theorem dX12_soonest_101 : decode cX12_soonest 101 = .ok (.istore 7, 2) := by decide +kernel
theorem dX12_soonest_103 : decode cX12_soonest 103 = .ok (.iload 7, 2) := by decide +kernel
theorem dX12_soonest_105 : decode cX12_soonest 105 = .ok (.iconst 1, 1) := by decide +kernel
theorem dX12_soonest_106 : decode cX12_soonest 106 = .ok (.aload_n 0, 1) := by decide +kernel
theorem dX12_soonest_107 : decode cX12_soonest 107 = .ok (.getfield 9, 3) := by decide +kernel
theorem dX12_soonest_110 : decode cX12_soonest 110 = .ok (.bipush 12, 2) := by decide +kernel
theorem dX12_soonest_112 : decode cX12_soonest 112 = .ok (.iaload, 1) := by decide +kernel
theorem dX12_soonest_113 : decode cX12_soonest 113 = .ok (.ishl, 1) := by decide +kernel
theorem dX12_soonest_114 : decode cX12_soonest 114 = .ok (.if_icmp .ge 71, 3) := by decide +kernel
theorem dX12_soonest_117 : decode cX12_soonest 117 = .ok (.aload_n 0, 1) := by decide +kernel
theorem dX12_soonest_118 : decode cX12_soonest 118 = .ok (.iload 7, 2) := by decide +kernel
theorem dX12_soonest_120 : decode cX12_soonest 120 = .ok (.iconst 1, 1) := by decide +kernel
theorem dX12_soonest_121 : decode cX12_soonest 121 = .ok (.invokevirtual 259, 3) := by decide +kernel
theorem dX12_soonest_124 : decode cX12_soonest 124 = .ok (.istore 8, 2) := by decide +kernel
theorem dX12_soonest_126 : decode cX12_soonest 126 = .ok (.iload 8, 2) := by decide +kernel
theorem dX12_soonest_128 : decode cX12_soonest 128 = .ok (.iload_n 1, 1) := by decide +kernel
theorem dX12_soonest_129 : decode cX12_soonest 129 = .ok (.if_icmp .gt 50, 3) := by decide +kernel
theorem dX12_soonest_132 : decode cX12_soonest 132 = .ok (.aload_n 0, 1) := by decide +kernel
theorem dX12_soonest_133 : decode cX12_soonest 133 = .ok (.aload_n 0, 1) := by decide +kernel
theorem dX12_soonest_134 : decode cX12_soonest 134 = .ok (.iload 7, 2) := by decide +kernel
theorem dX12_soonest_136 : decode cX12_soonest 136 = .ok (.iconst 0, 1) := by decide +kernel
theorem dX12_soonest_137 : decode cX12_soonest 137 = .ok (.invokevirtual 259, 3) := by decide +kernel
theorem dX12_soonest_140 : decode cX12_soonest 140 = .ok (.iload_n 2, 1) := by decide +kernel
theorem dX12_soonest_141 : decode cX12_soonest 141 = .ok (.invokevirtual 262, 3) := by decide +kernel
theorem dX12_soonest_144 : decode cX12_soonest 144 = .ok (.istore 9, 2) := by decide +kernel
theorem dX12_soonest_146 : decode cX12_soonest 146 = .ok (.iload 9, 2) := by decide +kernel
theorem dX12_soonest_148 : decode cX12_soonest 148 = .ok (.iload 5, 2) := by decide +kernel
theorem dX12_soonest_150 : decode cX12_soonest 150 = .ok (.if_icmp .lt 17, 3) := by decide +kernel
theorem dX12_soonest_153 : decode cX12_soonest 153 = .ok (.iload 9, 2) := by decide +kernel
theorem dX12_soonest_155 : decode cX12_soonest 155 = .ok (.iload 5, 2) := by decide +kernel
theorem dX12_soonest_157 : decode cX12_soonest 157 = .ok (.if_icmp .ne 22, 3) := by decide +kernel
theorem dX12_soonest_160 : decode cX12_soonest 160 = .ok (.iload 8, 2) := by decide +kernel
theorem dX12_soonest_162 : decode cX12_soonest 162 = .ok (.iload 6, 2) := by decide +kernel
theorem dX12_soonest_164 : decode cX12_soonest 164 = .ok (.if_icmp .ge 15, 3) := by decide +kernel
theorem dX12_soonest_167 : decode cX12_soonest 167 = .ok (.iload 7, 2) := by decide +kernel
theorem dX12_soonest_169 : decode cX12_soonest 169 = .ok (.istore 4, 2) := by decide +kernel
theorem dX12_soonest_171 : decode cX12_soonest 171 = .ok (.iload 9, 2) := by decide +kernel
theorem dX12_soonest_173 : decode cX12_soonest 173 = .ok (.istore 5, 2) := by decide +kernel
theorem dX12_soonest_175 : decode cX12_soonest 175 = .ok (.iload 8, 2) := by decide +kernel
theorem dX12_soonest_177 : decode cX12_soonest 177 = .ok (.istore 6, 2) := by decide +kernel
theorem dX12_soonest_179 : decode cX12_soonest 179 = .ok (.iinc 7 1, 3) := by decide +kernel
theorem dX12_soonest_182 : decode cX12_soonest 182 = .ok (.goto (-79), 3) := by decide +kernel
theorem dX12_soonest_185 : decode cX12_soonest 185 = .ok (.iload 5, 2) := by decide +kernel
theorem dX12_soonest_187 : decode cX12_soonest 187 = .ok (.bipush 60, 2) := by decide +kernel
theorem dX12_soonest_189 : decode cX12_soonest 189 = .ok (.if_icmp .le 6, 3) := by decide +kernel
theorem dX12_soonest_192 : decode cX12_soonest 192 = .ok (.ldc 96, 2) := by decide +kernel
theorem dX12_soonest_194 : decode cX12_soonest 194 = .ok (.ireturn, 1) := by decide +kernel
theorem dX12_soonest_195 : decode cX12_soonest 195 = .ok (.iload_n 3, 1) := by decide +kernel
theorem dX12_soonest_196 : decode cX12_soonest 196 = .ok (.ifCond .ne 8, 3) := by decide +kernel
theorem dX12_soonest_199 : decode cX12_soonest 199 = .ok (.iload 4, 2) := by decide +kernel
theorem dX12_soonest_201 : decode cX12_soonest 201 = .ok (.goto 15, 3) := by decide +kernel
theorem dX12_soonest_204 : decode cX12_soonest 204 = .ok (.iload_n 3, 1) := by decide +kernel
theorem dX12_soonest_205 : decode cX12_soonest 205 = .ok (.iconst 1, 1) := by decide +kernel
theorem dX12_soonest_206 : decode cX12_soonest 206 = .ok (.if_icmp .ne 8, 3) := by decide +kernel
theorem dX12_soonest_209 : decode cX12_soonest 209 = .ok (.iload 5, 2) := by decide +kernel
theorem dX12_soonest_211 : decode cX12_soonest 211 = .ok (.goto 5, 3) := by decide +kernel
theorem dX12_soonest_214 : decode cX12_soonest 214 = .ok (.iload 6, 2) := by decide +kernel
theorem dX12_soonest_216 : decode cX12_soonest 216 = .ok (.ireturn, 1) := by decide +kernel
theorem dX12_isSheet_0 : decode cX12_isSheet 0 = .ok (.iload_n 0, 1) := by decide +kernel
theorem dX12_isSheet_1 : decode cX12_isSheet 1 = .ok (.iconst 0, 1) := by decide +kernel
theorem dX12_isSheet_2 : decode cX12_isSheet 2 = .ok (.iconst 3, 1) := by decide +kernel
theorem dX12_isSheet_3 : decode cX12_isSheet 3 = .ok (.invokestatic 78, 3) := by decide +kernel
theorem dX12_isSheet_6 : decode cX12_isSheet 6 = .ok (.ireturn, 1) := by decide +kernel
theorem dX12_isSlot_0 : decode cX12_isSlot 0 = .ok (.iload_n 0, 1) := by decide +kernel
theorem dX12_isSlot_1 : decode cX12_isSlot 1 = .ok (.iconst 0, 1) := by decide +kernel
theorem dX12_isSlot_2 : decode cX12_isSlot 2 = .ok (.iconst 4, 1) := by decide +kernel
theorem dX12_isSlot_3 : decode cX12_isSlot 3 = .ok (.invokestatic 78, 3) := by decide +kernel
theorem dX12_isSlot_6 : decode cX12_isSlot 6 = .ok (.ireturn, 1) := by decide +kernel
theorem dX12_sheet_0 : decode cX12_sheet 0 = .ok (.iload_n 1, 1) := by decide +kernel
theorem dX12_sheet_1 : decode cX12_sheet 1 = .ok (.invokestatic 265, 3) := by decide +kernel
theorem dX12_sheet_4 : decode cX12_sheet 4 = .ok (.ifCond .eq 22, 3) := by decide +kernel
theorem dX12_sheet_7 : decode cX12_sheet 7 = .ok (.iload_n 2, 1) := by decide +kernel
theorem dX12_sheet_8 : decode cX12_sheet 8 = .ok (.iconst (-1), 1) := by decide +kernel
theorem dX12_sheet_9 : decode cX12_sheet 9 = .ok (.iconst 1, 1) := by decide +kernel
theorem dX12_sheet_10 : decode cX12_sheet 10 = .ok (.invokestatic 78, 3) := by decide +kernel
theorem dX12_sheet_13 : decode cX12_sheet 13 = .ok (.ifCond .eq 13, 3) := by decide +kernel
theorem dX12_sheet_16 : decode cX12_sheet 16 = .ok (.iload_n 2, 1) := by decide +kernel
theorem dX12_sheet_17 : decode cX12_sheet 17 = .ok (.ifCond .lt 12, 3) := by decide +kernel
theorem dX12_sheet_20 : decode cX12_sheet 20 = .ok (.iload_n 3, 1) := by decide +kernel
theorem dX12_sheet_21 : decode cX12_sheet 21 = .ok (.bipush 24, 2) := by decide +kernel
theorem dX12_sheet_23 : decode cX12_sheet 23 = .ok (.if_icmp .le 6, 3) := by decide +kernel
theorem dX12_sheet_26 : decode cX12_sheet 26 = .ok (.ldc 82, 2) := by decide +kernel
theorem dX12_sheet_28 : decode cX12_sheet 28 = .ok (.ireturn, 1) := by decide +kernel
theorem dX12_sheet_29 : decode cX12_sheet 29 = .ok (.iload_n 2, 1) := by decide +kernel
theorem dX12_sheet_30 : decode cX12_sheet 30 = .ok (.ifCond .lt 11, 3) := by decide +kernel
theorem dX12_sheet_33 : decode cX12_sheet 33 = .ok (.iload_n 3, 1) := by decide +kernel
theorem dX12_sheet_34 : decode cX12_sheet 34 = .ok (.ifCond .ge 7, 3) := by decide +kernel
theorem dX12_sheet_37 : decode cX12_sheet 37 = .ok (.ldc_w 268, 3) := by decide +kernel
theorem dX12_sheet_40 : decode cX12_sheet 40 = .ok (.ireturn, 1) := by decide +kernel
theorem dX12_sheet_41 : decode cX12_sheet 41 = .ok (.aload_n 0, 1) := by decide +kernel
theorem dX12_sheet_42 : decode cX12_sheet 42 = .ok (.getfield 51, 3) := by decide +kernel
theorem dX12_sheet_45 : decode cX12_sheet 45 = .ok (.iload_n 1, 1) := by decide +kernel
theorem dX12_sheet_46 : decode cX12_sheet 46 = .ok (.iload_n 2, 1) := by decide +kernel
theorem dX12_sheet_47 : decode cX12_sheet 47 = .ok (.iastore, 1) := by decide +kernel
theorem dX12_sheet_48 : decode cX12_sheet 48 = .ok (.aload_n 0, 1) := by decide +kernel
theorem dX12_sheet_49 : decode cX12_sheet 49 = .ok (.getfield 54, 3) := by decide +kernel
theorem dX12_sheet_52 : decode cX12_sheet 52 = .ok (.iload_n 1, 1) := by decide +kernel
theorem dX12_sheet_53 : decode cX12_sheet 53 = .ok (.iload_n 2, 1) := by decide +kernel
theorem dX12_sheet_54 : decode cX12_sheet 54 = .ok (.ifCond .ge 7, 3) := by decide +kernel
theorem dX12_sheet_57 : decode cX12_sheet 57 = .ok (.iconst 0, 1) := by decide +kernel
theorem dX12_sheet_58 : decode cX12_sheet 58 = .ok (.goto 4, 3) := by decide +kernel
theorem dX12_sheet_61 : decode cX12_sheet 61 = .ok (.iload_n 3, 1) := by decide +kernel
theorem dX12_sheet_62 : decode cX12_sheet 62 = .ok (.iastore, 1) := by decide +kernel
theorem dX12_sheet_63 : decode cX12_sheet 63 = .ok (.iconst 0, 1) := by decide +kernel
theorem dX12_sheet_64 : decode cX12_sheet 64 = .ok (.istore 4, 2) := by decide +kernel
theorem dX12_sheet_66 : decode cX12_sheet 66 = .ok (.iload 4, 2) := by decide +kernel
theorem dX12_sheet_68 : decode cX12_sheet 68 = .ok (.bipush 24, 2) := by decide +kernel
theorem dX12_sheet_70 : decode cX12_sheet 70 = .ok (.if_icmp .ge 22, 3) := by decide +kernel
theorem dX12_sheet_73 : decode cX12_sheet 73 = .ok (.aload_n 0, 1) := by decide +kernel
theorem dX12_sheet_74 : decode cX12_sheet 74 = .ok (.getfield 57, 3) := by decide +kernel
theorem dX12_sheet_77 : decode cX12_sheet 77 = .ok (.bipush 24, 2) := by decide +kernel
theorem dX12_sheet_79 : decode cX12_sheet 79 = .ok (.iload_n 1, 1) := by decide +kernel
theorem dX12_sheet_80 : decode cX12_sheet 80 = .ok (.imul, 1) := by decide +kernel
theorem dX12_sheet_81 : decode cX12_sheet 81 = .ok (.iload 4, 2) := by decide +kernel
theorem dX12_sheet_83 : decode cX12_sheet 83 = .ok (.iadd, 1) := by decide +kernel
theorem dX12_sheet_84 : decode cX12_sheet 84 = .ok (.iconst 0, 1) := by decide +kernel
theorem dX12_sheet_85 : decode cX12_sheet 85 = .ok (.iastore, 1) := by decide +kernel
theorem dX12_sheet_86 : decode cX12_sheet 86 = .ok (.iinc 4 1, 3) := by decide +kernel
theorem dX12_sheet_89 : decode cX12_sheet 89 = .ok (.goto (-23), 3) := by decide +kernel
theorem dX12_sheet_92 : decode cX12_sheet 92 = .ok (.aload_n 0, 1) := by decide +kernel
theorem dX12_sheet_93 : decode cX12_sheet 93 = .ok (.getfield 54, 3) := by decide +kernel
theorem dX12_sheet_96 : decode cX12_sheet 96 = .ok (.iload_n 1, 1) := by decide +kernel
theorem dX12_sheet_97 : decode cX12_sheet 97 = .ok (.iaload, 1) := by decide +kernel
theorem dX12_sheet_98 : decode cX12_sheet 98 = .ok (.ireturn, 1) := by decide +kernel
theorem dX12_mark_0 : decode cX12_mark 0 = .ok (.iload_n 1, 1) := by decide +kernel
theorem dX12_mark_1 : decode cX12_mark 1 = .ok (.invokestatic 265, 3) := by decide +kernel
theorem dX12_mark_4 : decode cX12_mark 4 = .ok (.ifCond .ne 6, 3) := by decide +kernel
theorem dX12_mark_7 : decode cX12_mark 7 = .ok (.ldc 82, 2) := by decide +kernel
theorem dX12_mark_9 : decode cX12_mark 9 = .ok (.ireturn, 1) := by decide +kernel
theorem dX12_mark_10 : decode cX12_mark 10 = .ok (.aload_n 0, 1) := by decide +kernel
theorem dX12_mark_11 : decode cX12_mark 11 = .ok (.getfield 51, 3) := by decide +kernel
theorem dX12_mark_14 : decode cX12_mark 14 = .ok (.iload_n 1, 1) := by decide +kernel
theorem dX12_mark_15 : decode cX12_mark 15 = .ok (.iaload, 1) := by decide +kernel
theorem dX12_mark_16 : decode cX12_mark 16 = .ok (.ifCond .ge 7, 3) := by decide +kernel
theorem dX12_mark_19 : decode cX12_mark 19 = .ok (.ldc_w 269, 3) := by decide +kernel
theorem dX12_mark_22 : decode cX12_mark 22 = .ok (.ireturn, 1) := by decide +kernel
theorem dX12_mark_23 : decode cX12_mark 23 = .ok (.iload_n 2, 1) := by decide +kernel
theorem dX12_mark_24 : decode cX12_mark 24 = .ok (.iconst 0, 1) := by decide +kernel
theorem dX12_mark_25 : decode cX12_mark 25 = .ok (.aload_n 0, 1) := by decide +kernel
theorem dX12_mark_26 : decode cX12_mark 26 = .ok (.getfield 54, 3) := by decide +kernel
theorem dX12_mark_29 : decode cX12_mark 29 = .ok (.iload_n 1, 1) := by decide +kernel
theorem dX12_mark_30 : decode cX12_mark 30 = .ok (.iaload, 1) := by decide +kernel
theorem dX12_mark_31 : decode cX12_mark 31 = .ok (.iconst 1, 1) := by decide +kernel
theorem dX12_mark_32 : decode cX12_mark 32 = .ok (.isub, 1) := by decide +kernel
theorem dX12_mark_33 : decode cX12_mark 33 = .ok (.invokestatic 78, 3) := by decide +kernel
theorem dX12_mark_36 : decode cX12_mark 36 = .ok (.ifCond .ne 7, 3) := by decide +kernel
theorem dX12_mark_39 : decode cX12_mark 39 = .ok (.ldc_w 270, 3) := by decide +kernel
theorem dX12_mark_42 : decode cX12_mark 42 = .ok (.ireturn, 1) := by decide +kernel
theorem dX12_mark_43 : decode cX12_mark 43 = .ok (.aload_n 0, 1) := by decide +kernel
theorem dX12_mark_44 : decode cX12_mark 44 = .ok (.getfield 51, 3) := by decide +kernel
theorem dX12_mark_47 : decode cX12_mark 47 = .ok (.iload_n 1, 1) := by decide +kernel
theorem dX12_mark_48 : decode cX12_mark 48 = .ok (.iaload, 1) := by decide +kernel
theorem dX12_mark_49 : decode cX12_mark 49 = .ok (.ifCond .ne 12, 3) := by decide +kernel
theorem dX12_mark_52 : decode cX12_mark 52 = .ok (.iload_n 3, 1) := by decide +kernel
theorem dX12_mark_53 : decode cX12_mark 53 = .ok (.ldc 96, 2) := by decide +kernel
theorem dX12_mark_55 : decode cX12_mark 55 = .ok (.if_icmp .ne 6, 3) := by decide +kernel
theorem dX12_mark_58 : decode cX12_mark 58 = .ok (.ldc 139, 2) := by decide +kernel
theorem dX12_mark_60 : decode cX12_mark 60 = .ok (.ireturn, 1) := by decide +kernel
theorem dX12_mark_61 : decode cX12_mark 61 = .ok (.aload_n 0, 1) := by decide +kernel
theorem dX12_mark_62 : decode cX12_mark 62 = .ok (.getfield 51, 3) := by decide +kernel
theorem dX12_mark_65 : decode cX12_mark 65 = .ok (.iload_n 1, 1) := by decide +kernel
theorem dX12_mark_66 : decode cX12_mark 66 = .ok (.iaload, 1) := by decide +kernel
theorem dX12_mark_67 : decode cX12_mark 67 = .ok (.iconst 1, 1) := by decide +kernel
theorem dX12_mark_68 : decode cX12_mark 68 = .ok (.if_icmp .ne 25, 3) := by decide +kernel
theorem dX12_mark_71 : decode cX12_mark 71 = .ok (.iload_n 3, 1) := by decide +kernel
theorem dX12_mark_72 : decode cX12_mark 72 = .ok (.ldc 96, 2) := by decide +kernel
theorem dX12_mark_74 : decode cX12_mark 74 = .ok (.if_icmp .eq 19, 3) := by decide +kernel
theorem dX12_mark_77 : decode cX12_mark 77 = .ok (.iload_n 3, 1) := by decide +kernel
theorem dX12_mark_78 : decode cX12_mark 78 = .ok (.ldc_w 271, 3) := by decide +kernel
theorem dX12_mark_81 : decode cX12_mark 81 = .ok (.ldc_w 272, 3) := by decide +kernel
theorem dX12_mark_84 : decode cX12_mark 84 = .ok (.invokestatic 78, 3) := by decide +kernel
theorem dX12_mark_87 : decode cX12_mark 87 = .ok (.ifCond .ne 6, 3) := by decide +kernel
theorem dX12_mark_90 : decode cX12_mark 90 = .ok (.ldc 82, 2) := by decide +kernel
theorem dX12_mark_92 : decode cX12_mark 92 = .ok (.ireturn, 1) := by decide +kernel
theorem dX12_mark_93 : decode cX12_mark 93 = .ok (.aload_n 0, 1) := by decide +kernel
theorem dX12_mark_94 : decode cX12_mark 94 = .ok (.getfield 57, 3) := by decide +kernel
theorem dX12_mark_97 : decode cX12_mark 97 = .ok (.bipush 24, 2) := by decide +kernel
theorem dX12_mark_99 : decode cX12_mark 99 = .ok (.iload_n 1, 1) := by decide +kernel
theorem dX12_mark_100 : decode cX12_mark 100 = .ok (.imul, 1) := by decide +kernel
theorem dX12_mark_101 : decode cX12_mark 101 = .ok (.iload_n 2, 1) := by decide +kernel
theorem dX12_mark_102 : decode cX12_mark 102 = .ok (.iadd, 1) := by decide +kernel
theorem dX12_mark_103 : decode cX12_mark 103 = .ok (.aload_n 0, 1) := by decide +kernel
theorem dX12_mark_104 : decode cX12_mark 104 = .ok (.getfield 51, 3) := by decide +kernel
theorem dX12_mark_107 : decode cX12_mark 107 = .ok (.iload_n 1, 1) := by decide +kernel
theorem dX12_mark_108 : decode cX12_mark 108 = .ok (.iaload, 1) := by decide +kernel
theorem dX12_mark_109 : decode cX12_mark 109 = .ok (.ifCond .ne 8, 3) := by decide +kernel
theorem dX12_mark_112 : decode cX12_mark 112 = .ok (.iload_n 3, 1) := by decide +kernel
theorem dX12_mark_113 : decode cX12_mark 113 = .ok (.i2s, 1) := by decide +kernel
theorem dX12_mark_114 : decode cX12_mark 114 = .ok (.goto 4, 3) := by decide +kernel
theorem dX12_mark_117 : decode cX12_mark 117 = .ok (.iload_n 3, 1) := by decide +kernel
theorem dX12_mark_118 : decode cX12_mark 118 = .ok (.iastore, 1) := by decide +kernel
theorem dX12_mark_119 : decode cX12_mark 119 = .ok (.iconst 1, 1) := by decide +kernel
theorem dX12_mark_120 : decode cX12_mark 120 = .ok (.ireturn, 1) := by decide +kernel
theorem dX12_reads_0 : decode cX12_reads 0 = .ok (.iload_n 1, 1) := by decide +kernel
theorem dX12_reads_1 : decode cX12_reads 1 = .ok (.invokestatic 265, 3) := by decide +kernel
theorem dX12_reads_4 : decode cX12_reads 4 = .ok (.ifCond .eq 18, 3) := by decide +kernel
theorem dX12_reads_7 : decode cX12_reads 7 = .ok (.aload_n 0, 1) := by decide +kernel
theorem dX12_reads_8 : decode cX12_reads 8 = .ok (.iload_n 2, 1) := by decide +kernel
theorem dX12_reads_9 : decode cX12_reads 9 = .ok (.invokevirtual 92, 3) := by decide +kernel
theorem dX12_reads_12 : decode cX12_reads 12 = .ok (.ifCond .eq 10, 3) := by decide +kernel
theorem dX12_reads_15 : decode cX12_reads 15 = .ok (.iload_n 3, 1) := by decide +kernel
theorem dX12_reads_16 : decode cX12_reads 16 = .ok (.invokestatic 101, 3) := by decide +kernel
theorem dX12_reads_19 : decode cX12_reads 19 = .ok (.ifCond .ne 6, 3) := by decide +kernel
theorem dX12_reads_22 : decode cX12_reads 22 = .ok (.ldc 82, 2) := by decide +kernel
theorem dX12_reads_24 : decode cX12_reads 24 = .ok (.ireturn, 1) := by decide +kernel
theorem dX12_reads_25 : decode cX12_reads 25 = .ok (.aload_n 0, 1) := by decide +kernel
theorem dX12_reads_26 : decode cX12_reads 26 = .ok (.getfield 51, 3) := by decide +kernel
theorem dX12_reads_29 : decode cX12_reads 29 = .ok (.iload_n 1, 1) := by decide +kernel
theorem dX12_reads_30 : decode cX12_reads 30 = .ok (.iaload, 1) := by decide +kernel
theorem dX12_reads_31 : decode cX12_reads 31 = .ok (.ifCond .ge 7, 3) := by decide +kernel
theorem dX12_reads_34 : decode cX12_reads 34 = .ok (.ldc_w 269, 3) := by decide +kernel
theorem dX12_reads_37 : decode cX12_reads 37 = .ok (.ireturn, 1) := by decide +kernel
theorem dX12_reads_38 : decode cX12_reads 38 = .ok (.iconst 0, 1) := by decide +kernel
theorem dX12_reads_39 : decode cX12_reads 39 = .ok (.istore 4, 2) := by decide +kernel
theorem dX12_reads_41 : decode cX12_reads 41 = .ok (.iload 4, 2) := by decide +kernel
theorem dX12_reads_43 : decode cX12_reads 43 = .ok (.aload_n 0, 1) := by decide +kernel
theorem dX12_reads_44 : decode cX12_reads 44 = .ok (.getfield 54, 3) := by decide +kernel
theorem dX12_reads_47 : decode cX12_reads 47 = .ok (.iload_n 1, 1) := by decide +kernel
theorem dX12_reads_48 : decode cX12_reads 48 = .ok (.iaload, 1) := by decide +kernel
theorem dX12_reads_49 : decode cX12_reads 49 = .ok (.if_icmp .ge 47, 3) := by decide +kernel
theorem dX12_reads_52 : decode cX12_reads 52 = .ok (.aload_n 0, 1) := by decide +kernel
theorem dX12_reads_53 : decode cX12_reads 53 = .ok (.getfield 57, 3) := by decide +kernel
theorem dX12_reads_56 : decode cX12_reads 56 = .ok (.bipush 24, 2) := by decide +kernel
theorem dX12_reads_58 : decode cX12_reads 58 = .ok (.iload_n 1, 1) := by decide +kernel
theorem dX12_reads_59 : decode cX12_reads 59 = .ok (.imul, 1) := by decide +kernel
theorem dX12_reads_60 : decode cX12_reads 60 = .ok (.iload 4, 2) := by decide +kernel
theorem dX12_reads_62 : decode cX12_reads 62 = .ok (.iadd, 1) := by decide +kernel
theorem dX12_reads_63 : decode cX12_reads 63 = .ok (.iaload, 1) := by decide +kernel
theorem dX12_reads_64 : decode cX12_reads 64 = .ok (.istore 5, 2) := by decide +kernel
theorem dX12_reads_66 : decode cX12_reads 66 = .ok (.iload 5, 2) := by decide +kernel
theorem dX12_reads_68 : decode cX12_reads 68 = .ok (.ldc 96, 2) := by decide +kernel
theorem dX12_reads_70 : decode cX12_reads 70 = .ok (.if_icmp .eq 20, 3) := by decide +kernel
theorem dX12_reads_73 : decode cX12_reads 73 = .ok (.iload 5, 2) := by decide +kernel
theorem dX12_reads_75 : decode cX12_reads 75 = .ok (.aload_n 0, 1) := by decide +kernel
theorem dX12_reads_76 : decode cX12_reads 76 = .ok (.iload_n 2, 1) := by decide +kernel
theorem dX12_reads_77 : decode cX12_reads 77 = .ok (.iload_n 3, 1) := by decide +kernel
theorem dX12_reads_78 : decode cX12_reads 78 = .ok (.iload 4, 2) := by decide +kernel
theorem dX12_reads_80 : decode cX12_reads 80 = .ok (.iadd, 1) := by decide +kernel
theorem dX12_reads_81 : decode cX12_reads 81 = .ok (.invokevirtual 111, 3) := by decide +kernel
theorem dX12_reads_84 : decode cX12_reads 84 = .ok (.if_icmp .eq 6, 3) := by decide +kernel
theorem dX12_reads_87 : decode cX12_reads 87 = .ok (.iload 4, 2) := by decide +kernel
theorem dX12_reads_89 : decode cX12_reads 89 = .ok (.ireturn, 1) := by decide +kernel
theorem dX12_reads_90 : decode cX12_reads 90 = .ok (.iinc 4 1, 3) := by decide +kernel
theorem dX12_reads_93 : decode cX12_reads 93 = .ok (.goto (-52), 3) := by decide +kernel
theorem dX12_reads_96 : decode cX12_reads 96 = .ok (.ldc 96, 2) := by decide +kernel
theorem dX12_reads_98 : decode cX12_reads 98 = .ok (.ireturn, 1) := by decide +kernel
theorem dX12_pour_0 : decode cX12_pour 0 = .ok (.iload_n 1, 1) := by decide +kernel
theorem dX12_pour_1 : decode cX12_pour 1 = .ok (.invokestatic 265, 3) := by decide +kernel
theorem dX12_pour_4 : decode cX12_pour 4 = .ok (.ifCond .ne 6, 3) := by decide +kernel
theorem dX12_pour_7 : decode cX12_pour 7 = .ok (.ldc 82, 2) := by decide +kernel
theorem dX12_pour_9 : decode cX12_pour 9 = .ok (.ireturn, 1) := by decide +kernel
theorem dX12_pour_10 : decode cX12_pour 10 = .ok (.aload_n 0, 1) := by decide +kernel
theorem dX12_pour_11 : decode cX12_pour 11 = .ok (.getfield 51, 3) := by decide +kernel
theorem dX12_pour_14 : decode cX12_pour 14 = .ok (.iload_n 1, 1) := by decide +kernel
theorem dX12_pour_15 : decode cX12_pour 15 = .ok (.iaload, 1) := by decide +kernel
theorem dX12_pour_16 : decode cX12_pour 16 = .ok (.ifCond .ge 7, 3) := by decide +kernel
theorem dX12_pour_19 : decode cX12_pour 19 = .ok (.ldc_w 269, 3) := by decide +kernel
theorem dX12_pour_22 : decode cX12_pour 22 = .ok (.ireturn, 1) := by decide +kernel
theorem dX12_pour_23 : decode cX12_pour 23 = .ok (.iconst 0, 1) := by decide +kernel
theorem dX12_pour_24 : decode cX12_pour 24 = .ok (.istore_n 2, 1) := by decide +kernel
theorem dX12_pour_25 : decode cX12_pour 25 = .ok (.iload_n 2, 1) := by decide +kernel
theorem dX12_pour_26 : decode cX12_pour 26 = .ok (.aload_n 0, 1) := by decide +kernel
theorem dX12_pour_27 : decode cX12_pour 27 = .ok (.getfield 54, 3) := by decide +kernel
theorem dX12_pour_30 : decode cX12_pour 30 = .ok (.iload_n 1, 1) := by decide +kernel
theorem dX12_pour_31 : decode cX12_pour 31 = .ok (.iaload, 1) := by decide +kernel
theorem dX12_pour_32 : decode cX12_pour 32 = .ok (.if_icmp .ge 32, 3) := by decide +kernel
theorem dX12_pour_35 : decode cX12_pour 35 = .ok (.aload_n 0, 1) := by decide +kernel
theorem dX12_pour_36 : decode cX12_pour 36 = .ok (.getfield 57, 3) := by decide +kernel
theorem dX12_pour_39 : decode cX12_pour 39 = .ok (.bipush 24, 2) := by decide +kernel
theorem dX12_pour_41 : decode cX12_pour 41 = .ok (.iload_n 1, 1) := by decide +kernel
theorem dX12_pour_42 : decode cX12_pour 42 = .ok (.imul, 1) := by decide +kernel
theorem dX12_pour_43 : decode cX12_pour 43 = .ok (.iload_n 2, 1) := by decide +kernel
theorem dX12_pour_44 : decode cX12_pour 44 = .ok (.iadd, 1) := by decide +kernel
theorem dX12_pour_45 : decode cX12_pour 45 = .ok (.iaload, 1) := by decide +kernel
theorem dX12_pour_46 : decode cX12_pour 46 = .ok (.sipush (-999), 3) := by decide +kernel
theorem dX12_pour_49 : decode cX12_pour 49 = .ok (.sipush 999, 3) := by decide +kernel
theorem dX12_pour_52 : decode cX12_pour 52 = .ok (.invokestatic 78, 3) := by decide +kernel
theorem dX12_pour_55 : decode cX12_pour 55 = .ok (.ifCond .eq 9, 3) := by decide +kernel
theorem dX12_pour_58 : decode cX12_pour 58 = .ok (.iinc 2 1, 3) := by decide +kernel
theorem dX12_pour_61 : decode cX12_pour 61 = .ok (.goto (-36), 3) := by decide +kernel
theorem dX12_pour_64 : decode cX12_pour 64 = .ok (.aload_n 0, 1) := by decide +kernel
theorem dX12_pour_65 : decode cX12_pour 65 = .ok (.getfield 9, 3) := by decide +kernel
theorem dX12_pour_68 : decode cX12_pour 68 = .ok (.bipush 10, 2) := by decide +kernel
theorem dX12_pour_70 : decode cX12_pour 70 = .ok (.iaload, 1) := by decide +kernel
theorem dX12_pour_71 : decode cX12_pour 71 = .ok (.iload_n 2, 1) := by decide +kernel
theorem dX12_pour_72 : decode cX12_pour 72 = .ok (.iadd, 1) := by decide +kernel
theorem dX12_pour_73 : decode cX12_pour 73 = .ok (.bipush 60, 2) := by decide +kernel
theorem dX12_pour_75 : decode cX12_pour 75 = .ok (.if_icmp .le 6, 3) := by decide +kernel
theorem dX12_pour_78 : decode cX12_pour 78 = .ok (.ldc 83, 2) := by decide +kernel
theorem dX12_pour_80 : decode cX12_pour 80 = .ok (.ireturn, 1) := by decide +kernel
theorem dX12_pour_81 : decode cX12_pour 81 = .ok (.iconst 0, 1) := by decide +kernel
theorem dX12_pour_82 : decode cX12_pour 82 = .ok (.istore_n 3, 1) := by decide +kernel
theorem dX12_pour_83 : decode cX12_pour 83 = .ok (.iload_n 3, 1) := by decide +kernel
theorem dX12_pour_84 : decode cX12_pour 84 = .ok (.iload_n 2, 1) := by decide +kernel
theorem dX12_pour_85 : decode cX12_pour 85 = .ok (.if_icmp .ge 47, 3) := by decide +kernel
theorem dX12_pour_88 : decode cX12_pour 88 = .ok (.aload_n 0, 1) := by decide +kernel
theorem dX12_pour_89 : decode cX12_pour 89 = .ok (.getfield 9, 3) := by decide +kernel
theorem dX12_pour_92 : decode cX12_pour 92 = .ok (.sipush 251, 3) := by decide +kernel
theorem dX12_pour_95 : decode cX12_pour 95 = .ok (.aload_n 0, 1) := by decide +kernel
theorem dX12_pour_96 : decode cX12_pour 96 = .ok (.getfield 9, 3) := by decide +kernel
theorem dX12_pour_99 : decode cX12_pour 99 = .ok (.bipush 10, 2) := by decide +kernel
theorem dX12_pour_101 : decode cX12_pour 101 = .ok (.iaload, 1) := by decide +kernel
theorem dX12_pour_102 : decode cX12_pour 102 = .ok (.iadd, 1) := by decide +kernel
theorem dX12_pour_103 : decode cX12_pour 103 = .ok (.aload_n 0, 1) := by decide +kernel
theorem dX12_pour_104 : decode cX12_pour 104 = .ok (.getfield 57, 3) := by decide +kernel
theorem dX12_pour_107 : decode cX12_pour 107 = .ok (.bipush 24, 2) := by decide +kernel
theorem dX12_pour_109 : decode cX12_pour 109 = .ok (.iload_n 1, 1) := by decide +kernel
theorem dX12_pour_110 : decode cX12_pour 110 = .ok (.imul, 1) := by decide +kernel
theorem dX12_pour_111 : decode cX12_pour 111 = .ok (.iload_n 3, 1) := by decide +kernel
theorem dX12_pour_112 : decode cX12_pour 112 = .ok (.iadd, 1) := by decide +kernel
theorem dX12_pour_113 : decode cX12_pour 113 = .ok (.iaload, 1) := by decide +kernel
theorem dX12_pour_114 : decode cX12_pour 114 = .ok (.iastore, 1) := by decide +kernel
theorem dX12_pour_115 : decode cX12_pour 115 = .ok (.aload_n 0, 1) := by decide +kernel
theorem dX12_pour_116 : decode cX12_pour 116 = .ok (.getfield 9, 3) := by decide +kernel
theorem dX12_pour_119 : decode cX12_pour 119 = .ok (.bipush 10, 2) := by decide +kernel
theorem dX12_pour_121 : decode cX12_pour 121 = .ok (.dup2, 1) := by decide +kernel
theorem dX12_pour_122 : decode cX12_pour 122 = .ok (.iaload, 1) := by decide +kernel
theorem dX12_pour_123 : decode cX12_pour 123 = .ok (.iconst 1, 1) := by decide +kernel
theorem dX12_pour_124 : decode cX12_pour 124 = .ok (.iadd, 1) := by decide +kernel
theorem dX12_pour_125 : decode cX12_pour 125 = .ok (.iastore, 1) := by decide +kernel
theorem dX12_pour_126 : decode cX12_pour 126 = .ok (.iinc 3 1, 3) := by decide +kernel
theorem dX12_pour_129 : decode cX12_pour 129 = .ok (.goto (-46), 3) := by decide +kernel
theorem dX12_pour_132 : decode cX12_pour 132 = .ok (.iload_n 2, 1) := by decide +kernel
theorem dX12_pour_133 : decode cX12_pour 133 = .ok (.ireturn, 1) := by decide +kernel
theorem dX12_copy_0 : decode cX12_copy 0 = .ok (.iload_n 1, 1) := by decide +kernel
theorem dX12_copy_1 : decode cX12_copy 1 = .ok (.invokestatic 265, 3) := by decide +kernel
theorem dX12_copy_4 : decode cX12_copy 4 = .ok (.ifCond .eq 10, 3) := by decide +kernel
theorem dX12_copy_7 : decode cX12_copy 7 = .ok (.iload_n 3, 1) := by decide +kernel
theorem dX12_copy_8 : decode cX12_copy 8 = .ok (.invokestatic 265, 3) := by decide +kernel
theorem dX12_copy_11 : decode cX12_copy 11 = .ok (.ifCond .ne 6, 3) := by decide +kernel
theorem dX12_copy_14 : decode cX12_copy 14 = .ok (.ldc 82, 2) := by decide +kernel
theorem dX12_copy_16 : decode cX12_copy 16 = .ok (.ireturn, 1) := by decide +kernel
theorem dX12_copy_17 : decode cX12_copy 17 = .ok (.aload_n 0, 1) := by decide +kernel
theorem dX12_copy_18 : decode cX12_copy 18 = .ok (.getfield 51, 3) := by decide +kernel
theorem dX12_copy_21 : decode cX12_copy 21 = .ok (.iload_n 1, 1) := by decide +kernel
theorem dX12_copy_22 : decode cX12_copy 22 = .ok (.iaload, 1) := by decide +kernel
theorem dX12_copy_23 : decode cX12_copy 23 = .ok (.ifCond .lt 12, 3) := by decide +kernel
theorem dX12_copy_26 : decode cX12_copy 26 = .ok (.aload_n 0, 1) := by decide +kernel
theorem dX12_copy_27 : decode cX12_copy 27 = .ok (.getfield 51, 3) := by decide +kernel
theorem dX12_copy_30 : decode cX12_copy 30 = .ok (.iload_n 3, 1) := by decide +kernel
theorem dX12_copy_31 : decode cX12_copy 31 = .ok (.iaload, 1) := by decide +kernel
theorem dX12_copy_32 : decode cX12_copy 32 = .ok (.ifCond .ge 7, 3) := by decide +kernel
theorem dX12_copy_35 : decode cX12_copy 35 = .ok (.ldc_w 269, 3) := by decide +kernel
theorem dX12_copy_38 : decode cX12_copy 38 = .ok (.ireturn, 1) := by decide +kernel
theorem dX12_copy_39 : decode cX12_copy 39 = .ok (.aload_n 0, 1) := by decide +kernel
theorem dX12_copy_40 : decode cX12_copy 40 = .ok (.getfield 51, 3) := by decide +kernel
theorem dX12_copy_43 : decode cX12_copy 43 = .ok (.iload_n 1, 1) := by decide +kernel
theorem dX12_copy_44 : decode cX12_copy 44 = .ok (.iaload, 1) := by decide +kernel
theorem dX12_copy_45 : decode cX12_copy 45 = .ok (.aload_n 0, 1) := by decide +kernel
theorem dX12_copy_46 : decode cX12_copy 46 = .ok (.getfield 51, 3) := by decide +kernel
theorem dX12_copy_49 : decode cX12_copy 49 = .ok (.iload_n 3, 1) := by decide +kernel
theorem dX12_copy_50 : decode cX12_copy 50 = .ok (.iaload, 1) := by decide +kernel
theorem dX12_copy_51 : decode cX12_copy 51 = .ok (.if_icmp .eq 6, 3) := by decide +kernel
theorem dX12_copy_54 : decode cX12_copy 54 = .ok (.ldc 139, 2) := by decide +kernel
theorem dX12_copy_56 : decode cX12_copy 56 = .ok (.ireturn, 1) := by decide +kernel
theorem dX12_copy_57 : decode cX12_copy 57 = .ok (.iload_n 2, 1) := by decide +kernel
theorem dX12_copy_58 : decode cX12_copy 58 = .ok (.ifCond .lt 40, 3) := by decide +kernel
theorem dX12_copy_61 : decode cX12_copy 61 = .ok (.iload 4, 2) := by decide +kernel
theorem dX12_copy_63 : decode cX12_copy 63 = .ok (.ifCond .lt 35, 3) := by decide +kernel
theorem dX12_copy_66 : decode cX12_copy 66 = .ok (.iload 5, 2) := by decide +kernel
theorem dX12_copy_68 : decode cX12_copy 68 = .ok (.ifCond .lt 30, 3) := by decide +kernel
theorem dX12_copy_71 : decode cX12_copy 71 = .ok (.iload_n 2, 1) := by decide +kernel
theorem dX12_copy_72 : decode cX12_copy 72 = .ok (.aload_n 0, 1) := by decide +kernel
theorem dX12_copy_73 : decode cX12_copy 73 = .ok (.getfield 54, 3) := by decide +kernel
theorem dX12_copy_76 : decode cX12_copy 76 = .ok (.iload_n 1, 1) := by decide +kernel
theorem dX12_copy_77 : decode cX12_copy 77 = .ok (.iaload, 1) := by decide +kernel
theorem dX12_copy_78 : decode cX12_copy 78 = .ok (.iload 5, 2) := by decide +kernel
theorem dX12_copy_80 : decode cX12_copy 80 = .ok (.isub, 1) := by decide +kernel
theorem dX12_copy_81 : decode cX12_copy 81 = .ok (.if_icmp .gt 17, 3) := by decide +kernel
theorem dX12_copy_84 : decode cX12_copy 84 = .ok (.iload 4, 2) := by decide +kernel
theorem dX12_copy_86 : decode cX12_copy 86 = .ok (.aload_n 0, 1) := by decide +kernel
theorem dX12_copy_87 : decode cX12_copy 87 = .ok (.getfield 54, 3) := by decide +kernel
theorem dX12_copy_90 : decode cX12_copy 90 = .ok (.iload_n 3, 1) := by decide +kernel
theorem dX12_copy_91 : decode cX12_copy 91 = .ok (.iaload, 1) := by decide +kernel
theorem dX12_copy_92 : decode cX12_copy 92 = .ok (.iload 5, 2) := by decide +kernel
theorem dX12_copy_94 : decode cX12_copy 94 = .ok (.isub, 1) := by decide +kernel
theorem dX12_copy_95 : decode cX12_copy 95 = .ok (.if_icmp .le 7, 3) := by decide +kernel
theorem dX12_copy_98 : decode cX12_copy 98 = .ok (.ldc_w 270, 3) := by decide +kernel
theorem dX12_copy_101 : decode cX12_copy 101 = .ok (.ireturn, 1) := by decide +kernel
theorem dX12_copy_102 : decode cX12_copy 102 = .ok (.iconst 0, 1) := by decide +kernel
theorem dX12_copy_103 : decode cX12_copy 103 = .ok (.istore 6, 2) := by decide +kernel
theorem dX12_copy_105 : decode cX12_copy 105 = .ok (.iload 6, 2) := by decide +kernel
theorem dX12_copy_107 : decode cX12_copy 107 = .ok (.iload 5, 2) := by decide +kernel
theorem dX12_copy_109 : decode cX12_copy 109 = .ok (.if_icmp .ge 30, 3) := by decide +kernel
theorem dX12_copy_112 : decode cX12_copy 112 = .ok (.aload_n 0, 1) := by decide +kernel
theorem dX12_copy_113 : decode cX12_copy 113 = .ok (.getfield 72, 3) := by decide +kernel
theorem dX12_copy_116 : decode cX12_copy 116 = .ok (.iload 6, 2) := by decide +kernel
theorem dX12_copy_118 : decode cX12_copy 118 = .ok (.aload_n 0, 1) := by decide +kernel
theorem dX12_copy_119 : decode cX12_copy 119 = .ok (.getfield 57, 3) := by decide +kernel
theorem dX12_copy_122 : decode cX12_copy 122 = .ok (.bipush 24, 2) := by decide +kernel
theorem dX12_copy_124 : decode cX12_copy 124 = .ok (.iload_n 1, 1) := by decide +kernel
theorem dX12_copy_125 : decode cX12_copy 125 = .ok (.imul, 1) := by decide +kernel
theorem dX12_copy_126 : decode cX12_copy 126 = .ok (.iload_n 2, 1) := by decide +kernel
theorem dX12_copy_127 : decode cX12_copy 127 = .ok (.iadd, 1) := by decide +kernel
theorem dX12_copy_128 : decode cX12_copy 128 = .ok (.iload 6, 2) := by decide +kernel
theorem dX12_copy_130 : decode cX12_copy 130 = .ok (.iadd, 1) := by decide +kernel
theorem dX12_copy_131 : decode cX12_copy 131 = .ok (.iaload, 1) := by decide +kernel
theorem dX12_copy_132 : decode cX12_copy 132 = .ok (.iastore, 1) := by decide +kernel
theorem dX12_copy_133 : decode cX12_copy 133 = .ok (.iinc 6 1, 3) := by decide +kernel
theorem dX12_copy_136 : decode cX12_copy 136 = .ok (.goto (-31), 3) := by decide +kernel
theorem dX12_copy_139 : decode cX12_copy 139 = .ok (.iconst 0, 1) := by decide +kernel
theorem dX12_copy_140 : decode cX12_copy 140 = .ok (.istore 6, 2) := by decide +kernel
theorem dX12_copy_142 : decode cX12_copy 142 = .ok (.iload 6, 2) := by decide +kernel
theorem dX12_copy_144 : decode cX12_copy 144 = .ok (.iload 5, 2) := by decide +kernel
theorem dX12_copy_146 : decode cX12_copy 146 = .ok (.if_icmp .ge 31, 3) := by decide +kernel
theorem dX12_copy_149 : decode cX12_copy 149 = .ok (.aload_n 0, 1) := by decide +kernel
theorem dX12_copy_150 : decode cX12_copy 150 = .ok (.getfield 57, 3) := by decide +kernel
theorem dX12_copy_153 : decode cX12_copy 153 = .ok (.bipush 24, 2) := by decide +kernel
theorem dX12_copy_155 : decode cX12_copy 155 = .ok (.iload_n 3, 1) := by decide +kernel
theorem dX12_copy_156 : decode cX12_copy 156 = .ok (.imul, 1) := by decide +kernel
theorem dX12_copy_157 : decode cX12_copy 157 = .ok (.iload 4, 2) := by decide +kernel
theorem dX12_copy_159 : decode cX12_copy 159 = .ok (.iadd, 1) := by decide +kernel
theorem dX12_copy_160 : decode cX12_copy 160 = .ok (.iload 6, 2) := by decide +kernel
theorem dX12_copy_162 : decode cX12_copy 162 = .ok (.iadd, 1) := by decide +kernel
theorem dX12_copy_163 : decode cX12_copy 163 = .ok (.aload_n 0, 1) := by decide +kernel
theorem dX12_copy_164 : decode cX12_copy 164 = .ok (.getfield 72, 3) := by decide +kernel
theorem dX12_copy_167 : decode cX12_copy 167 = .ok (.iload 6, 2) := by decide +kernel
theorem dX12_copy_169 : decode cX12_copy 169 = .ok (.iaload, 1) := by decide +kernel
theorem dX12_copy_170 : decode cX12_copy 170 = .ok (.iastore, 1) := by decide +kernel
theorem dX12_copy_171 : decode cX12_copy 171 = .ok (.iinc 6 1, 3) := by decide +kernel
theorem dX12_copy_174 : decode cX12_copy 174 = .ok (.goto (-32), 3) := by decide +kernel
theorem dX12_copy_177 : decode cX12_copy 177 = .ok (.iload 5, 2) := by decide +kernel
theorem dX12_copy_179 : decode cX12_copy 179 = .ok (.ireturn, 1) := by decide +kernel
theorem dX12_lay_0 : decode cX12_lay 0 = .ok (.iload_n 1, 1) := by decide +kernel
theorem dX12_lay_1 : decode cX12_lay 1 = .ok (.invokestatic 273, 3) := by decide +kernel
theorem dX12_lay_4 : decode cX12_lay 4 = .ok (.ifCond .eq 37, 3) := by decide +kernel
theorem dX12_lay_7 : decode cX12_lay 7 = .ok (.iload_n 2, 1) := by decide +kernel
theorem dX12_lay_8 : decode cX12_lay 8 = .ok (.iconst 0, 1) := by decide +kernel
theorem dX12_lay_9 : decode cX12_lay 9 = .ok (.iconst 3, 1) := by decide +kernel
theorem dX12_lay_10 : decode cX12_lay 10 = .ok (.invokestatic 78, 3) := by decide +kernel
theorem dX12_lay_13 : decode cX12_lay 13 = .ok (.ifCond .eq 28, 3) := by decide +kernel
theorem dX12_lay_16 : decode cX12_lay 16 = .ok (.iload_n 2, 1) := by decide +kernel
theorem dX12_lay_17 : decode cX12_lay 17 = .ok (.iconst 1, 1) := by decide +kernel
theorem dX12_lay_18 : decode cX12_lay 18 = .ok (.if_icmp .ne 11, 3) := by decide +kernel
theorem dX12_lay_21 : decode cX12_lay 21 = .ok (.aload_n 0, 1) := by decide +kernel
theorem dX12_lay_22 : decode cX12_lay 22 = .ok (.iload_n 3, 1) := by decide +kernel
theorem dX12_lay_23 : decode cX12_lay 23 = .ok (.invokevirtual 127, 3) := by decide +kernel
theorem dX12_lay_26 : decode cX12_lay 26 = .ok (.ifCond .eq 15, 3) := by decide +kernel
theorem dX12_lay_29 : decode cX12_lay 29 = .ok (.iload_n 2, 1) := by decide +kernel
theorem dX12_lay_30 : decode cX12_lay 30 = .ok (.iconst 2, 1) := by decide +kernel
theorem dX12_lay_31 : decode cX12_lay 31 = .ok (.if_icmp .ne 13, 3) := by decide +kernel
theorem dX12_lay_34 : decode cX12_lay 34 = .ok (.iload_n 3, 1) := by decide +kernel
theorem dX12_lay_35 : decode cX12_lay 35 = .ok (.invokestatic 265, 3) := by decide +kernel
theorem dX12_lay_38 : decode cX12_lay 38 = .ok (.ifCond .ne 6, 3) := by decide +kernel
theorem dX12_lay_41 : decode cX12_lay 41 = .ok (.ldc 82, 2) := by decide +kernel
theorem dX12_lay_43 : decode cX12_lay 43 = .ok (.ireturn, 1) := by decide +kernel
theorem dX12_lay_44 : decode cX12_lay 44 = .ok (.iload_n 2, 1) := by decide +kernel
theorem dX12_lay_45 : decode cX12_lay 45 = .ok (.iconst 2, 1) := by decide +kernel
theorem dX12_lay_46 : decode cX12_lay 46 = .ok (.if_icmp .ne 16, 3) := by decide +kernel
theorem dX12_lay_49 : decode cX12_lay 49 = .ok (.aload_n 0, 1) := by decide +kernel
theorem dX12_lay_50 : decode cX12_lay 50 = .ok (.getfield 51, 3) := by decide +kernel
theorem dX12_lay_53 : decode cX12_lay 53 = .ok (.iload_n 3, 1) := by decide +kernel
theorem dX12_lay_54 : decode cX12_lay 54 = .ok (.iaload, 1) := by decide +kernel
theorem dX12_lay_55 : decode cX12_lay 55 = .ok (.ifCond .ge 7, 3) := by decide +kernel
theorem dX12_lay_58 : decode cX12_lay 58 = .ok (.ldc_w 269, 3) := by decide +kernel
theorem dX12_lay_61 : decode cX12_lay 61 = .ok (.ireturn, 1) := by decide +kernel
theorem dX12_lay_62 : decode cX12_lay 62 = .ok (.aload_n 0, 1) := by decide +kernel
theorem dX12_lay_63 : decode cX12_lay 63 = .ok (.getfield 60, 3) := by decide +kernel
theorem dX12_lay_66 : decode cX12_lay 66 = .ok (.iload_n 1, 1) := by decide +kernel
theorem dX12_lay_67 : decode cX12_lay 67 = .ok (.iaload, 1) := by decide +kernel
theorem dX12_lay_68 : decode cX12_lay 68 = .ok (.istore 4, 2) := by decide +kernel
theorem dX12_lay_70 : decode cX12_lay 70 = .ok (.aload_n 0, 1) := by decide +kernel
theorem dX12_lay_71 : decode cX12_lay 71 = .ok (.getfield 60, 3) := by decide +kernel
theorem dX12_lay_74 : decode cX12_lay 74 = .ok (.iload_n 1, 1) := by decide +kernel
theorem dX12_lay_75 : decode cX12_lay 75 = .ok (.iload_n 2, 1) := by decide +kernel
theorem dX12_lay_76 : decode cX12_lay 76 = .ok (.iastore, 1) := by decide +kernel
theorem dX12_lay_77 : decode cX12_lay 77 = .ok (.aload_n 0, 1) := by decide +kernel
theorem dX12_lay_78 : decode cX12_lay 78 = .ok (.getfield 63, 3) := by decide +kernel
theorem dX12_lay_81 : decode cX12_lay 81 = .ok (.iload_n 1, 1) := by decide +kernel
theorem dX12_lay_82 : decode cX12_lay 82 = .ok (.iload_n 2, 1) := by decide +kernel
theorem dX12_lay_83 : decode cX12_lay 83 = .ok (.iconst 1, 1) := by decide +kernel
theorem dX12_lay_84 : decode cX12_lay 84 = .ok (.if_icmp .ne 12, 3) := by decide +kernel
theorem dX12_lay_87 : decode cX12_lay 87 = .ok (.aload_n 0, 1) := by decide +kernel
theorem dX12_lay_88 : decode cX12_lay 88 = .ok (.iload_n 3, 1) := by decide +kernel
theorem dX12_lay_89 : decode cX12_lay 89 = .ok (.iconst 0, 1) := by decide +kernel
theorem dX12_lay_90 : decode cX12_lay 90 = .ok (.invokevirtual 97, 3) := by decide +kernel
theorem dX12_lay_93 : decode cX12_lay 93 = .ok (.goto 18, 3) := by decide +kernel
theorem dX12_lay_96 : decode cX12_lay 96 = .ok (.iload_n 2, 1) := by decide +kernel
theorem dX12_lay_97 : decode cX12_lay 97 = .ok (.iconst 2, 1) := by decide +kernel
theorem dX12_lay_98 : decode cX12_lay 98 = .ok (.if_icmp .ne 12, 3) := by decide +kernel
theorem dX12_lay_101 : decode cX12_lay 101 = .ok (.aload_n 0, 1) := by decide +kernel
theorem dX12_lay_102 : decode cX12_lay 102 = .ok (.getfield 54, 3) := by decide +kernel
theorem dX12_lay_105 : decode cX12_lay 105 = .ok (.iload_n 3, 1) := by decide +kernel
theorem dX12_lay_106 : decode cX12_lay 106 = .ok (.iaload, 1) := by decide +kernel
theorem dX12_lay_107 : decode cX12_lay 107 = .ok (.goto 4, 3) := by decide +kernel
theorem dX12_lay_110 : decode cX12_lay 110 = .ok (.iload_n 3, 1) := by decide +kernel
theorem dX12_lay_111 : decode cX12_lay 111 = .ok (.iastore, 1) := by decide +kernel
theorem dX12_lay_112 : decode cX12_lay 112 = .ok (.aload_n 0, 1) := by decide +kernel
theorem dX12_lay_113 : decode cX12_lay 113 = .ok (.getfield 66, 3) := by decide +kernel
theorem dX12_lay_116 : decode cX12_lay 116 = .ok (.iload_n 1, 1) := by decide +kernel
theorem dX12_lay_117 : decode cX12_lay 117 = .ok (.iload_n 2, 1) := by decide +kernel
theorem dX12_lay_118 : decode cX12_lay 118 = .ok (.iconst 1, 1) := by decide +kernel
theorem dX12_lay_119 : decode cX12_lay 119 = .ok (.if_icmp .ne 12, 3) := by decide +kernel
theorem dX12_lay_122 : decode cX12_lay 122 = .ok (.aload_n 0, 1) := by decide +kernel
theorem dX12_lay_123 : decode cX12_lay 123 = .ok (.iload_n 3, 1) := by decide +kernel
theorem dX12_lay_124 : decode cX12_lay 124 = .ok (.iconst 3, 1) := by decide +kernel
theorem dX12_lay_125 : decode cX12_lay 125 = .ok (.invokevirtual 97, 3) := by decide +kernel
theorem dX12_lay_128 : decode cX12_lay 128 = .ok (.goto 4, 3) := by decide +kernel
theorem dX12_lay_131 : decode cX12_lay 131 = .ok (.iconst 0, 1) := by decide +kernel
theorem dX12_lay_132 : decode cX12_lay 132 = .ok (.iastore, 1) := by decide +kernel
theorem dX12_lay_133 : decode cX12_lay 133 = .ok (.iconst 0, 1) := by decide +kernel
theorem dX12_lay_134 : decode cX12_lay 134 = .ok (.istore 5, 2) := by decide +kernel
theorem dX12_lay_136 : decode cX12_lay 136 = .ok (.iload 5, 2) := by decide +kernel
theorem dX12_lay_138 : decode cX12_lay 138 = .ok (.bipush 24, 2) := by decide +kernel
theorem dX12_lay_140 : decode cX12_lay 140 = .ok (.if_icmp .ge 38, 3) := by decide +kernel
theorem dX12_lay_143 : decode cX12_lay 143 = .ok (.iload_n 2, 1) := by decide +kernel
theorem dX12_lay_144 : decode cX12_lay 144 = .ok (.iconst 2, 1) := by decide +kernel
theorem dX12_lay_145 : decode cX12_lay 145 = .ok (.if_icmp .ne 33, 3) := by decide +kernel
theorem dX12_lay_148 : decode cX12_lay 148 = .ok (.aload_n 0, 1) := by decide +kernel
theorem dX12_lay_149 : decode cX12_lay 149 = .ok (.getfield 69, 3) := by decide +kernel
theorem dX12_lay_152 : decode cX12_lay 152 = .ok (.bipush 24, 2) := by decide +kernel
theorem dX12_lay_154 : decode cX12_lay 154 = .ok (.iload_n 1, 1) := by decide +kernel
theorem dX12_lay_155 : decode cX12_lay 155 = .ok (.imul, 1) := by decide +kernel
theorem dX12_lay_156 : decode cX12_lay 156 = .ok (.iload 5, 2) := by decide +kernel
theorem dX12_lay_158 : decode cX12_lay 158 = .ok (.iadd, 1) := by decide +kernel
theorem dX12_lay_159 : decode cX12_lay 159 = .ok (.aload_n 0, 1) := by decide +kernel
theorem dX12_lay_160 : decode cX12_lay 160 = .ok (.getfield 57, 3) := by decide +kernel
theorem dX12_lay_163 : decode cX12_lay 163 = .ok (.bipush 24, 2) := by decide +kernel
theorem dX12_lay_165 : decode cX12_lay 165 = .ok (.iload_n 3, 1) := by decide +kernel
theorem dX12_lay_166 : decode cX12_lay 166 = .ok (.imul, 1) := by decide +kernel
theorem dX12_lay_167 : decode cX12_lay 167 = .ok (.iload 5, 2) := by decide +kernel
theorem dX12_lay_169 : decode cX12_lay 169 = .ok (.iadd, 1) := by decide +kernel
theorem dX12_lay_170 : decode cX12_lay 170 = .ok (.iaload, 1) := by decide +kernel
theorem dX12_lay_171 : decode cX12_lay 171 = .ok (.iastore, 1) := by decide +kernel
theorem dX12_lay_172 : decode cX12_lay 172 = .ok (.iinc 5 1, 3) := by decide +kernel
theorem dX12_lay_175 : decode cX12_lay 175 = .ok (.goto (-39), 3) := by decide +kernel
theorem dX12_lay_178 : decode cX12_lay 178 = .ok (.iload 4, 2) := by decide +kernel
theorem dX12_lay_180 : decode cX12_lay 180 = .ok (.ireturn, 1) := by decide +kernel
theorem dX12_ask_0 : decode cX12_ask 0 = .ok (.iload_n 1, 1) := by decide +kernel
theorem dX12_ask_1 : decode cX12_ask 1 = .ok (.invokestatic 273, 3) := by decide +kernel
theorem dX12_ask_4 : decode cX12_ask 4 = .ok (.ifCond .eq 12, 3) := by decide +kernel
theorem dX12_ask_7 : decode cX12_ask 7 = .ok (.iload_n 2, 1) := by decide +kernel
theorem dX12_ask_8 : decode cX12_ask 8 = .ok (.iconst 0, 1) := by decide +kernel
theorem dX12_ask_9 : decode cX12_ask 9 = .ok (.iconst 5, 1) := by decide +kernel
theorem dX12_ask_10 : decode cX12_ask 10 = .ok (.invokestatic 78, 3) := by decide +kernel
theorem dX12_ask_13 : decode cX12_ask 13 = .ok (.ifCond .ne 6, 3) := by decide +kernel
theorem dX12_ask_16 : decode cX12_ask 16 = .ok (.ldc 82, 2) := by decide +kernel
theorem dX12_ask_18 : decode cX12_ask 18 = .ok (.ireturn, 1) := by decide +kernel
theorem dX12_ask_19 : decode cX12_ask 19 = .ok (.aload_n 0, 1) := by decide +kernel
theorem dX12_ask_20 : decode cX12_ask 20 = .ok (.getfield 60, 3) := by decide +kernel
theorem dX12_ask_23 : decode cX12_ask 23 = .ok (.iload_n 1, 1) := by decide +kernel
theorem dX12_ask_24 : decode cX12_ask 24 = .ok (.iaload, 1) := by decide +kernel
theorem dX12_ask_25 : decode cX12_ask 25 = .ok (.ifCond .ne 7, 3) := by decide +kernel
theorem dX12_ask_28 : decode cX12_ask 28 = .ok (.ldc_w 269, 3) := by decide +kernel
theorem dX12_ask_31 : decode cX12_ask 31 = .ok (.ireturn, 1) := by decide +kernel
theorem dX12_ask_32 : decode cX12_ask 32 = .ok (.aload_n 0, 1) := by decide +kernel
theorem dX12_ask_33 : decode cX12_ask 33 = .ok (.getfield 60, 3) := by decide +kernel
theorem dX12_ask_36 : decode cX12_ask 36 = .ok (.iload_n 1, 1) := by decide +kernel
theorem dX12_ask_37 : decode cX12_ask 37 = .ok (.iaload, 1) := by decide +kernel
theorem dX12_ask_38 : decode cX12_ask 38 = .ok (.iconst 1, 1) := by decide +kernel
theorem dX12_ask_39 : decode cX12_ask 39 = .ok (.if_icmp .ne 35, 3) := by decide +kernel
theorem dX12_ask_42 : decode cX12_ask 42 = .ok (.aload_n 0, 1) := by decide +kernel
theorem dX12_ask_43 : decode cX12_ask 43 = .ok (.getfield 63, 3) := by decide +kernel
theorem dX12_ask_46 : decode cX12_ask 46 = .ok (.iload_n 1, 1) := by decide +kernel
theorem dX12_ask_47 : decode cX12_ask 47 = .ok (.iaload, 1) := by decide +kernel
theorem dX12_ask_48 : decode cX12_ask 48 = .ok (.iload_n 2, 1) := by decide +kernel
theorem dX12_ask_49 : decode cX12_ask 49 = .ok (.invokestatic 136, 3) := by decide +kernel
theorem dX12_ask_52 : decode cX12_ask 52 = .ok (.ifCond .eq 22, 3) := by decide +kernel
theorem dX12_ask_55 : decode cX12_ask 55 = .ok (.aload_n 0, 1) := by decide +kernel
theorem dX12_ask_56 : decode cX12_ask 56 = .ok (.aload_n 0, 1) := by decide +kernel
theorem dX12_ask_57 : decode cX12_ask 57 = .ok (.getfield 63, 3) := by decide +kernel
theorem dX12_ask_60 : decode cX12_ask 60 = .ok (.iload_n 1, 1) := by decide +kernel
theorem dX12_ask_61 : decode cX12_ask 61 = .ok (.iaload, 1) := by decide +kernel
theorem dX12_ask_62 : decode cX12_ask 62 = .ok (.aload_n 0, 1) := by decide +kernel
theorem dX12_ask_63 : decode cX12_ask 63 = .ok (.getfield 66, 3) := by decide +kernel
theorem dX12_ask_66 : decode cX12_ask 66 = .ok (.iload_n 1, 1) := by decide +kernel
theorem dX12_ask_67 : decode cX12_ask 67 = .ok (.iaload, 1) := by decide +kernel
theorem dX12_ask_68 : decode cX12_ask 68 = .ok (.invokevirtual 133, 3) := by decide +kernel
theorem dX12_ask_71 : decode cX12_ask 71 = .ok (.goto 5, 3) := by decide +kernel
theorem dX12_ask_74 : decode cX12_ask 74 = .ok (.ldc 139, 2) := by decide +kernel
theorem dX12_ask_76 : decode cX12_ask 76 = .ok (.ireturn, 1) := by decide +kernel
theorem dX12_item_0 : decode cX12_item 0 = .ok (.iload_n 1, 1) := by decide +kernel
theorem dX12_item_1 : decode cX12_item 1 = .ok (.invokestatic 273, 3) := by decide +kernel
theorem dX12_item_4 : decode cX12_item 4 = .ok (.ifCond .ne 6, 3) := by decide +kernel
theorem dX12_item_7 : decode cX12_item 7 = .ok (.ldc 82, 2) := by decide +kernel
theorem dX12_item_9 : decode cX12_item 9 = .ok (.ireturn, 1) := by decide +kernel
theorem dX12_item_10 : decode cX12_item 10 = .ok (.aload_n 0, 1) := by decide +kernel
theorem dX12_item_11 : decode cX12_item 11 = .ok (.getfield 60, 3) := by decide +kernel
theorem dX12_item_14 : decode cX12_item 14 = .ok (.iload_n 1, 1) := by decide +kernel
theorem dX12_item_15 : decode cX12_item 15 = .ok (.iaload, 1) := by decide +kernel
theorem dX12_item_16 : decode cX12_item 16 = .ok (.ifCond .ne 7, 3) := by decide +kernel
theorem dX12_item_19 : decode cX12_item 19 = .ok (.ldc_w 269, 3) := by decide +kernel
theorem dX12_item_22 : decode cX12_item 22 = .ok (.ireturn, 1) := by decide +kernel
theorem dX12_item_23 : decode cX12_item 23 = .ok (.aload_n 0, 1) := by decide +kernel
theorem dX12_item_24 : decode cX12_item 24 = .ok (.getfield 60, 3) := by decide +kernel
theorem dX12_item_27 : decode cX12_item 27 = .ok (.iload_n 1, 1) := by decide +kernel
theorem dX12_item_28 : decode cX12_item 28 = .ok (.iaload, 1) := by decide +kernel
theorem dX12_item_29 : decode cX12_item 29 = .ok (.iconst 2, 1) := by decide +kernel
theorem dX12_item_30 : decode cX12_item 30 = .ok (.if_icmp .eq 6, 3) := by decide +kernel
theorem dX12_item_33 : decode cX12_item 33 = .ok (.ldc 139, 2) := by decide +kernel
theorem dX12_item_35 : decode cX12_item 35 = .ok (.ireturn, 1) := by decide +kernel
theorem dX12_item_36 : decode cX12_item 36 = .ok (.iload_n 2, 1) := by decide +kernel
theorem dX12_item_37 : decode cX12_item 37 = .ok (.iconst 0, 1) := by decide +kernel
theorem dX12_item_38 : decode cX12_item 38 = .ok (.aload_n 0, 1) := by decide +kernel
theorem dX12_item_39 : decode cX12_item 39 = .ok (.getfield 63, 3) := by decide +kernel
theorem dX12_item_42 : decode cX12_item 42 = .ok (.iload_n 1, 1) := by decide +kernel
theorem dX12_item_43 : decode cX12_item 43 = .ok (.iaload, 1) := by decide +kernel
theorem dX12_item_44 : decode cX12_item 44 = .ok (.iconst 1, 1) := by decide +kernel
theorem dX12_item_45 : decode cX12_item 45 = .ok (.isub, 1) := by decide +kernel
theorem dX12_item_46 : decode cX12_item 46 = .ok (.invokestatic 78, 3) := by decide +kernel
theorem dX12_item_49 : decode cX12_item 49 = .ok (.ifCond .ne 7, 3) := by decide +kernel
theorem dX12_item_52 : decode cX12_item 52 = .ok (.ldc_w 270, 3) := by decide +kernel
theorem dX12_item_55 : decode cX12_item 55 = .ok (.ireturn, 1) := by decide +kernel
theorem dX12_item_56 : decode cX12_item 56 = .ok (.aload_n 0, 1) := by decide +kernel
theorem dX12_item_57 : decode cX12_item 57 = .ok (.getfield 69, 3) := by decide +kernel
theorem dX12_item_60 : decode cX12_item 60 = .ok (.bipush 24, 2) := by decide +kernel
theorem dX12_item_62 : decode cX12_item 62 = .ok (.iload_n 1, 1) := by decide +kernel
theorem dX12_item_63 : decode cX12_item 63 = .ok (.imul, 1) := by decide +kernel
theorem dX12_item_64 : decode cX12_item 64 = .ok (.iload_n 2, 1) := by decide +kernel
theorem dX12_item_65 : decode cX12_item 65 = .ok (.iadd, 1) := by decide +kernel
theorem dX12_item_66 : decode cX12_item 66 = .ok (.iaload, 1) := by decide +kernel
theorem dX12_item_67 : decode cX12_item 67 = .ok (.istore_n 3, 1) := by decide +kernel
theorem dX12_item_68 : decode cX12_item 68 = .ok (.iload_n 3, 1) := by decide +kernel
theorem dX12_item_69 : decode cX12_item 69 = .ok (.ldc 96, 2) := by decide +kernel
theorem dX12_item_71 : decode cX12_item 71 = .ok (.if_icmp .ne 8, 3) := by decide +kernel
theorem dX12_item_74 : decode cX12_item 74 = .ok (.ldc 139, 2) := by decide +kernel
theorem dX12_item_76 : decode cX12_item 76 = .ok (.goto 4, 3) := by decide +kernel
theorem dX12_item_79 : decode cX12_item 79 = .ok (.iload_n 3, 1) := by decide +kernel
theorem dX12_item_80 : decode cX12_item 80 = .ok (.ireturn, 1) := by decide +kernel
theorem dX12_rest_0 : decode cX12_rest 0 = .ok (.iload_n 1, 1) := by decide +kernel
theorem dX12_rest_1 : decode cX12_rest 1 = .ok (.invokestatic 273, 3) := by decide +kernel
theorem dX12_rest_4 : decode cX12_rest 4 = .ok (.ifCond .ne 6, 3) := by decide +kernel
theorem dX12_rest_7 : decode cX12_rest 7 = .ok (.ldc 82, 2) := by decide +kernel
theorem dX12_rest_9 : decode cX12_rest 9 = .ok (.ireturn, 1) := by decide +kernel
theorem dX12_rest_10 : decode cX12_rest 10 = .ok (.aload_n 0, 1) := by decide +kernel
theorem dX12_rest_11 : decode cX12_rest 11 = .ok (.getfield 60, 3) := by decide +kernel
theorem dX12_rest_14 : decode cX12_rest 14 = .ok (.iload_n 1, 1) := by decide +kernel
theorem dX12_rest_15 : decode cX12_rest 15 = .ok (.iaload, 1) := by decide +kernel
theorem dX12_rest_16 : decode cX12_rest 16 = .ok (.ifCond .ne 7, 3) := by decide +kernel
theorem dX12_rest_19 : decode cX12_rest 19 = .ok (.ldc_w 269, 3) := by decide +kernel
theorem dX12_rest_22 : decode cX12_rest 22 = .ok (.ireturn, 1) := by decide +kernel
theorem dX12_rest_23 : decode cX12_rest 23 = .ok (.aload_n 0, 1) := by decide +kernel
theorem dX12_rest_24 : decode cX12_rest 24 = .ok (.getfield 60, 3) := by decide +kernel
theorem dX12_rest_27 : decode cX12_rest 27 = .ok (.iload_n 1, 1) := by decide +kernel
theorem dX12_rest_28 : decode cX12_rest 28 = .ok (.iaload, 1) := by decide +kernel
theorem dX12_rest_29 : decode cX12_rest 29 = .ok (.iconst 3, 1) := by decide +kernel
theorem dX12_rest_30 : decode cX12_rest 30 = .ok (.if_icmp .eq 6, 3) := by decide +kernel
theorem dX12_rest_33 : decode cX12_rest 33 = .ok (.ldc 139, 2) := by decide +kernel
theorem dX12_rest_35 : decode cX12_rest 35 = .ok (.ireturn, 1) := by decide +kernel
theorem dX12_rest_36 : decode cX12_rest 36 = .ok (.iload_n 2, 1) := by decide +kernel
theorem dX12_rest_37 : decode cX12_rest 37 = .ok (.ifCond .ne 8, 3) := by decide +kernel
theorem dX12_rest_40 : decode cX12_rest 40 = .ok (.ldc 100, 2) := by decide +kernel
theorem dX12_rest_42 : decode cX12_rest 42 = .ok (.goto 20, 3) := by decide +kernel
theorem dX12_rest_45 : decode cX12_rest 45 = .ok (.iload_n 2, 1) := by decide +kernel
theorem dX12_rest_46 : decode cX12_rest 46 = .ok (.iconst (-1), 1) := by decide +kernel
theorem dX12_rest_47 : decode cX12_rest 47 = .ok (.if_icmp .ne 7, 3) := by decide +kernel
theorem dX12_rest_50 : decode cX12_rest 50 = .ok (.iconst 0, 1) := by decide +kernel
theorem dX12_rest_51 : decode cX12_rest 51 = .ok (.goto 11, 3) := by decide +kernel
theorem dX12_rest_54 : decode cX12_rest 54 = .ok (.aload_n 0, 1) := by decide +kernel
theorem dX12_rest_55 : decode cX12_rest 55 = .ok (.getfield 63, 3) := by decide +kernel
theorem dX12_rest_58 : decode cX12_rest 58 = .ok (.iload_n 1, 1) := by decide +kernel
theorem dX12_rest_59 : decode cX12_rest 59 = .ok (.iaload, 1) := by decide +kernel
theorem dX12_rest_60 : decode cX12_rest 60 = .ok (.iload_n 2, 1) := by decide +kernel
theorem dX12_rest_61 : decode cX12_rest 61 = .ok (.irem, 1) := by decide +kernel
theorem dX12_rest_62 : decode cX12_rest 62 = .ok (.ireturn, 1) := by decide +kernel
theorem dX12_tell_0 : decode cX12_tell 0 = .ok (.aload_n 0, 1) := by decide +kernel
theorem dX12_tell_1 : decode cX12_tell 1 = .ok (.getfield 276, 3) := by decide +kernel
theorem dX12_tell_4 : decode cX12_tell 4 = .ok (.bipush 60, 2) := by decide +kernel
theorem dX12_tell_6 : decode cX12_tell 6 = .ok (.if_icmp .ne 6, 3) := by decide +kernel
theorem dX12_tell_9 : decode cX12_tell 9 = .ok (.ldc 83, 2) := by decide +kernel
theorem dX12_tell_11 : decode cX12_tell 11 = .ok (.ireturn, 1) := by decide +kernel
theorem dX12_tell_12 : decode cX12_tell 12 = .ok (.aload_n 0, 1) := by decide +kernel
theorem dX12_tell_13 : decode cX12_tell 13 = .ok (.getfield 75, 3) := by decide +kernel
theorem dX12_tell_16 : decode cX12_tell 16 = .ok (.aload_n 0, 1) := by decide +kernel
theorem dX12_tell_17 : decode cX12_tell 17 = .ok (.getfield 276, 3) := by decide +kernel
theorem dX12_tell_20 : decode cX12_tell 20 = .ok (.iload_n 1, 1) := by decide +kernel
theorem dX12_tell_21 : decode cX12_tell 21 = .ok (.iastore, 1) := by decide +kernel
theorem dX12_tell_22 : decode cX12_tell 22 = .ok (.aload_n 0, 1) := by decide +kernel
theorem dX12_tell_23 : decode cX12_tell 23 = .ok (.dup, 1) := by decide +kernel
theorem dX12_tell_24 : decode cX12_tell 24 = .ok (.getfield 276, 3) := by decide +kernel
theorem dX12_tell_27 : decode cX12_tell 27 = .ok (.iconst 1, 1) := by decide +kernel
theorem dX12_tell_28 : decode cX12_tell 28 = .ok (.iadd, 1) := by decide +kernel
theorem dX12_tell_29 : decode cX12_tell 29 = .ok (.putfield 276, 3) := by decide +kernel
theorem dX12_tell_32 : decode cX12_tell 32 = .ok (.aload_n 0, 1) := by decide +kernel
theorem dX12_tell_33 : decode cX12_tell 33 = .ok (.getfield 276, 3) := by decide +kernel
theorem dX12_tell_36 : decode cX12_tell 36 = .ok (.ireturn, 1) := by decide +kernel
theorem dX12_check_0 : decode cX12_check 0 = .ok (.aload_n 0, 1) := by decide +kernel
theorem dX12_check_1 : decode cX12_check 1 = .ok (.getfield 276, 3) := by decide +kernel
theorem dX12_check_4 : decode cX12_check 4 = .ok (.istore_n 2, 1) := by decide +kernel
theorem dX12_check_5 : decode cX12_check 5 = .ok (.aload_n 0, 1) := by decide +kernel
theorem dX12_check_6 : decode cX12_check 6 = .ok (.iconst 0, 1) := by decide +kernel
theorem dX12_check_7 : decode cX12_check 7 = .ok (.putfield 276, 3) := by decide +kernel
theorem dX12_check_10 : decode cX12_check 10 = .ok (.iload_n 1, 1) := by decide +kernel
theorem dX12_check_11 : decode cX12_check 11 = .ok (.iconst 1, 1) := by decide +kernel
theorem dX12_check_12 : decode cX12_check 12 = .ok (.bipush 30, 2) := by decide +kernel
theorem dX12_check_14 : decode cX12_check 14 = .ok (.invokestatic 78, 3) := by decide +kernel
theorem dX12_check_17 : decode cX12_check 17 = .ok (.ifCond .ne 6, 3) := by decide +kernel
theorem dX12_check_20 : decode cX12_check 20 = .ok (.ldc 82, 2) := by decide +kernel
theorem dX12_check_22 : decode cX12_check 22 = .ok (.ireturn, 1) := by decide +kernel
theorem dX12_check_23 : decode cX12_check 23 = .ok (.aload_n 0, 1) := by decide +kernel
theorem dX12_check_24 : decode cX12_check 24 = .ok (.getfield 279, 3) := by decide +kernel
theorem dX12_check_27 : decode cX12_check 27 = .ok (.ifCond .ne 6, 3) := by decide +kernel
theorem dX12_check_30 : decode cX12_check 30 = .ok (.ldc 100, 2) := by decide +kernel
theorem dX12_check_32 : decode cX12_check 32 = .ok (.ireturn, 1) := by decide +kernel
theorem dX12_check_33 : decode cX12_check 33 = .ok (.aload_n 0, 1) := by decide +kernel
theorem dX12_check_34 : decode cX12_check 34 = .ok (.getfield 9, 3) := by decide +kernel
theorem dX12_check_37 : decode cX12_check 37 = .ok (.aload_n 0, 1) := by decide +kernel
theorem dX12_check_38 : decode cX12_check 38 = .ok (.getfield 16, 3) := by decide +kernel
theorem dX12_check_41 : decode cX12_check 41 = .ok (.invokestatic 283, 3) := by decide +kernel
theorem dX12_check_44 : decode cX12_check 44 = .ok (.aload_n 0, 1) := by decide +kernel
theorem dX12_check_45 : decode cX12_check 45 = .ok (.getfield 13, 3) := by decide +kernel
theorem dX12_check_48 : decode cX12_check 48 = .ok (.aload_n 0, 1) := by decide +kernel
theorem dX12_check_49 : decode cX12_check 49 = .ok (.getfield 9, 3) := by decide +kernel
theorem dX12_check_52 : decode cX12_check 52 = .ok (.invokestatic 283, 3) := by decide +kernel
theorem dX12_check_55 : decode cX12_check 55 = .ok (.iconst 0, 1) := by decide +kernel
theorem dX12_check_56 : decode cX12_check 56 = .ok (.istore_n 3, 1) := by decide +kernel
theorem dX12_check_57 : decode cX12_check 57 = .ok (.iconst 0, 1) := by decide +kernel
theorem dX12_check_58 : decode cX12_check 58 = .ok (.istore 4, 2) := by decide +kernel
theorem dX12_check_60 : decode cX12_check 60 = .ok (.iload 4, 2) := by decide +kernel
theorem dX12_check_62 : decode cX12_check 62 = .ok (.iload_n 1, 1) := by decide +kernel
theorem dX12_check_63 : decode cX12_check 63 = .ok (.if_icmp .ge 88, 3) := by decide +kernel
theorem dX12_check_66 : decode cX12_check 66 = .ok (.iload_n 3, 1) := by decide +kernel
theorem dX12_check_67 : decode cX12_check 67 = .ok (.iconst 2, 1) := by decide +kernel
theorem dX12_check_68 : decode cX12_check 68 = .ok (.iload 4, 2) := by decide +kernel
theorem dX12_check_70 : decode cX12_check 70 = .ok (.imul, 1) := by decide +kernel
theorem dX12_check_71 : decode cX12_check 71 = .ok (.if_icmp .ne 80, 3) := by decide +kernel
theorem dX12_check_74 : decode cX12_check 74 = .ok (.aload_n 0, 1) := by decide +kernel
theorem dX12_check_75 : decode cX12_check 75 = .ok (.invokevirtual 176, 3) := by decide +kernel
theorem dX12_check_78 : decode cX12_check 78 = .ok (.iload_n 3, 1) := by decide +kernel
theorem dX12_check_79 : decode cX12_check 79 = .ok (.iload_n 3, 1) := by decide +kernel
theorem dX12_check_80 : decode cX12_check 80 = .ok (.iload_n 2, 1) := by decide +kernel
theorem dX12_check_81 : decode cX12_check 81 = .ok (.if_icmp .ge 22, 3) := by decide +kernel
theorem dX12_check_84 : decode cX12_check 84 = .ok (.aload_n 0, 1) := by decide +kernel
theorem dX12_check_85 : decode cX12_check 85 = .ok (.getfield 75, 3) := by decide +kernel
theorem dX12_check_88 : decode cX12_check 88 = .ok (.iload_n 3, 1) := by decide +kernel
theorem dX12_check_89 : decode cX12_check 89 = .ok (.iaload, 1) := by decide +kernel
theorem dX12_check_90 : decode cX12_check 90 = .ok (.aload_n 0, 1) := by decide +kernel
theorem dX12_check_91 : decode cX12_check 91 = .ok (.getfield 9, 3) := by decide +kernel
theorem dX12_check_94 : decode cX12_check 94 = .ok (.iconst 4, 1) := by decide +kernel
theorem dX12_check_95 : decode cX12_check 95 = .ok (.iaload, 1) := by decide +kernel
theorem dX12_check_96 : decode cX12_check 96 = .ok (.if_icmp .ne 7, 3) := by decide +kernel
theorem dX12_check_99 : decode cX12_check 99 = .ok (.iconst 1, 1) := by decide +kernel
theorem dX12_check_100 : decode cX12_check 100 = .ok (.goto 4, 3) := by decide +kernel
theorem dX12_check_103 : decode cX12_check 103 = .ok (.iconst 0, 1) := by decide +kernel
theorem dX12_check_104 : decode cX12_check 104 = .ok (.iadd, 1) := by decide +kernel
theorem dX12_check_105 : decode cX12_check 105 = .ok (.istore_n 3, 1) := by decide +kernel
theorem dX12_check_106 : decode cX12_check 106 = .ok (.iload_n 3, 1) := by decide +kernel
theorem dX12_check_107 : decode cX12_check 107 = .ok (.iload_n 3, 1) := by decide +kernel
theorem dX12_check_108 : decode cX12_check 108 = .ok (.iconst 2, 1) := by decide +kernel
theorem dX12_check_109 : decode cX12_check 109 = .ok (.iload 4, 2) := by decide +kernel
theorem dX12_check_111 : decode cX12_check 111 = .ok (.imul, 1) := by decide +kernel
theorem dX12_check_112 : decode cX12_check 112 = .ok (.iconst 1, 1) := by decide +kernel
theorem dX12_check_113 : decode cX12_check 113 = .ok (.iadd, 1) := by decide +kernel
theorem dX12_check_114 : decode cX12_check 114 = .ok (.if_icmp .ne 28, 3) := by decide +kernel
theorem dX12_check_117 : decode cX12_check 117 = .ok (.iload_n 3, 1) := by decide +kernel
theorem dX12_check_118 : decode cX12_check 118 = .ok (.iload_n 2, 1) := by decide +kernel
theorem dX12_check_119 : decode cX12_check 119 = .ok (.if_icmp .ge 23, 3) := by decide +kernel
theorem dX12_check_122 : decode cX12_check 122 = .ok (.aload_n 0, 1) := by decide +kernel
theorem dX12_check_123 : decode cX12_check 123 = .ok (.getfield 75, 3) := by decide +kernel
theorem dX12_check_126 : decode cX12_check 126 = .ok (.iload_n 3, 1) := by decide +kernel
theorem dX12_check_127 : decode cX12_check 127 = .ok (.iaload, 1) := by decide +kernel
theorem dX12_check_128 : decode cX12_check 128 = .ok (.aload_n 0, 1) := by decide +kernel
theorem dX12_check_129 : decode cX12_check 129 = .ok (.getfield 9, 3) := by decide +kernel
theorem dX12_check_132 : decode cX12_check 132 = .ok (.bipush 8, 2) := by decide +kernel
theorem dX12_check_134 : decode cX12_check 134 = .ok (.iaload, 1) := by decide +kernel
theorem dX12_check_135 : decode cX12_check 135 = .ok (.if_icmp .ne 7, 3) := by decide +kernel
theorem dX12_check_138 : decode cX12_check 138 = .ok (.iconst 1, 1) := by decide +kernel
theorem dX12_check_139 : decode cX12_check 139 = .ok (.goto 4, 3) := by decide +kernel
theorem dX12_check_142 : decode cX12_check 142 = .ok (.iconst 0, 1) := by decide +kernel
theorem dX12_check_143 : decode cX12_check 143 = .ok (.iadd, 1) := by decide +kernel
theorem dX12_check_144 : decode cX12_check 144 = .ok (.istore_n 3, 1) := by decide +kernel
theorem dX12_check_145 : decode cX12_check 145 = .ok (.iinc 4 1, 3) := by decide +kernel
theorem dX12_check_148 : decode cX12_check 148 = .ok (.goto (-88), 3) := by decide +kernel
theorem dX12_check_151 : decode cX12_check 151 = .ok (.aload_n 0, 1) := by decide +kernel
theorem dX12_check_152 : decode cX12_check 152 = .ok (.getfield 16, 3) := by decide +kernel
theorem dX12_check_155 : decode cX12_check 155 = .ok (.aload_n 0, 1) := by decide +kernel
theorem dX12_check_156 : decode cX12_check 156 = .ok (.getfield 9, 3) := by decide +kernel
theorem dX12_check_159 : decode cX12_check 159 = .ok (.invokestatic 283, 3) := by decide +kernel
theorem dX12_check_162 : decode cX12_check 162 = .ok (.iload_n 3, 1) := by decide +kernel
theorem dX12_check_163 : decode cX12_check 163 = .ok (.iload_n 2, 1) := by decide +kernel
theorem dX12_check_164 : decode cX12_check 164 = .ok (.if_icmp .ne 14, 3) := by decide +kernel
theorem dX12_check_167 : decode cX12_check 167 = .ok (.iload_n 3, 1) := by decide +kernel
theorem dX12_check_168 : decode cX12_check 168 = .ok (.iconst 2, 1) := by decide +kernel
theorem dX12_check_169 : decode cX12_check 169 = .ok (.iload_n 1, 1) := by decide +kernel
theorem dX12_check_170 : decode cX12_check 170 = .ok (.imul, 1) := by decide +kernel
theorem dX12_check_171 : decode cX12_check 171 = .ok (.if_icmp .ne 7, 3) := by decide +kernel
theorem dX12_check_174 : decode cX12_check 174 = .ok (.iconst 0, 1) := by decide +kernel
theorem dX12_check_175 : decode cX12_check 175 = .ok (.goto 6, 3) := by decide +kernel
theorem dX12_check_178 : decode cX12_check 178 = .ok (.iconst 1, 1) := by decide +kernel
theorem dX12_check_179 : decode cX12_check 179 = .ok (.iload_n 3, 1) := by decide +kernel
theorem dX12_check_180 : decode cX12_check 180 = .ok (.iadd, 1) := by decide +kernel
theorem dX12_check_181 : decode cX12_check 181 = .ok (.ireturn, 1) := by decide +kernel
theorem dX12_keep_0 : decode cX12_keep 0 = .ok (.aload_n 0, 1) := by decide +kernel
theorem dX12_keep_1 : decode cX12_keep 1 = .ok (.getfield 9, 3) := by decide +kernel
theorem dX12_keep_4 : decode cX12_keep 4 = .ok (.aload_n 0, 1) := by decide +kernel
theorem dX12_keep_5 : decode cX12_keep 5 = .ok (.getfield 13, 3) := by decide +kernel
theorem dX12_keep_8 : decode cX12_keep 8 = .ok (.invokestatic 283, 3) := by decide +kernel
theorem dX12_keep_11 : decode cX12_keep 11 = .ok (.aload_n 0, 1) := by decide +kernel
theorem dX12_keep_12 : decode cX12_keep 12 = .ok (.iconst 1, 1) := by decide +kernel
theorem dX12_keep_13 : decode cX12_keep 13 = .ok (.putfield 279, 3) := by decide +kernel
theorem dX12_keep_16 : decode cX12_keep 16 = .ok (.aload_n 0, 1) := by decide +kernel
theorem dX12_keep_17 : decode cX12_keep 17 = .ok (.getfield 9, 3) := by decide +kernel
theorem dX12_keep_20 : decode cX12_keep 20 = .ok (.iconst 1, 1) := by decide +kernel
theorem dX12_keep_21 : decode cX12_keep 21 = .ok (.iaload, 1) := by decide +kernel
theorem dX12_keep_22 : decode cX12_keep 22 = .ok (.ireturn, 1) := by decide +kernel
theorem dX12_back_0 : decode cX12_back 0 = .ok (.aload_n 0, 1) := by decide +kernel
theorem dX12_back_1 : decode cX12_back 1 = .ok (.getfield 279, 3) := by decide +kernel
theorem dX12_back_4 : decode cX12_back 4 = .ok (.ifCond .ne 6, 3) := by decide +kernel
theorem dX12_back_7 : decode cX12_back 7 = .ok (.ldc 100, 2) := by decide +kernel
theorem dX12_back_9 : decode cX12_back 9 = .ok (.ireturn, 1) := by decide +kernel
theorem dX12_back_10 : decode cX12_back 10 = .ok (.aload_n 0, 1) := by decide +kernel
theorem dX12_back_11 : decode cX12_back 11 = .ok (.getfield 13, 3) := by decide +kernel
theorem dX12_back_14 : decode cX12_back 14 = .ok (.aload_n 0, 1) := by decide +kernel
theorem dX12_back_15 : decode cX12_back 15 = .ok (.getfield 9, 3) := by decide +kernel
theorem dX12_back_18 : decode cX12_back 18 = .ok (.invokestatic 283, 3) := by decide +kernel
theorem dX12_back_21 : decode cX12_back 21 = .ok (.aload_n 0, 1) := by decide +kernel
theorem dX12_back_22 : decode cX12_back 22 = .ok (.getfield 9, 3) := by decide +kernel
theorem dX12_back_25 : decode cX12_back 25 = .ok (.iconst 1, 1) := by decide +kernel
theorem dX12_back_26 : decode cX12_back 26 = .ok (.iaload, 1) := by decide +kernel
theorem dX12_back_27 : decode cX12_back 27 = .ok (.ireturn, 1) := by decide +kernel
theorem dX12_pairs_0 : decode cX12_pairs 0 = .ok (.iconst 0, 1) := by decide +kernel
theorem dX12_pairs_1 : decode cX12_pairs 1 = .ok (.istore_n 1, 1) := by decide +kernel
theorem dX12_pairs_2 : decode cX12_pairs 2 = .ok (.iconst 0, 1) := by decide +kernel
theorem dX12_pairs_3 : decode cX12_pairs 3 = .ok (.istore_n 2, 1) := by decide +kernel
theorem dX12_pairs_4 : decode cX12_pairs 4 = .ok (.iload_n 2, 1) := by decide +kernel
theorem dX12_pairs_5 : decode cX12_pairs 5 = .ok (.aload_n 0, 1) := by decide +kernel
theorem dX12_pairs_6 : decode cX12_pairs 6 = .ok (.getfield 9, 3) := by decide +kernel
theorem dX12_pairs_9 : decode cX12_pairs 9 = .ok (.bipush 6, 2) := by decide +kernel
theorem dX12_pairs_11 : decode cX12_pairs 11 = .ok (.iaload, 1) := by decide +kernel
theorem dX12_pairs_12 : decode cX12_pairs 12 = .ok (.if_icmp .ge 27, 3) := by decide +kernel
theorem dX12_pairs_15 : decode cX12_pairs 15 = .ok (.iload_n 1, 1) := by decide +kernel
theorem dX12_pairs_16 : decode cX12_pairs 16 = .ok (.aload_n 0, 1) := by decide +kernel
theorem dX12_pairs_17 : decode cX12_pairs 17 = .ok (.iload_n 2, 1) := by decide +kernel
theorem dX12_pairs_18 : decode cX12_pairs 18 = .ok (.iconst 2, 1) := by decide +kernel
theorem dX12_pairs_19 : decode cX12_pairs 19 = .ok (.invokevirtual 88, 3) := by decide +kernel
theorem dX12_pairs_22 : decode cX12_pairs 22 = .ok (.iload_n 2, 1) := by decide +kernel
theorem dX12_pairs_23 : decode cX12_pairs 23 = .ok (.if_icmp .le 7, 3) := by decide +kernel
theorem dX12_pairs_26 : decode cX12_pairs 26 = .ok (.iconst 1, 1) := by decide +kernel
theorem dX12_pairs_27 : decode cX12_pairs 27 = .ok (.goto 4, 3) := by decide +kernel
theorem dX12_pairs_30 : decode cX12_pairs 30 = .ok (.iconst 0, 1) := by decide +kernel
theorem dX12_pairs_31 : decode cX12_pairs 31 = .ok (.iadd, 1) := by decide +kernel
theorem dX12_pairs_32 : decode cX12_pairs 32 = .ok (.istore_n 1, 1) := by decide +kernel
theorem dX12_pairs_33 : decode cX12_pairs 33 = .ok (.iinc 2 1, 3) := by decide +kernel
theorem dX12_pairs_36 : decode cX12_pairs 36 = .ok (.goto (-32), 3) := by decide +kernel
theorem dX12_pairs_39 : decode cX12_pairs 39 = .ok (.iload_n 1, 1) := by decide +kernel
theorem dX12_pairs_40 : decode cX12_pairs 40 = .ok (.ireturn, 1) := by decide +kernel
theorem dX12_count_0 : decode cX12_count 0 = .ok (.iload_n 1, 1) := by decide +kernel
theorem dX12_count_1 : decode cX12_count 1 = .ok (.tableswitch 159 0 12 #[67, 75, 83, 91, 99, 107, 115, 123, 128, 135, 142, 147, 152], 67) := by decide +kernel
theorem dX12_count_68 : decode cX12_count 68 = .ok (.aload_n 0, 1) := by decide +kernel
theorem dX12_count_69 : decode cX12_count 69 = .ok (.getfield 9, 3) := by decide +kernel
theorem dX12_count_72 : decode cX12_count 72 = .ok (.bipush 6, 2) := by decide +kernel
theorem dX12_count_74 : decode cX12_count 74 = .ok (.iaload, 1) := by decide +kernel
theorem dX12_count_75 : decode cX12_count 75 = .ok (.ireturn, 1) := by decide +kernel
theorem dX12_count_76 : decode cX12_count 76 = .ok (.aload_n 0, 1) := by decide +kernel
theorem dX12_count_77 : decode cX12_count 77 = .ok (.getfield 9, 3) := by decide +kernel
theorem dX12_count_80 : decode cX12_count 80 = .ok (.bipush 7, 2) := by decide +kernel
theorem dX12_count_82 : decode cX12_count 82 = .ok (.iaload, 1) := by decide +kernel
theorem dX12_count_83 : decode cX12_count 83 = .ok (.ireturn, 1) := by decide +kernel
theorem dX12_count_84 : decode cX12_count 84 = .ok (.aload_n 0, 1) := by decide +kernel
theorem dX12_count_85 : decode cX12_count 85 = .ok (.getfield 9, 3) := by decide +kernel
theorem dX12_count_88 : decode cX12_count 88 = .ok (.bipush 8, 2) := by decide +kernel
theorem dX12_count_90 : decode cX12_count 90 = .ok (.iaload, 1) := by decide +kernel
theorem dX12_count_91 : decode cX12_count 91 = .ok (.ireturn, 1) := by decide +kernel
theorem dX12_count_92 : decode cX12_count 92 = .ok (.aload_n 0, 1) := by decide +kernel
theorem dX12_count_93 : decode cX12_count 93 = .ok (.getfield 9, 3) := by decide +kernel
theorem dX12_count_96 : decode cX12_count 96 = .ok (.bipush 9, 2) := by decide +kernel
theorem dX12_count_98 : decode cX12_count 98 = .ok (.iaload, 1) := by decide +kernel
theorem dX12_count_99 : decode cX12_count 99 = .ok (.ireturn, 1) := by decide +kernel
theorem dX12_count_100 : decode cX12_count 100 = .ok (.aload_n 0, 1) := by decide +kernel
theorem dX12_count_101 : decode cX12_count 101 = .ok (.getfield 9, 3) := by decide +kernel
theorem dX12_count_104 : decode cX12_count 104 = .ok (.bipush 10, 2) := by decide +kernel
theorem dX12_count_106 : decode cX12_count 106 = .ok (.iaload, 1) := by decide +kernel
theorem dX12_count_107 : decode cX12_count 107 = .ok (.ireturn, 1) := by decide +kernel
theorem dX12_count_108 : decode cX12_count 108 = .ok (.aload_n 0, 1) := by decide +kernel
theorem dX12_count_109 : decode cX12_count 109 = .ok (.getfield 9, 3) := by decide +kernel
theorem dX12_count_112 : decode cX12_count 112 = .ok (.bipush 11, 2) := by decide +kernel
theorem dX12_count_114 : decode cX12_count 114 = .ok (.iaload, 1) := by decide +kernel
theorem dX12_count_115 : decode cX12_count 115 = .ok (.ireturn, 1) := by decide +kernel
theorem dX12_count_116 : decode cX12_count 116 = .ok (.aload_n 0, 1) := by decide +kernel
theorem dX12_count_117 : decode cX12_count 117 = .ok (.getfield 9, 3) := by decide +kernel
theorem dX12_count_120 : decode cX12_count 120 = .ok (.bipush 12, 2) := by decide +kernel
theorem dX12_count_122 : decode cX12_count 122 = .ok (.iaload, 1) := by decide +kernel
theorem dX12_count_123 : decode cX12_count 123 = .ok (.ireturn, 1) := by decide +kernel
theorem dX12_count_124 : decode cX12_count 124 = .ok (.aload_n 0, 1) := by decide +kernel
theorem dX12_count_125 : decode cX12_count 125 = .ok (.invokevirtual 287, 3) := by decide +kernel
theorem dX12_count_128 : decode cX12_count 128 = .ok (.ireturn, 1) := by decide +kernel
theorem dX12_count_129 : decode cX12_count 129 = .ok (.aload_n 0, 1) := by decide +kernel
theorem dX12_count_130 : decode cX12_count 130 = .ok (.getfield 9, 3) := by decide +kernel
theorem dX12_count_133 : decode cX12_count 133 = .ok (.iconst 4, 1) := by decide +kernel
theorem dX12_count_134 : decode cX12_count 134 = .ok (.iaload, 1) := by decide +kernel
theorem dX12_count_135 : decode cX12_count 135 = .ok (.ireturn, 1) := by decide +kernel
theorem dX12_count_136 : decode cX12_count 136 = .ok (.aload_n 0, 1) := by decide +kernel
theorem dX12_count_137 : decode cX12_count 137 = .ok (.getfield 9, 3) := by decide +kernel
theorem dX12_count_140 : decode cX12_count 140 = .ok (.iconst 1, 1) := by decide +kernel
theorem dX12_count_141 : decode cX12_count 141 = .ok (.iaload, 1) := by decide +kernel
theorem dX12_count_142 : decode cX12_count 142 = .ok (.ireturn, 1) := by decide +kernel
theorem dX12_count_143 : decode cX12_count 143 = .ok (.aload_n 0, 1) := by decide +kernel
theorem dX12_count_144 : decode cX12_count 144 = .ok (.getfield 276, 3) := by decide +kernel
theorem dX12_count_147 : decode cX12_count 147 = .ok (.ireturn, 1) := by decide +kernel
theorem dX12_count_148 : decode cX12_count 148 = .ok (.aload_n 0, 1) := by decide +kernel
theorem dX12_count_149 : decode cX12_count 149 = .ok (.getfield 184, 3) := by decide +kernel
theorem dX12_count_152 : decode cX12_count 152 = .ok (.ireturn, 1) := by decide +kernel
theorem dX12_count_153 : decode cX12_count 153 = .ok (.aload_n 0, 1) := by decide +kernel
theorem dX12_count_154 : decode cX12_count 154 = .ok (.getfield 9, 3) := by decide +kernel
theorem dX12_count_157 : decode cX12_count 157 = .ok (.iconst 0, 1) := by decide +kernel
theorem dX12_count_158 : decode cX12_count 158 = .ok (.iaload, 1) := by decide +kernel
theorem dX12_count_159 : decode cX12_count 159 = .ok (.ireturn, 1) := by decide +kernel
theorem dX12_count_160 : decode cX12_count 160 = .ok (.ldc 82, 2) := by decide +kernel
theorem dX12_count_162 : decode cX12_count 162 = .ok (.ireturn, 1) := by decide +kernel
