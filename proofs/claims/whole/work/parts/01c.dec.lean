theorem dX12_init_0 : decode cX12_init 0 = .ok (.aload_n 0, 1) := by decide +kernel
theorem dX12_init_1 : decode cX12_init 1 = .ok (.invokespecial 1, 3) := by decide +kernel
theorem dX12_init_4 : decode cX12_init 4 = .ok (.aload_n 0, 1) := by decide +kernel
theorem dX12_init_5 : decode cX12_init 5 = .ok (.sipush 1719, 3) := by decide +kernel
theorem dX12_init_8 : decode cX12_init 8 = .ok (.newarray .int, 2) := by decide +kernel
theorem dX12_init_10 : decode cX12_init 10 = .ok (.putfield 9, 3) := by decide +kernel
theorem dX12_init_13 : decode cX12_init 13 = .ok (.aload_n 0, 1) := by decide +kernel
theorem dX12_init_14 : decode cX12_init 14 = .ok (.sipush 1719, 3) := by decide +kernel
theorem dX12_init_17 : decode cX12_init 17 = .ok (.newarray .int, 2) := by decide +kernel
theorem dX12_init_19 : decode cX12_init 19 = .ok (.putfield 13, 3) := by decide +kernel
theorem dX12_init_22 : decode cX12_init 22 = .ok (.aload_n 0, 1) := by decide +kernel
theorem dX12_init_23 : decode cX12_init 23 = .ok (.sipush 1719, 3) := by decide +kernel
theorem dX12_init_26 : decode cX12_init 26 = .ok (.newarray .int, 2) := by decide +kernel
theorem dX12_init_28 : decode cX12_init 28 = .ok (.putfield 16, 3) := by decide +kernel
theorem dX12_init_31 : decode cX12_init 31 = .ok (.aload_n 0, 1) := by decide +kernel
theorem dX12_init_32 : decode cX12_init 32 = .ok (.bipush 96, 2) := by decide +kernel
theorem dX12_init_34 : decode cX12_init 34 = .ok (.newarray .int, 2) := by decide +kernel
theorem dX12_init_36 : decode cX12_init 36 = .ok (.putfield 19, 3) := by decide +kernel
theorem dX12_init_39 : decode cX12_init 39 = .ok (.aload_n 0, 1) := by decide +kernel
theorem dX12_init_40 : decode cX12_init 40 = .ok (.bipush 14, 2) := by decide +kernel
theorem dX12_init_42 : decode cX12_init 42 = .ok (.newarray .char, 2) := by decide +kernel
theorem dX12_init_44 : decode cX12_init 44 = .ok (.dup, 1) := by decide +kernel
theorem dX12_init_45 : decode cX12_init 45 = .ok (.iconst 0, 1) := by decide +kernel
theorem dX12_init_46 : decode cX12_init 46 = .ok (.bipush 114, 2) := by decide +kernel
theorem dX12_init_48 : decode cX12_init 48 = .ok (.castore, 1) := by decide +kernel
theorem dX12_init_49 : decode cX12_init 49 = .ok (.dup, 1) := by decide +kernel
theorem dX12_init_50 : decode cX12_init 50 = .ok (.iconst 1, 1) := by decide +kernel
theorem dX12_init_51 : decode cX12_init 51 = .ok (.bipush 97, 2) := by decide +kernel
theorem dX12_init_53 : decode cX12_init 53 = .ok (.castore, 1) := by decide +kernel
theorem dX12_init_54 : decode cX12_init 54 = .ok (.dup, 1) := by decide +kernel
theorem dX12_init_55 : decode cX12_init 55 = .ok (.iconst 2, 1) := by decide +kernel
theorem dX12_init_56 : decode cX12_init 56 = .ok (.bipush 116, 2) := by decide +kernel
theorem dX12_init_58 : decode cX12_init 58 = .ok (.castore, 1) := by decide +kernel
theorem dX12_init_59 : decode cX12_init 59 = .ok (.dup, 1) := by decide +kernel
theorem dX12_init_60 : decode cX12_init 60 = .ok (.iconst 3, 1) := by decide +kernel
theorem dX12_init_61 : decode cX12_init 61 = .ok (.bipush 101, 2) := by decide +kernel
theorem dX12_init_63 : decode cX12_init 63 = .ok (.castore, 1) := by decide +kernel
theorem dX12_init_64 : decode cX12_init 64 = .ok (.dup, 1) := by decide +kernel
theorem dX12_init_65 : decode cX12_init 65 = .ok (.iconst 4, 1) := by decide +kernel
theorem dX12_init_66 : decode cX12_init 66 = .ok (.bipush 107, 2) := by decide +kernel
theorem dX12_init_68 : decode cX12_init 68 = .ok (.castore, 1) := by decide +kernel
theorem dX12_init_69 : decode cX12_init 69 = .ok (.dup, 1) := by decide +kernel
theorem dX12_init_70 : decode cX12_init 70 = .ok (.iconst 5, 1) := by decide +kernel
theorem dX12_init_71 : decode cX12_init 71 = .ok (.bipush 110, 2) := by decide +kernel
theorem dX12_init_73 : decode cX12_init 73 = .ok (.castore, 1) := by decide +kernel
theorem dX12_init_74 : decode cX12_init 74 = .ok (.dup, 1) := by decide +kernel
theorem dX12_init_75 : decode cX12_init 75 = .ok (.bipush 6, 2) := by decide +kernel
theorem dX12_init_77 : decode cX12_init 77 = .ok (.bipush 111, 2) := by decide +kernel
theorem dX12_init_79 : decode cX12_init 79 = .ok (.castore, 1) := by decide +kernel
theorem dX12_init_80 : decode cX12_init 80 = .ok (.dup, 1) := by decide +kernel
theorem dX12_init_81 : decode cX12_init 81 = .ok (.bipush 7, 2) := by decide +kernel
theorem dX12_init_83 : decode cX12_init 83 = .ok (.bipush 99, 2) := by decide +kernel
theorem dX12_init_85 : decode cX12_init 85 = .ok (.castore, 1) := by decide +kernel
theorem dX12_init_86 : decode cX12_init 86 = .ok (.dup, 1) := by decide +kernel
theorem dX12_init_87 : decode cX12_init 87 = .ok (.bipush 8, 2) := by decide +kernel
theorem dX12_init_89 : decode cX12_init 89 = .ok (.bipush 107, 2) := by decide +kernel
theorem dX12_init_91 : decode cX12_init 91 = .ok (.castore, 1) := by decide +kernel
theorem dX12_init_92 : decode cX12_init 92 = .ok (.dup, 1) := by decide +kernel
theorem dX12_init_93 : decode cX12_init 93 = .ok (.bipush 9, 2) := by decide +kernel
theorem dX12_init_95 : decode cX12_init 95 = .ok (.bipush 115, 2) := by decide +kernel
theorem dX12_init_97 : decode cX12_init 97 = .ok (.castore, 1) := by decide +kernel
theorem dX12_init_98 : decode cX12_init 98 = .ok (.dup, 1) := by decide +kernel
theorem dX12_init_99 : decode cX12_init 99 = .ok (.bipush 10, 2) := by decide +kernel
theorem dX12_init_101 : decode cX12_init 101 = .ok (.bipush 116, 2) := by decide +kernel
theorem dX12_init_103 : decode cX12_init 103 = .ok (.castore, 1) := by decide +kernel
theorem dX12_init_104 : decode cX12_init 104 = .ok (.dup, 1) := by decide +kernel
theorem dX12_init_105 : decode cX12_init 105 = .ok (.bipush 11, 2) := by decide +kernel
theorem dX12_init_107 : decode cX12_init 107 = .ok (.bipush 97, 2) := by decide +kernel
theorem dX12_init_109 : decode cX12_init 109 = .ok (.castore, 1) := by decide +kernel
theorem dX12_init_110 : decode cX12_init 110 = .ok (.dup, 1) := by decide +kernel
theorem dX12_init_111 : decode cX12_init 111 = .ok (.bipush 12, 2) := by decide +kernel
theorem dX12_init_113 : decode cX12_init 113 = .ok (.bipush 114, 2) := by decide +kernel
theorem dX12_init_115 : decode cX12_init 115 = .ok (.castore, 1) := by decide +kernel
theorem dX12_init_116 : decode cX12_init 116 = .ok (.dup, 1) := by decide +kernel
theorem dX12_init_117 : decode cX12_init 117 = .ok (.bipush 13, 2) := by decide +kernel
theorem dX12_init_119 : decode cX12_init 119 = .ok (.bipush 115, 2) := by decide +kernel
theorem dX12_init_121 : decode cX12_init 121 = .ok (.castore, 1) := by decide +kernel
theorem dX12_init_122 : decode cX12_init 122 = .ok (.putfield 22, 3) := by decide +kernel
theorem dX12_init_125 : decode cX12_init 125 = .ok (.aload_n 0, 1) := by decide +kernel
theorem dX12_init_126 : decode cX12_init 126 = .ok (.iconst 4, 1) := by decide +kernel
theorem dX12_init_127 : decode cX12_init 127 = .ok (.newarray .int, 2) := by decide +kernel
theorem dX12_init_129 : decode cX12_init 129 = .ok (.dup, 1) := by decide +kernel
theorem dX12_init_130 : decode cX12_init 130 = .ok (.iconst 0, 1) := by decide +kernel
theorem dX12_init_131 : decode cX12_init 131 = .ok (.iconst 0, 1) := by decide +kernel
theorem dX12_init_132 : decode cX12_init 132 = .ok (.iastore, 1) := by decide +kernel
theorem dX12_init_133 : decode cX12_init 133 = .ok (.dup, 1) := by decide +kernel
theorem dX12_init_134 : decode cX12_init 134 = .ok (.iconst 1, 1) := by decide +kernel
theorem dX12_init_135 : decode cX12_init 135 = .ok (.iconst 4, 1) := by decide +kernel
theorem dX12_init_136 : decode cX12_init 136 = .ok (.iastore, 1) := by decide +kernel
theorem dX12_init_137 : decode cX12_init 137 = .ok (.dup, 1) := by decide +kernel
theorem dX12_init_138 : decode cX12_init 138 = .ok (.iconst 2, 1) := by decide +kernel
theorem dX12_init_139 : decode cX12_init 139 = .ok (.bipush 9, 2) := by decide +kernel
theorem dX12_init_141 : decode cX12_init 141 = .ok (.iastore, 1) := by decide +kernel
theorem dX12_init_142 : decode cX12_init 142 = .ok (.dup, 1) := by decide +kernel
theorem dX12_init_143 : decode cX12_init 143 = .ok (.iconst 3, 1) := by decide +kernel
theorem dX12_init_144 : decode cX12_init 144 = .ok (.bipush 14, 2) := by decide +kernel
theorem dX12_init_146 : decode cX12_init 146 = .ok (.iastore, 1) := by decide +kernel
theorem dX12_init_147 : decode cX12_init 147 = .ok (.putfield 26, 3) := by decide +kernel
theorem dX12_init_150 : decode cX12_init 150 = .ok (.aload_n 0, 1) := by decide +kernel
theorem dX12_init_151 : decode cX12_init 151 = .ok (.bipush 96, 2) := by decide +kernel
theorem dX12_init_153 : decode cX12_init 153 = .ok (.newarray .int, 2) := by decide +kernel
theorem dX12_init_155 : decode cX12_init 155 = .ok (.putfield 29, 3) := by decide +kernel
theorem dX12_init_158 : decode cX12_init 158 = .ok (.aload_n 0, 1) := by decide +kernel
theorem dX12_init_159 : decode cX12_init 159 = .ok (.bipush 96, 2) := by decide +kernel
theorem dX12_init_161 : decode cX12_init 161 = .ok (.newarray .int, 2) := by decide +kernel
theorem dX12_init_163 : decode cX12_init 163 = .ok (.putfield 32, 3) := by decide +kernel
theorem dX12_init_166 : decode cX12_init 166 = .ok (.aload_n 0, 1) := by decide +kernel
theorem dX12_init_167 : decode cX12_init 167 = .ok (.bipush 10, 2) := by decide +kernel
theorem dX12_init_169 : decode cX12_init 169 = .ok (.newarray .boolean, 2) := by decide +kernel
theorem dX12_init_171 : decode cX12_init 171 = .ok (.putfield 35, 3) := by decide +kernel
theorem dX12_init_174 : decode cX12_init 174 = .ok (.aload_n 0, 1) := by decide +kernel
theorem dX12_init_175 : decode cX12_init 175 = .ok (.bipush 96, 2) := by decide +kernel
theorem dX12_init_177 : decode cX12_init 177 = .ok (.newarray .int, 2) := by decide +kernel
theorem dX12_init_179 : decode cX12_init 179 = .ok (.putfield 39, 3) := by decide +kernel
theorem dX12_init_182 : decode cX12_init 182 = .ok (.aload_n 0, 1) := by decide +kernel
theorem dX12_init_183 : decode cX12_init 183 = .ok (.iconst 4, 1) := by decide +kernel
theorem dX12_init_184 : decode cX12_init 184 = .ok (.newarray .int, 2) := by decide +kernel
theorem dX12_init_186 : decode cX12_init 186 = .ok (.putfield 42, 3) := by decide +kernel
theorem dX12_init_189 : decode cX12_init 189 = .ok (.aload_n 0, 1) := by decide +kernel
theorem dX12_init_190 : decode cX12_init 190 = .ok (.bipush 60, 2) := by decide +kernel
theorem dX12_init_192 : decode cX12_init 192 = .ok (.newarray .int, 2) := by decide +kernel
theorem dX12_init_194 : decode cX12_init 194 = .ok (.putfield 45, 3) := by decide +kernel
theorem dX12_init_197 : decode cX12_init 197 = .ok (.aload_n 0, 1) := by decide +kernel
theorem dX12_init_198 : decode cX12_init 198 = .ok (.bipush 60, 2) := by decide +kernel
theorem dX12_init_200 : decode cX12_init 200 = .ok (.newarray .boolean, 2) := by decide +kernel
theorem dX12_init_202 : decode cX12_init 202 = .ok (.putfield 48, 3) := by decide +kernel
theorem dX12_init_205 : decode cX12_init 205 = .ok (.aload_n 0, 1) := by decide +kernel
theorem dX12_init_206 : decode cX12_init 206 = .ok (.iconst 4, 1) := by decide +kernel
theorem dX12_init_207 : decode cX12_init 207 = .ok (.newarray .int, 2) := by decide +kernel
theorem dX12_init_209 : decode cX12_init 209 = .ok (.dup, 1) := by decide +kernel
theorem dX12_init_210 : decode cX12_init 210 = .ok (.iconst 0, 1) := by decide +kernel
theorem dX12_init_211 : decode cX12_init 211 = .ok (.iconst (-1), 1) := by decide +kernel
theorem dX12_init_212 : decode cX12_init 212 = .ok (.iastore, 1) := by decide +kernel
theorem dX12_init_213 : decode cX12_init 213 = .ok (.dup, 1) := by decide +kernel
theorem dX12_init_214 : decode cX12_init 214 = .ok (.iconst 1, 1) := by decide +kernel
theorem dX12_init_215 : decode cX12_init 215 = .ok (.iconst (-1), 1) := by decide +kernel
theorem dX12_init_216 : decode cX12_init 216 = .ok (.iastore, 1) := by decide +kernel
theorem dX12_init_217 : decode cX12_init 217 = .ok (.dup, 1) := by decide +kernel
theorem dX12_init_218 : decode cX12_init 218 = .ok (.iconst 2, 1) := by decide +kernel
theorem dX12_init_219 : decode cX12_init 219 = .ok (.iconst (-1), 1) := by decide +kernel
theorem dX12_init_220 : decode cX12_init 220 = .ok (.iastore, 1) := by decide +kernel
theorem dX12_init_221 : decode cX12_init 221 = .ok (.dup, 1) := by decide +kernel
theorem dX12_init_222 : decode cX12_init 222 = .ok (.iconst 3, 1) := by decide +kernel
theorem dX12_init_223 : decode cX12_init 223 = .ok (.iconst (-1), 1) := by decide +kernel
theorem dX12_init_224 : decode cX12_init 224 = .ok (.iastore, 1) := by decide +kernel
theorem dX12_init_225 : decode cX12_init 225 = .ok (.putfield 51, 3) := by decide +kernel
theorem dX12_init_228 : decode cX12_init 228 = .ok (.aload_n 0, 1) := by decide +kernel
theorem dX12_init_229 : decode cX12_init 229 = .ok (.iconst 4, 1) := by decide +kernel
theorem dX12_init_230 : decode cX12_init 230 = .ok (.newarray .int, 2) := by decide +kernel
theorem dX12_init_232 : decode cX12_init 232 = .ok (.putfield 54, 3) := by decide +kernel
theorem dX12_init_235 : decode cX12_init 235 = .ok (.aload_n 0, 1) := by decide +kernel
theorem dX12_init_236 : decode cX12_init 236 = .ok (.bipush 96, 2) := by decide +kernel
theorem dX12_init_238 : decode cX12_init 238 = .ok (.newarray .int, 2) := by decide +kernel
theorem dX12_init_240 : decode cX12_init 240 = .ok (.putfield 57, 3) := by decide +kernel
theorem dX12_init_243 : decode cX12_init 243 = .ok (.aload_n 0, 1) := by decide +kernel
theorem dX12_init_244 : decode cX12_init 244 = .ok (.iconst 5, 1) := by decide +kernel
theorem dX12_init_245 : decode cX12_init 245 = .ok (.newarray .int, 2) := by decide +kernel
theorem dX12_init_247 : decode cX12_init 247 = .ok (.putfield 60, 3) := by decide +kernel
theorem dX12_init_250 : decode cX12_init 250 = .ok (.aload_n 0, 1) := by decide +kernel
theorem dX12_init_251 : decode cX12_init 251 = .ok (.iconst 5, 1) := by decide +kernel
theorem dX12_init_252 : decode cX12_init 252 = .ok (.newarray .int, 2) := by decide +kernel
theorem dX12_init_254 : decode cX12_init 254 = .ok (.putfield 63, 3) := by decide +kernel
theorem dX12_init_257 : decode cX12_init 257 = .ok (.aload_n 0, 1) := by decide +kernel
theorem dX12_init_258 : decode cX12_init 258 = .ok (.iconst 5, 1) := by decide +kernel
theorem dX12_init_259 : decode cX12_init 259 = .ok (.newarray .int, 2) := by decide +kernel
theorem dX12_init_261 : decode cX12_init 261 = .ok (.putfield 66, 3) := by decide +kernel
theorem dX12_init_264 : decode cX12_init 264 = .ok (.aload_n 0, 1) := by decide +kernel
theorem dX12_init_265 : decode cX12_init 265 = .ok (.bipush 120, 2) := by decide +kernel
theorem dX12_init_267 : decode cX12_init 267 = .ok (.newarray .int, 2) := by decide +kernel
theorem dX12_init_269 : decode cX12_init 269 = .ok (.putfield 69, 3) := by decide +kernel
theorem dX12_init_272 : decode cX12_init 272 = .ok (.aload_n 0, 1) := by decide +kernel
theorem dX12_init_273 : decode cX12_init 273 = .ok (.bipush 24, 2) := by decide +kernel
theorem dX12_init_275 : decode cX12_init 275 = .ok (.newarray .int, 2) := by decide +kernel
theorem dX12_init_277 : decode cX12_init 277 = .ok (.putfield 72, 3) := by decide +kernel
theorem dX12_init_280 : decode cX12_init 280 = .ok (.aload_n 0, 1) := by decide +kernel
theorem dX12_init_281 : decode cX12_init 281 = .ok (.bipush 60, 2) := by decide +kernel
theorem dX12_init_283 : decode cX12_init 283 = .ok (.newarray .int, 2) := by decide +kernel
theorem dX12_init_285 : decode cX12_init 285 = .ok (.putfield 75, 3) := by decide +kernel
theorem dX12_init_288 : decode cX12_init 288 = .ok (.aload_n 0, 1) := by decide +kernel
theorem dX12_init_289 : decode cX12_init 289 = .ok (.getfield 9, 3) := by decide +kernel
theorem dX12_init_292 : decode cX12_init 292 = .ok (.iconst 0, 1) := by decide +kernel
theorem dX12_init_293 : decode cX12_init 293 = .ok (.iconst 1, 1) := by decide +kernel
theorem dX12_init_294 : decode cX12_init 294 = .ok (.iastore, 1) := by decide +kernel
theorem dX12_init_295 : decode cX12_init 295 = .ok (.aload_n 0, 1) := by decide +kernel
theorem dX12_init_296 : decode cX12_init 296 = .ok (.getfield 9, 3) := by decide +kernel
theorem dX12_init_299 : decode cX12_init 299 = .ok (.iconst 2, 1) := by decide +kernel
theorem dX12_init_300 : decode cX12_init 300 = .ok (.bipush 80, 2) := by decide +kernel
theorem dX12_init_302 : decode cX12_init 302 = .ok (.iastore, 1) := by decide +kernel
theorem dX12_init_303 : decode cX12_init 303 = .ok (.aload_n 0, 1) := by decide +kernel
theorem dX12_init_304 : decode cX12_init 304 = .ok (.getfield 9, 3) := by decide +kernel
theorem dX12_init_307 : decode cX12_init 307 = .ok (.iconst 3, 1) := by decide +kernel
theorem dX12_init_308 : decode cX12_init 308 = .ok (.iconst 4, 1) := by decide +kernel
theorem dX12_init_309 : decode cX12_init 309 = .ok (.iastore, 1) := by decide +kernel
theorem dX12_init_310 : decode cX12_init 310 = .ok (.aload_n 0, 1) := by decide +kernel
theorem dX12_init_311 : decode cX12_init 311 = .ok (.getfield 9, 3) := by decide +kernel
theorem dX12_init_314 : decode cX12_init 314 = .ok (.iconst 4, 1) := by decide +kernel
theorem dX12_init_315 : decode cX12_init 315 = .ok (.sipush 5000, 3) := by decide +kernel
theorem dX12_init_318 : decode cX12_init 318 = .ok (.iastore, 1) := by decide +kernel
theorem dX12_init_319 : decode cX12_init 319 = .ok (.return_, 1) := by decide +kernel
theorem dX12_in_0 : decode cX12_in 0 = .ok (.iload_n 0, 1) := by decide +kernel
theorem dX12_in_1 : decode cX12_in 1 = .ok (.iload_n 1, 1) := by decide +kernel
theorem dX12_in_2 : decode cX12_in 2 = .ok (.if_icmp .lt 12, 3) := by decide +kernel
theorem dX12_in_5 : decode cX12_in 5 = .ok (.iload_n 0, 1) := by decide +kernel
theorem dX12_in_6 : decode cX12_in 6 = .ok (.iload_n 2, 1) := by decide +kernel
theorem dX12_in_7 : decode cX12_in 7 = .ok (.if_icmp .gt 7, 3) := by decide +kernel
theorem dX12_in_10 : decode cX12_in 10 = .ok (.iconst 1, 1) := by decide +kernel
theorem dX12_in_11 : decode cX12_in 11 = .ok (.goto 4, 3) := by decide +kernel
theorem dX12_in_14 : decode cX12_in 14 = .ok (.iconst 0, 1) := by decide +kernel
theorem dX12_in_15 : decode cX12_in 15 = .ok (.ireturn, 1) := by decide +kernel
theorem dX12_within_0 : decode cX12_within 0 = .ok (.iload_n 0, 1) := by decide +kernel
theorem dX12_within_1 : decode cX12_within 1 = .ok (.iload_n 1, 1) := by decide +kernel
theorem dX12_within_2 : decode cX12_within 2 = .ok (.if_icmp .ge 7, 3) := by decide +kernel
theorem dX12_within_5 : decode cX12_within 5 = .ok (.iload_n 1, 1) := by decide +kernel
theorem dX12_within_6 : decode cX12_within 6 = .ok (.goto 13, 3) := by decide +kernel
theorem dX12_within_9 : decode cX12_within 9 = .ok (.iload_n 0, 1) := by decide +kernel
theorem dX12_within_10 : decode cX12_within 10 = .ok (.iload_n 2, 1) := by decide +kernel
theorem dX12_within_11 : decode cX12_within 11 = .ok (.if_icmp .le 7, 3) := by decide +kernel
theorem dX12_within_14 : decode cX12_within 14 = .ok (.iload_n 2, 1) := by decide +kernel
theorem dX12_within_15 : decode cX12_within 15 = .ok (.goto 4, 3) := by decide +kernel
theorem dX12_within_18 : decode cX12_within 18 = .ok (.iload_n 0, 1) := by decide +kernel
theorem dX12_within_19 : decode cX12_within 19 = .ok (.ireturn, 1) := by decide +kernel
theorem dX12_size_0 : decode cX12_size 0 = .ok (.iload_n 0, 1) := by decide +kernel
theorem dX12_size_1 : decode cX12_size 1 = .ok (.ifCond .ge 8, 3) := by decide +kernel
theorem dX12_size_4 : decode cX12_size 4 = .ok (.iload_n 0, 1) := by decide +kernel
theorem dX12_size_5 : decode cX12_size 5 = .ok (.ineg, 1) := by decide +kernel
theorem dX12_size_6 : decode cX12_size 6 = .ok (.goto 4, 3) := by decide +kernel
theorem dX12_size_9 : decode cX12_size 9 = .ok (.iload_n 0, 1) := by decide +kernel
theorem dX12_size_10 : decode cX12_size 10 = .ok (.ireturn, 1) := by decide +kernel
theorem dX12_copyAll_0 : decode cX12_copyAll 0 = .ok (.iconst 0, 1) := by decide +kernel
theorem dX12_copyAll_1 : decode cX12_copyAll 1 = .ok (.istore_n 2, 1) := by decide +kernel
theorem dX12_copyAll_2 : decode cX12_copyAll 2 = .ok (.iload_n 2, 1) := by decide +kernel
theorem dX12_copyAll_3 : decode cX12_copyAll 3 = .ok (.sipush 1719, 3) := by decide +kernel
theorem dX12_copyAll_6 : decode cX12_copyAll 6 = .ok (.if_icmp .ge 15, 3) := by decide +kernel
theorem dX12_copyAll_9 : decode cX12_copyAll 9 = .ok (.aload_n 1, 1) := by decide +kernel
theorem dX12_copyAll_10 : decode cX12_copyAll 10 = .ok (.iload_n 2, 1) := by decide +kernel
theorem dX12_copyAll_11 : decode cX12_copyAll 11 = .ok (.aload_n 0, 1) := by decide +kernel
theorem dX12_copyAll_12 : decode cX12_copyAll 12 = .ok (.iload_n 2, 1) := by decide +kernel
theorem dX12_copyAll_13 : decode cX12_copyAll 13 = .ok (.iaload, 1) := by decide +kernel
theorem dX12_copyAll_14 : decode cX12_copyAll 14 = .ok (.iastore, 1) := by decide +kernel
theorem dX12_copyAll_15 : decode cX12_copyAll 15 = .ok (.iinc 2 1, 3) := by decide +kernel
theorem dX12_copyAll_18 : decode cX12_copyAll 18 = .ok (.goto (-16), 3) := by decide +kernel
theorem dX12_copyAll_21 : decode cX12_copyAll 21 = .ok (.return_, 1) := by decide +kernel
theorem dX12_isCoil_0 : decode cX12_isCoil 0 = .ok (.iload_n 1, 1) := by decide +kernel
theorem dX12_isCoil_1 : decode cX12_isCoil 1 = .ok (.iconst 0, 1) := by decide +kernel
theorem dX12_isCoil_2 : decode cX12_isCoil 2 = .ok (.aload_n 0, 1) := by decide +kernel
theorem dX12_isCoil_3 : decode cX12_isCoil 3 = .ok (.getfield 9, 3) := by decide +kernel
theorem dX12_isCoil_6 : decode cX12_isCoil 6 = .ok (.bipush 6, 2) := by decide +kernel
theorem dX12_isCoil_8 : decode cX12_isCoil 8 = .ok (.iaload, 1) := by decide +kernel
theorem dX12_isCoil_9 : decode cX12_isCoil 9 = .ok (.iconst 1, 1) := by decide +kernel
theorem dX12_isCoil_10 : decode cX12_isCoil 10 = .ok (.isub, 1) := by decide +kernel
theorem dX12_isCoil_11 : decode cX12_isCoil 11 = .ok (.invokestatic 78, 3) := by decide +kernel
theorem dX12_isCoil_14 : decode cX12_isCoil 14 = .ok (.ireturn, 1) := by decide +kernel
theorem dX12_isStep_0 : decode cX12_isStep 0 = .ok (.iload_n 1, 1) := by decide +kernel
theorem dX12_isStep_1 : decode cX12_isStep 1 = .ok (.iconst 0, 1) := by decide +kernel
theorem dX12_isStep_2 : decode cX12_isStep 2 = .ok (.aload_n 0, 1) := by decide +kernel
theorem dX12_isStep_3 : decode cX12_isStep 3 = .ok (.getfield 9, 3) := by decide +kernel
theorem dX12_isStep_6 : decode cX12_isStep 6 = .ok (.bipush 8, 2) := by decide +kernel
theorem dX12_isStep_8 : decode cX12_isStep 8 = .ok (.iaload, 1) := by decide +kernel
theorem dX12_isStep_9 : decode cX12_isStep 9 = .ok (.iconst 1, 1) := by decide +kernel
theorem dX12_isStep_10 : decode cX12_isStep 10 = .ok (.isub, 1) := by decide +kernel
theorem dX12_isStep_11 : decode cX12_isStep 11 = .ok (.invokestatic 78, 3) := by decide +kernel
theorem dX12_isStep_14 : decode cX12_isStep 14 = .ok (.ireturn, 1) := by decide +kernel
theorem dX12_isDay_0 : decode cX12_isDay 0 = .ok (.iload_n 0, 1) := by decide +kernel
theorem dX12_isDay_1 : decode cX12_isDay 1 = .ok (.iconst 0, 1) := by decide +kernel
theorem dX12_isDay_2 : decode cX12_isDay 2 = .ok (.sipush 1999, 3) := by decide +kernel
theorem dX12_isDay_5 : decode cX12_isDay 5 = .ok (.invokestatic 78, 3) := by decide +kernel
theorem dX12_isDay_8 : decode cX12_isDay 8 = .ok (.ireturn, 1) := by decide +kernel
theorem dX12_coil3_0 : decode cX12_coil3 0 = .ok (.aload_n 0, 1) := by decide +kernel
theorem dX12_coil3_1 : decode cX12_coil3 1 = .ok (.getfield 9, 3) := by decide +kernel
theorem dX12_coil3_4 : decode cX12_coil3 4 = .ok (.bipush 13, 2) := by decide +kernel
theorem dX12_coil3_6 : decode cX12_coil3 6 = .ok (.iconst 3, 1) := by decide +kernel
theorem dX12_coil3_7 : decode cX12_coil3 7 = .ok (.iload_n 1, 1) := by decide +kernel
theorem dX12_coil3_8 : decode cX12_coil3 8 = .ok (.imul, 1) := by decide +kernel
theorem dX12_coil3_9 : decode cX12_coil3 9 = .ok (.iadd, 1) := by decide +kernel
theorem dX12_coil3_10 : decode cX12_coil3 10 = .ok (.iload_n 2, 1) := by decide +kernel
theorem dX12_coil3_11 : decode cX12_coil3 11 = .ok (.iadd, 1) := by decide +kernel
theorem dX12_coil3_12 : decode cX12_coil3 12 = .ok (.iaload, 1) := by decide +kernel
theorem dX12_coil3_13 : decode cX12_coil3 13 = .ok (.ireturn, 1) := by decide +kernel
theorem dX12_step4_0 : decode cX12_step4 0 = .ok (.aload_n 0, 1) := by decide +kernel
theorem dX12_step4_1 : decode cX12_step4 1 = .ok (.getfield 9, 3) := by decide +kernel
theorem dX12_step4_4 : decode cX12_step4 4 = .ok (.bipush 91, 2) := by decide +kernel
theorem dX12_step4_6 : decode cX12_step4 6 = .ok (.iconst 4, 1) := by decide +kernel
theorem dX12_step4_7 : decode cX12_step4 7 = .ok (.iload_n 1, 1) := by decide +kernel
theorem dX12_step4_8 : decode cX12_step4 8 = .ok (.imul, 1) := by decide +kernel
theorem dX12_step4_9 : decode cX12_step4 9 = .ok (.iadd, 1) := by decide +kernel
theorem dX12_step4_10 : decode cX12_step4 10 = .ok (.iload_n 2, 1) := by decide +kernel
theorem dX12_step4_11 : decode cX12_step4 11 = .ok (.iadd, 1) := by decide +kernel
theorem dX12_step4_12 : decode cX12_step4 12 = .ok (.iaload, 1) := by decide +kernel
theorem dX12_step4_13 : decode cX12_step4 13 = .ok (.ireturn, 1) := by decide +kernel
theorem dX12_coil_0 : decode cX12_coil 0 = .ok (.iload_n 1, 1) := by decide +kernel
theorem dX12_coil_1 : decode cX12_coil 1 = .ok (.iconst 1, 1) := by decide +kernel
theorem dX12_coil_2 : decode cX12_coil 2 = .ok (.bipush 9, 2) := by decide +kernel
theorem dX12_coil_4 : decode cX12_coil 4 = .ok (.invokestatic 78, 3) := by decide +kernel
theorem dX12_coil_7 : decode cX12_coil 7 = .ok (.ifCond .ne 6, 3) := by decide +kernel
theorem dX12_coil_10 : decode cX12_coil 10 = .ok (.ldc 82, 2) := by decide +kernel
theorem dX12_coil_12 : decode cX12_coil 12 = .ok (.ireturn, 1) := by decide +kernel
theorem dX12_coil_13 : decode cX12_coil 13 = .ok (.aload_n 0, 1) := by decide +kernel
theorem dX12_coil_14 : decode cX12_coil 14 = .ok (.getfield 9, 3) := by decide +kernel
theorem dX12_coil_17 : decode cX12_coil 17 = .ok (.bipush 6, 2) := by decide +kernel
theorem dX12_coil_19 : decode cX12_coil 19 = .ok (.iaload, 1) := by decide +kernel
theorem dX12_coil_20 : decode cX12_coil 20 = .ok (.bipush 6, 2) := by decide +kernel
theorem dX12_coil_22 : decode cX12_coil 22 = .ok (.if_icmp .ne 6, 3) := by decide +kernel
theorem dX12_coil_25 : decode cX12_coil 25 = .ok (.ldc 83, 2) := by decide +kernel
theorem dX12_coil_27 : decode cX12_coil 27 = .ok (.ireturn, 1) := by decide +kernel
theorem dX12_coil_28 : decode cX12_coil 28 = .ok (.bipush 13, 2) := by decide +kernel
theorem dX12_coil_30 : decode cX12_coil 30 = .ok (.iconst 3, 1) := by decide +kernel
theorem dX12_coil_31 : decode cX12_coil 31 = .ok (.aload_n 0, 1) := by decide +kernel
theorem dX12_coil_32 : decode cX12_coil 32 = .ok (.getfield 9, 3) := by decide +kernel
theorem dX12_coil_35 : decode cX12_coil 35 = .ok (.bipush 6, 2) := by decide +kernel
theorem dX12_coil_37 : decode cX12_coil 37 = .ok (.iaload, 1) := by decide +kernel
theorem dX12_coil_38 : decode cX12_coil 38 = .ok (.imul, 1) := by decide +kernel
theorem dX12_coil_39 : decode cX12_coil 39 = .ok (.iadd, 1) := by decide +kernel
theorem dX12_coil_40 : decode cX12_coil 40 = .ok (.istore_n 2, 1) := by decide +kernel
theorem dX12_coil_41 : decode cX12_coil 41 = .ok (.aload_n 0, 1) := by decide +kernel
theorem dX12_coil_42 : decode cX12_coil 42 = .ok (.getfield 9, 3) := by decide +kernel
theorem dX12_coil_45 : decode cX12_coil 45 = .ok (.iload_n 2, 1) := by decide +kernel
theorem dX12_coil_46 : decode cX12_coil 46 = .ok (.iload_n 1, 1) := by decide +kernel
theorem dX12_coil_47 : decode cX12_coil 47 = .ok (.iastore, 1) := by decide +kernel
theorem dX12_coil_48 : decode cX12_coil 48 = .ok (.aload_n 0, 1) := by decide +kernel
theorem dX12_coil_49 : decode cX12_coil 49 = .ok (.getfield 9, 3) := by decide +kernel
theorem dX12_coil_52 : decode cX12_coil 52 = .ok (.iload_n 2, 1) := by decide +kernel
theorem dX12_coil_53 : decode cX12_coil 53 = .ok (.iconst 1, 1) := by decide +kernel
theorem dX12_coil_54 : decode cX12_coil 54 = .ok (.iadd, 1) := by decide +kernel
theorem dX12_coil_55 : decode cX12_coil 55 = .ok (.iconst 0, 1) := by decide +kernel
theorem dX12_coil_56 : decode cX12_coil 56 = .ok (.iastore, 1) := by decide +kernel
theorem dX12_coil_57 : decode cX12_coil 57 = .ok (.aload_n 0, 1) := by decide +kernel
theorem dX12_coil_58 : decode cX12_coil 58 = .ok (.getfield 9, 3) := by decide +kernel
theorem dX12_coil_61 : decode cX12_coil 61 = .ok (.iload_n 2, 1) := by decide +kernel
theorem dX12_coil_62 : decode cX12_coil 62 = .ok (.iconst 2, 1) := by decide +kernel
theorem dX12_coil_63 : decode cX12_coil 63 = .ok (.iadd, 1) := by decide +kernel
theorem dX12_coil_64 : decode cX12_coil 64 = .ok (.iconst (-1), 1) := by decide +kernel
theorem dX12_coil_65 : decode cX12_coil 65 = .ok (.iastore, 1) := by decide +kernel
theorem dX12_coil_66 : decode cX12_coil 66 = .ok (.aload_n 0, 1) := by decide +kernel
theorem dX12_coil_67 : decode cX12_coil 67 = .ok (.getfield 9, 3) := by decide +kernel
theorem dX12_coil_70 : decode cX12_coil 70 = .ok (.bipush 6, 2) := by decide +kernel
theorem dX12_coil_72 : decode cX12_coil 72 = .ok (.dup2, 1) := by decide +kernel
theorem dX12_coil_73 : decode cX12_coil 73 = .ok (.iaload, 1) := by decide +kernel
theorem dX12_coil_74 : decode cX12_coil 74 = .ok (.iconst 1, 1) := by decide +kernel
theorem dX12_coil_75 : decode cX12_coil 75 = .ok (.iadd, 1) := by decide +kernel
theorem dX12_coil_76 : decode cX12_coil 76 = .ok (.iastore, 1) := by decide +kernel
theorem dX12_coil_77 : decode cX12_coil 77 = .ok (.aload_n 0, 1) := by decide +kernel
theorem dX12_coil_78 : decode cX12_coil 78 = .ok (.getfield 9, 3) := by decide +kernel
theorem dX12_coil_81 : decode cX12_coil 81 = .ok (.bipush 6, 2) := by decide +kernel
theorem dX12_coil_83 : decode cX12_coil 83 = .ok (.iaload, 1) := by decide +kernel
theorem dX12_coil_84 : decode cX12_coil 84 = .ok (.iconst 1, 1) := by decide +kernel
theorem dX12_coil_85 : decode cX12_coil 85 = .ok (.isub, 1) := by decide +kernel
theorem dX12_coil_86 : decode cX12_coil 86 = .ok (.ireturn, 1) := by decide +kernel
theorem dX12_isWatched_0 : decode cX12_isWatched 0 = .ok (.iconst 0, 1) := by decide +kernel
theorem dX12_isWatched_1 : decode cX12_isWatched 1 = .ok (.istore_n 3, 1) := by decide +kernel
theorem dX12_isWatched_2 : decode cX12_isWatched 2 = .ok (.iload_n 3, 1) := by decide +kernel
theorem dX12_isWatched_3 : decode cX12_isWatched 3 = .ok (.aload_n 0, 1) := by decide +kernel
theorem dX12_isWatched_4 : decode cX12_isWatched 4 = .ok (.getfield 9, 3) := by decide +kernel
theorem dX12_isWatched_7 : decode cX12_isWatched 7 = .ok (.bipush 7, 2) := by decide +kernel
theorem dX12_isWatched_9 : decode cX12_isWatched 9 = .ok (.iaload, 1) := by decide +kernel
theorem dX12_isWatched_10 : decode cX12_isWatched 10 = .ok (.if_icmp .ge 55, 3) := by decide +kernel
theorem dX12_isWatched_13 : decode cX12_isWatched 13 = .ok (.bipush 31, 2) := by decide +kernel
theorem dX12_isWatched_15 : decode cX12_isWatched 15 = .ok (.iconst 3, 1) := by decide +kernel
theorem dX12_isWatched_16 : decode cX12_isWatched 16 = .ok (.iload_n 3, 1) := by decide +kernel
theorem dX12_isWatched_17 : decode cX12_isWatched 17 = .ok (.imul, 1) := by decide +kernel
theorem dX12_isWatched_18 : decode cX12_isWatched 18 = .ok (.iadd, 1) := by decide +kernel
theorem dX12_isWatched_19 : decode cX12_isWatched 19 = .ok (.istore 4, 2) := by decide +kernel
theorem dX12_isWatched_21 : decode cX12_isWatched 21 = .ok (.aload_n 0, 1) := by decide +kernel
theorem dX12_isWatched_22 : decode cX12_isWatched 22 = .ok (.getfield 9, 3) := by decide +kernel
theorem dX12_isWatched_25 : decode cX12_isWatched 25 = .ok (.iload 4, 2) := by decide +kernel
theorem dX12_isWatched_27 : decode cX12_isWatched 27 = .ok (.iaload, 1) := by decide +kernel
theorem dX12_isWatched_28 : decode cX12_isWatched 28 = .ok (.iload_n 1, 1) := by decide +kernel
theorem dX12_isWatched_29 : decode cX12_isWatched 29 = .ok (.if_icmp .ne 30, 3) := by decide +kernel
theorem dX12_isWatched_32 : decode cX12_isWatched 32 = .ok (.iload_n 2, 1) := by decide +kernel
theorem dX12_isWatched_33 : decode cX12_isWatched 33 = .ok (.aload_n 0, 1) := by decide +kernel
theorem dX12_isWatched_34 : decode cX12_isWatched 34 = .ok (.getfield 9, 3) := by decide +kernel
theorem dX12_isWatched_37 : decode cX12_isWatched 37 = .ok (.iload 4, 2) := by decide +kernel
theorem dX12_isWatched_39 : decode cX12_isWatched 39 = .ok (.iconst 1, 1) := by decide +kernel
theorem dX12_isWatched_40 : decode cX12_isWatched 40 = .ok (.iadd, 1) := by decide +kernel
theorem dX12_isWatched_41 : decode cX12_isWatched 41 = .ok (.iaload, 1) := by decide +kernel
theorem dX12_isWatched_42 : decode cX12_isWatched 42 = .ok (.aload_n 0, 1) := by decide +kernel
theorem dX12_isWatched_43 : decode cX12_isWatched 43 = .ok (.getfield 9, 3) := by decide +kernel
theorem dX12_isWatched_46 : decode cX12_isWatched 46 = .ok (.iload 4, 2) := by decide +kernel
theorem dX12_isWatched_48 : decode cX12_isWatched 48 = .ok (.iconst 2, 1) := by decide +kernel
theorem dX12_isWatched_49 : decode cX12_isWatched 49 = .ok (.iadd, 1) := by decide +kernel
theorem dX12_isWatched_50 : decode cX12_isWatched 50 = .ok (.iaload, 1) := by decide +kernel
theorem dX12_isWatched_51 : decode cX12_isWatched 51 = .ok (.invokestatic 78, 3) := by decide +kernel
theorem dX12_isWatched_54 : decode cX12_isWatched 54 = .ok (.ifCond .eq 5, 3) := by decide +kernel
theorem dX12_isWatched_57 : decode cX12_isWatched 57 = .ok (.iconst 1, 1) := by decide +kernel
theorem dX12_isWatched_58 : decode cX12_isWatched 58 = .ok (.ireturn, 1) := by decide +kernel
theorem dX12_isWatched_59 : decode cX12_isWatched 59 = .ok (.iinc 3 1, 3) := by decide +kernel
theorem dX12_isWatched_62 : decode cX12_isWatched 62 = .ok (.goto (-60), 3) := by decide +kernel
theorem dX12_isWatched_65 : decode cX12_isWatched 65 = .ok (.iconst 0, 1) := by decide +kernel
theorem dX12_isWatched_66 : decode cX12_isWatched 66 = .ok (.ireturn, 1) := by decide +kernel
theorem dX12_seenOn_0 : decode cX12_seenOn 0 = .ok (.iconst 0, 1) := by decide +kernel
theorem dX12_seenOn_1 : decode cX12_seenOn 1 = .ok (.istore_n 2, 1) := by decide +kernel
theorem dX12_seenOn_2 : decode cX12_seenOn 2 = .ok (.iconst 0, 1) := by decide +kernel
theorem dX12_seenOn_3 : decode cX12_seenOn 3 = .ok (.istore_n 3, 1) := by decide +kernel
theorem dX12_seenOn_4 : decode cX12_seenOn 4 = .ok (.iload_n 3, 1) := by decide +kernel
theorem dX12_seenOn_5 : decode cX12_seenOn 5 = .ok (.aload_n 0, 1) := by decide +kernel
theorem dX12_seenOn_6 : decode cX12_seenOn 6 = .ok (.getfield 9, 3) := by decide +kernel
theorem dX12_seenOn_9 : decode cX12_seenOn 9 = .ok (.bipush 6, 2) := by decide +kernel
theorem dX12_seenOn_11 : decode cX12_seenOn 11 = .ok (.iaload, 1) := by decide +kernel
theorem dX12_seenOn_12 : decode cX12_seenOn 12 = .ok (.if_icmp .ge 31, 3) := by decide +kernel
theorem dX12_seenOn_15 : decode cX12_seenOn 15 = .ok (.iload_n 2, 1) := by decide +kernel
theorem dX12_seenOn_16 : decode cX12_seenOn 16 = .ok (.aload_n 0, 1) := by decide +kernel
theorem dX12_seenOn_17 : decode cX12_seenOn 17 = .ok (.iload_n 3, 1) := by decide +kernel
theorem dX12_seenOn_18 : decode cX12_seenOn 18 = .ok (.iload_n 1, 1) := by decide +kernel
theorem dX12_seenOn_19 : decode cX12_seenOn 19 = .ok (.invokevirtual 84, 3) := by decide +kernel
theorem dX12_seenOn_22 : decode cX12_seenOn 22 = .ok (.ifCond .eq 12, 3) := by decide +kernel
theorem dX12_seenOn_25 : decode cX12_seenOn 25 = .ok (.aload_n 0, 1) := by decide +kernel
theorem dX12_seenOn_26 : decode cX12_seenOn 26 = .ok (.iload_n 3, 1) := by decide +kernel
theorem dX12_seenOn_27 : decode cX12_seenOn 27 = .ok (.iconst 0, 1) := by decide +kernel
theorem dX12_seenOn_28 : decode cX12_seenOn 28 = .ok (.invokevirtual 88, 3) := by decide +kernel
theorem dX12_seenOn_31 : decode cX12_seenOn 31 = .ok (.goto 4, 3) := by decide +kernel
theorem dX12_seenOn_34 : decode cX12_seenOn 34 = .ok (.iconst 0, 1) := by decide +kernel
theorem dX12_seenOn_35 : decode cX12_seenOn 35 = .ok (.iadd, 1) := by decide +kernel
theorem dX12_seenOn_36 : decode cX12_seenOn 36 = .ok (.istore_n 2, 1) := by decide +kernel
theorem dX12_seenOn_37 : decode cX12_seenOn 37 = .ok (.iinc 3 1, 3) := by decide +kernel
theorem dX12_seenOn_40 : decode cX12_seenOn 40 = .ok (.goto (-36), 3) := by decide +kernel
theorem dX12_seenOn_43 : decode cX12_seenOn 43 = .ok (.iload_n 2, 1) := by decide +kernel
theorem dX12_seenOn_44 : decode cX12_seenOn 44 = .ok (.ireturn, 1) := by decide +kernel
theorem dX12_watchedMany_0 : decode cX12_watchedMany 0 = .ok (.iconst 0, 1) := by decide +kernel
theorem dX12_watchedMany_1 : decode cX12_watchedMany 1 = .ok (.istore_n 2, 1) := by decide +kernel
theorem dX12_watchedMany_2 : decode cX12_watchedMany 2 = .ok (.iconst 0, 1) := by decide +kernel
theorem dX12_watchedMany_3 : decode cX12_watchedMany 3 = .ok (.istore_n 3, 1) := by decide +kernel
theorem dX12_watchedMany_4 : decode cX12_watchedMany 4 = .ok (.iload_n 3, 1) := by decide +kernel
theorem dX12_watchedMany_5 : decode cX12_watchedMany 5 = .ok (.aload_n 0, 1) := by decide +kernel
theorem dX12_watchedMany_6 : decode cX12_watchedMany 6 = .ok (.getfield 9, 3) := by decide +kernel
theorem dX12_watchedMany_9 : decode cX12_watchedMany 9 = .ok (.bipush 6, 2) := by decide +kernel
theorem dX12_watchedMany_11 : decode cX12_watchedMany 11 = .ok (.iaload, 1) := by decide +kernel
theorem dX12_watchedMany_12 : decode cX12_watchedMany 12 = .ok (.if_icmp .ge 26, 3) := by decide +kernel
theorem dX12_watchedMany_15 : decode cX12_watchedMany 15 = .ok (.iload_n 2, 1) := by decide +kernel
theorem dX12_watchedMany_16 : decode cX12_watchedMany 16 = .ok (.aload_n 0, 1) := by decide +kernel
theorem dX12_watchedMany_17 : decode cX12_watchedMany 17 = .ok (.iload_n 3, 1) := by decide +kernel
theorem dX12_watchedMany_18 : decode cX12_watchedMany 18 = .ok (.iload_n 1, 1) := by decide +kernel
theorem dX12_watchedMany_19 : decode cX12_watchedMany 19 = .ok (.invokevirtual 84, 3) := by decide +kernel
theorem dX12_watchedMany_22 : decode cX12_watchedMany 22 = .ok (.ifCond .eq 7, 3) := by decide +kernel
theorem dX12_watchedMany_25 : decode cX12_watchedMany 25 = .ok (.iconst 1, 1) := by decide +kernel
theorem dX12_watchedMany_26 : decode cX12_watchedMany 26 = .ok (.goto 4, 3) := by decide +kernel
theorem dX12_watchedMany_29 : decode cX12_watchedMany 29 = .ok (.iconst 0, 1) := by decide +kernel
theorem dX12_watchedMany_30 : decode cX12_watchedMany 30 = .ok (.iadd, 1) := by decide +kernel
theorem dX12_watchedMany_31 : decode cX12_watchedMany 31 = .ok (.istore_n 2, 1) := by decide +kernel
theorem dX12_watchedMany_32 : decode cX12_watchedMany 32 = .ok (.iinc 3 1, 3) := by decide +kernel
theorem dX12_watchedMany_35 : decode cX12_watchedMany 35 = .ok (.goto (-31), 3) := by decide +kernel
theorem dX12_watchedMany_38 : decode cX12_watchedMany 38 = .ok (.iload_n 2, 1) := by decide +kernel
theorem dX12_watchedMany_39 : decode cX12_watchedMany 39 = .ok (.ireturn, 1) := by decide +kernel
theorem dX12_watchedOne_0 : decode cX12_watchedOne 0 = .ok (.iload_n 2, 1) := by decide +kernel
theorem dX12_watchedOne_1 : decode cX12_watchedOne 1 = .ok (.istore_n 3, 1) := by decide +kernel
theorem dX12_watchedOne_2 : decode cX12_watchedOne 2 = .ok (.iconst 0, 1) := by decide +kernel
theorem dX12_watchedOne_3 : decode cX12_watchedOne 3 = .ok (.istore 4, 2) := by decide +kernel
theorem dX12_watchedOne_5 : decode cX12_watchedOne 5 = .ok (.aload_n 0, 1) := by decide +kernel
theorem dX12_watchedOne_6 : decode cX12_watchedOne 6 = .ok (.iload 4, 2) := by decide +kernel
theorem dX12_watchedOne_8 : decode cX12_watchedOne 8 = .ok (.iload_n 1, 1) := by decide +kernel
theorem dX12_watchedOne_9 : decode cX12_watchedOne 9 = .ok (.invokevirtual 84, 3) := by decide +kernel
theorem dX12_watchedOne_12 : decode cX12_watchedOne 12 = .ok (.ifCond .eq 7, 3) := by decide +kernel
theorem dX12_watchedOne_15 : decode cX12_watchedOne 15 = .ok (.iload_n 3, 1) := by decide +kernel
theorem dX12_watchedOne_16 : decode cX12_watchedOne 16 = .ok (.ifCond .le 27, 3) := by decide +kernel
theorem dX12_watchedOne_19 : decode cX12_watchedOne 19 = .ok (.iload_n 3, 1) := by decide +kernel
theorem dX12_watchedOne_20 : decode cX12_watchedOne 20 = .ok (.aload_n 0, 1) := by decide +kernel
theorem dX12_watchedOne_21 : decode cX12_watchedOne 21 = .ok (.iload 4, 2) := by decide +kernel
theorem dX12_watchedOne_23 : decode cX12_watchedOne 23 = .ok (.iload_n 1, 1) := by decide +kernel
theorem dX12_watchedOne_24 : decode cX12_watchedOne 24 = .ok (.invokevirtual 84, 3) := by decide +kernel
theorem dX12_watchedOne_27 : decode cX12_watchedOne 27 = .ok (.ifCond .eq 7, 3) := by decide +kernel
theorem dX12_watchedOne_30 : decode cX12_watchedOne 30 = .ok (.iconst 1, 1) := by decide +kernel
theorem dX12_watchedOne_31 : decode cX12_watchedOne 31 = .ok (.goto 4, 3) := by decide +kernel
theorem dX12_watchedOne_34 : decode cX12_watchedOne 34 = .ok (.iconst 0, 1) := by decide +kernel
theorem dX12_watchedOne_35 : decode cX12_watchedOne 35 = .ok (.isub, 1) := by decide +kernel
theorem dX12_watchedOne_36 : decode cX12_watchedOne 36 = .ok (.istore_n 3, 1) := by decide +kernel
theorem dX12_watchedOne_37 : decode cX12_watchedOne 37 = .ok (.iinc 4 1, 3) := by decide +kernel
theorem dX12_watchedOne_40 : decode cX12_watchedOne 40 = .ok (.goto (-35), 3) := by decide +kernel
theorem dX12_watchedOne_43 : decode cX12_watchedOne 43 = .ok (.iload 4, 2) := by decide +kernel
theorem dX12_watchedOne_45 : decode cX12_watchedOne 45 = .ok (.ireturn, 1) := by decide +kernel
theorem dX12_coilTold_0 : decode cX12_coilTold 0 = .ok (.aload_n 0, 1) := by decide +kernel
theorem dX12_coilTold_1 : decode cX12_coilTold 1 = .ok (.iload_n 1, 1) := by decide +kernel
theorem dX12_coilTold_2 : decode cX12_coilTold 2 = .ok (.invokevirtual 92, 3) := by decide +kernel
theorem dX12_coilTold_5 : decode cX12_coilTold 5 = .ok (.ifCond .eq 12, 3) := by decide +kernel
theorem dX12_coilTold_8 : decode cX12_coilTold 8 = .ok (.iload_n 2, 1) := by decide +kernel
theorem dX12_coilTold_9 : decode cX12_coilTold 9 = .ok (.iconst 0, 1) := by decide +kernel
theorem dX12_coilTold_10 : decode cX12_coilTold 10 = .ok (.iconst 4, 1) := by decide +kernel
theorem dX12_coilTold_11 : decode cX12_coilTold 11 = .ok (.invokestatic 78, 3) := by decide +kernel
theorem dX12_coilTold_14 : decode cX12_coilTold 14 = .ok (.ifCond .ne 6, 3) := by decide +kernel
theorem dX12_coilTold_17 : decode cX12_coilTold 17 = .ok (.ldc 82, 2) := by decide +kernel
theorem dX12_coilTold_19 : decode cX12_coilTold 19 = .ok (.ireturn, 1) := by decide +kernel
theorem dX12_coilTold_20 : decode cX12_coilTold 20 = .ok (.iload_n 2, 1) := by decide +kernel
theorem dX12_coilTold_21 : decode cX12_coilTold 21 = .ok (.tableswitch 112 2 4 #[27, 48, 68], 27) := by decide +kernel
theorem dX12_coilTold_48 : decode cX12_coilTold 48 = .ok (.aload_n 0, 1) := by decide +kernel
theorem dX12_coilTold_49 : decode cX12_coilTold 49 = .ok (.iload_n 1, 1) := by decide +kernel
theorem dX12_coilTold_50 : decode cX12_coilTold 50 = .ok (.iconst 2, 1) := by decide +kernel
theorem dX12_coilTold_51 : decode cX12_coilTold 51 = .ok (.invokevirtual 88, 3) := by decide +kernel
theorem dX12_coilTold_54 : decode cX12_coilTold 54 = .ok (.ifCond .ge 8, 3) := by decide +kernel
theorem dX12_coilTold_57 : decode cX12_coilTold 57 = .ok (.ldc 96, 2) := by decide +kernel
theorem dX12_coilTold_59 : decode cX12_coilTold 59 = .ok (.goto 9, 3) := by decide +kernel
theorem dX12_coilTold_62 : decode cX12_coilTold 62 = .ok (.aload_n 0, 1) := by decide +kernel
theorem dX12_coilTold_63 : decode cX12_coilTold 63 = .ok (.iload_n 1, 1) := by decide +kernel
theorem dX12_coilTold_64 : decode cX12_coilTold 64 = .ok (.iconst 2, 1) := by decide +kernel
theorem dX12_coilTold_65 : decode cX12_coilTold 65 = .ok (.invokevirtual 88, 3) := by decide +kernel
theorem dX12_coilTold_68 : decode cX12_coilTold 68 = .ok (.ireturn, 1) := by decide +kernel
theorem dX12_coilTold_69 : decode cX12_coilTold 69 = .ok (.aload_n 0, 1) := by decide +kernel
theorem dX12_coilTold_70 : decode cX12_coilTold 70 = .ok (.iload_n 1, 1) := by decide +kernel
theorem dX12_coilTold_71 : decode cX12_coilTold 71 = .ok (.aload_n 0, 1) := by decide +kernel
theorem dX12_coilTold_72 : decode cX12_coilTold 72 = .ok (.getfield 9, 3) := by decide +kernel
theorem dX12_coilTold_75 : decode cX12_coilTold 75 = .ok (.iconst 1, 1) := by decide +kernel
theorem dX12_coilTold_76 : decode cX12_coilTold 76 = .ok (.iaload, 1) := by decide +kernel
theorem dX12_coilTold_77 : decode cX12_coilTold 77 = .ok (.invokevirtual 84, 3) := by decide +kernel
theorem dX12_coilTold_80 : decode cX12_coilTold 80 = .ok (.ifCond .eq 7, 3) := by decide +kernel
theorem dX12_coilTold_83 : decode cX12_coilTold 83 = .ok (.iconst 1, 1) := by decide +kernel
theorem dX12_coilTold_84 : decode cX12_coilTold 84 = .ok (.goto 4, 3) := by decide +kernel
theorem dX12_coilTold_87 : decode cX12_coilTold 87 = .ok (.iconst 0, 1) := by decide +kernel
theorem dX12_coilTold_88 : decode cX12_coilTold 88 = .ok (.ireturn, 1) := by decide +kernel
theorem dX12_coilTold_89 : decode cX12_coilTold 89 = .ok (.iconst 0, 1) := by decide +kernel
theorem dX12_coilTold_90 : decode cX12_coilTold 90 = .ok (.istore_n 3, 1) := by decide +kernel
theorem dX12_coilTold_91 : decode cX12_coilTold 91 = .ok (.iconst 0, 1) := by decide +kernel
theorem dX12_coilTold_92 : decode cX12_coilTold 92 = .ok (.istore 4, 2) := by decide +kernel
theorem dX12_coilTold_94 : decode cX12_coilTold 94 = .ok (.iload 4, 2) := by decide +kernel
theorem dX12_coilTold_96 : decode cX12_coilTold 96 = .ok (.aload_n 0, 1) := by decide +kernel
theorem dX12_coilTold_97 : decode cX12_coilTold 97 = .ok (.getfield 9, 3) := by decide +kernel
theorem dX12_coilTold_100 : decode cX12_coilTold 100 = .ok (.bipush 8, 2) := by decide +kernel
theorem dX12_coilTold_102 : decode cX12_coilTold 102 = .ok (.iaload, 1) := by decide +kernel
theorem dX12_coilTold_103 : decode cX12_coilTold 103 = .ok (.if_icmp .ge 28, 3) := by decide +kernel
theorem dX12_coilTold_106 : decode cX12_coilTold 106 = .ok (.iload_n 3, 1) := by decide +kernel
theorem dX12_coilTold_107 : decode cX12_coilTold 107 = .ok (.aload_n 0, 1) := by decide +kernel
theorem dX12_coilTold_108 : decode cX12_coilTold 108 = .ok (.iload 4, 2) := by decide +kernel
theorem dX12_coilTold_110 : decode cX12_coilTold 110 = .ok (.iconst 1, 1) := by decide +kernel
theorem dX12_coilTold_111 : decode cX12_coilTold 111 = .ok (.invokevirtual 97, 3) := by decide +kernel
theorem dX12_coilTold_114 : decode cX12_coilTold 114 = .ok (.iload_n 1, 1) := by decide +kernel
theorem dX12_coilTold_115 : decode cX12_coilTold 115 = .ok (.if_icmp .ne 7, 3) := by decide +kernel
theorem dX12_coilTold_118 : decode cX12_coilTold 118 = .ok (.iconst 1, 1) := by decide +kernel
theorem dX12_coilTold_119 : decode cX12_coilTold 119 = .ok (.goto 4, 3) := by decide +kernel
theorem dX12_coilTold_122 : decode cX12_coilTold 122 = .ok (.iconst 0, 1) := by decide +kernel
theorem dX12_coilTold_123 : decode cX12_coilTold 123 = .ok (.iadd, 1) := by decide +kernel
theorem dX12_coilTold_124 : decode cX12_coilTold 124 = .ok (.istore_n 3, 1) := by decide +kernel
theorem dX12_coilTold_125 : decode cX12_coilTold 125 = .ok (.iinc 4 1, 3) := by decide +kernel
theorem dX12_coilTold_128 : decode cX12_coilTold 128 = .ok (.goto (-34), 3) := by decide +kernel
theorem dX12_coilTold_131 : decode cX12_coilTold 131 = .ok (.iload_n 3, 1) := by decide +kernel
theorem dX12_coilTold_132 : decode cX12_coilTold 132 = .ok (.ireturn, 1) := by decide +kernel
theorem dX12_coilTold_133 : decode cX12_coilTold 133 = .ok (.aload_n 0, 1) := by decide +kernel
theorem dX12_coilTold_134 : decode cX12_coilTold 134 = .ok (.iload_n 1, 1) := by decide +kernel
theorem dX12_coilTold_135 : decode cX12_coilTold 135 = .ok (.iload_n 2, 1) := by decide +kernel
theorem dX12_coilTold_136 : decode cX12_coilTold 136 = .ok (.invokevirtual 88, 3) := by decide +kernel
theorem dX12_coilTold_139 : decode cX12_coilTold 139 = .ok (.ireturn, 1) := by decide +kernel
theorem dX12_creep_0 : decode cX12_creep 0 = .ok (.aload_n 0, 1) := by decide +kernel
theorem dX12_creep_1 : decode cX12_creep 1 = .ok (.iload_n 1, 1) := by decide +kernel
theorem dX12_creep_2 : decode cX12_creep 2 = .ok (.invokevirtual 92, 3) := by decide +kernel
theorem dX12_creep_5 : decode cX12_creep 5 = .ok (.ifCond .eq 14, 3) := by decide +kernel
theorem dX12_creep_8 : decode cX12_creep 8 = .ok (.iload_n 2, 1) := by decide +kernel
theorem dX12_creep_9 : decode cX12_creep 9 = .ok (.bipush (-9), 2) := by decide +kernel
theorem dX12_creep_11 : decode cX12_creep 11 = .ok (.bipush 9, 2) := by decide +kernel
theorem dX12_creep_13 : decode cX12_creep 13 = .ok (.invokestatic 78, 3) := by decide +kernel
theorem dX12_creep_16 : decode cX12_creep 16 = .ok (.ifCond .ne 6, 3) := by decide +kernel
theorem dX12_creep_19 : decode cX12_creep 19 = .ok (.ldc 82, 2) := by decide +kernel
theorem dX12_creep_21 : decode cX12_creep 21 = .ok (.ireturn, 1) := by decide +kernel
theorem dX12_creep_22 : decode cX12_creep 22 = .ok (.aload_n 0, 1) := by decide +kernel
theorem dX12_creep_23 : decode cX12_creep 23 = .ok (.iload_n 1, 1) := by decide +kernel
theorem dX12_creep_24 : decode cX12_creep 24 = .ok (.iconst 1, 1) := by decide +kernel
theorem dX12_creep_25 : decode cX12_creep 25 = .ok (.invokevirtual 88, 3) := by decide +kernel
theorem dX12_creep_28 : decode cX12_creep 28 = .ok (.istore_n 3, 1) := by decide +kernel
theorem dX12_creep_29 : decode cX12_creep 29 = .ok (.aload_n 0, 1) := by decide +kernel
theorem dX12_creep_30 : decode cX12_creep 30 = .ok (.getfield 9, 3) := by decide +kernel
theorem dX12_creep_33 : decode cX12_creep 33 = .ok (.bipush 13, 2) := by decide +kernel
theorem dX12_creep_35 : decode cX12_creep 35 = .ok (.iconst 3, 1) := by decide +kernel
theorem dX12_creep_36 : decode cX12_creep 36 = .ok (.iload_n 1, 1) := by decide +kernel
theorem dX12_creep_37 : decode cX12_creep 37 = .ok (.imul, 1) := by decide +kernel
theorem dX12_creep_38 : decode cX12_creep 38 = .ok (.iadd, 1) := by decide +kernel
theorem dX12_creep_39 : decode cX12_creep 39 = .ok (.iconst 1, 1) := by decide +kernel
theorem dX12_creep_40 : decode cX12_creep 40 = .ok (.iadd, 1) := by decide +kernel
theorem dX12_creep_41 : decode cX12_creep 41 = .ok (.iload_n 2, 1) := by decide +kernel
theorem dX12_creep_42 : decode cX12_creep 42 = .ok (.iastore, 1) := by decide +kernel
theorem dX12_creep_43 : decode cX12_creep 43 = .ok (.iload_n 3, 1) := by decide +kernel
theorem dX12_creep_44 : decode cX12_creep 44 = .ok (.ireturn, 1) := by decide +kernel
theorem dX12_pair_0 : decode cX12_pair 0 = .ok (.aload_n 0, 1) := by decide +kernel
theorem dX12_pair_1 : decode cX12_pair 1 = .ok (.iload_n 1, 1) := by decide +kernel
theorem dX12_pair_2 : decode cX12_pair 2 = .ok (.invokevirtual 92, 3) := by decide +kernel
theorem dX12_pair_5 : decode cX12_pair 5 = .ok (.ifCond .eq 16, 3) := by decide +kernel
theorem dX12_pair_8 : decode cX12_pair 8 = .ok (.aload_n 0, 1) := by decide +kernel
theorem dX12_pair_9 : decode cX12_pair 9 = .ok (.iload_n 2, 1) := by decide +kernel
theorem dX12_pair_10 : decode cX12_pair 10 = .ok (.invokevirtual 92, 3) := by decide +kernel
theorem dX12_pair_13 : decode cX12_pair 13 = .ok (.ifCond .eq 8, 3) := by decide +kernel
theorem dX12_pair_16 : decode cX12_pair 16 = .ok (.iload_n 1, 1) := by decide +kernel
theorem dX12_pair_17 : decode cX12_pair 17 = .ok (.iload_n 2, 1) := by decide +kernel
theorem dX12_pair_18 : decode cX12_pair 18 = .ok (.if_icmp .ne 6, 3) := by decide +kernel
theorem dX12_pair_21 : decode cX12_pair 21 = .ok (.ldc 82, 2) := by decide +kernel
theorem dX12_pair_23 : decode cX12_pair 23 = .ok (.ireturn, 1) := by decide +kernel
theorem dX12_pair_24 : decode cX12_pair 24 = .ok (.aload_n 0, 1) := by decide +kernel
theorem dX12_pair_25 : decode cX12_pair 25 = .ok (.iload_n 1, 1) := by decide +kernel
theorem dX12_pair_26 : decode cX12_pair 26 = .ok (.iconst 2, 1) := by decide +kernel
theorem dX12_pair_27 : decode cX12_pair 27 = .ok (.invokevirtual 88, 3) := by decide +kernel
theorem dX12_pair_30 : decode cX12_pair 30 = .ok (.ifCond .ge 12, 3) := by decide +kernel
theorem dX12_pair_33 : decode cX12_pair 33 = .ok (.aload_n 0, 1) := by decide +kernel
theorem dX12_pair_34 : decode cX12_pair 34 = .ok (.iload_n 2, 1) := by decide +kernel
theorem dX12_pair_35 : decode cX12_pair 35 = .ok (.iconst 2, 1) := by decide +kernel
theorem dX12_pair_36 : decode cX12_pair 36 = .ok (.invokevirtual 88, 3) := by decide +kernel
theorem dX12_pair_39 : decode cX12_pair 39 = .ok (.ifCond .lt 6, 3) := by decide +kernel
theorem dX12_pair_42 : decode cX12_pair 42 = .ok (.ldc 100, 2) := by decide +kernel
theorem dX12_pair_44 : decode cX12_pair 44 = .ok (.ireturn, 1) := by decide +kernel
theorem dX12_pair_45 : decode cX12_pair 45 = .ok (.aload_n 0, 1) := by decide +kernel
theorem dX12_pair_46 : decode cX12_pair 46 = .ok (.getfield 9, 3) := by decide +kernel
theorem dX12_pair_49 : decode cX12_pair 49 = .ok (.bipush 13, 2) := by decide +kernel
theorem dX12_pair_51 : decode cX12_pair 51 = .ok (.iconst 3, 1) := by decide +kernel
theorem dX12_pair_52 : decode cX12_pair 52 = .ok (.iload_n 1, 1) := by decide +kernel
theorem dX12_pair_53 : decode cX12_pair 53 = .ok (.imul, 1) := by decide +kernel
theorem dX12_pair_54 : decode cX12_pair 54 = .ok (.iadd, 1) := by decide +kernel
theorem dX12_pair_55 : decode cX12_pair 55 = .ok (.iconst 2, 1) := by decide +kernel
theorem dX12_pair_56 : decode cX12_pair 56 = .ok (.iadd, 1) := by decide +kernel
theorem dX12_pair_57 : decode cX12_pair 57 = .ok (.iload_n 2, 1) := by decide +kernel
theorem dX12_pair_58 : decode cX12_pair 58 = .ok (.iastore, 1) := by decide +kernel
theorem dX12_pair_59 : decode cX12_pair 59 = .ok (.aload_n 0, 1) := by decide +kernel
theorem dX12_pair_60 : decode cX12_pair 60 = .ok (.getfield 9, 3) := by decide +kernel
theorem dX12_pair_63 : decode cX12_pair 63 = .ok (.bipush 13, 2) := by decide +kernel
theorem dX12_pair_65 : decode cX12_pair 65 = .ok (.iconst 3, 1) := by decide +kernel
theorem dX12_pair_66 : decode cX12_pair 66 = .ok (.iload_n 2, 1) := by decide +kernel
theorem dX12_pair_67 : decode cX12_pair 67 = .ok (.imul, 1) := by decide +kernel
theorem dX12_pair_68 : decode cX12_pair 68 = .ok (.iadd, 1) := by decide +kernel
theorem dX12_pair_69 : decode cX12_pair 69 = .ok (.iconst 2, 1) := by decide +kernel
theorem dX12_pair_70 : decode cX12_pair 70 = .ok (.iadd, 1) := by decide +kernel
theorem dX12_pair_71 : decode cX12_pair 71 = .ok (.iload_n 1, 1) := by decide +kernel
theorem dX12_pair_72 : decode cX12_pair 72 = .ok (.iastore, 1) := by decide +kernel
theorem dX12_pair_73 : decode cX12_pair 73 = .ok (.iconst 1, 1) := by decide +kernel
theorem dX12_pair_74 : decode cX12_pair 74 = .ok (.ireturn, 1) := by decide +kernel
theorem dX12_part_0 : decode cX12_part 0 = .ok (.aload_n 0, 1) := by decide +kernel
theorem dX12_part_1 : decode cX12_part 1 = .ok (.iload_n 1, 1) := by decide +kernel
theorem dX12_part_2 : decode cX12_part 2 = .ok (.invokevirtual 92, 3) := by decide +kernel
theorem dX12_part_5 : decode cX12_part 5 = .ok (.ifCond .ne 6, 3) := by decide +kernel
theorem dX12_part_8 : decode cX12_part 8 = .ok (.ldc 82, 2) := by decide +kernel
theorem dX12_part_10 : decode cX12_part 10 = .ok (.ireturn, 1) := by decide +kernel
theorem dX12_part_11 : decode cX12_part 11 = .ok (.aload_n 0, 1) := by decide +kernel
theorem dX12_part_12 : decode cX12_part 12 = .ok (.iload_n 1, 1) := by decide +kernel
theorem dX12_part_13 : decode cX12_part 13 = .ok (.iconst 2, 1) := by decide +kernel
theorem dX12_part_14 : decode cX12_part 14 = .ok (.invokevirtual 88, 3) := by decide +kernel
theorem dX12_part_17 : decode cX12_part 17 = .ok (.istore_n 2, 1) := by decide +kernel
theorem dX12_part_18 : decode cX12_part 18 = .ok (.iload_n 2, 1) := by decide +kernel
theorem dX12_part_19 : decode cX12_part 19 = .ok (.ifCond .ge 6, 3) := by decide +kernel
theorem dX12_part_22 : decode cX12_part 22 = .ok (.ldc 100, 2) := by decide +kernel
theorem dX12_part_24 : decode cX12_part 24 = .ok (.ireturn, 1) := by decide +kernel
theorem dX12_part_25 : decode cX12_part 25 = .ok (.aload_n 0, 1) := by decide +kernel
theorem dX12_part_26 : decode cX12_part 26 = .ok (.getfield 9, 3) := by decide +kernel
theorem dX12_part_29 : decode cX12_part 29 = .ok (.bipush 13, 2) := by decide +kernel
theorem dX12_part_31 : decode cX12_part 31 = .ok (.iconst 3, 1) := by decide +kernel
theorem dX12_part_32 : decode cX12_part 32 = .ok (.iload_n 1, 1) := by decide +kernel
theorem dX12_part_33 : decode cX12_part 33 = .ok (.imul, 1) := by decide +kernel
theorem dX12_part_34 : decode cX12_part 34 = .ok (.iadd, 1) := by decide +kernel
theorem dX12_part_35 : decode cX12_part 35 = .ok (.iconst 2, 1) := by decide +kernel
theorem dX12_part_36 : decode cX12_part 36 = .ok (.iadd, 1) := by decide +kernel
theorem dX12_part_37 : decode cX12_part 37 = .ok (.iconst (-1), 1) := by decide +kernel
theorem dX12_part_38 : decode cX12_part 38 = .ok (.iastore, 1) := by decide +kernel
theorem dX12_part_39 : decode cX12_part 39 = .ok (.aload_n 0, 1) := by decide +kernel
theorem dX12_part_40 : decode cX12_part 40 = .ok (.getfield 9, 3) := by decide +kernel
theorem dX12_part_43 : decode cX12_part 43 = .ok (.bipush 13, 2) := by decide +kernel
theorem dX12_part_45 : decode cX12_part 45 = .ok (.iconst 3, 1) := by decide +kernel
theorem dX12_part_46 : decode cX12_part 46 = .ok (.iload_n 2, 1) := by decide +kernel
theorem dX12_part_47 : decode cX12_part 47 = .ok (.imul, 1) := by decide +kernel
theorem dX12_part_48 : decode cX12_part 48 = .ok (.iadd, 1) := by decide +kernel
theorem dX12_part_49 : decode cX12_part 49 = .ok (.iconst 2, 1) := by decide +kernel
theorem dX12_part_50 : decode cX12_part 50 = .ok (.iadd, 1) := by decide +kernel
theorem dX12_part_51 : decode cX12_part 51 = .ok (.iconst (-1), 1) := by decide +kernel
theorem dX12_part_52 : decode cX12_part 52 = .ok (.iastore, 1) := by decide +kernel
theorem dX12_part_53 : decode cX12_part 53 = .ok (.iload_n 2, 1) := by decide +kernel
theorem dX12_part_54 : decode cX12_part 54 = .ok (.ireturn, 1) := by decide +kernel
theorem dX12_isSpan_0 : decode cX12_isSpan 0 = .ok (.iload_n 0, 1) := by decide +kernel
theorem dX12_isSpan_1 : decode cX12_isSpan 1 = .ok (.invokestatic 101, 3) := by decide +kernel
theorem dX12_isSpan_4 : decode cX12_isSpan 4 = .ok (.ifCond .eq 19, 3) := by decide +kernel
theorem dX12_isSpan_7 : decode cX12_isSpan 7 = .ok (.iload_n 1, 1) := by decide +kernel
theorem dX12_isSpan_8 : decode cX12_isSpan 8 = .ok (.invokestatic 101, 3) := by decide +kernel
theorem dX12_isSpan_11 : decode cX12_isSpan 11 = .ok (.ifCond .eq 12, 3) := by decide +kernel
theorem dX12_isSpan_14 : decode cX12_isSpan 14 = .ok (.iload_n 1, 1) := by decide +kernel
theorem dX12_isSpan_15 : decode cX12_isSpan 15 = .ok (.iload_n 0, 1) := by decide +kernel
theorem dX12_isSpan_16 : decode cX12_isSpan 16 = .ok (.if_icmp .lt 7, 3) := by decide +kernel
theorem dX12_isSpan_19 : decode cX12_isSpan 19 = .ok (.iconst 1, 1) := by decide +kernel
theorem dX12_isSpan_20 : decode cX12_isSpan 20 = .ok (.goto 4, 3) := by decide +kernel
theorem dX12_isSpan_23 : decode cX12_isSpan 23 = .ok (.iconst 0, 1) := by decide +kernel
theorem dX12_isSpan_24 : decode cX12_isSpan 24 = .ok (.ireturn, 1) := by decide +kernel
theorem dX12_watch_0 : decode cX12_watch 0 = .ok (.aload_n 0, 1) := by decide +kernel
theorem dX12_watch_1 : decode cX12_watch 1 = .ok (.iload_n 1, 1) := by decide +kernel
theorem dX12_watch_2 : decode cX12_watch 2 = .ok (.invokevirtual 92, 3) := by decide +kernel
theorem dX12_watch_5 : decode cX12_watch 5 = .ok (.ifCond .eq 11, 3) := by decide +kernel
theorem dX12_watch_8 : decode cX12_watch 8 = .ok (.iload_n 2, 1) := by decide +kernel
theorem dX12_watch_9 : decode cX12_watch 9 = .ok (.iload_n 3, 1) := by decide +kernel
theorem dX12_watch_10 : decode cX12_watch 10 = .ok (.invokestatic 104, 3) := by decide +kernel
theorem dX12_watch_13 : decode cX12_watch 13 = .ok (.ifCond .ne 6, 3) := by decide +kernel
theorem dX12_watch_16 : decode cX12_watch 16 = .ok (.ldc 82, 2) := by decide +kernel
theorem dX12_watch_18 : decode cX12_watch 18 = .ok (.ireturn, 1) := by decide +kernel
theorem dX12_watch_19 : decode cX12_watch 19 = .ok (.aload_n 0, 1) := by decide +kernel
theorem dX12_watch_20 : decode cX12_watch 20 = .ok (.getfield 9, 3) := by decide +kernel
theorem dX12_watch_23 : decode cX12_watch 23 = .ok (.bipush 7, 2) := by decide +kernel
theorem dX12_watch_25 : decode cX12_watch 25 = .ok (.iaload, 1) := by decide +kernel
theorem dX12_watch_26 : decode cX12_watch 26 = .ok (.bipush 20, 2) := by decide +kernel
theorem dX12_watch_28 : decode cX12_watch 28 = .ok (.if_icmp .ne 6, 3) := by decide +kernel
theorem dX12_watch_31 : decode cX12_watch 31 = .ok (.ldc 83, 2) := by decide +kernel
theorem dX12_watch_33 : decode cX12_watch 33 = .ok (.ireturn, 1) := by decide +kernel
theorem dX12_watch_34 : decode cX12_watch 34 = .ok (.bipush 31, 2) := by decide +kernel
theorem dX12_watch_36 : decode cX12_watch 36 = .ok (.iconst 3, 1) := by decide +kernel
theorem dX12_watch_37 : decode cX12_watch 37 = .ok (.aload_n 0, 1) := by decide +kernel
theorem dX12_watch_38 : decode cX12_watch 38 = .ok (.getfield 9, 3) := by decide +kernel
theorem dX12_watch_41 : decode cX12_watch 41 = .ok (.bipush 7, 2) := by decide +kernel
theorem dX12_watch_43 : decode cX12_watch 43 = .ok (.iaload, 1) := by decide +kernel
theorem dX12_watch_44 : decode cX12_watch 44 = .ok (.imul, 1) := by decide +kernel
theorem dX12_watch_45 : decode cX12_watch 45 = .ok (.iadd, 1) := by decide +kernel
theorem dX12_watch_46 : decode cX12_watch 46 = .ok (.istore 4, 2) := by decide +kernel
theorem dX12_watch_48 : decode cX12_watch 48 = .ok (.aload_n 0, 1) := by decide +kernel
theorem dX12_watch_49 : decode cX12_watch 49 = .ok (.getfield 9, 3) := by decide +kernel
theorem dX12_watch_52 : decode cX12_watch 52 = .ok (.iload 4, 2) := by decide +kernel
theorem dX12_watch_54 : decode cX12_watch 54 = .ok (.iload_n 1, 1) := by decide +kernel
theorem dX12_watch_55 : decode cX12_watch 55 = .ok (.iastore, 1) := by decide +kernel
theorem dX12_watch_56 : decode cX12_watch 56 = .ok (.aload_n 0, 1) := by decide +kernel
theorem dX12_watch_57 : decode cX12_watch 57 = .ok (.getfield 9, 3) := by decide +kernel
theorem dX12_watch_60 : decode cX12_watch 60 = .ok (.iload 4, 2) := by decide +kernel
theorem dX12_watch_62 : decode cX12_watch 62 = .ok (.iconst 1, 1) := by decide +kernel
theorem dX12_watch_63 : decode cX12_watch 63 = .ok (.iadd, 1) := by decide +kernel
theorem dX12_watch_64 : decode cX12_watch 64 = .ok (.iload_n 2, 1) := by decide +kernel
theorem dX12_watch_65 : decode cX12_watch 65 = .ok (.iastore, 1) := by decide +kernel
theorem dX12_watch_66 : decode cX12_watch 66 = .ok (.aload_n 0, 1) := by decide +kernel
theorem dX12_watch_67 : decode cX12_watch 67 = .ok (.getfield 9, 3) := by decide +kernel
theorem dX12_watch_70 : decode cX12_watch 70 = .ok (.iload 4, 2) := by decide +kernel
theorem dX12_watch_72 : decode cX12_watch 72 = .ok (.iconst 2, 1) := by decide +kernel
theorem dX12_watch_73 : decode cX12_watch 73 = .ok (.iadd, 1) := by decide +kernel
theorem dX12_watch_74 : decode cX12_watch 74 = .ok (.iload_n 3, 1) := by decide +kernel
theorem dX12_watch_75 : decode cX12_watch 75 = .ok (.iastore, 1) := by decide +kernel
theorem dX12_watch_76 : decode cX12_watch 76 = .ok (.aload_n 0, 1) := by decide +kernel
theorem dX12_watch_77 : decode cX12_watch 77 = .ok (.getfield 9, 3) := by decide +kernel
theorem dX12_watch_80 : decode cX12_watch 80 = .ok (.bipush 7, 2) := by decide +kernel
theorem dX12_watch_82 : decode cX12_watch 82 = .ok (.dup2, 1) := by decide +kernel
theorem dX12_watch_83 : decode cX12_watch 83 = .ok (.iaload, 1) := by decide +kernel
theorem dX12_watch_84 : decode cX12_watch 84 = .ok (.iconst 1, 1) := by decide +kernel
theorem dX12_watch_85 : decode cX12_watch 85 = .ok (.iadd, 1) := by decide +kernel
theorem dX12_watch_86 : decode cX12_watch 86 = .ok (.iastore, 1) := by decide +kernel
theorem dX12_watch_87 : decode cX12_watch 87 = .ok (.aload_n 0, 1) := by decide +kernel
theorem dX12_watch_88 : decode cX12_watch 88 = .ok (.getfield 9, 3) := by decide +kernel
theorem dX12_watch_91 : decode cX12_watch 91 = .ok (.bipush 7, 2) := by decide +kernel
theorem dX12_watch_93 : decode cX12_watch 93 = .ok (.iaload, 1) := by decide +kernel
theorem dX12_watch_94 : decode cX12_watch 94 = .ok (.iconst 1, 1) := by decide +kernel
theorem dX12_watch_95 : decode cX12_watch 95 = .ok (.isub, 1) := by decide +kernel
theorem dX12_watch_96 : decode cX12_watch 96 = .ok (.ireturn, 1) := by decide +kernel
theorem dX12_seen_0 : decode cX12_seen 0 = .ok (.iload_n 1, 1) := by decide +kernel
theorem dX12_seen_1 : decode cX12_seen 1 = .ok (.invokestatic 101, 3) := by decide +kernel
theorem dX12_seen_4 : decode cX12_seen 4 = .ok (.ifCond .eq 11, 3) := by decide +kernel
theorem dX12_seen_7 : decode cX12_seen 7 = .ok (.aload_n 0, 1) := by decide +kernel
theorem dX12_seen_8 : decode cX12_seen 8 = .ok (.iload_n 1, 1) := by decide +kernel
theorem dX12_seen_9 : decode cX12_seen 9 = .ok (.invokevirtual 107, 3) := by decide +kernel
theorem dX12_seen_12 : decode cX12_seen 12 = .ok (.goto 5, 3) := by decide +kernel
theorem dX12_seen_15 : decode cX12_seen 15 = .ok (.ldc 82, 2) := by decide +kernel
theorem dX12_seen_17 : decode cX12_seen 17 = .ok (.ireturn, 1) := by decide +kernel
theorem dX12_lineOf_0 : decode cX12_lineOf 0 = .ok (.aload_n 0, 1) := by decide +kernel
theorem dX12_lineOf_1 : decode cX12_lineOf 1 = .ok (.iload_n 1, 1) := by decide +kernel
theorem dX12_lineOf_2 : decode cX12_lineOf 2 = .ok (.iconst 1, 1) := by decide +kernel
theorem dX12_lineOf_3 : decode cX12_lineOf 3 = .ok (.invokevirtual 88, 3) := by decide +kernel
theorem dX12_lineOf_6 : decode cX12_lineOf 6 = .ok (.iload_n 2, 1) := by decide +kernel
theorem dX12_lineOf_7 : decode cX12_lineOf 7 = .ok (.imul, 1) := by decide +kernel
theorem dX12_lineOf_8 : decode cX12_lineOf 8 = .ok (.istore_n 3, 1) := by decide +kernel
theorem dX12_lineOf_9 : decode cX12_lineOf 9 = .ok (.iconst 0, 1) := by decide +kernel
theorem dX12_lineOf_10 : decode cX12_lineOf 10 = .ok (.istore 4, 2) := by decide +kernel
theorem dX12_lineOf_12 : decode cX12_lineOf 12 = .ok (.iload 4, 2) := by decide +kernel
theorem dX12_lineOf_14 : decode cX12_lineOf 14 = .ok (.aload_n 0, 1) := by decide +kernel
theorem dX12_lineOf_15 : decode cX12_lineOf 15 = .ok (.getfield 9, 3) := by decide +kernel
theorem dX12_lineOf_18 : decode cX12_lineOf 18 = .ok (.bipush 8, 2) := by decide +kernel
theorem dX12_lineOf_20 : decode cX12_lineOf 20 = .ok (.iaload, 1) := by decide +kernel
theorem dX12_lineOf_21 : decode cX12_lineOf 21 = .ok (.if_icmp .ge 45, 3) := by decide +kernel
theorem dX12_lineOf_24 : decode cX12_lineOf 24 = .ok (.iload_n 3, 1) := by decide +kernel
theorem dX12_lineOf_25 : decode cX12_lineOf 25 = .ok (.aload_n 0, 1) := by decide +kernel
theorem dX12_lineOf_26 : decode cX12_lineOf 26 = .ok (.iload 4, 2) := by decide +kernel
theorem dX12_lineOf_28 : decode cX12_lineOf 28 = .ok (.iconst 1, 1) := by decide +kernel
theorem dX12_lineOf_29 : decode cX12_lineOf 29 = .ok (.invokevirtual 97, 3) := by decide +kernel
theorem dX12_lineOf_32 : decode cX12_lineOf 32 = .ok (.iload_n 1, 1) := by decide +kernel
theorem dX12_lineOf_33 : decode cX12_lineOf 33 = .ok (.if_icmp .ne 24, 3) := by decide +kernel
theorem dX12_lineOf_36 : decode cX12_lineOf 36 = .ok (.aload_n 0, 1) := by decide +kernel
theorem dX12_lineOf_37 : decode cX12_lineOf 37 = .ok (.iload 4, 2) := by decide +kernel
theorem dX12_lineOf_39 : decode cX12_lineOf 39 = .ok (.iconst 2, 1) := by decide +kernel
theorem dX12_lineOf_40 : decode cX12_lineOf 40 = .ok (.invokevirtual 97, 3) := by decide +kernel
theorem dX12_lineOf_43 : decode cX12_lineOf 43 = .ok (.iload_n 2, 1) := by decide +kernel
theorem dX12_lineOf_44 : decode cX12_lineOf 44 = .ok (.if_icmp .gt 13, 3) := by decide +kernel
theorem dX12_lineOf_47 : decode cX12_lineOf 47 = .ok (.aload_n 0, 1) := by decide +kernel
theorem dX12_lineOf_48 : decode cX12_lineOf 48 = .ok (.iload 4, 2) := by decide +kernel
theorem dX12_lineOf_50 : decode cX12_lineOf 50 = .ok (.iconst 3, 1) := by decide +kernel
theorem dX12_lineOf_51 : decode cX12_lineOf 51 = .ok (.invokevirtual 97, 3) := by decide +kernel
theorem dX12_lineOf_54 : decode cX12_lineOf 54 = .ok (.goto 4, 3) := by decide +kernel
theorem dX12_lineOf_57 : decode cX12_lineOf 57 = .ok (.iconst 0, 1) := by decide +kernel
theorem dX12_lineOf_58 : decode cX12_lineOf 58 = .ok (.iadd, 1) := by decide +kernel
theorem dX12_lineOf_59 : decode cX12_lineOf 59 = .ok (.istore_n 3, 1) := by decide +kernel
theorem dX12_lineOf_60 : decode cX12_lineOf 60 = .ok (.iinc 4 1, 3) := by decide +kernel
theorem dX12_lineOf_63 : decode cX12_lineOf 63 = .ok (.goto (-51), 3) := by decide +kernel
theorem dX12_lineOf_66 : decode cX12_lineOf 66 = .ok (.iload_n 3, 1) := by decide +kernel
theorem dX12_lineOf_67 : decode cX12_lineOf 67 = .ok (.ireturn, 1) := by decide +kernel
theorem dX12_line_0 : decode cX12_line 0 = .ok (.aload_n 0, 1) := by decide +kernel
theorem dX12_line_1 : decode cX12_line 1 = .ok (.iload_n 1, 1) := by decide +kernel
theorem dX12_line_2 : decode cX12_line 2 = .ok (.invokevirtual 92, 3) := by decide +kernel
theorem dX12_line_5 : decode cX12_line 5 = .ok (.ifCond .eq 19, 3) := by decide +kernel
theorem dX12_line_8 : decode cX12_line 8 = .ok (.iload_n 2, 1) := by decide +kernel
theorem dX12_line_9 : decode cX12_line 9 = .ok (.invokestatic 101, 3) := by decide +kernel
theorem dX12_line_12 : decode cX12_line 12 = .ok (.ifCond .eq 12, 3) := by decide +kernel
theorem dX12_line_15 : decode cX12_line 15 = .ok (.aload_n 0, 1) := by decide +kernel
theorem dX12_line_16 : decode cX12_line 16 = .ok (.iload_n 1, 1) := by decide +kernel
theorem dX12_line_17 : decode cX12_line 17 = .ok (.iload_n 2, 1) := by decide +kernel
theorem dX12_line_18 : decode cX12_line 18 = .ok (.invokevirtual 111, 3) := by decide +kernel
theorem dX12_line_21 : decode cX12_line 21 = .ok (.goto 5, 3) := by decide +kernel
theorem dX12_line_24 : decode cX12_line 24 = .ok (.ldc 82, 2) := by decide +kernel
theorem dX12_line_26 : decode cX12_line 26 = .ok (.ireturn, 1) := by decide +kernel
theorem dX12_comes_0 : decode cX12_comes 0 = .ok (.bipush 91, 2) := by decide +kernel
theorem dX12_comes_2 : decode cX12_comes 2 = .ok (.iconst 4, 1) := by decide +kernel
theorem dX12_comes_3 : decode cX12_comes 3 = .ok (.aload_n 0, 1) := by decide +kernel
theorem dX12_comes_4 : decode cX12_comes 4 = .ok (.getfield 9, 3) := by decide +kernel
theorem dX12_comes_7 : decode cX12_comes 7 = .ok (.bipush 8, 2) := by decide +kernel
theorem dX12_comes_9 : decode cX12_comes 9 = .ok (.iaload, 1) := by decide +kernel
theorem dX12_comes_10 : decode cX12_comes 10 = .ok (.imul, 1) := by decide +kernel
theorem dX12_comes_11 : decode cX12_comes 11 = .ok (.iadd, 1) := by decide +kernel
theorem dX12_comes_12 : decode cX12_comes 12 = .ok (.istore 5, 2) := by decide +kernel
theorem dX12_comes_14 : decode cX12_comes 14 = .ok (.aload_n 0, 1) := by decide +kernel
theorem dX12_comes_15 : decode cX12_comes 15 = .ok (.getfield 9, 3) := by decide +kernel
theorem dX12_comes_18 : decode cX12_comes 18 = .ok (.iload 5, 2) := by decide +kernel
theorem dX12_comes_20 : decode cX12_comes 20 = .ok (.iload_n 1, 1) := by decide +kernel
theorem dX12_comes_21 : decode cX12_comes 21 = .ok (.iastore, 1) := by decide +kernel
theorem dX12_comes_22 : decode cX12_comes 22 = .ok (.aload_n 0, 1) := by decide +kernel
theorem dX12_comes_23 : decode cX12_comes 23 = .ok (.getfield 9, 3) := by decide +kernel
theorem dX12_comes_26 : decode cX12_comes 26 = .ok (.iload 5, 2) := by decide +kernel
theorem dX12_comes_28 : decode cX12_comes 28 = .ok (.iconst 1, 1) := by decide +kernel
theorem dX12_comes_29 : decode cX12_comes 29 = .ok (.iadd, 1) := by decide +kernel
theorem dX12_comes_30 : decode cX12_comes 30 = .ok (.iload_n 2, 1) := by decide +kernel
theorem dX12_comes_31 : decode cX12_comes 31 = .ok (.iastore, 1) := by decide +kernel
theorem dX12_comes_32 : decode cX12_comes 32 = .ok (.aload_n 0, 1) := by decide +kernel
theorem dX12_comes_33 : decode cX12_comes 33 = .ok (.getfield 9, 3) := by decide +kernel
theorem dX12_comes_36 : decode cX12_comes 36 = .ok (.iload 5, 2) := by decide +kernel
theorem dX12_comes_38 : decode cX12_comes 38 = .ok (.iconst 2, 1) := by decide +kernel
theorem dX12_comes_39 : decode cX12_comes 39 = .ok (.iadd, 1) := by decide +kernel
theorem dX12_comes_40 : decode cX12_comes 40 = .ok (.iload_n 3, 1) := by decide +kernel
theorem dX12_comes_41 : decode cX12_comes 41 = .ok (.iastore, 1) := by decide +kernel
theorem dX12_comes_42 : decode cX12_comes 42 = .ok (.aload_n 0, 1) := by decide +kernel
theorem dX12_comes_43 : decode cX12_comes 43 = .ok (.getfield 9, 3) := by decide +kernel
theorem dX12_comes_46 : decode cX12_comes 46 = .ok (.iload 5, 2) := by decide +kernel
theorem dX12_comes_48 : decode cX12_comes 48 = .ok (.iconst 3, 1) := by decide +kernel
theorem dX12_comes_49 : decode cX12_comes 49 = .ok (.iadd, 1) := by decide +kernel
theorem dX12_comes_50 : decode cX12_comes 50 = .ok (.iload 4, 2) := by decide +kernel
theorem dX12_comes_52 : decode cX12_comes 52 = .ok (.iastore, 1) := by decide +kernel
theorem dX12_comes_53 : decode cX12_comes 53 = .ok (.aload_n 0, 1) := by decide +kernel
theorem dX12_comes_54 : decode cX12_comes 54 = .ok (.getfield 9, 3) := by decide +kernel
theorem dX12_comes_57 : decode cX12_comes 57 = .ok (.bipush 8, 2) := by decide +kernel
theorem dX12_comes_59 : decode cX12_comes 59 = .ok (.dup2, 1) := by decide +kernel
theorem dX12_comes_60 : decode cX12_comes 60 = .ok (.iaload, 1) := by decide +kernel
theorem dX12_comes_61 : decode cX12_comes 61 = .ok (.iconst 1, 1) := by decide +kernel
theorem dX12_comes_62 : decode cX12_comes 62 = .ok (.iadd, 1) := by decide +kernel
theorem dX12_comes_63 : decode cX12_comes 63 = .ok (.iastore, 1) := by decide +kernel
theorem dX12_comes_64 : decode cX12_comes 64 = .ok (.return_, 1) := by decide +kernel
theorem dX12_step_0 : decode cX12_step 0 = .ok (.iload_n 1, 1) := by decide +kernel
theorem dX12_step_1 : decode cX12_step 1 = .ok (.iconst 0, 1) := by decide +kernel
theorem dX12_step_2 : decode cX12_step 2 = .ok (.iconst 5, 1) := by decide +kernel
theorem dX12_step_3 : decode cX12_step 3 = .ok (.invokestatic 78, 3) := by decide +kernel
theorem dX12_step_6 : decode cX12_step 6 = .ok (.ifCond .eq 39, 3) := by decide +kernel
theorem dX12_step_9 : decode cX12_step 9 = .ok (.aload_n 0, 1) := by decide +kernel
theorem dX12_step_10 : decode cX12_step 10 = .ok (.iload_n 2, 1) := by decide +kernel
theorem dX12_step_11 : decode cX12_step 11 = .ok (.invokevirtual 92, 3) := by decide +kernel
theorem dX12_step_14 : decode cX12_step 14 = .ok (.ifCond .eq 31, 3) := by decide +kernel
theorem dX12_step_17 : decode cX12_step 17 = .ok (.iload_n 3, 1) := by decide +kernel
theorem dX12_step_18 : decode cX12_step 18 = .ok (.iconst 0, 1) := by decide +kernel
theorem dX12_step_19 : decode cX12_step 19 = .ok (.aload_n 0, 1) := by decide +kernel
theorem dX12_step_20 : decode cX12_step 20 = .ok (.getfield 9, 3) := by decide +kernel
theorem dX12_step_23 : decode cX12_step 23 = .ok (.iconst 1, 1) := by decide +kernel
theorem dX12_step_24 : decode cX12_step 24 = .ok (.iaload, 1) := by decide +kernel
theorem dX12_step_25 : decode cX12_step 25 = .ok (.invokestatic 78, 3) := by decide +kernel
theorem dX12_step_28 : decode cX12_step 28 = .ok (.ifCond .eq 17, 3) := by decide +kernel
theorem dX12_step_31 : decode cX12_step 31 = .ok (.iload 4, 2) := by decide +kernel
theorem dX12_step_33 : decode cX12_step 33 = .ok (.sipush (-999), 3) := by decide +kernel
theorem dX12_step_36 : decode cX12_step 36 = .ok (.sipush 999, 3) := by decide +kernel
theorem dX12_step_39 : decode cX12_step 39 = .ok (.invokestatic 78, 3) := by decide +kernel
theorem dX12_step_42 : decode cX12_step 42 = .ok (.ifCond .ne 6, 3) := by decide +kernel
theorem dX12_step_45 : decode cX12_step 45 = .ok (.ldc 82, 2) := by decide +kernel
theorem dX12_step_47 : decode cX12_step 47 = .ok (.ireturn, 1) := by decide +kernel
theorem dX12_step_48 : decode cX12_step 48 = .ok (.aload_n 0, 1) := by decide +kernel
theorem dX12_step_49 : decode cX12_step 49 = .ok (.getfield 9, 3) := by decide +kernel
theorem dX12_step_52 : decode cX12_step 52 = .ok (.bipush 8, 2) := by decide +kernel
theorem dX12_step_54 : decode cX12_step 54 = .ok (.iaload, 1) := by decide +kernel
theorem dX12_step_55 : decode cX12_step 55 = .ok (.bipush 40, 2) := by decide +kernel
theorem dX12_step_57 : decode cX12_step 57 = .ok (.if_icmp .ne 6, 3) := by decide +kernel
theorem dX12_step_60 : decode cX12_step 60 = .ok (.ldc 83, 2) := by decide +kernel
theorem dX12_step_62 : decode cX12_step 62 = .ok (.ireturn, 1) := by decide +kernel
theorem dX12_step_63 : decode cX12_step 63 = .ok (.aload_n 0, 1) := by decide +kernel
theorem dX12_step_64 : decode cX12_step 64 = .ok (.iload_n 1, 1) := by decide +kernel
theorem dX12_step_65 : decode cX12_step 65 = .ok (.iload_n 2, 1) := by decide +kernel
theorem dX12_step_66 : decode cX12_step 66 = .ok (.iload_n 3, 1) := by decide +kernel
theorem dX12_step_67 : decode cX12_step 67 = .ok (.iload 4, 2) := by decide +kernel
theorem dX12_step_69 : decode cX12_step 69 = .ok (.invokevirtual 114, 3) := by decide +kernel
theorem dX12_step_72 : decode cX12_step 72 = .ok (.aload_n 0, 1) := by decide +kernel
theorem dX12_step_73 : decode cX12_step 73 = .ok (.getfield 9, 3) := by decide +kernel
theorem dX12_step_76 : decode cX12_step 76 = .ok (.bipush 8, 2) := by decide +kernel
theorem dX12_step_78 : decode cX12_step 78 = .ok (.iaload, 1) := by decide +kernel
theorem dX12_step_79 : decode cX12_step 79 = .ok (.iconst 1, 1) := by decide +kernel
theorem dX12_step_80 : decode cX12_step 80 = .ok (.isub, 1) := by decide +kernel
theorem dX12_step_81 : decode cX12_step 81 = .ok (.ireturn, 1) := by decide +kernel
theorem dX12_hasStep_0 : decode cX12_hasStep 0 = .ok (.iconst 0, 1) := by decide +kernel
theorem dX12_hasStep_1 : decode cX12_hasStep 1 = .ok (.istore_n 3, 1) := by decide +kernel
theorem dX12_hasStep_2 : decode cX12_hasStep 2 = .ok (.iload_n 3, 1) := by decide +kernel
theorem dX12_hasStep_3 : decode cX12_hasStep 3 = .ok (.aload_n 0, 1) := by decide +kernel
theorem dX12_hasStep_4 : decode cX12_hasStep 4 = .ok (.getfield 9, 3) := by decide +kernel
theorem dX12_hasStep_7 : decode cX12_hasStep 7 = .ok (.bipush 8, 2) := by decide +kernel
theorem dX12_hasStep_9 : decode cX12_hasStep 9 = .ok (.iaload, 1) := by decide +kernel
theorem dX12_hasStep_10 : decode cX12_hasStep 10 = .ok (.if_icmp .ge 31, 3) := by decide +kernel
theorem dX12_hasStep_13 : decode cX12_hasStep 13 = .ok (.aload_n 0, 1) := by decide +kernel
theorem dX12_hasStep_14 : decode cX12_hasStep 14 = .ok (.iload_n 3, 1) := by decide +kernel
theorem dX12_hasStep_15 : decode cX12_hasStep 15 = .ok (.iconst 1, 1) := by decide +kernel
theorem dX12_hasStep_16 : decode cX12_hasStep 16 = .ok (.invokevirtual 97, 3) := by decide +kernel
theorem dX12_hasStep_19 : decode cX12_hasStep 19 = .ok (.iload_n 1, 1) := by decide +kernel
theorem dX12_hasStep_20 : decode cX12_hasStep 20 = .ok (.if_icmp .ne 15, 3) := by decide +kernel
theorem dX12_hasStep_23 : decode cX12_hasStep 23 = .ok (.aload_n 0, 1) := by decide +kernel
theorem dX12_hasStep_24 : decode cX12_hasStep 24 = .ok (.iload_n 3, 1) := by decide +kernel
theorem dX12_hasStep_25 : decode cX12_hasStep 25 = .ok (.iconst 2, 1) := by decide +kernel
theorem dX12_hasStep_26 : decode cX12_hasStep 26 = .ok (.invokevirtual 97, 3) := by decide +kernel
theorem dX12_hasStep_29 : decode cX12_hasStep 29 = .ok (.iload_n 2, 1) := by decide +kernel
theorem dX12_hasStep_30 : decode cX12_hasStep 30 = .ok (.if_icmp .ne 5, 3) := by decide +kernel
theorem dX12_hasStep_33 : decode cX12_hasStep 33 = .ok (.iconst 1, 1) := by decide +kernel
theorem dX12_hasStep_34 : decode cX12_hasStep 34 = .ok (.ireturn, 1) := by decide +kernel
theorem dX12_hasStep_35 : decode cX12_hasStep 35 = .ok (.iinc 3 1, 3) := by decide +kernel
theorem dX12_hasStep_38 : decode cX12_hasStep 38 = .ok (.goto (-36), 3) := by decide +kernel
theorem dX12_hasStep_41 : decode cX12_hasStep 41 = .ok (.iconst 0, 1) := by decide +kernel
theorem dX12_hasStep_42 : decode cX12_hasStep 42 = .ok (.ireturn, 1) := by decide +kernel
theorem dX12_isHeight_0 : decode cX12_isHeight 0 = .ok (.iload_n 1, 1) := by decide +kernel
theorem dX12_isHeight_1 : decode cX12_isHeight 1 = .ok (.invokestatic 118, 3) := by decide +kernel
theorem dX12_isHeight_4 : decode cX12_isHeight 4 = .ok (.aload_n 0, 1) := by decide +kernel
theorem dX12_isHeight_5 : decode cX12_isHeight 5 = .ok (.getfield 9, 3) := by decide +kernel
theorem dX12_isHeight_8 : decode cX12_isHeight 8 = .ok (.iconst 2, 1) := by decide +kernel
theorem dX12_isHeight_9 : decode cX12_isHeight 9 = .ok (.iaload, 1) := by decide +kernel
theorem dX12_isHeight_10 : decode cX12_isHeight 10 = .ok (.iload_n 2, 1) := by decide +kernel
theorem dX12_isHeight_11 : decode cX12_isHeight 11 = .ok (.isub, 1) := by decide +kernel
theorem dX12_isHeight_12 : decode cX12_isHeight 12 = .ok (.aload_n 0, 1) := by decide +kernel
theorem dX12_isHeight_13 : decode cX12_isHeight 13 = .ok (.getfield 9, 3) := by decide +kernel
theorem dX12_isHeight_16 : decode cX12_isHeight 16 = .ok (.iconst 2, 1) := by decide +kernel
theorem dX12_isHeight_17 : decode cX12_isHeight 17 = .ok (.iaload, 1) := by decide +kernel
theorem dX12_isHeight_18 : decode cX12_isHeight 18 = .ok (.iload_n 2, 1) := by decide +kernel
theorem dX12_isHeight_19 : decode cX12_isHeight 19 = .ok (.iadd, 1) := by decide +kernel
theorem dX12_isHeight_20 : decode cX12_isHeight 20 = .ok (.invokestatic 78, 3) := by decide +kernel
theorem dX12_isHeight_23 : decode cX12_isHeight 23 = .ok (.ireturn, 1) := by decide +kernel
theorem dX12_fits_0 : decode cX12_fits 0 = .ok (.aload_n 0, 1) := by decide +kernel
theorem dX12_fits_1 : decode cX12_fits 1 = .ok (.iload_n 1, 1) := by decide +kernel
theorem dX12_fits_2 : decode cX12_fits 2 = .ok (.iconst 0, 1) := by decide +kernel
theorem dX12_fits_3 : decode cX12_fits 3 = .ok (.invokevirtual 97, 3) := by decide +kernel
theorem dX12_fits_6 : decode cX12_fits 6 = .ok (.istore_n 2, 1) := by decide +kernel
theorem dX12_fits_7 : decode cX12_fits 7 = .ok (.aload_n 0, 1) := by decide +kernel
theorem dX12_fits_8 : decode cX12_fits 8 = .ok (.iload_n 1, 1) := by decide +kernel
theorem dX12_fits_9 : decode cX12_fits 9 = .ok (.iconst 1, 1) := by decide +kernel
theorem dX12_fits_10 : decode cX12_fits 10 = .ok (.invokevirtual 97, 3) := by decide +kernel
theorem dX12_fits_13 : decode cX12_fits 13 = .ok (.istore_n 3, 1) := by decide +kernel
theorem dX12_fits_14 : decode cX12_fits 14 = .ok (.aload_n 0, 1) := by decide +kernel
theorem dX12_fits_15 : decode cX12_fits 15 = .ok (.iload_n 1, 1) := by decide +kernel
theorem dX12_fits_16 : decode cX12_fits 16 = .ok (.iconst 3, 1) := by decide +kernel
theorem dX12_fits_17 : decode cX12_fits 17 = .ok (.invokevirtual 97, 3) := by decide +kernel
theorem dX12_fits_20 : decode cX12_fits 20 = .ok (.istore 4, 2) := by decide +kernel
theorem dX12_fits_22 : decode cX12_fits 22 = .ok (.iload_n 2, 1) := by decide +kernel
theorem dX12_fits_23 : decode cX12_fits 23 = .ok (.iconst 4, 1) := by decide +kernel
theorem dX12_fits_24 : decode cX12_fits 24 = .ok (.if_icmp .eq 18, 3) := by decide +kernel
theorem dX12_fits_27 : decode cX12_fits 27 = .ok (.aload_n 0, 1) := by decide +kernel
theorem dX12_fits_28 : decode cX12_fits 28 = .ok (.iload 4, 2) := by decide +kernel
theorem dX12_fits_30 : decode cX12_fits 30 = .ok (.aload_n 0, 1) := by decide +kernel
theorem dX12_fits_31 : decode cX12_fits 31 = .ok (.getfield 9, 3) := by decide +kernel
theorem dX12_fits_34 : decode cX12_fits 34 = .ok (.iconst 3, 1) := by decide +kernel
theorem dX12_fits_35 : decode cX12_fits 35 = .ok (.iaload, 1) := by decide +kernel
theorem dX12_fits_36 : decode cX12_fits 36 = .ok (.invokevirtual 121, 3) := by decide +kernel
theorem dX12_fits_39 : decode cX12_fits 39 = .ok (.ifCond .ne 5, 3) := by decide +kernel
theorem dX12_fits_42 : decode cX12_fits 42 = .ok (.iconst 0, 1) := by decide +kernel
theorem dX12_fits_43 : decode cX12_fits 43 = .ok (.ireturn, 1) := by decide +kernel
theorem dX12_fits_44 : decode cX12_fits 44 = .ok (.iload_n 2, 1) := by decide +kernel
theorem dX12_fits_45 : decode cX12_fits 45 = .ok (.iconst 5, 1) := by decide +kernel
theorem dX12_fits_46 : decode cX12_fits 46 = .ok (.if_icmp .ne 23, 3) := by decide +kernel
theorem dX12_fits_49 : decode cX12_fits 49 = .ok (.aload_n 0, 1) := by decide +kernel
theorem dX12_fits_50 : decode cX12_fits 50 = .ok (.iload_n 3, 1) := by decide +kernel
theorem dX12_fits_51 : decode cX12_fits 51 = .ok (.aload_n 0, 1) := by decide +kernel
theorem dX12_fits_52 : decode cX12_fits 52 = .ok (.iload_n 1, 1) := by decide +kernel
theorem dX12_fits_53 : decode cX12_fits 53 = .ok (.iconst 2, 1) := by decide +kernel
theorem dX12_fits_54 : decode cX12_fits 54 = .ok (.invokevirtual 97, 3) := by decide +kernel
theorem dX12_fits_57 : decode cX12_fits 57 = .ok (.invokevirtual 84, 3) := by decide +kernel
theorem dX12_fits_60 : decode cX12_fits 60 = .ok (.ifCond .ne 7, 3) := by decide +kernel
theorem dX12_fits_63 : decode cX12_fits 63 = .ok (.iconst 1, 1) := by decide +kernel
theorem dX12_fits_64 : decode cX12_fits 64 = .ok (.goto 4, 3) := by decide +kernel
theorem dX12_fits_67 : decode cX12_fits 67 = .ok (.iconst 0, 1) := by decide +kernel
theorem dX12_fits_68 : decode cX12_fits 68 = .ok (.ireturn, 1) := by decide +kernel
theorem dX12_fits_69 : decode cX12_fits 69 = .ok (.iload_n 2, 1) := by decide +kernel
theorem dX12_fits_70 : decode cX12_fits 70 = .ok (.iconst 3, 1) := by decide +kernel
theorem dX12_fits_71 : decode cX12_fits 71 = .ok (.if_icmp .ne 42, 3) := by decide +kernel
theorem dX12_fits_74 : decode cX12_fits 74 = .ok (.iload 4, 2) := by decide +kernel
theorem dX12_fits_76 : decode cX12_fits 76 = .ok (.ifCond .le 35, 3) := by decide +kernel
theorem dX12_fits_79 : decode cX12_fits 79 = .ok (.aload_n 0, 1) := by decide +kernel
theorem dX12_fits_80 : decode cX12_fits 80 = .ok (.iload_n 3, 1) := by decide +kernel
theorem dX12_fits_81 : decode cX12_fits 81 = .ok (.iconst 2, 1) := by decide +kernel
theorem dX12_fits_82 : decode cX12_fits 82 = .ok (.invokevirtual 88, 3) := by decide +kernel
theorem dX12_fits_85 : decode cX12_fits 85 = .ok (.ifCond .lt 26, 3) := by decide +kernel
theorem dX12_fits_88 : decode cX12_fits 88 = .ok (.aload_n 0, 1) := by decide +kernel
theorem dX12_fits_89 : decode cX12_fits 89 = .ok (.aload_n 0, 1) := by decide +kernel
theorem dX12_fits_90 : decode cX12_fits 90 = .ok (.iload_n 3, 1) := by decide +kernel
theorem dX12_fits_91 : decode cX12_fits 91 = .ok (.iconst 2, 1) := by decide +kernel
theorem dX12_fits_92 : decode cX12_fits 92 = .ok (.invokevirtual 88, 3) := by decide +kernel
theorem dX12_fits_95 : decode cX12_fits 95 = .ok (.aload_n 0, 1) := by decide +kernel
theorem dX12_fits_96 : decode cX12_fits 96 = .ok (.iload_n 1, 1) := by decide +kernel
theorem dX12_fits_97 : decode cX12_fits 97 = .ok (.iconst 2, 1) := by decide +kernel
theorem dX12_fits_98 : decode cX12_fits 98 = .ok (.invokevirtual 97, 3) := by decide +kernel
theorem dX12_fits_101 : decode cX12_fits 101 = .ok (.invokevirtual 124, 3) := by decide +kernel
theorem dX12_fits_104 : decode cX12_fits 104 = .ok (.ifCond .eq 7, 3) := by decide +kernel
theorem dX12_fits_107 : decode cX12_fits 107 = .ok (.iconst 1, 1) := by decide +kernel
theorem dX12_fits_108 : decode cX12_fits 108 = .ok (.goto 4, 3) := by decide +kernel
theorem dX12_fits_111 : decode cX12_fits 111 = .ok (.iconst 0, 1) := by decide +kernel
theorem dX12_fits_112 : decode cX12_fits 112 = .ok (.ireturn, 1) := by decide +kernel
theorem dX12_fits_113 : decode cX12_fits 113 = .ok (.iload_n 2, 1) := by decide +kernel
theorem dX12_fits_114 : decode cX12_fits 114 = .ok (.iconst 1, 1) := by decide +kernel
theorem dX12_fits_115 : decode cX12_fits 115 = .ok (.if_icmp .ne 8, 3) := by decide +kernel
theorem dX12_fits_118 : decode cX12_fits 118 = .ok (.iload 4, 2) := by decide +kernel
theorem dX12_fits_120 : decode cX12_fits 120 = .ok (.ifCond .le 7, 3) := by decide +kernel
theorem dX12_fits_123 : decode cX12_fits 123 = .ok (.iconst 1, 1) := by decide +kernel
theorem dX12_fits_124 : decode cX12_fits 124 = .ok (.goto 4, 3) := by decide +kernel
theorem dX12_fits_127 : decode cX12_fits 127 = .ok (.iconst 0, 1) := by decide +kernel
theorem dX12_fits_128 : decode cX12_fits 128 = .ok (.ireturn, 1) := by decide +kernel
theorem dX12_worthBy_0 : decode cX12_worthBy 0 = .ok (.iload_n 2, 1) := by decide +kernel
theorem dX12_worthBy_1 : decode cX12_worthBy 1 = .ok (.invokestatic 118, 3) := by decide +kernel
theorem dX12_worthBy_4 : decode cX12_worthBy 4 = .ok (.istore_n 3, 1) := by decide +kernel
theorem dX12_worthBy_5 : decode cX12_worthBy 5 = .ok (.iload_n 1, 1) := by decide +kernel
theorem dX12_worthBy_6 : decode cX12_worthBy 6 = .ok (.tableswitch 66 1 5 #[34, 43, 47, 58, 64], 34) := by decide +kernel
theorem dX12_worthBy_40 : decode cX12_worthBy 40 = .ok (.iload_n 3, 1) := by decide +kernel
theorem dX12_worthBy_41 : decode cX12_worthBy 41 = .ok (.aload_n 0, 1) := by decide +kernel
theorem dX12_worthBy_42 : decode cX12_worthBy 42 = .ok (.getfield 9, 3) := by decide +kernel
theorem dX12_worthBy_45 : decode cX12_worthBy 45 = .ok (.iconst 2, 1) := by decide +kernel
theorem dX12_worthBy_46 : decode cX12_worthBy 46 = .ok (.iaload, 1) := by decide +kernel
theorem dX12_worthBy_47 : decode cX12_worthBy 47 = .ok (.iadd, 1) := by decide +kernel
theorem dX12_worthBy_48 : decode cX12_worthBy 48 = .ok (.ireturn, 1) := by decide +kernel
theorem dX12_worthBy_49 : decode cX12_worthBy 49 = .ok (.iload_n 3, 1) := by decide +kernel
theorem dX12_worthBy_50 : decode cX12_worthBy 50 = .ok (.iconst 2, 1) := by decide +kernel
theorem dX12_worthBy_51 : decode cX12_worthBy 51 = .ok (.idiv, 1) := by decide +kernel
theorem dX12_worthBy_52 : decode cX12_worthBy 52 = .ok (.ireturn, 1) := by decide +kernel
theorem dX12_worthBy_53 : decode cX12_worthBy 53 = .ok (.iconst 2, 1) := by decide +kernel
theorem dX12_worthBy_54 : decode cX12_worthBy 54 = .ok (.iload_n 3, 1) := by decide +kernel
theorem dX12_worthBy_55 : decode cX12_worthBy 55 = .ok (.aload_n 0, 1) := by decide +kernel
theorem dX12_worthBy_56 : decode cX12_worthBy 56 = .ok (.getfield 9, 3) := by decide +kernel
theorem dX12_worthBy_59 : decode cX12_worthBy 59 = .ok (.iconst 2, 1) := by decide +kernel
theorem dX12_worthBy_60 : decode cX12_worthBy 60 = .ok (.iaload, 1) := by decide +kernel
theorem dX12_worthBy_61 : decode cX12_worthBy 61 = .ok (.iadd, 1) := by decide +kernel
theorem dX12_worthBy_62 : decode cX12_worthBy 62 = .ok (.imul, 1) := by decide +kernel
theorem dX12_worthBy_63 : decode cX12_worthBy 63 = .ok (.ireturn, 1) := by decide +kernel
theorem dX12_worthBy_64 : decode cX12_worthBy 64 = .ok (.iload_n 3, 1) := by decide +kernel
theorem dX12_worthBy_65 : decode cX12_worthBy 65 = .ok (.iconst 2, 1) := by decide +kernel
theorem dX12_worthBy_66 : decode cX12_worthBy 66 = .ok (.idiv, 1) := by decide +kernel
theorem dX12_worthBy_67 : decode cX12_worthBy 67 = .ok (.iconst 1, 1) := by decide +kernel
theorem dX12_worthBy_68 : decode cX12_worthBy 68 = .ok (.isub, 1) := by decide +kernel
theorem dX12_worthBy_69 : decode cX12_worthBy 69 = .ok (.ireturn, 1) := by decide +kernel
theorem dX12_worthBy_70 : decode cX12_worthBy 70 = .ok (.iconst 0, 1) := by decide +kernel
theorem dX12_worthBy_71 : decode cX12_worthBy 71 = .ok (.ireturn, 1) := by decide +kernel
theorem dX12_worthBy_72 : decode cX12_worthBy 72 = .ok (.iload_n 3, 1) := by decide +kernel
theorem dX12_worthBy_73 : decode cX12_worthBy 73 = .ok (.ireturn, 1) := by decide +kernel
theorem dX12_told_0 : decode cX12_told 0 = .ok (.aload_n 0, 1) := by decide +kernel
theorem dX12_told_1 : decode cX12_told 1 = .ok (.iload_n 1, 1) := by decide +kernel
theorem dX12_told_2 : decode cX12_told 2 = .ok (.invokevirtual 127, 3) := by decide +kernel
theorem dX12_told_5 : decode cX12_told 5 = .ok (.ifCond .eq 12, 3) := by decide +kernel
theorem dX12_told_8 : decode cX12_told 8 = .ok (.iload_n 2, 1) := by decide +kernel
theorem dX12_told_9 : decode cX12_told 9 = .ok (.iconst 0, 1) := by decide +kernel
theorem dX12_told_10 : decode cX12_told 10 = .ok (.iconst 5, 1) := by decide +kernel
theorem dX12_told_11 : decode cX12_told 11 = .ok (.invokestatic 78, 3) := by decide +kernel
theorem dX12_told_14 : decode cX12_told 14 = .ok (.ifCond .ne 6, 3) := by decide +kernel
theorem dX12_told_17 : decode cX12_told 17 = .ok (.ldc 82, 2) := by decide +kernel
theorem dX12_told_19 : decode cX12_told 19 = .ok (.ireturn, 1) := by decide +kernel
theorem dX12_told_20 : decode cX12_told 20 = .ok (.iload_n 2, 1) := by decide +kernel
theorem dX12_told_21 : decode cX12_told 21 = .ok (.iconst 4, 1) := by decide +kernel
theorem dX12_told_22 : decode cX12_told 22 = .ok (.if_icmp .ge 12, 3) := by decide +kernel
theorem dX12_told_25 : decode cX12_told 25 = .ok (.aload_n 0, 1) := by decide +kernel
theorem dX12_told_26 : decode cX12_told 26 = .ok (.iload_n 1, 1) := by decide +kernel
theorem dX12_told_27 : decode cX12_told 27 = .ok (.iload_n 2, 1) := by decide +kernel
theorem dX12_told_28 : decode cX12_told 28 = .ok (.invokevirtual 97, 3) := by decide +kernel
theorem dX12_told_31 : decode cX12_told 31 = .ok (.goto 40, 3) := by decide +kernel
theorem dX12_told_34 : decode cX12_told 34 = .ok (.iload_n 2, 1) := by decide +kernel
theorem dX12_told_35 : decode cX12_told 35 = .ok (.iconst 4, 1) := by decide +kernel
theorem dX12_told_36 : decode cX12_told 36 = .ok (.if_icmp .ne 19, 3) := by decide +kernel
theorem dX12_told_39 : decode cX12_told 39 = .ok (.aload_n 0, 1) := by decide +kernel
theorem dX12_told_40 : decode cX12_told 40 = .ok (.iload_n 1, 1) := by decide +kernel
theorem dX12_told_41 : decode cX12_told 41 = .ok (.invokevirtual 130, 3) := by decide +kernel
theorem dX12_told_44 : decode cX12_told 44 = .ok (.ifCond .eq 7, 3) := by decide +kernel
theorem dX12_told_47 : decode cX12_told 47 = .ok (.iconst 1, 1) := by decide +kernel
theorem dX12_told_48 : decode cX12_told 48 = .ok (.goto 23, 3) := by decide +kernel
theorem dX12_told_51 : decode cX12_told 51 = .ok (.iconst 0, 1) := by decide +kernel
theorem dX12_told_52 : decode cX12_told 52 = .ok (.goto 19, 3) := by decide +kernel
theorem dX12_told_55 : decode cX12_told 55 = .ok (.aload_n 0, 1) := by decide +kernel
theorem dX12_told_56 : decode cX12_told 56 = .ok (.aload_n 0, 1) := by decide +kernel
theorem dX12_told_57 : decode cX12_told 57 = .ok (.iload_n 1, 1) := by decide +kernel
theorem dX12_told_58 : decode cX12_told 58 = .ok (.iconst 0, 1) := by decide +kernel
theorem dX12_told_59 : decode cX12_told 59 = .ok (.invokevirtual 97, 3) := by decide +kernel
theorem dX12_told_62 : decode cX12_told 62 = .ok (.aload_n 0, 1) := by decide +kernel
theorem dX12_told_63 : decode cX12_told 63 = .ok (.iload_n 1, 1) := by decide +kernel
theorem dX12_told_64 : decode cX12_told 64 = .ok (.iconst 3, 1) := by decide +kernel
theorem dX12_told_65 : decode cX12_told 65 = .ok (.invokevirtual 97, 3) := by decide +kernel
theorem dX12_told_68 : decode cX12_told 68 = .ok (.invokevirtual 133, 3) := by decide +kernel
theorem dX12_told_71 : decode cX12_told 71 = .ok (.ireturn, 1) := by decide +kernel
theorem dX12_isUnder_0 : decode cX12_isUnder 0 = .ok (.iload_n 1, 1) := by decide +kernel
theorem dX12_isUnder_1 : decode cX12_isUnder 1 = .ok (.ifCond .eq 28, 3) := by decide +kernel
theorem dX12_isUnder_4 : decode cX12_isUnder 4 = .ok (.iload_n 0, 1) := by decide +kernel
theorem dX12_isUnder_5 : decode cX12_isUnder 5 = .ok (.iload_n 1, 1) := by decide +kernel
theorem dX12_isUnder_6 : decode cX12_isUnder 6 = .ok (.if_icmp .eq 23, 3) := by decide +kernel
theorem dX12_isUnder_9 : decode cX12_isUnder 9 = .ok (.iload_n 1, 1) := by decide +kernel
theorem dX12_isUnder_10 : decode cX12_isUnder 10 = .ok (.iconst 1, 1) := by decide +kernel
theorem dX12_isUnder_11 : decode cX12_isUnder 11 = .ok (.if_icmp .ne 8, 3) := by decide +kernel
theorem dX12_isUnder_14 : decode cX12_isUnder 14 = .ok (.iload_n 0, 1) := by decide +kernel
theorem dX12_isUnder_15 : decode cX12_isUnder 15 = .ok (.iconst 3, 1) := by decide +kernel
theorem dX12_isUnder_16 : decode cX12_isUnder 16 = .ok (.if_icmp .eq 13, 3) := by decide +kernel
theorem dX12_isUnder_19 : decode cX12_isUnder 19 = .ok (.iload_n 1, 1) := by decide +kernel
theorem dX12_isUnder_20 : decode cX12_isUnder 20 = .ok (.iconst 2, 1) := by decide +kernel
theorem dX12_isUnder_21 : decode cX12_isUnder 21 = .ok (.if_icmp .ne 12, 3) := by decide +kernel
theorem dX12_isUnder_24 : decode cX12_isUnder 24 = .ok (.iload_n 0, 1) := by decide +kernel
theorem dX12_isUnder_25 : decode cX12_isUnder 25 = .ok (.iconst 4, 1) := by decide +kernel
theorem dX12_isUnder_26 : decode cX12_isUnder 26 = .ok (.if_icmp .ne 7, 3) := by decide +kernel
theorem dX12_isUnder_29 : decode cX12_isUnder 29 = .ok (.iconst 1, 1) := by decide +kernel
theorem dX12_isUnder_30 : decode cX12_isUnder 30 = .ok (.goto 4, 3) := by decide +kernel
theorem dX12_isUnder_33 : decode cX12_isUnder 33 = .ok (.iconst 0, 1) := by decide +kernel
theorem dX12_isUnder_34 : decode cX12_isUnder 34 = .ok (.ireturn, 1) := by decide +kernel
theorem dX12_as_0 : decode cX12_as 0 = .ok (.aload_n 0, 1) := by decide +kernel
theorem dX12_as_1 : decode cX12_as 1 = .ok (.iload_n 1, 1) := by decide +kernel
theorem dX12_as_2 : decode cX12_as 2 = .ok (.invokevirtual 127, 3) := by decide +kernel
theorem dX12_as_5 : decode cX12_as 5 = .ok (.ifCond .eq 12, 3) := by decide +kernel
theorem dX12_as_8 : decode cX12_as 8 = .ok (.iload_n 2, 1) := by decide +kernel
theorem dX12_as_9 : decode cX12_as 9 = .ok (.iconst 0, 1) := by decide +kernel
theorem dX12_as_10 : decode cX12_as 10 = .ok (.iconst 5, 1) := by decide +kernel
theorem dX12_as_11 : decode cX12_as 11 = .ok (.invokestatic 78, 3) := by decide +kernel
theorem dX12_as_14 : decode cX12_as 14 = .ok (.ifCond .ne 6, 3) := by decide +kernel
theorem dX12_as_17 : decode cX12_as 17 = .ok (.ldc 82, 2) := by decide +kernel
theorem dX12_as_19 : decode cX12_as 19 = .ok (.ireturn, 1) := by decide +kernel
theorem dX12_as_20 : decode cX12_as 20 = .ok (.aload_n 0, 1) := by decide +kernel
theorem dX12_as_21 : decode cX12_as 21 = .ok (.iload_n 1, 1) := by decide +kernel
theorem dX12_as_22 : decode cX12_as 22 = .ok (.iconst 0, 1) := by decide +kernel
theorem dX12_as_23 : decode cX12_as 23 = .ok (.invokevirtual 97, 3) := by decide +kernel
theorem dX12_as_26 : decode cX12_as 26 = .ok (.iload_n 2, 1) := by decide +kernel
theorem dX12_as_27 : decode cX12_as 27 = .ok (.invokestatic 136, 3) := by decide +kernel
theorem dX12_as_30 : decode cX12_as 30 = .ok (.ifCond .eq 12, 3) := by decide +kernel
theorem dX12_as_33 : decode cX12_as 33 = .ok (.aload_n 0, 1) := by decide +kernel
theorem dX12_as_34 : decode cX12_as 34 = .ok (.iload_n 1, 1) := by decide +kernel
theorem dX12_as_35 : decode cX12_as 35 = .ok (.iconst 3, 1) := by decide +kernel
theorem dX12_as_36 : decode cX12_as 36 = .ok (.invokevirtual 97, 3) := by decide +kernel
theorem dX12_as_39 : decode cX12_as 39 = .ok (.goto 5, 3) := by decide +kernel
theorem dX12_as_42 : decode cX12_as 42 = .ok (.ldc 139, 2) := by decide +kernel
theorem dX12_as_44 : decode cX12_as 44 = .ok (.ireturn, 1) := by decide +kernel
theorem dX12_turns_0 : decode cX12_turns 0 = .ok (.aload_n 0, 1) := by decide +kernel
theorem dX12_turns_1 : decode cX12_turns 1 = .ok (.iload_n 1, 1) := by decide +kernel
theorem dX12_turns_2 : decode cX12_turns 2 = .ok (.invokevirtual 127, 3) := by decide +kernel
theorem dX12_turns_5 : decode cX12_turns 5 = .ok (.ifCond .eq 12, 3) := by decide +kernel
theorem dX12_turns_8 : decode cX12_turns 8 = .ok (.iload_n 2, 1) := by decide +kernel
theorem dX12_turns_9 : decode cX12_turns 9 = .ok (.iconst 0, 1) := by decide +kernel
theorem dX12_turns_10 : decode cX12_turns 10 = .ok (.iconst 5, 1) := by decide +kernel
theorem dX12_turns_11 : decode cX12_turns 11 = .ok (.invokestatic 78, 3) := by decide +kernel
theorem dX12_turns_14 : decode cX12_turns 14 = .ok (.ifCond .ne 6, 3) := by decide +kernel
theorem dX12_turns_17 : decode cX12_turns 17 = .ok (.ldc 82, 2) := by decide +kernel
theorem dX12_turns_19 : decode cX12_turns 19 = .ok (.ireturn, 1) := by decide +kernel
theorem dX12_turns_20 : decode cX12_turns 20 = .ok (.aload_n 0, 1) := by decide +kernel
theorem dX12_turns_21 : decode cX12_turns 21 = .ok (.iload_n 1, 1) := by decide +kernel
theorem dX12_turns_22 : decode cX12_turns 22 = .ok (.iconst 0, 1) := by decide +kernel
theorem dX12_turns_23 : decode cX12_turns 23 = .ok (.invokevirtual 97, 3) := by decide +kernel
theorem dX12_turns_26 : decode cX12_turns 26 = .ok (.istore_n 3, 1) := by decide +kernel
theorem dX12_turns_27 : decode cX12_turns 27 = .ok (.aload_n 0, 1) := by decide +kernel
theorem dX12_turns_28 : decode cX12_turns 28 = .ok (.getfield 9, 3) := by decide +kernel
theorem dX12_turns_31 : decode cX12_turns 31 = .ok (.bipush 91, 2) := by decide +kernel
theorem dX12_turns_33 : decode cX12_turns 33 = .ok (.iconst 4, 1) := by decide +kernel
theorem dX12_turns_34 : decode cX12_turns 34 = .ok (.iload_n 1, 1) := by decide +kernel
theorem dX12_turns_35 : decode cX12_turns 35 = .ok (.imul, 1) := by decide +kernel
theorem dX12_turns_36 : decode cX12_turns 36 = .ok (.iadd, 1) := by decide +kernel
theorem dX12_turns_37 : decode cX12_turns 37 = .ok (.iload_n 2, 1) := by decide +kernel
theorem dX12_turns_38 : decode cX12_turns 38 = .ok (.iastore, 1) := by decide +kernel
theorem dX12_turns_39 : decode cX12_turns 39 = .ok (.iload_n 3, 1) := by decide +kernel
theorem dX12_turns_40 : decode cX12_turns 40 = .ok (.ireturn, 1) := by decide +kernel
theorem dX12_drop_0 : decode cX12_drop 0 = .ok (.aload_n 0, 1) := by decide +kernel
theorem dX12_drop_1 : decode cX12_drop 1 = .ok (.iload_n 1, 1) := by decide +kernel
theorem dX12_drop_2 : decode cX12_drop 2 = .ok (.invokevirtual 127, 3) := by decide +kernel
theorem dX12_drop_5 : decode cX12_drop 5 = .ok (.ifCond .ne 6, 3) := by decide +kernel
theorem dX12_drop_8 : decode cX12_drop 8 = .ok (.ldc 82, 2) := by decide +kernel
theorem dX12_drop_10 : decode cX12_drop 10 = .ok (.ireturn, 1) := by decide +kernel
theorem dX12_drop_11 : decode cX12_drop 11 = .ok (.aload_n 0, 1) := by decide +kernel
theorem dX12_drop_12 : decode cX12_drop 12 = .ok (.getfield 9, 3) := by decide +kernel
theorem dX12_drop_15 : decode cX12_drop 15 = .ok (.bipush 8, 2) := by decide +kernel
theorem dX12_drop_17 : decode cX12_drop 17 = .ok (.dup2, 1) := by decide +kernel
theorem dX12_drop_18 : decode cX12_drop 18 = .ok (.iaload, 1) := by decide +kernel
theorem dX12_drop_19 : decode cX12_drop 19 = .ok (.iconst 1, 1) := by decide +kernel
theorem dX12_drop_20 : decode cX12_drop 20 = .ok (.isub, 1) := by decide +kernel
theorem dX12_drop_21 : decode cX12_drop 21 = .ok (.iastore, 1) := by decide +kernel
theorem dX12_drop_22 : decode cX12_drop 22 = .ok (.bipush 91, 2) := by decide +kernel
theorem dX12_drop_24 : decode cX12_drop 24 = .ok (.iconst 4, 1) := by decide +kernel
theorem dX12_drop_25 : decode cX12_drop 25 = .ok (.iload_n 1, 1) := by decide +kernel
theorem dX12_drop_26 : decode cX12_drop 26 = .ok (.imul, 1) := by decide +kernel
theorem dX12_drop_27 : decode cX12_drop 27 = .ok (.iadd, 1) := by decide +kernel
theorem dX12_drop_28 : decode cX12_drop 28 = .ok (.istore_n 2, 1) := by decide +kernel
theorem dX12_drop_29 : decode cX12_drop 29 = .ok (.iload_n 2, 1) := by decide +kernel
theorem dX12_drop_30 : decode cX12_drop 30 = .ok (.bipush 91, 2) := by decide +kernel
theorem dX12_drop_32 : decode cX12_drop 32 = .ok (.iconst 4, 1) := by decide +kernel
theorem dX12_drop_33 : decode cX12_drop 33 = .ok (.aload_n 0, 1) := by decide +kernel
theorem dX12_drop_34 : decode cX12_drop 34 = .ok (.getfield 9, 3) := by decide +kernel
theorem dX12_drop_37 : decode cX12_drop 37 = .ok (.bipush 8, 2) := by decide +kernel
theorem dX12_drop_39 : decode cX12_drop 39 = .ok (.iaload, 1) := by decide +kernel
theorem dX12_drop_40 : decode cX12_drop 40 = .ok (.imul, 1) := by decide +kernel
theorem dX12_drop_41 : decode cX12_drop 41 = .ok (.iadd, 1) := by decide +kernel
theorem dX12_drop_42 : decode cX12_drop 42 = .ok (.if_icmp .ge 23, 3) := by decide +kernel
theorem dX12_drop_45 : decode cX12_drop 45 = .ok (.aload_n 0, 1) := by decide +kernel
theorem dX12_drop_46 : decode cX12_drop 46 = .ok (.getfield 9, 3) := by decide +kernel
theorem dX12_drop_49 : decode cX12_drop 49 = .ok (.iload_n 2, 1) := by decide +kernel
theorem dX12_drop_50 : decode cX12_drop 50 = .ok (.aload_n 0, 1) := by decide +kernel
theorem dX12_drop_51 : decode cX12_drop 51 = .ok (.getfield 9, 3) := by decide +kernel
theorem dX12_drop_54 : decode cX12_drop 54 = .ok (.iload_n 2, 1) := by decide +kernel
theorem dX12_drop_55 : decode cX12_drop 55 = .ok (.iconst 4, 1) := by decide +kernel
theorem dX12_drop_56 : decode cX12_drop 56 = .ok (.iadd, 1) := by decide +kernel
theorem dX12_drop_57 : decode cX12_drop 57 = .ok (.iaload, 1) := by decide +kernel
theorem dX12_drop_58 : decode cX12_drop 58 = .ok (.iastore, 1) := by decide +kernel
theorem dX12_drop_59 : decode cX12_drop 59 = .ok (.iinc 2 1, 3) := by decide +kernel
theorem dX12_drop_62 : decode cX12_drop 62 = .ok (.goto (-33), 3) := by decide +kernel
theorem dX12_drop_65 : decode cX12_drop 65 = .ok (.aload_n 0, 1) := by decide +kernel
theorem dX12_drop_66 : decode cX12_drop 66 = .ok (.getfield 9, 3) := by decide +kernel
theorem dX12_drop_69 : decode cX12_drop 69 = .ok (.bipush 8, 2) := by decide +kernel
theorem dX12_drop_71 : decode cX12_drop 71 = .ok (.iaload, 1) := by decide +kernel
theorem dX12_drop_72 : decode cX12_drop 72 = .ok (.ireturn, 1) := by decide +kernel
theorem dX12_set_0 : decode cX12_set 0 = .ok (.iload_n 1, 1) := by decide +kernel
theorem dX12_set_1 : decode cX12_set 1 = .ok (.iconst 0, 1) := by decide +kernel
theorem dX12_set_2 : decode cX12_set 2 = .ok (.iconst 3, 1) := by decide +kernel
theorem dX12_set_3 : decode cX12_set 3 = .ok (.invokestatic 78, 3) := by decide +kernel
theorem dX12_set_6 : decode cX12_set 6 = .ok (.ifCond .eq 51, 3) := by decide +kernel
theorem dX12_set_9 : decode cX12_set 9 = .ok (.iload_n 2, 1) := by decide +kernel
theorem dX12_set_10 : decode cX12_set 10 = .ok (.iload_n 1, 1) := by decide +kernel
theorem dX12_set_11 : decode cX12_set 11 = .ok (.ifCond .ne 7, 3) := by decide +kernel
theorem dX12_set_14 : decode cX12_set 14 = .ok (.iconst 1, 1) := by decide +kernel
theorem dX12_set_15 : decode cX12_set 15 = .ok (.goto 4, 3) := by decide +kernel
theorem dX12_set_18 : decode cX12_set 18 = .ok (.iconst 0, 1) := by decide +kernel
theorem dX12_set_19 : decode cX12_set 19 = .ok (.iload_n 1, 1) := by decide +kernel
theorem dX12_set_20 : decode cX12_set 20 = .ok (.ifCond .ne 9, 3) := by decide +kernel
theorem dX12_set_23 : decode cX12_set 23 = .ok (.sipush 999, 3) := by decide +kernel
theorem dX12_set_26 : decode cX12_set 26 = .ok (.goto 25, 3) := by decide +kernel
theorem dX12_set_29 : decode cX12_set 29 = .ok (.iload_n 1, 1) := by decide +kernel
theorem dX12_set_30 : decode cX12_set 30 = .ok (.iconst 1, 1) := by decide +kernel
theorem dX12_set_31 : decode cX12_set 31 = .ok (.if_icmp .ne 8, 3) := by decide +kernel
theorem dX12_set_34 : decode cX12_set 34 = .ok (.bipush 99, 2) := by decide +kernel
theorem dX12_set_36 : decode cX12_set 36 = .ok (.goto 15, 3) := by decide +kernel
theorem dX12_set_39 : decode cX12_set 39 = .ok (.iload_n 1, 1) := by decide +kernel
theorem dX12_set_40 : decode cX12_set 40 = .ok (.iconst 2, 1) := by decide +kernel
theorem dX12_set_41 : decode cX12_set 41 = .ok (.if_icmp .ne 9, 3) := by decide +kernel
theorem dX12_set_44 : decode cX12_set 44 = .ok (.sipush 10000, 3) := by decide +kernel
theorem dX12_set_47 : decode cX12_set 47 = .ok (.goto 4, 3) := by decide +kernel
theorem dX12_set_50 : decode cX12_set 50 = .ok (.iconst 1, 1) := by decide +kernel
theorem dX12_set_51 : decode cX12_set 51 = .ok (.invokestatic 78, 3) := by decide +kernel
theorem dX12_set_54 : decode cX12_set 54 = .ok (.ifCond .ne 6, 3) := by decide +kernel
theorem dX12_set_57 : decode cX12_set 57 = .ok (.ldc 82, 2) := by decide +kernel
theorem dX12_set_59 : decode cX12_set 59 = .ok (.ireturn, 1) := by decide +kernel
theorem dX12_set_60 : decode cX12_set 60 = .ok (.aload_n 0, 1) := by decide +kernel
theorem dX12_set_61 : decode cX12_set 61 = .ok (.getfield 9, 3) := by decide +kernel
theorem dX12_set_64 : decode cX12_set 64 = .ok (.iconst 2, 1) := by decide +kernel
theorem dX12_set_65 : decode cX12_set 65 = .ok (.iload_n 1, 1) := by decide +kernel
theorem dX12_set_66 : decode cX12_set 66 = .ok (.iadd, 1) := by decide +kernel
theorem dX12_set_67 : decode cX12_set 67 = .ok (.iaload, 1) := by decide +kernel
theorem dX12_set_68 : decode cX12_set 68 = .ok (.istore_n 3, 1) := by decide +kernel
theorem dX12_set_69 : decode cX12_set 69 = .ok (.aload_n 0, 1) := by decide +kernel
theorem dX12_set_70 : decode cX12_set 70 = .ok (.getfield 9, 3) := by decide +kernel
theorem dX12_set_73 : decode cX12_set 73 = .ok (.iconst 2, 1) := by decide +kernel
theorem dX12_set_74 : decode cX12_set 74 = .ok (.iload_n 1, 1) := by decide +kernel
theorem dX12_set_75 : decode cX12_set 75 = .ok (.iadd, 1) := by decide +kernel
theorem dX12_set_76 : decode cX12_set 76 = .ok (.iload_n 2, 1) := by decide +kernel
theorem dX12_set_77 : decode cX12_set 77 = .ok (.iastore, 1) := by decide +kernel
theorem dX12_set_78 : decode cX12_set 78 = .ok (.iload_n 3, 1) := by decide +kernel
theorem dX12_set_79 : decode cX12_set 79 = .ok (.ireturn, 1) := by decide +kernel
theorem dX12_fit_0 : decode cX12_fit 0 = .ok (.iconst 0, 1) := by decide +kernel
theorem dX12_fit_1 : decode cX12_fit 1 = .ok (.istore_n 1, 1) := by decide +kernel
theorem dX12_fit_2 : decode cX12_fit 2 = .ok (.iconst 0, 1) := by decide +kernel
theorem dX12_fit_3 : decode cX12_fit 3 = .ok (.istore_n 2, 1) := by decide +kernel
theorem dX12_fit_4 : decode cX12_fit 4 = .ok (.iload_n 2, 1) := by decide +kernel
theorem dX12_fit_5 : decode cX12_fit 5 = .ok (.aload_n 0, 1) := by decide +kernel
theorem dX12_fit_6 : decode cX12_fit 6 = .ok (.getfield 9, 3) := by decide +kernel
theorem dX12_fit_9 : decode cX12_fit 9 = .ok (.bipush 8, 2) := by decide +kernel
theorem dX12_fit_11 : decode cX12_fit 11 = .ok (.iaload, 1) := by decide +kernel
theorem dX12_fit_12 : decode cX12_fit 12 = .ok (.if_icmp .ge 25, 3) := by decide +kernel
theorem dX12_fit_15 : decode cX12_fit 15 = .ok (.iload_n 1, 1) := by decide +kernel
theorem dX12_fit_16 : decode cX12_fit 16 = .ok (.aload_n 0, 1) := by decide +kernel
theorem dX12_fit_17 : decode cX12_fit 17 = .ok (.iload_n 2, 1) := by decide +kernel
theorem dX12_fit_18 : decode cX12_fit 18 = .ok (.invokevirtual 130, 3) := by decide +kernel
theorem dX12_fit_21 : decode cX12_fit 21 = .ok (.ifCond .eq 7, 3) := by decide +kernel
theorem dX12_fit_24 : decode cX12_fit 24 = .ok (.iconst 1, 1) := by decide +kernel
theorem dX12_fit_25 : decode cX12_fit 25 = .ok (.goto 4, 3) := by decide +kernel
theorem dX12_fit_28 : decode cX12_fit 28 = .ok (.iconst 0, 1) := by decide +kernel
theorem dX12_fit_29 : decode cX12_fit 29 = .ok (.iadd, 1) := by decide +kernel
theorem dX12_fit_30 : decode cX12_fit 30 = .ok (.istore_n 1, 1) := by decide +kernel
theorem dX12_fit_31 : decode cX12_fit 31 = .ok (.iinc 2 1, 3) := by decide +kernel
theorem dX12_fit_34 : decode cX12_fit 34 = .ok (.goto (-30), 3) := by decide +kernel
theorem dX12_fit_37 : decode cX12_fit 37 = .ok (.iload_n 1, 1) := by decide +kernel
theorem dX12_fit_38 : decode cX12_fit 38 = .ok (.ireturn, 1) := by decide +kernel
theorem dX12_rateBy_0 : decode cX12_rateBy 0 = .ok (.aload_n 0, 1) := by decide +kernel
theorem dX12_rateBy_1 : decode cX12_rateBy 1 = .ok (.iconst 0, 1) := by decide +kernel
theorem dX12_rateBy_2 : decode cX12_rateBy 2 = .ok (.invokevirtual 140, 3) := by decide +kernel
theorem dX12_rateBy_5 : decode cX12_rateBy 5 = .ok (.istore_n 3, 1) := by decide +kernel
theorem dX12_rateBy_6 : decode cX12_rateBy 6 = .ok (.aload_n 0, 1) := by decide +kernel
theorem dX12_rateBy_7 : decode cX12_rateBy 7 = .ok (.getfield 42, 3) := by decide +kernel
theorem dX12_rateBy_10 : decode cX12_rateBy 10 = .ok (.iconst 0, 1) := by decide +kernel
theorem dX12_rateBy_11 : decode cX12_rateBy 11 = .ok (.iload_n 1, 1) := by decide +kernel
theorem dX12_rateBy_12 : decode cX12_rateBy 12 = .ok (.iastore, 1) := by decide +kernel
theorem dX12_rateBy_13 : decode cX12_rateBy 13 = .ok (.aload_n 0, 1) := by decide +kernel
theorem dX12_rateBy_14 : decode cX12_rateBy 14 = .ok (.getfield 42, 3) := by decide +kernel
theorem dX12_rateBy_17 : decode cX12_rateBy 17 = .ok (.iconst 1, 1) := by decide +kernel
theorem dX12_rateBy_18 : decode cX12_rateBy 18 = .ok (.iload_n 2, 1) := by decide +kernel
theorem dX12_rateBy_19 : decode cX12_rateBy 19 = .ok (.iastore, 1) := by decide +kernel
theorem dX12_rateBy_20 : decode cX12_rateBy 20 = .ok (.aload_n 0, 1) := by decide +kernel
theorem dX12_rateBy_21 : decode cX12_rateBy 21 = .ok (.getfield 42, 3) := by decide +kernel
theorem dX12_rateBy_24 : decode cX12_rateBy 24 = .ok (.iconst 2, 1) := by decide +kernel
theorem dX12_rateBy_25 : decode cX12_rateBy 25 = .ok (.aload_n 0, 1) := by decide +kernel
theorem dX12_rateBy_26 : decode cX12_rateBy 26 = .ok (.getfield 9, 3) := by decide +kernel
theorem dX12_rateBy_29 : decode cX12_rateBy 29 = .ok (.iconst 2, 1) := by decide +kernel
theorem dX12_rateBy_30 : decode cX12_rateBy 30 = .ok (.iaload, 1) := by decide +kernel
theorem dX12_rateBy_31 : decode cX12_rateBy 31 = .ok (.iastore, 1) := by decide +kernel
theorem dX12_rateBy_32 : decode cX12_rateBy 32 = .ok (.iload_n 3, 1) := by decide +kernel
theorem dX12_rateBy_33 : decode cX12_rateBy 33 = .ok (.ifCond .ge 7, 3) := by decide +kernel
theorem dX12_rateBy_36 : decode cX12_rateBy 36 = .ok (.iload_n 1, 1) := by decide +kernel
theorem dX12_rateBy_37 : decode cX12_rateBy 37 = .ok (.goto 8, 3) := by decide +kernel
theorem dX12_rateBy_40 : decode cX12_rateBy 40 = .ok (.aload_n 0, 1) := by decide +kernel
theorem dX12_rateBy_41 : decode cX12_rateBy 41 = .ok (.iload_n 3, 1) := by decide +kernel
theorem dX12_rateBy_42 : decode cX12_rateBy 42 = .ok (.invokevirtual 143, 3) := by decide +kernel
theorem dX12_rateBy_45 : decode cX12_rateBy 45 = .ok (.iconst 0, 1) := by decide +kernel
theorem dX12_rateBy_46 : decode cX12_rateBy 46 = .ok (.sipush 999, 3) := by decide +kernel
theorem dX12_rateBy_49 : decode cX12_rateBy 49 = .ok (.invokestatic 146, 3) := by decide +kernel
theorem dX12_rateBy_52 : decode cX12_rateBy 52 = .ok (.ireturn, 1) := by decide +kernel
theorem dX12_knockBy_0 : decode cX12_knockBy 0 = .ok (.aload_n 0, 1) := by decide +kernel
theorem dX12_knockBy_1 : decode cX12_knockBy 1 = .ok (.iconst 1, 1) := by decide +kernel
theorem dX12_knockBy_2 : decode cX12_knockBy 2 = .ok (.invokevirtual 140, 3) := by decide +kernel
theorem dX12_knockBy_5 : decode cX12_knockBy 5 = .ok (.istore_n 3, 1) := by decide +kernel
theorem dX12_knockBy_6 : decode cX12_knockBy 6 = .ok (.aload_n 0, 1) := by decide +kernel
theorem dX12_knockBy_7 : decode cX12_knockBy 7 = .ok (.getfield 42, 3) := by decide +kernel
theorem dX12_knockBy_10 : decode cX12_knockBy 10 = .ok (.iconst 0, 1) := by decide +kernel
theorem dX12_knockBy_11 : decode cX12_knockBy 11 = .ok (.iload_n 1, 1) := by decide +kernel
theorem dX12_knockBy_12 : decode cX12_knockBy 12 = .ok (.iastore, 1) := by decide +kernel
theorem dX12_knockBy_13 : decode cX12_knockBy 13 = .ok (.aload_n 0, 1) := by decide +kernel
theorem dX12_knockBy_14 : decode cX12_knockBy 14 = .ok (.getfield 42, 3) := by decide +kernel
theorem dX12_knockBy_17 : decode cX12_knockBy 17 = .ok (.iconst 1, 1) := by decide +kernel
theorem dX12_knockBy_18 : decode cX12_knockBy 18 = .ok (.iload_n 2, 1) := by decide +kernel
theorem dX12_knockBy_19 : decode cX12_knockBy 19 = .ok (.iastore, 1) := by decide +kernel
theorem dX12_knockBy_20 : decode cX12_knockBy 20 = .ok (.aload_n 0, 1) := by decide +kernel
theorem dX12_knockBy_21 : decode cX12_knockBy 21 = .ok (.getfield 42, 3) := by decide +kernel
theorem dX12_knockBy_24 : decode cX12_knockBy 24 = .ok (.iconst 2, 1) := by decide +kernel
theorem dX12_knockBy_25 : decode cX12_knockBy 25 = .ok (.aload_n 0, 1) := by decide +kernel
theorem dX12_knockBy_26 : decode cX12_knockBy 26 = .ok (.getfield 9, 3) := by decide +kernel
theorem dX12_knockBy_29 : decode cX12_knockBy 29 = .ok (.iconst 3, 1) := by decide +kernel
theorem dX12_knockBy_30 : decode cX12_knockBy 30 = .ok (.iaload, 1) := by decide +kernel
theorem dX12_knockBy_31 : decode cX12_knockBy 31 = .ok (.iastore, 1) := by decide +kernel
theorem dX12_knockBy_32 : decode cX12_knockBy 32 = .ok (.iload_n 3, 1) := by decide +kernel
theorem dX12_knockBy_33 : decode cX12_knockBy 33 = .ok (.ifCond .ge 7, 3) := by decide +kernel
theorem dX12_knockBy_36 : decode cX12_knockBy 36 = .ok (.iconst 1, 1) := by decide +kernel
theorem dX12_knockBy_37 : decode cX12_knockBy 37 = .ok (.goto 15, 3) := by decide +kernel
theorem dX12_knockBy_40 : decode cX12_knockBy 40 = .ok (.aload_n 0, 1) := by decide +kernel
theorem dX12_knockBy_41 : decode cX12_knockBy 41 = .ok (.iload_n 3, 1) := by decide +kernel
theorem dX12_knockBy_42 : decode cX12_knockBy 42 = .ok (.invokevirtual 143, 3) := by decide +kernel
theorem dX12_knockBy_45 : decode cX12_knockBy 45 = .ok (.iconst 0, 1) := by decide +kernel
theorem dX12_knockBy_46 : decode cX12_knockBy 46 = .ok (.sipush 999, 3) := by decide +kernel
theorem dX12_knockBy_49 : decode cX12_knockBy 49 = .ok (.invokestatic 146, 3) := by decide +kernel
theorem dX12_knockBy_52 : decode cX12_knockBy 52 = .ok (.ireturn, 1) := by decide +kernel
theorem dX12_fitsOn_0 : decode cX12_fitsOn 0 = .ok (.iconst 0, 1) := by decide +kernel
theorem dX12_fitsOn_1 : decode cX12_fitsOn 1 = .ok (.istore_n 2, 1) := by decide +kernel
theorem dX12_fitsOn_2 : decode cX12_fitsOn 2 = .ok (.iload_n 2, 1) := by decide +kernel
theorem dX12_fitsOn_3 : decode cX12_fitsOn 3 = .ok (.aload_n 0, 1) := by decide +kernel
theorem dX12_fitsOn_4 : decode cX12_fitsOn 4 = .ok (.getfield 9, 3) := by decide +kernel
theorem dX12_fitsOn_7 : decode cX12_fitsOn 7 = .ok (.bipush 8, 2) := by decide +kernel
theorem dX12_fitsOn_9 : decode cX12_fitsOn 9 = .ok (.iaload, 1) := by decide +kernel
theorem dX12_fitsOn_10 : decode cX12_fitsOn 10 = .ok (.if_icmp .ge 29, 3) := by decide +kernel
theorem dX12_fitsOn_13 : decode cX12_fitsOn 13 = .ok (.aload_n 0, 1) := by decide +kernel
theorem dX12_fitsOn_14 : decode cX12_fitsOn 14 = .ok (.iload_n 2, 1) := by decide +kernel
theorem dX12_fitsOn_15 : decode cX12_fitsOn 15 = .ok (.iconst 2, 1) := by decide +kernel
theorem dX12_fitsOn_16 : decode cX12_fitsOn 16 = .ok (.invokevirtual 97, 3) := by decide +kernel
theorem dX12_fitsOn_19 : decode cX12_fitsOn 19 = .ok (.iload_n 1, 1) := by decide +kernel
theorem dX12_fitsOn_20 : decode cX12_fitsOn 20 = .ok (.if_icmp .ne 13, 3) := by decide +kernel
theorem dX12_fitsOn_23 : decode cX12_fitsOn 23 = .ok (.aload_n 0, 1) := by decide +kernel
theorem dX12_fitsOn_24 : decode cX12_fitsOn 24 = .ok (.iload_n 2, 1) := by decide +kernel
theorem dX12_fitsOn_25 : decode cX12_fitsOn 25 = .ok (.invokevirtual 130, 3) := by decide +kernel
theorem dX12_fitsOn_28 : decode cX12_fitsOn 28 = .ok (.ifCond .eq 5, 3) := by decide +kernel
theorem dX12_fitsOn_31 : decode cX12_fitsOn 31 = .ok (.iconst 1, 1) := by decide +kernel
theorem dX12_fitsOn_32 : decode cX12_fitsOn 32 = .ok (.ireturn, 1) := by decide +kernel
theorem dX12_fitsOn_33 : decode cX12_fitsOn 33 = .ok (.iinc 2 1, 3) := by decide +kernel
theorem dX12_fitsOn_36 : decode cX12_fitsOn 36 = .ok (.goto (-34), 3) := by decide +kernel
theorem dX12_fitsOn_39 : decode cX12_fitsOn 39 = .ok (.iconst 0, 1) := by decide +kernel
theorem dX12_fitsOn_40 : decode cX12_fitsOn 40 = .ok (.ireturn, 1) := by decide +kernel
theorem dX12_believed_0 : decode cX12_believed 0 = .ok (.iload_n 0, 1) := by decide +kernel
theorem dX12_believed_1 : decode cX12_believed 1 = .ok (.i2l, 1) := by decide +kernel
theorem dX12_believed_2 : decode cX12_believed 2 = .ok (.iload_n 3, 1) := by decide +kernel
theorem dX12_believed_3 : decode cX12_believed 3 = .ok (.ifCond .eq 7, 3) := by decide +kernel
theorem dX12_believed_6 : decode cX12_believed 6 = .ok (.iload_n 1, 1) := by decide +kernel
theorem dX12_believed_7 : decode cX12_believed 7 = .ok (.goto 8, 3) := by decide +kernel
theorem dX12_believed_10 : decode cX12_believed 10 = .ok (.sipush 1000, 3) := by decide +kernel
theorem dX12_believed_13 : decode cX12_believed 13 = .ok (.iload_n 1, 1) := by decide +kernel
theorem dX12_believed_14 : decode cX12_believed 14 = .ok (.isub, 1) := by decide +kernel
theorem dX12_believed_15 : decode cX12_believed 15 = .ok (.i2l, 1) := by decide +kernel
theorem dX12_believed_16 : decode cX12_believed 16 = .ok (.lmul, 1) := by decide +kernel
theorem dX12_believed_17 : decode cX12_believed 17 = .ok (.lstore 4, 2) := by decide +kernel
theorem dX12_believed_19 : decode cX12_believed 19 = .ok (.ldc2_w 150, 3) := by decide +kernel
theorem dX12_believed_22 : decode cX12_believed 22 = .ok (.iload_n 0, 1) := by decide +kernel
theorem dX12_believed_23 : decode cX12_believed 23 = .ok (.i2l, 1) := by decide +kernel
theorem dX12_believed_24 : decode cX12_believed 24 = .ok (.lsub, 1) := by decide +kernel
theorem dX12_believed_25 : decode cX12_believed 25 = .ok (.iload_n 3, 1) := by decide +kernel
theorem dX12_believed_26 : decode cX12_believed 26 = .ok (.ifCond .eq 7, 3) := by decide +kernel
theorem dX12_believed_29 : decode cX12_believed 29 = .ok (.iload_n 2, 1) := by decide +kernel
theorem dX12_believed_30 : decode cX12_believed 30 = .ok (.goto 8, 3) := by decide +kernel
theorem dX12_believed_33 : decode cX12_believed 33 = .ok (.sipush 1000, 3) := by decide +kernel
theorem dX12_believed_36 : decode cX12_believed 36 = .ok (.iload_n 2, 1) := by decide +kernel
theorem dX12_believed_37 : decode cX12_believed 37 = .ok (.isub, 1) := by decide +kernel
theorem dX12_believed_38 : decode cX12_believed 38 = .ok (.i2l, 1) := by decide +kernel
theorem dX12_believed_39 : decode cX12_believed 39 = .ok (.lmul, 1) := by decide +kernel
theorem dX12_believed_40 : decode cX12_believed 40 = .ok (.lstore 6, 2) := by decide +kernel
theorem dX12_believed_42 : decode cX12_believed 42 = .ok (.lload 4, 2) := by decide +kernel
theorem dX12_believed_44 : decode cX12_believed 44 = .ok (.lload 6, 2) := by decide +kernel
theorem dX12_believed_46 : decode cX12_believed 46 = .ok (.ladd, 1) := by decide +kernel
theorem dX12_believed_47 : decode cX12_believed 47 = .ok (.lconst 0, 1) := by decide +kernel
theorem dX12_believed_48 : decode cX12_believed 48 = .ok (.lcmp, 1) := by decide +kernel
theorem dX12_believed_49 : decode cX12_believed 49 = .ok (.ifCond .ne 7, 3) := by decide +kernel
theorem dX12_believed_52 : decode cX12_believed 52 = .ok (.iload_n 0, 1) := by decide +kernel
theorem dX12_believed_53 : decode cX12_believed 53 = .ok (.goto 16, 3) := by decide +kernel
theorem dX12_believed_56 : decode cX12_believed 56 = .ok (.ldc2_w 150, 3) := by decide +kernel
theorem dX12_believed_59 : decode cX12_believed 59 = .ok (.lload 4, 2) := by decide +kernel
theorem dX12_believed_61 : decode cX12_believed 61 = .ok (.lmul, 1) := by decide +kernel
theorem dX12_believed_62 : decode cX12_believed 62 = .ok (.lload 4, 2) := by decide +kernel
theorem dX12_believed_64 : decode cX12_believed 64 = .ok (.lload 6, 2) := by decide +kernel
theorem dX12_believed_66 : decode cX12_believed 66 = .ok (.ladd, 1) := by decide +kernel
theorem dX12_believed_67 : decode cX12_believed 67 = .ok (.ldiv, 1) := by decide +kernel
theorem dX12_believed_68 : decode cX12_believed 68 = .ok (.l2i, 1) := by decide +kernel
theorem dX12_believed_69 : decode cX12_believed 69 = .ok (.ireturn, 1) := by decide +kernel
theorem dX12_draw_0 : decode cX12_draw 0 = .ok (.aload_n 0, 1) := by decide +kernel
theorem dX12_draw_1 : decode cX12_draw 1 = .ok (.getfield 9, 3) := by decide +kernel
theorem dX12_draw_4 : decode cX12_draw 4 = .ok (.iconst 0, 1) := by decide +kernel
theorem dX12_draw_5 : decode cX12_draw 5 = .ok (.aload_n 0, 1) := by decide +kernel
theorem dX12_draw_6 : decode cX12_draw 6 = .ok (.getfield 9, 3) := by decide +kernel
theorem dX12_draw_9 : decode cX12_draw 9 = .ok (.iconst 0, 1) := by decide +kernel
theorem dX12_draw_10 : decode cX12_draw 10 = .ok (.iaload, 1) := by decide +kernel
theorem dX12_draw_11 : decode cX12_draw 11 = .ok (.ldc 152, 2) := by decide +kernel
theorem dX12_draw_13 : decode cX12_draw 13 = .ok (.imul, 1) := by decide +kernel
theorem dX12_draw_14 : decode cX12_draw 14 = .ok (.sipush 12345, 3) := by decide +kernel
theorem dX12_draw_17 : decode cX12_draw 17 = .ok (.iadd, 1) := by decide +kernel
theorem dX12_draw_18 : decode cX12_draw 18 = .ok (.iastore, 1) := by decide +kernel
theorem dX12_draw_19 : decode cX12_draw 19 = .ok (.aload_n 0, 1) := by decide +kernel
theorem dX12_draw_20 : decode cX12_draw 20 = .ok (.getfield 9, 3) := by decide +kernel
theorem dX12_draw_23 : decode cX12_draw 23 = .ok (.iconst 0, 1) := by decide +kernel
theorem dX12_draw_24 : decode cX12_draw 24 = .ok (.iaload, 1) := by decide +kernel
theorem dX12_draw_25 : decode cX12_draw 25 = .ok (.bipush 8, 2) := by decide +kernel
theorem dX12_draw_27 : decode cX12_draw 27 = .ok (.iushr, 1) := by decide +kernel
theorem dX12_draw_28 : decode cX12_draw 28 = .ok (.ireturn, 1) := by decide +kernel
theorem dX12_aDay_0 : decode cX12_aDay 0 = .ok (.aload_n 0, 1) := by decide +kernel
theorem dX12_aDay_1 : decode cX12_aDay 1 = .ok (.getfield 9, 3) := by decide +kernel
theorem dX12_aDay_4 : decode cX12_aDay 4 = .ok (.iconst 1, 1) := by decide +kernel
theorem dX12_aDay_5 : decode cX12_aDay 5 = .ok (.iaload, 1) := by decide +kernel
theorem dX12_aDay_6 : decode cX12_aDay 6 = .ok (.istore_n 1, 1) := by decide +kernel
theorem dX12_aDay_7 : decode cX12_aDay 7 = .ok (.aload_n 0, 1) := by decide +kernel
theorem dX12_aDay_8 : decode cX12_aDay 8 = .ok (.iload_n 1, 1) := by decide +kernel
theorem dX12_aDay_9 : decode cX12_aDay 9 = .ok (.invokevirtual 107, 3) := by decide +kernel
theorem dX12_aDay_12 : decode cX12_aDay 12 = .ok (.istore_n 2, 1) := by decide +kernel
theorem dX12_aDay_13 : decode cX12_aDay 13 = .ok (.aload_n 0, 1) := by decide +kernel
theorem dX12_aDay_14 : decode cX12_aDay 14 = .ok (.iload_n 2, 1) := by decide +kernel
theorem dX12_aDay_15 : decode cX12_aDay 15 = .ok (.iload_n 1, 1) := by decide +kernel
theorem dX12_aDay_16 : decode cX12_aDay 16 = .ok (.invokevirtual 153, 3) := by decide +kernel
theorem dX12_aDay_19 : decode cX12_aDay 19 = .ok (.istore_n 3, 1) := by decide +kernel
theorem dX12_aDay_20 : decode cX12_aDay 20 = .ok (.aload_n 0, 1) := by decide +kernel
theorem dX12_aDay_21 : decode cX12_aDay 21 = .ok (.iload_n 2, 1) := by decide +kernel
theorem dX12_aDay_22 : decode cX12_aDay 22 = .ok (.iload_n 1, 1) := by decide +kernel
theorem dX12_aDay_23 : decode cX12_aDay 23 = .ok (.invokevirtual 156, 3) := by decide +kernel
theorem dX12_aDay_26 : decode cX12_aDay 26 = .ok (.istore 4, 2) := by decide +kernel
theorem dX12_aDay_28 : decode cX12_aDay 28 = .ok (.aload_n 0, 1) := by decide +kernel
theorem dX12_aDay_29 : decode cX12_aDay 29 = .ok (.iload_n 1, 1) := by decide +kernel
theorem dX12_aDay_30 : decode cX12_aDay 30 = .ok (.invokevirtual 159, 3) := by decide +kernel
theorem dX12_aDay_33 : decode cX12_aDay 33 = .ok (.istore 5, 2) := by decide +kernel
theorem dX12_aDay_35 : decode cX12_aDay 35 = .ok (.aload_n 0, 1) := by decide +kernel
theorem dX12_aDay_36 : decode cX12_aDay 36 = .ok (.getfield 9, 3) := by decide +kernel
theorem dX12_aDay_39 : decode cX12_aDay 39 = .ok (.iconst 5, 1) := by decide +kernel
theorem dX12_aDay_40 : decode cX12_aDay 40 = .ok (.iaload, 1) := by decide +kernel
theorem dX12_aDay_41 : decode cX12_aDay 41 = .ok (.iconst 1, 1) := by decide +kernel
theorem dX12_aDay_42 : decode cX12_aDay 42 = .ok (.if_icmp .ne 50, 3) := by decide +kernel
theorem dX12_aDay_45 : decode cX12_aDay 45 = .ok (.aload_n 0, 1) := by decide +kernel
theorem dX12_aDay_46 : decode cX12_aDay 46 = .ok (.invokevirtual 162, 3) := by decide +kernel
theorem dX12_aDay_49 : decode cX12_aDay 49 = .ok (.sipush 1000, 3) := by decide +kernel
theorem dX12_aDay_52 : decode cX12_aDay 52 = .ok (.irem, 1) := by decide +kernel
theorem dX12_aDay_53 : decode cX12_aDay 53 = .ok (.iload_n 3, 1) := by decide +kernel
theorem dX12_aDay_54 : decode cX12_aDay 54 = .ok (.if_icmp .ge 38, 3) := by decide +kernel
theorem dX12_aDay_57 : decode cX12_aDay 57 = .ok (.iload 5, 2) := by decide +kernel
theorem dX12_aDay_59 : decode cX12_aDay 59 = .ok (.ifCond .le 33, 3) := by decide +kernel
theorem dX12_aDay_62 : decode cX12_aDay 62 = .ok (.aload_n 0, 1) := by decide +kernel
theorem dX12_aDay_63 : decode cX12_aDay 63 = .ok (.getfield 9, 3) := by decide +kernel
theorem dX12_aDay_66 : decode cX12_aDay 66 = .ok (.bipush 8, 2) := by decide +kernel
theorem dX12_aDay_68 : decode cX12_aDay 68 = .ok (.iaload, 1) := by decide +kernel
theorem dX12_aDay_69 : decode cX12_aDay 69 = .ok (.bipush 40, 2) := by decide +kernel
theorem dX12_aDay_71 : decode cX12_aDay 71 = .ok (.if_icmp .ge 21, 3) := by decide +kernel
theorem dX12_aDay_74 : decode cX12_aDay 74 = .ok (.aload_n 0, 1) := by decide +kernel
theorem dX12_aDay_75 : decode cX12_aDay 75 = .ok (.iconst 1, 1) := by decide +kernel
theorem dX12_aDay_76 : decode cX12_aDay 76 = .ok (.aload_n 0, 1) := by decide +kernel
theorem dX12_aDay_77 : decode cX12_aDay 77 = .ok (.iload_n 1, 1) := by decide +kernel
theorem dX12_aDay_78 : decode cX12_aDay 78 = .ok (.iconst 0, 1) := by decide +kernel
theorem dX12_aDay_79 : decode cX12_aDay 79 = .ok (.invokevirtual 166, 3) := by decide +kernel
theorem dX12_aDay_82 : decode cX12_aDay 82 = .ok (.iload_n 1, 1) := by decide +kernel
theorem dX12_aDay_83 : decode cX12_aDay 83 = .ok (.aload_n 0, 1) := by decide +kernel
theorem dX12_aDay_84 : decode cX12_aDay 84 = .ok (.getfield 9, 3) := by decide +kernel
theorem dX12_aDay_87 : decode cX12_aDay 87 = .ok (.iconst 2, 1) := by decide +kernel
theorem dX12_aDay_88 : decode cX12_aDay 88 = .ok (.iaload, 1) := by decide +kernel
theorem dX12_aDay_89 : decode cX12_aDay 89 = .ok (.invokevirtual 114, 3) := by decide +kernel
theorem dX12_aDay_92 : decode cX12_aDay 92 = .ok (.aload_n 0, 1) := by decide +kernel
theorem dX12_aDay_93 : decode cX12_aDay 93 = .ok (.invokevirtual 162, 3) := by decide +kernel
theorem dX12_aDay_96 : decode cX12_aDay 96 = .ok (.sipush 1000, 3) := by decide +kernel
theorem dX12_aDay_99 : decode cX12_aDay 99 = .ok (.irem, 1) := by decide +kernel
theorem dX12_aDay_100 : decode cX12_aDay 100 = .ok (.iload 4, 2) := by decide +kernel
theorem dX12_aDay_102 : decode cX12_aDay 102 = .ok (.if_icmp .ge 89, 3) := by decide +kernel
theorem dX12_aDay_105 : decode cX12_aDay 105 = .ok (.iload 5, 2) := by decide +kernel
theorem dX12_aDay_107 : decode cX12_aDay 107 = .ok (.ifCond .le 84, 3) := by decide +kernel
theorem dX12_aDay_110 : decode cX12_aDay 110 = .ok (.aload_n 0, 1) := by decide +kernel
theorem dX12_aDay_111 : decode cX12_aDay 111 = .ok (.getfield 9, 3) := by decide +kernel
theorem dX12_aDay_114 : decode cX12_aDay 114 = .ok (.bipush 8, 2) := by decide +kernel
theorem dX12_aDay_116 : decode cX12_aDay 116 = .ok (.iaload, 1) := by decide +kernel
theorem dX12_aDay_117 : decode cX12_aDay 117 = .ok (.bipush 40, 2) := by decide +kernel
theorem dX12_aDay_119 : decode cX12_aDay 119 = .ok (.if_icmp .ge 72, 3) := by decide +kernel
theorem dX12_aDay_122 : decode cX12_aDay 122 = .ok (.aload_n 0, 1) := by decide +kernel
theorem dX12_aDay_123 : decode cX12_aDay 123 = .ok (.iload_n 1, 1) := by decide +kernel
theorem dX12_aDay_124 : decode cX12_aDay 124 = .ok (.aload_n 0, 1) := by decide +kernel
theorem dX12_aDay_125 : decode cX12_aDay 125 = .ok (.invokevirtual 162, 3) := by decide +kernel
theorem dX12_aDay_128 : decode cX12_aDay 128 = .ok (.iload 5, 2) := by decide +kernel
theorem dX12_aDay_130 : decode cX12_aDay 130 = .ok (.irem, 1) := by decide +kernel
theorem dX12_aDay_131 : decode cX12_aDay 131 = .ok (.invokevirtual 166, 3) := by decide +kernel
theorem dX12_aDay_134 : decode cX12_aDay 134 = .ok (.istore 6, 2) := by decide +kernel
theorem dX12_aDay_136 : decode cX12_aDay 136 = .ok (.aload_n 0, 1) := by decide +kernel
theorem dX12_aDay_137 : decode cX12_aDay 137 = .ok (.getfield 9, 3) := by decide +kernel
theorem dX12_aDay_140 : decode cX12_aDay 140 = .ok (.bipush 10, 2) := by decide +kernel
theorem dX12_aDay_142 : decode cX12_aDay 142 = .ok (.iaload, 1) := by decide +kernel
theorem dX12_aDay_143 : decode cX12_aDay 143 = .ok (.ifCond .ne 15, 3) := by decide +kernel
theorem dX12_aDay_146 : decode cX12_aDay 146 = .ok (.iconst 1, 1) := by decide +kernel
theorem dX12_aDay_147 : decode cX12_aDay 147 = .ok (.aload_n 0, 1) := by decide +kernel
theorem dX12_aDay_148 : decode cX12_aDay 148 = .ok (.invokevirtual 162, 3) := by decide +kernel
theorem dX12_aDay_151 : decode cX12_aDay 151 = .ok (.bipush 99, 2) := by decide +kernel
theorem dX12_aDay_153 : decode cX12_aDay 153 = .ok (.irem, 1) := by decide +kernel
theorem dX12_aDay_154 : decode cX12_aDay 154 = .ok (.iadd, 1) := by decide +kernel
theorem dX12_aDay_155 : decode cX12_aDay 155 = .ok (.goto 24, 3) := by decide +kernel
theorem dX12_aDay_158 : decode cX12_aDay 158 = .ok (.aload_n 0, 1) := by decide +kernel
theorem dX12_aDay_159 : decode cX12_aDay 159 = .ok (.getfield 9, 3) := by decide +kernel
theorem dX12_aDay_162 : decode cX12_aDay 162 = .ok (.sipush 251, 3) := by decide +kernel
theorem dX12_aDay_165 : decode cX12_aDay 165 = .ok (.aload_n 0, 1) := by decide +kernel
theorem dX12_aDay_166 : decode cX12_aDay 166 = .ok (.invokevirtual 162, 3) := by decide +kernel
theorem dX12_aDay_169 : decode cX12_aDay 169 = .ok (.aload_n 0, 1) := by decide +kernel
theorem dX12_aDay_170 : decode cX12_aDay 170 = .ok (.getfield 9, 3) := by decide +kernel
theorem dX12_aDay_173 : decode cX12_aDay 173 = .ok (.bipush 10, 2) := by decide +kernel
theorem dX12_aDay_175 : decode cX12_aDay 175 = .ok (.iaload, 1) := by decide +kernel
theorem dX12_aDay_176 : decode cX12_aDay 176 = .ok (.irem, 1) := by decide +kernel
theorem dX12_aDay_177 : decode cX12_aDay 177 = .ok (.iadd, 1) := by decide +kernel
theorem dX12_aDay_178 : decode cX12_aDay 178 = .ok (.iaload, 1) := by decide +kernel
theorem dX12_aDay_179 : decode cX12_aDay 179 = .ok (.istore 7, 2) := by decide +kernel
theorem dX12_aDay_181 : decode cX12_aDay 181 = .ok (.aload_n 0, 1) := by decide +kernel
theorem dX12_aDay_182 : decode cX12_aDay 182 = .ok (.iconst 2, 1) := by decide +kernel
theorem dX12_aDay_183 : decode cX12_aDay 183 = .ok (.iload 6, 2) := by decide +kernel
theorem dX12_aDay_185 : decode cX12_aDay 185 = .ok (.iload_n 1, 1) := by decide +kernel
theorem dX12_aDay_186 : decode cX12_aDay 186 = .ok (.iload 7, 2) := by decide +kernel
theorem dX12_aDay_188 : decode cX12_aDay 188 = .ok (.invokevirtual 114, 3) := by decide +kernel
theorem dX12_aDay_191 : decode cX12_aDay 191 = .ok (.aload_n 0, 1) := by decide +kernel
theorem dX12_aDay_192 : decode cX12_aDay 192 = .ok (.getfield 9, 3) := by decide +kernel
theorem dX12_aDay_195 : decode cX12_aDay 195 = .ok (.iconst 4, 1) := by decide +kernel
theorem dX12_aDay_196 : decode cX12_aDay 196 = .ok (.aload_n 0, 1) := by decide +kernel
theorem dX12_aDay_197 : decode cX12_aDay 197 = .ok (.getfield 9, 3) := by decide +kernel
theorem dX12_aDay_200 : decode cX12_aDay 200 = .ok (.iconst 4, 1) := by decide +kernel
theorem dX12_aDay_201 : decode cX12_aDay 201 = .ok (.iaload, 1) := by decide +kernel
theorem dX12_aDay_202 : decode cX12_aDay 202 = .ok (.iload_n 3, 1) := by decide +kernel
theorem dX12_aDay_203 : decode cX12_aDay 203 = .ok (.iload 4, 2) := by decide +kernel
theorem dX12_aDay_205 : decode cX12_aDay 205 = .ok (.aload_n 0, 1) := by decide +kernel
theorem dX12_aDay_206 : decode cX12_aDay 206 = .ok (.iload_n 1, 1) := by decide +kernel
theorem dX12_aDay_207 : decode cX12_aDay 207 = .ok (.invokevirtual 169, 3) := by decide +kernel
theorem dX12_aDay_210 : decode cX12_aDay 210 = .ok (.invokestatic 172, 3) := by decide +kernel
theorem dX12_aDay_213 : decode cX12_aDay 213 = .ok (.iastore, 1) := by decide +kernel
theorem dX12_aDay_214 : decode cX12_aDay 214 = .ok (.aload_n 0, 1) := by decide +kernel
theorem dX12_aDay_215 : decode cX12_aDay 215 = .ok (.getfield 9, 3) := by decide +kernel
theorem dX12_aDay_218 : decode cX12_aDay 218 = .ok (.iconst 1, 1) := by decide +kernel
theorem dX12_aDay_219 : decode cX12_aDay 219 = .ok (.dup2, 1) := by decide +kernel
theorem dX12_aDay_220 : decode cX12_aDay 220 = .ok (.iaload, 1) := by decide +kernel
theorem dX12_aDay_221 : decode cX12_aDay 221 = .ok (.iconst 1, 1) := by decide +kernel
theorem dX12_aDay_222 : decode cX12_aDay 222 = .ok (.iadd, 1) := by decide +kernel
theorem dX12_aDay_223 : decode cX12_aDay 223 = .ok (.iastore, 1) := by decide +kernel
theorem dX12_aDay_224 : decode cX12_aDay 224 = .ok (.return_, 1) := by decide +kernel
theorem dX12_run_0 : decode cX12_run 0 = .ok (.iload_n 1, 1) := by decide +kernel
theorem dX12_run_1 : decode cX12_run 1 = .ok (.iconst 1, 1) := by decide +kernel
theorem dX12_run_2 : decode cX12_run 2 = .ok (.bipush 60, 2) := by decide +kernel
theorem dX12_run_4 : decode cX12_run 4 = .ok (.invokestatic 78, 3) := by decide +kernel
theorem dX12_run_7 : decode cX12_run 7 = .ok (.ifCond .ne 6, 3) := by decide +kernel
theorem dX12_run_10 : decode cX12_run 10 = .ok (.ldc 82, 2) := by decide +kernel
theorem dX12_run_12 : decode cX12_run 12 = .ok (.ireturn, 1) := by decide +kernel
theorem dX12_run_13 : decode cX12_run 13 = .ok (.aload_n 0, 1) := by decide +kernel
theorem dX12_run_14 : decode cX12_run 14 = .ok (.getfield 9, 3) := by decide +kernel
theorem dX12_run_17 : decode cX12_run 17 = .ok (.iconst 1, 1) := by decide +kernel
theorem dX12_run_18 : decode cX12_run 18 = .ok (.iaload, 1) := by decide +kernel
theorem dX12_run_19 : decode cX12_run 19 = .ok (.iload_n 1, 1) := by decide +kernel
theorem dX12_run_20 : decode cX12_run 20 = .ok (.iadd, 1) := by decide +kernel
theorem dX12_run_21 : decode cX12_run 21 = .ok (.sipush 1999, 3) := by decide +kernel
theorem dX12_run_24 : decode cX12_run 24 = .ok (.if_icmp .le 6, 3) := by decide +kernel
theorem dX12_run_27 : decode cX12_run 27 = .ok (.ldc 83, 2) := by decide +kernel
theorem dX12_run_29 : decode cX12_run 29 = .ok (.ireturn, 1) := by decide +kernel
theorem dX12_run_30 : decode cX12_run 30 = .ok (.iconst 0, 1) := by decide +kernel
theorem dX12_run_31 : decode cX12_run 31 = .ok (.istore_n 2, 1) := by decide +kernel
theorem dX12_run_32 : decode cX12_run 32 = .ok (.iload_n 2, 1) := by decide +kernel
theorem dX12_run_33 : decode cX12_run 33 = .ok (.iload_n 1, 1) := by decide +kernel
theorem dX12_run_34 : decode cX12_run 34 = .ok (.if_icmp .ge 13, 3) := by decide +kernel
theorem dX12_run_37 : decode cX12_run 37 = .ok (.aload_n 0, 1) := by decide +kernel
theorem dX12_run_38 : decode cX12_run 38 = .ok (.invokevirtual 176, 3) := by decide +kernel
theorem dX12_run_41 : decode cX12_run 41 = .ok (.iinc 2 1, 3) := by decide +kernel
theorem dX12_run_44 : decode cX12_run 44 = .ok (.goto (-12), 3) := by decide +kernel
theorem dX12_run_47 : decode cX12_run 47 = .ok (.aload_n 0, 1) := by decide +kernel
theorem dX12_run_48 : decode cX12_run 48 = .ok (.getfield 9, 3) := by decide +kernel
theorem dX12_run_51 : decode cX12_run 51 = .ok (.iconst 4, 1) := by decide +kernel
theorem dX12_run_52 : decode cX12_run 52 = .ok (.iaload, 1) := by decide +kernel
theorem dX12_run_53 : decode cX12_run 53 = .ok (.ireturn, 1) := by decide +kernel
theorem dX12_news_0 : decode cX12_news 0 = .ok (.iload_n 1, 1) := by decide +kernel
theorem dX12_news_1 : decode cX12_news 1 = .ok (.invokestatic 101, 3) := by decide +kernel
theorem dX12_news_4 : decode cX12_news 4 = .ok (.ifCond .eq 12, 3) := by decide +kernel
theorem dX12_news_7 : decode cX12_news 7 = .ok (.iload_n 2, 1) := by decide +kernel
theorem dX12_news_8 : decode cX12_news 8 = .ok (.iconst 0, 1) := by decide +kernel
theorem dX12_news_9 : decode cX12_news 9 = .ok (.iconst 2, 1) := by decide +kernel
theorem dX12_news_10 : decode cX12_news 10 = .ok (.invokestatic 78, 3) := by decide +kernel
theorem dX12_news_13 : decode cX12_news 13 = .ok (.ifCond .ne 6, 3) := by decide +kernel
theorem dX12_news_16 : decode cX12_news 16 = .ok (.ldc 82, 2) := by decide +kernel
theorem dX12_news_18 : decode cX12_news 18 = .ok (.ireturn, 1) := by decide +kernel
theorem dX12_news_19 : decode cX12_news 19 = .ok (.iload_n 2, 1) := by decide +kernel
theorem dX12_news_20 : decode cX12_news 20 = .ok (.iconst 2, 1) := by decide +kernel
theorem dX12_news_21 : decode cX12_news 21 = .ok (.if_icmp .ne 17, 3) := by decide +kernel
theorem dX12_news_24 : decode cX12_news 24 = .ok (.aload_n 0, 1) := by decide +kernel
theorem dX12_news_25 : decode cX12_news 25 = .ok (.iload_n 1, 1) := by decide +kernel
theorem dX12_news_26 : decode cX12_news 26 = .ok (.invokevirtual 169, 3) := by decide +kernel
theorem dX12_news_29 : decode cX12_news 29 = .ok (.ifCond .eq 7, 3) := by decide +kernel
theorem dX12_news_32 : decode cX12_news 32 = .ok (.iconst 1, 1) := by decide +kernel
theorem dX12_news_33 : decode cX12_news 33 = .ok (.goto 4, 3) := by decide +kernel
theorem dX12_news_36 : decode cX12_news 36 = .ok (.iconst 0, 1) := by decide +kernel
theorem dX12_news_37 : decode cX12_news 37 = .ok (.ireturn, 1) := by decide +kernel
theorem dX12_news_38 : decode cX12_news 38 = .ok (.iload_n 2, 1) := by decide +kernel
theorem dX12_news_39 : decode cX12_news 39 = .ok (.ifCond .ne 16, 3) := by decide +kernel
theorem dX12_news_42 : decode cX12_news 42 = .ok (.aload_n 0, 1) := by decide +kernel
theorem dX12_news_43 : decode cX12_news 43 = .ok (.aload_n 0, 1) := by decide +kernel
theorem dX12_news_44 : decode cX12_news 44 = .ok (.iload_n 1, 1) := by decide +kernel
theorem dX12_news_45 : decode cX12_news 45 = .ok (.invokevirtual 107, 3) := by decide +kernel
theorem dX12_news_48 : decode cX12_news 48 = .ok (.iload_n 1, 1) := by decide +kernel
theorem dX12_news_49 : decode cX12_news 49 = .ok (.invokevirtual 153, 3) := by decide +kernel
theorem dX12_news_52 : decode cX12_news 52 = .ok (.goto 13, 3) := by decide +kernel
theorem dX12_news_55 : decode cX12_news 55 = .ok (.aload_n 0, 1) := by decide +kernel
theorem dX12_news_56 : decode cX12_news 56 = .ok (.aload_n 0, 1) := by decide +kernel
theorem dX12_news_57 : decode cX12_news 57 = .ok (.iload_n 1, 1) := by decide +kernel
theorem dX12_news_58 : decode cX12_news 58 = .ok (.invokevirtual 107, 3) := by decide +kernel
theorem dX12_news_61 : decode cX12_news 61 = .ok (.iload_n 1, 1) := by decide +kernel
theorem dX12_news_62 : decode cX12_news 62 = .ok (.invokevirtual 156, 3) := by decide +kernel
theorem dX12_news_65 : decode cX12_news 65 = .ok (.ireturn, 1) := by decide +kernel
theorem dX12_goesOn_0 : decode cX12_goesOn 0 = .ok (.aload_n 0, 1) := by decide +kernel
theorem dX12_goesOn_1 : decode cX12_goesOn 1 = .ok (.iload_n 2, 1) := by decide +kernel
theorem dX12_goesOn_2 : decode cX12_goesOn 2 = .ok (.invokevirtual 107, 3) := by decide +kernel
theorem dX12_goesOn_5 : decode cX12_goesOn 5 = .ok (.istore_n 3, 1) := by decide +kernel
theorem dX12_goesOn_6 : decode cX12_goesOn 6 = .ok (.iload_n 1, 1) := by decide +kernel
theorem dX12_goesOn_7 : decode cX12_goesOn 7 = .ok (.aload_n 0, 1) := by decide +kernel
theorem dX12_goesOn_8 : decode cX12_goesOn 8 = .ok (.iload_n 3, 1) := by decide +kernel
theorem dX12_goesOn_9 : decode cX12_goesOn 9 = .ok (.iload_n 2, 1) := by decide +kernel
theorem dX12_goesOn_10 : decode cX12_goesOn 10 = .ok (.invokevirtual 153, 3) := by decide +kernel
theorem dX12_goesOn_13 : decode cX12_goesOn 13 = .ok (.aload_n 0, 1) := by decide +kernel
theorem dX12_goesOn_14 : decode cX12_goesOn 14 = .ok (.iload_n 3, 1) := by decide +kernel
theorem dX12_goesOn_15 : decode cX12_goesOn 15 = .ok (.iload_n 2, 1) := by decide +kernel
theorem dX12_goesOn_16 : decode cX12_goesOn 16 = .ok (.invokevirtual 156, 3) := by decide +kernel
theorem dX12_goesOn_19 : decode cX12_goesOn 19 = .ok (.aload_n 0, 1) := by decide +kernel
theorem dX12_goesOn_20 : decode cX12_goesOn 20 = .ok (.iload_n 2, 1) := by decide +kernel
theorem dX12_goesOn_21 : decode cX12_goesOn 21 = .ok (.invokevirtual 169, 3) := by decide +kernel
theorem dX12_goesOn_24 : decode cX12_goesOn 24 = .ok (.invokestatic 172, 3) := by decide +kernel
theorem dX12_goesOn_27 : decode cX12_goesOn 27 = .ok (.ireturn, 1) := by decide +kernel
theorem dX12_since_0 : decode cX12_since 0 = .ok (.iload_n 1, 1) := by decide +kernel
theorem dX12_since_1 : decode cX12_since 1 = .ok (.iconst 0, 1) := by decide +kernel
theorem dX12_since_2 : decode cX12_since 2 = .ok (.sipush 200, 3) := by decide +kernel
theorem dX12_since_5 : decode cX12_since 5 = .ok (.invokestatic 78, 3) := by decide +kernel
theorem dX12_since_8 : decode cX12_since 8 = .ok (.ifCond .ne 6, 3) := by decide +kernel
theorem dX12_since_11 : decode cX12_since 11 = .ok (.ldc 82, 2) := by decide +kernel
theorem dX12_since_13 : decode cX12_since 13 = .ok (.ireturn, 1) := by decide +kernel
theorem dX12_since_14 : decode cX12_since 14 = .ok (.aload_n 0, 1) := by decide +kernel
theorem dX12_since_15 : decode cX12_since 15 = .ok (.getfield 9, 3) := by decide +kernel
theorem dX12_since_18 : decode cX12_since 18 = .ok (.iconst 4, 1) := by decide +kernel
theorem dX12_since_19 : decode cX12_since 19 = .ok (.iaload, 1) := by decide +kernel
theorem dX12_since_20 : decode cX12_since 20 = .ok (.istore_n 2, 1) := by decide +kernel
theorem dX12_since_21 : decode cX12_since 21 = .ok (.iconst 0, 1) := by decide +kernel
theorem dX12_since_22 : decode cX12_since 22 = .ok (.istore_n 3, 1) := by decide +kernel
theorem dX12_since_23 : decode cX12_since 23 = .ok (.iload_n 3, 1) := by decide +kernel
theorem dX12_since_24 : decode cX12_since 24 = .ok (.iload_n 1, 1) := by decide +kernel
theorem dX12_since_25 : decode cX12_since 25 = .ok (.if_icmp .ge 23, 3) := by decide +kernel
theorem dX12_since_28 : decode cX12_since 28 = .ok (.aload_n 0, 1) := by decide +kernel
theorem dX12_since_29 : decode cX12_since 29 = .ok (.iload_n 2, 1) := by decide +kernel
theorem dX12_since_30 : decode cX12_since 30 = .ok (.aload_n 0, 1) := by decide +kernel
theorem dX12_since_31 : decode cX12_since 31 = .ok (.getfield 9, 3) := by decide +kernel
theorem dX12_since_34 : decode cX12_since 34 = .ok (.iconst 1, 1) := by decide +kernel
theorem dX12_since_35 : decode cX12_since 35 = .ok (.iaload, 1) := by decide +kernel
theorem dX12_since_36 : decode cX12_since 36 = .ok (.iload_n 3, 1) := by decide +kernel
theorem dX12_since_37 : decode cX12_since 37 = .ok (.iadd, 1) := by decide +kernel
theorem dX12_since_38 : decode cX12_since 38 = .ok (.invokevirtual 179, 3) := by decide +kernel
theorem dX12_since_41 : decode cX12_since 41 = .ok (.istore_n 2, 1) := by decide +kernel
theorem dX12_since_42 : decode cX12_since 42 = .ok (.iinc 3 1, 3) := by decide +kernel
theorem dX12_since_45 : decode cX12_since 45 = .ok (.goto (-22), 3) := by decide +kernel
theorem dX12_since_48 : decode cX12_since 48 = .ok (.iload_n 2, 1) := by decide +kernel
theorem dX12_since_49 : decode cX12_since 49 = .ok (.ireturn, 1) := by decide +kernel
theorem dX12_falls_0 : decode cX12_falls 0 = .ok (.iload_n 1, 1) := by decide +kernel
theorem dX12_falls_1 : decode cX12_falls 1 = .ok (.iconst 0, 1) := by decide +kernel
theorem dX12_falls_2 : decode cX12_falls 2 = .ok (.sipush 10000, 3) := by decide +kernel
theorem dX12_falls_5 : decode cX12_falls 5 = .ok (.invokestatic 78, 3) := by decide +kernel
theorem dX12_falls_8 : decode cX12_falls 8 = .ok (.ifCond .ne 6, 3) := by decide +kernel
theorem dX12_falls_11 : decode cX12_falls 11 = .ok (.ldc 82, 2) := by decide +kernel
theorem dX12_falls_13 : decode cX12_falls 13 = .ok (.ireturn, 1) := by decide +kernel
theorem dX12_falls_14 : decode cX12_falls 14 = .ok (.aload_n 0, 1) := by decide +kernel
theorem dX12_falls_15 : decode cX12_falls 15 = .ok (.getfield 9, 3) := by decide +kernel
theorem dX12_falls_18 : decode cX12_falls 18 = .ok (.iconst 4, 1) := by decide +kernel
theorem dX12_falls_19 : decode cX12_falls 19 = .ok (.iaload, 1) := by decide +kernel
theorem dX12_falls_20 : decode cX12_falls 20 = .ok (.istore_n 2, 1) := by decide +kernel
theorem dX12_falls_21 : decode cX12_falls 21 = .ok (.iconst 0, 1) := by decide +kernel
theorem dX12_falls_22 : decode cX12_falls 22 = .ok (.istore_n 3, 1) := by decide +kernel
theorem dX12_falls_23 : decode cX12_falls 23 = .ok (.iload_n 3, 1) := by decide +kernel
theorem dX12_falls_24 : decode cX12_falls 24 = .ok (.sipush 200, 3) := by decide +kernel
theorem dX12_falls_27 : decode cX12_falls 27 = .ok (.if_icmp .ge 37, 3) := by decide +kernel
theorem dX12_falls_30 : decode cX12_falls 30 = .ok (.aload_n 0, 1) := by decide +kernel
theorem dX12_falls_31 : decode cX12_falls 31 = .ok (.iload_n 2, 1) := by decide +kernel
theorem dX12_falls_32 : decode cX12_falls 32 = .ok (.aload_n 0, 1) := by decide +kernel
theorem dX12_falls_33 : decode cX12_falls 33 = .ok (.getfield 9, 3) := by decide +kernel
theorem dX12_falls_36 : decode cX12_falls 36 = .ok (.iconst 1, 1) := by decide +kernel
theorem dX12_falls_37 : decode cX12_falls 37 = .ok (.iaload, 1) := by decide +kernel
theorem dX12_falls_38 : decode cX12_falls 38 = .ok (.iload_n 3, 1) := by decide +kernel
theorem dX12_falls_39 : decode cX12_falls 39 = .ok (.iadd, 1) := by decide +kernel
theorem dX12_falls_40 : decode cX12_falls 40 = .ok (.invokevirtual 179, 3) := by decide +kernel
theorem dX12_falls_43 : decode cX12_falls 43 = .ok (.istore_n 2, 1) := by decide +kernel
theorem dX12_falls_44 : decode cX12_falls 44 = .ok (.iload_n 2, 1) := by decide +kernel
theorem dX12_falls_45 : decode cX12_falls 45 = .ok (.iload_n 1, 1) := by decide +kernel
theorem dX12_falls_46 : decode cX12_falls 46 = .ok (.if_icmp .ge 12, 3) := by decide +kernel
theorem dX12_falls_49 : decode cX12_falls 49 = .ok (.aload_n 0, 1) := by decide +kernel
theorem dX12_falls_50 : decode cX12_falls 50 = .ok (.getfield 9, 3) := by decide +kernel
theorem dX12_falls_53 : decode cX12_falls 53 = .ok (.iconst 1, 1) := by decide +kernel
theorem dX12_falls_54 : decode cX12_falls 54 = .ok (.iaload, 1) := by decide +kernel
theorem dX12_falls_55 : decode cX12_falls 55 = .ok (.iload_n 3, 1) := by decide +kernel
theorem dX12_falls_56 : decode cX12_falls 56 = .ok (.iadd, 1) := by decide +kernel
theorem dX12_falls_57 : decode cX12_falls 57 = .ok (.ireturn, 1) := by decide +kernel
theorem dX12_falls_58 : decode cX12_falls 58 = .ok (.iinc 3 1, 3) := by decide +kernel
theorem dX12_falls_61 : decode cX12_falls 61 = .ok (.goto (-38), 3) := by decide +kernel
theorem dX12_falls_64 : decode cX12_falls 64 = .ok (.ldc 96, 2) := by decide +kernel
theorem dX12_falls_66 : decode cX12_falls 66 = .ok (.ireturn, 1) := by decide +kernel
theorem dX12_await_0 : decode cX12_await 0 = .ok (.ldc 182, 2) := by decide +kernel
theorem dX12_await_2 : decode cX12_await 2 = .ok (.istore_n 1, 1) := by decide +kernel
theorem dX12_await_3 : decode cX12_await 3 = .ok (.aload_n 0, 1) := by decide +kernel
theorem dX12_await_4 : decode cX12_await 4 = .ok (.getfield 9, 3) := by decide +kernel
theorem dX12_await_7 : decode cX12_await 7 = .ok (.iconst 1, 1) := by decide +kernel
theorem dX12_await_8 : decode cX12_await 8 = .ok (.iaload, 1) := by decide +kernel
theorem dX12_await_9 : decode cX12_await 9 = .ok (.istore_n 2, 1) := by decide +kernel
theorem dX12_await_10 : decode cX12_await 10 = .ok (.iload_n 2, 1) := by decide +kernel
theorem dX12_await_11 : decode cX12_await 11 = .ok (.aload_n 0, 1) := by decide +kernel
theorem dX12_await_12 : decode cX12_await 12 = .ok (.getfield 9, 3) := by decide +kernel
theorem dX12_await_15 : decode cX12_await 15 = .ok (.iconst 1, 1) := by decide +kernel
theorem dX12_await_16 : decode cX12_await 16 = .ok (.iaload, 1) := by decide +kernel
theorem dX12_await_17 : decode cX12_await 17 = .ok (.sipush 200, 3) := by decide +kernel
theorem dX12_await_20 : decode cX12_await 20 = .ok (.iadd, 1) := by decide +kernel
theorem dX12_await_21 : decode cX12_await 21 = .ok (.if_icmp .ge 38, 3) := by decide +kernel
theorem dX12_await_24 : decode cX12_await 24 = .ok (.iload_n 1, 1) := by decide +kernel
theorem dX12_await_25 : decode cX12_await 25 = .ok (.sipush 1000, 3) := by decide +kernel
theorem dX12_await_28 : decode cX12_await 28 = .ok (.aload_n 0, 1) := by decide +kernel
theorem dX12_await_29 : decode cX12_await 29 = .ok (.aload_n 0, 1) := by decide +kernel
theorem dX12_await_30 : decode cX12_await 30 = .ok (.iload_n 2, 1) := by decide +kernel
theorem dX12_await_31 : decode cX12_await 31 = .ok (.invokevirtual 107, 3) := by decide +kernel
theorem dX12_await_34 : decode cX12_await 34 = .ok (.iload_n 2, 1) := by decide +kernel
theorem dX12_await_35 : decode cX12_await 35 = .ok (.invokevirtual 153, 3) := by decide +kernel
theorem dX12_await_38 : decode cX12_await 38 = .ok (.isub, 1) := by decide +kernel
theorem dX12_await_39 : decode cX12_await 39 = .ok (.imul, 1) := by decide +kernel
theorem dX12_await_40 : decode cX12_await 40 = .ok (.sipush 1000, 3) := by decide +kernel
theorem dX12_await_43 : decode cX12_await 43 = .ok (.idiv, 1) := by decide +kernel
theorem dX12_await_44 : decode cX12_await 44 = .ok (.istore_n 1, 1) := by decide +kernel
theorem dX12_await_45 : decode cX12_await 45 = .ok (.iload_n 1, 1) := by decide +kernel
theorem dX12_await_46 : decode cX12_await 46 = .ok (.ldc 183, 2) := by decide +kernel
theorem dX12_await_48 : decode cX12_await 48 = .ok (.if_icmp .gt 5, 3) := by decide +kernel
theorem dX12_await_51 : decode cX12_await 51 = .ok (.iload_n 2, 1) := by decide +kernel
theorem dX12_await_52 : decode cX12_await 52 = .ok (.ireturn, 1) := by decide +kernel
theorem dX12_await_53 : decode cX12_await 53 = .ok (.iinc 2 1, 3) := by decide +kernel
theorem dX12_await_56 : decode cX12_await 56 = .ok (.goto (-46), 3) := by decide +kernel
theorem dX12_await_59 : decode cX12_await 59 = .ok (.ldc 96, 2) := by decide +kernel
theorem dX12_await_61 : decode cX12_await 61 = .ok (.ireturn, 1) := by decide +kernel
theorem dX12_beyond_0 : decode cX12_beyond 0 = .ok (.aload_n 0, 1) := by decide +kernel
theorem dX12_beyond_1 : decode cX12_beyond 1 = .ok (.iconst 2, 1) := by decide +kernel
theorem dX12_beyond_2 : decode cX12_beyond 2 = .ok (.invokevirtual 140, 3) := by decide +kernel
theorem dX12_beyond_5 : decode cX12_beyond 5 = .ok (.istore_n 1, 1) := by decide +kernel
theorem dX12_beyond_6 : decode cX12_beyond 6 = .ok (.aload_n 0, 1) := by decide +kernel
theorem dX12_beyond_7 : decode cX12_beyond 7 = .ok (.getfield 9, 3) := by decide +kernel
theorem dX12_beyond_10 : decode cX12_beyond 10 = .ok (.iconst 1, 1) := by decide +kernel
theorem dX12_beyond_11 : decode cX12_beyond 11 = .ok (.iaload, 1) := by decide +kernel
theorem dX12_beyond_12 : decode cX12_beyond 12 = .ok (.istore_n 2, 1) := by decide +kernel
theorem dX12_beyond_13 : decode cX12_beyond 13 = .ok (.iload_n 2, 1) := by decide +kernel
theorem dX12_beyond_14 : decode cX12_beyond 14 = .ok (.aload_n 0, 1) := by decide +kernel
theorem dX12_beyond_15 : decode cX12_beyond 15 = .ok (.getfield 9, 3) := by decide +kernel
theorem dX12_beyond_18 : decode cX12_beyond 18 = .ok (.iconst 1, 1) := by decide +kernel
theorem dX12_beyond_19 : decode cX12_beyond 19 = .ok (.iaload, 1) := by decide +kernel
theorem dX12_beyond_20 : decode cX12_beyond 20 = .ok (.sipush 200, 3) := by decide +kernel
theorem dX12_beyond_23 : decode cX12_beyond 23 = .ok (.iadd, 1) := by decide +kernel
theorem dX12_beyond_24 : decode cX12_beyond 24 = .ok (.if_icmp .ge 53, 3) := by decide +kernel
theorem dX12_beyond_27 : decode cX12_beyond 27 = .ok (.iload_n 1, 1) := by decide +kernel
theorem dX12_beyond_28 : decode cX12_beyond 28 = .ok (.ifCond .lt 49, 3) := by decide +kernel
theorem dX12_beyond_31 : decode cX12_beyond 31 = .ok (.aload_n 0, 1) := by decide +kernel
theorem dX12_beyond_32 : decode cX12_beyond 32 = .ok (.iload_n 2, 1) := by decide +kernel
theorem dX12_beyond_33 : decode cX12_beyond 33 = .ok (.invokevirtual 107, 3) := by decide +kernel
theorem dX12_beyond_36 : decode cX12_beyond 36 = .ok (.istore_n 3, 1) := by decide +kernel
theorem dX12_beyond_37 : decode cX12_beyond 37 = .ok (.aload_n 0, 1) := by decide +kernel
theorem dX12_beyond_38 : decode cX12_beyond 38 = .ok (.iload_n 3, 1) := by decide +kernel
theorem dX12_beyond_39 : decode cX12_beyond 39 = .ok (.iload_n 2, 1) := by decide +kernel
theorem dX12_beyond_40 : decode cX12_beyond 40 = .ok (.invokevirtual 153, 3) := by decide +kernel
theorem dX12_beyond_43 : decode cX12_beyond 43 = .ok (.istore 4, 2) := by decide +kernel
theorem dX12_beyond_45 : decode cX12_beyond 45 = .ok (.aload_n 0, 1) := by decide +kernel
theorem dX12_beyond_46 : decode cX12_beyond 46 = .ok (.getfield 42, 3) := by decide +kernel
theorem dX12_beyond_49 : decode cX12_beyond 49 = .ok (.iconst 0, 1) := by decide +kernel
theorem dX12_beyond_50 : decode cX12_beyond 50 = .ok (.iload_n 3, 1) := by decide +kernel
theorem dX12_beyond_51 : decode cX12_beyond 51 = .ok (.iastore, 1) := by decide +kernel
theorem dX12_beyond_52 : decode cX12_beyond 52 = .ok (.aload_n 0, 1) := by decide +kernel
theorem dX12_beyond_53 : decode cX12_beyond 53 = .ok (.getfield 42, 3) := by decide +kernel
theorem dX12_beyond_56 : decode cX12_beyond 56 = .ok (.iconst 1, 1) := by decide +kernel
theorem dX12_beyond_57 : decode cX12_beyond 57 = .ok (.iload_n 2, 1) := by decide +kernel
theorem dX12_beyond_58 : decode cX12_beyond 58 = .ok (.iastore, 1) := by decide +kernel
theorem dX12_beyond_59 : decode cX12_beyond 59 = .ok (.iload 4, 2) := by decide +kernel
theorem dX12_beyond_61 : decode cX12_beyond 61 = .ok (.aload_n 0, 1) := by decide +kernel
theorem dX12_beyond_62 : decode cX12_beyond 62 = .ok (.iload_n 1, 1) := by decide +kernel
theorem dX12_beyond_63 : decode cX12_beyond 63 = .ok (.invokevirtual 143, 3) := by decide +kernel
theorem dX12_beyond_66 : decode cX12_beyond 66 = .ok (.if_icmp .le 5, 3) := by decide +kernel
theorem dX12_beyond_69 : decode cX12_beyond 69 = .ok (.iload_n 2, 1) := by decide +kernel
theorem dX12_beyond_70 : decode cX12_beyond 70 = .ok (.ireturn, 1) := by decide +kernel
theorem dX12_beyond_71 : decode cX12_beyond 71 = .ok (.iinc 2 1, 3) := by decide +kernel
theorem dX12_beyond_74 : decode cX12_beyond 74 = .ok (.goto (-61), 3) := by decide +kernel
theorem dX12_beyond_77 : decode cX12_beyond 77 = .ok (.ldc 96, 2) := by decide +kernel
theorem dX12_beyond_79 : decode cX12_beyond 79 = .ok (.ireturn, 1) := by decide +kernel
theorem dX12_seed_0 : decode cX12_seed 0 = .ok (.aload_n 0, 1) := by decide +kernel
theorem dX12_seed_1 : decode cX12_seed 1 = .ok (.getfield 9, 3) := by decide +kernel
theorem dX12_seed_4 : decode cX12_seed 4 = .ok (.iconst 0, 1) := by decide +kernel
theorem dX12_seed_5 : decode cX12_seed 5 = .ok (.iaload, 1) := by decide +kernel
theorem dX12_seed_6 : decode cX12_seed 6 = .ok (.istore_n 2, 1) := by decide +kernel
theorem dX12_seed_7 : decode cX12_seed 7 = .ok (.aload_n 0, 1) := by decide +kernel
theorem dX12_seed_8 : decode cX12_seed 8 = .ok (.getfield 9, 3) := by decide +kernel
theorem dX12_seed_11 : decode cX12_seed 11 = .ok (.iconst 0, 1) := by decide +kernel
theorem dX12_seed_12 : decode cX12_seed 12 = .ok (.iload_n 1, 1) := by decide +kernel
theorem dX12_seed_13 : decode cX12_seed 13 = .ok (.iastore, 1) := by decide +kernel
theorem dX12_seed_14 : decode cX12_seed 14 = .ok (.iload_n 2, 1) := by decide +kernel
theorem dX12_seed_15 : decode cX12_seed 15 = .ok (.ireturn, 1) := by decide +kernel
theorem dX12_feed_0 : decode cX12_feed 0 = .ok (.aload_n 0, 1) := by decide +kernel
theorem dX12_feed_1 : decode cX12_feed 1 = .ok (.getfield 184, 3) := by decide +kernel
theorem dX12_feed_4 : decode cX12_feed 4 = .ok (.bipush 12, 2) := by decide +kernel
theorem dX12_feed_6 : decode cX12_feed 6 = .ok (.iadd, 1) := by decide +kernel
theorem dX12_feed_7 : decode cX12_feed 7 = .ok (.bipush 96, 2) := by decide +kernel
theorem dX12_feed_9 : decode cX12_feed 9 = .ok (.if_icmp .le 6, 3) := by decide +kernel
theorem dX12_feed_12 : decode cX12_feed 12 = .ok (.ldc 83, 2) := by decide +kernel
theorem dX12_feed_14 : decode cX12_feed 14 = .ok (.ireturn, 1) := by decide +kernel
theorem dX12_feed_15 : decode cX12_feed 15 = .ok (.iconst 0, 1) := by decide +kernel
theorem dX12_feed_16 : decode cX12_feed 16 = .ok (.istore 4, 2) := by decide +kernel
theorem dX12_feed_18 : decode cX12_feed 18 = .ok (.iload 4, 2) := by decide +kernel
theorem dX12_feed_20 : decode cX12_feed 20 = .ok (.bipush 12, 2) := by decide +kernel
theorem dX12_feed_22 : decode cX12_feed 22 = .ok (.if_icmp .ge 62, 3) := by decide +kernel
theorem dX12_feed_25 : decode cX12_feed 25 = .ok (.iload 4, 2) := by decide +kernel
theorem dX12_feed_27 : decode cX12_feed 27 = .ok (.iconst 4, 1) := by decide +kernel
theorem dX12_feed_28 : decode cX12_feed 28 = .ok (.if_icmp .ge 7, 3) := by decide +kernel
theorem dX12_feed_31 : decode cX12_feed 31 = .ok (.iload_n 1, 1) := by decide +kernel
theorem dX12_feed_32 : decode cX12_feed 32 = .ok (.goto 15, 3) := by decide +kernel
theorem dX12_feed_35 : decode cX12_feed 35 = .ok (.iload 4, 2) := by decide +kernel
theorem dX12_feed_37 : decode cX12_feed 37 = .ok (.bipush 8, 2) := by decide +kernel
theorem dX12_feed_39 : decode cX12_feed 39 = .ok (.if_icmp .ge 7, 3) := by decide +kernel
theorem dX12_feed_42 : decode cX12_feed 42 = .ok (.iload_n 2, 1) := by decide +kernel
theorem dX12_feed_43 : decode cX12_feed 43 = .ok (.goto 4, 3) := by decide +kernel
theorem dX12_feed_46 : decode cX12_feed 46 = .ok (.iload_n 3, 1) := by decide +kernel
theorem dX12_feed_47 : decode cX12_feed 47 = .ok (.istore 5, 2) := by decide +kernel
theorem dX12_feed_49 : decode cX12_feed 49 = .ok (.aload_n 0, 1) := by decide +kernel
theorem dX12_feed_50 : decode cX12_feed 50 = .ok (.getfield 19, 3) := by decide +kernel
theorem dX12_feed_53 : decode cX12_feed 53 = .ok (.aload_n 0, 1) := by decide +kernel
theorem dX12_feed_54 : decode cX12_feed 54 = .ok (.getfield 184, 3) := by decide +kernel
theorem dX12_feed_57 : decode cX12_feed 57 = .ok (.iload 4, 2) := by decide +kernel
theorem dX12_feed_59 : decode cX12_feed 59 = .ok (.iadd, 1) := by decide +kernel
theorem dX12_feed_60 : decode cX12_feed 60 = .ok (.iload 5, 2) := by decide +kernel
theorem dX12_feed_62 : decode cX12_feed 62 = .ok (.bipush 24, 2) := by decide +kernel
theorem dX12_feed_64 : decode cX12_feed 64 = .ok (.bipush 8, 2) := by decide +kernel
theorem dX12_feed_66 : decode cX12_feed 66 = .ok (.iload 4, 2) := by decide +kernel
theorem dX12_feed_68 : decode cX12_feed 68 = .ok (.iconst 4, 1) := by decide +kernel
theorem dX12_feed_69 : decode cX12_feed 69 = .ok (.irem, 1) := by decide +kernel
theorem dX12_feed_70 : decode cX12_feed 70 = .ok (.imul, 1) := by decide +kernel
theorem dX12_feed_71 : decode cX12_feed 71 = .ok (.isub, 1) := by decide +kernel
theorem dX12_feed_72 : decode cX12_feed 72 = .ok (.ishr, 1) := by decide +kernel
theorem dX12_feed_73 : decode cX12_feed 73 = .ok (.sipush 255, 3) := by decide +kernel
theorem dX12_feed_76 : decode cX12_feed 76 = .ok (.iand, 1) := by decide +kernel
theorem dX12_feed_77 : decode cX12_feed 77 = .ok (.iastore, 1) := by decide +kernel
theorem dX12_feed_78 : decode cX12_feed 78 = .ok (.iinc 4 1, 3) := by decide +kernel
theorem dX12_feed_81 : decode cX12_feed 81 = .ok (.goto (-63), 3) := by decide +kernel
theorem dX12_feed_84 : decode cX12_feed 84 = .ok (.aload_n 0, 1) := by decide +kernel
theorem dX12_feed_85 : decode cX12_feed 85 = .ok (.dup, 1) := by decide +kernel
theorem dX12_feed_86 : decode cX12_feed 86 = .ok (.getfield 184, 3) := by decide +kernel
theorem dX12_feed_89 : decode cX12_feed 89 = .ok (.bipush 12, 2) := by decide +kernel
theorem dX12_feed_91 : decode cX12_feed 91 = .ok (.iadd, 1) := by decide +kernel
theorem dX12_feed_92 : decode cX12_feed 92 = .ok (.putfield 184, 3) := by decide +kernel
theorem dX12_feed_95 : decode cX12_feed 95 = .ok (.aload_n 0, 1) := by decide +kernel
theorem dX12_feed_96 : decode cX12_feed 96 = .ok (.getfield 184, 3) := by decide +kernel
theorem dX12_feed_99 : decode cX12_feed 99 = .ok (.ireturn, 1) := by decide +kernel
theorem dX12_trim_0 : decode cX12_trim 0 = .ok (.iload_n 1, 1) := by decide +kernel
theorem dX12_trim_1 : decode cX12_trim 1 = .ok (.iconst 0, 1) := by decide +kernel
theorem dX12_trim_2 : decode cX12_trim 2 = .ok (.aload_n 0, 1) := by decide +kernel
theorem dX12_trim_3 : decode cX12_trim 3 = .ok (.getfield 184, 3) := by decide +kernel
theorem dX12_trim_6 : decode cX12_trim 6 = .ok (.invokestatic 78, 3) := by decide +kernel
theorem dX12_trim_9 : decode cX12_trim 9 = .ok (.ifCond .ne 6, 3) := by decide +kernel
theorem dX12_trim_12 : decode cX12_trim 12 = .ok (.ldc 82, 2) := by decide +kernel
theorem dX12_trim_14 : decode cX12_trim 14 = .ok (.ireturn, 1) := by decide +kernel
theorem dX12_trim_15 : decode cX12_trim 15 = .ok (.aload_n 0, 1) := by decide +kernel
theorem dX12_trim_16 : decode cX12_trim 16 = .ok (.iload_n 1, 1) := by decide +kernel
theorem dX12_trim_17 : decode cX12_trim 17 = .ok (.putfield 184, 3) := by decide +kernel
theorem dX12_trim_20 : decode cX12_trim 20 = .ok (.iload_n 1, 1) := by decide +kernel
theorem dX12_trim_21 : decode cX12_trim 21 = .ok (.ireturn, 1) := by decide +kernel
theorem dX12_isLetter_0 : decode cX12_isLetter 0 = .ok (.iload_n 1, 1) := by decide +kernel
theorem dX12_isLetter_1 : decode cX12_isLetter 1 = .ok (.aload_n 0, 1) := by decide +kernel
theorem dX12_isLetter_2 : decode cX12_isLetter 2 = .ok (.getfield 184, 3) := by decide +kernel
theorem dX12_isLetter_5 : decode cX12_isLetter 5 = .ok (.if_icmp .ge 29, 3) := by decide +kernel
theorem dX12_isLetter_8 : decode cX12_isLetter 8 = .ok (.aload_n 0, 1) := by decide +kernel
theorem dX12_isLetter_9 : decode cX12_isLetter 9 = .ok (.getfield 19, 3) := by decide +kernel
theorem dX12_isLetter_12 : decode cX12_isLetter 12 = .ok (.iload_n 1, 1) := by decide +kernel
theorem dX12_isLetter_13 : decode cX12_isLetter 13 = .ok (.iaload, 1) := by decide +kernel
theorem dX12_isLetter_14 : decode cX12_isLetter 14 = .ok (.bipush 97, 2) := by decide +kernel
theorem dX12_isLetter_16 : decode cX12_isLetter 16 = .ok (.if_icmp .lt 18, 3) := by decide +kernel
theorem dX12_isLetter_19 : decode cX12_isLetter 19 = .ok (.aload_n 0, 1) := by decide +kernel
theorem dX12_isLetter_20 : decode cX12_isLetter 20 = .ok (.getfield 19, 3) := by decide +kernel
theorem dX12_isLetter_23 : decode cX12_isLetter 23 = .ok (.iload_n 1, 1) := by decide +kernel
theorem dX12_isLetter_24 : decode cX12_isLetter 24 = .ok (.iaload, 1) := by decide +kernel
theorem dX12_isLetter_25 : decode cX12_isLetter 25 = .ok (.bipush 122, 2) := by decide +kernel
theorem dX12_isLetter_27 : decode cX12_isLetter 27 = .ok (.if_icmp .gt 7, 3) := by decide +kernel
theorem dX12_isLetter_30 : decode cX12_isLetter 30 = .ok (.iconst 1, 1) := by decide +kernel
theorem dX12_isLetter_31 : decode cX12_isLetter 31 = .ok (.goto 4, 3) := by decide +kernel
theorem dX12_isLetter_34 : decode cX12_isLetter 34 = .ok (.iconst 0, 1) := by decide +kernel
theorem dX12_isLetter_35 : decode cX12_isLetter 35 = .ok (.ireturn, 1) := by decide +kernel
theorem dX12_isFigure_0 : decode cX12_isFigure 0 = .ok (.iload_n 1, 1) := by decide +kernel
theorem dX12_isFigure_1 : decode cX12_isFigure 1 = .ok (.aload_n 0, 1) := by decide +kernel
theorem dX12_isFigure_2 : decode cX12_isFigure 2 = .ok (.getfield 184, 3) := by decide +kernel
theorem dX12_isFigure_5 : decode cX12_isFigure 5 = .ok (.if_icmp .ge 29, 3) := by decide +kernel
theorem dX12_isFigure_8 : decode cX12_isFigure 8 = .ok (.aload_n 0, 1) := by decide +kernel
theorem dX12_isFigure_9 : decode cX12_isFigure 9 = .ok (.getfield 19, 3) := by decide +kernel
theorem dX12_isFigure_12 : decode cX12_isFigure 12 = .ok (.iload_n 1, 1) := by decide +kernel
theorem dX12_isFigure_13 : decode cX12_isFigure 13 = .ok (.iaload, 1) := by decide +kernel
theorem dX12_isFigure_14 : decode cX12_isFigure 14 = .ok (.bipush 48, 2) := by decide +kernel
theorem dX12_isFigure_16 : decode cX12_isFigure 16 = .ok (.if_icmp .lt 18, 3) := by decide +kernel
theorem dX12_isFigure_19 : decode cX12_isFigure 19 = .ok (.aload_n 0, 1) := by decide +kernel
theorem dX12_isFigure_20 : decode cX12_isFigure 20 = .ok (.getfield 19, 3) := by decide +kernel
theorem dX12_isFigure_23 : decode cX12_isFigure 23 = .ok (.iload_n 1, 1) := by decide +kernel
theorem dX12_isFigure_24 : decode cX12_isFigure 24 = .ok (.iaload, 1) := by decide +kernel
theorem dX12_isFigure_25 : decode cX12_isFigure 25 = .ok (.bipush 57, 2) := by decide +kernel
theorem dX12_isFigure_27 : decode cX12_isFigure 27 = .ok (.if_icmp .gt 7, 3) := by decide +kernel
theorem dX12_isFigure_30 : decode cX12_isFigure 30 = .ok (.iconst 1, 1) := by decide +kernel
theorem dX12_isFigure_31 : decode cX12_isFigure 31 = .ok (.goto 4, 3) := by decide +kernel
theorem dX12_isFigure_34 : decode cX12_isFigure 34 = .ok (.iconst 0, 1) := by decide +kernel
theorem dX12_isFigure_35 : decode cX12_isFigure 35 = .ok (.ireturn, 1) := by decide +kernel
theorem dX12_go_0 : decode cX12_go 0 = .ok (.aload_n 0, 1) := by decide +kernel
theorem dX12_go_1 : decode cX12_go 1 = .ok (.getfield 188, 3) := by decide +kernel
theorem dX12_go_4 : decode cX12_go 4 = .ok (.aload_n 0, 1) := by decide +kernel
theorem dX12_go_5 : decode cX12_go 5 = .ok (.getfield 184, 3) := by decide +kernel
theorem dX12_go_8 : decode cX12_go 8 = .ok (.if_icmp .ge 30, 3) := by decide +kernel
theorem dX12_go_11 : decode cX12_go 11 = .ok (.aload_n 0, 1) := by decide +kernel
theorem dX12_go_12 : decode cX12_go 12 = .ok (.getfield 19, 3) := by decide +kernel
theorem dX12_go_15 : decode cX12_go 15 = .ok (.aload_n 0, 1) := by decide +kernel
theorem dX12_go_16 : decode cX12_go 16 = .ok (.getfield 188, 3) := by decide +kernel
theorem dX12_go_19 : decode cX12_go 19 = .ok (.iaload, 1) := by decide +kernel
theorem dX12_go_20 : decode cX12_go 20 = .ok (.bipush 32, 2) := by decide +kernel
theorem dX12_go_22 : decode cX12_go 22 = .ok (.if_icmp .ne 16, 3) := by decide +kernel
theorem dX12_go_25 : decode cX12_go 25 = .ok (.aload_n 0, 1) := by decide +kernel
theorem dX12_go_26 : decode cX12_go 26 = .ok (.dup, 1) := by decide +kernel
theorem dX12_go_27 : decode cX12_go 27 = .ok (.getfield 188, 3) := by decide +kernel
theorem dX12_go_30 : decode cX12_go 30 = .ok (.iconst 1, 1) := by decide +kernel
theorem dX12_go_31 : decode cX12_go 31 = .ok (.iadd, 1) := by decide +kernel
theorem dX12_go_32 : decode cX12_go 32 = .ok (.putfield 188, 3) := by decide +kernel
theorem dX12_go_35 : decode cX12_go 35 = .ok (.goto (-35), 3) := by decide +kernel
theorem dX12_go_38 : decode cX12_go 38 = .ok (.aload_n 0, 1) := by decide +kernel
theorem dX12_go_39 : decode cX12_go 39 = .ok (.aload_n 0, 1) := by decide +kernel
theorem dX12_go_40 : decode cX12_go 40 = .ok (.getfield 188, 3) := by decide +kernel
theorem dX12_go_43 : decode cX12_go 43 = .ok (.putfield 191, 3) := by decide +kernel
theorem dX12_go_46 : decode cX12_go 46 = .ok (.aload_n 0, 1) := by decide +kernel
theorem dX12_go_47 : decode cX12_go 47 = .ok (.getfield 191, 3) := by decide +kernel
theorem dX12_go_50 : decode cX12_go 50 = .ok (.aload_n 0, 1) := by decide +kernel
theorem dX12_go_51 : decode cX12_go 51 = .ok (.getfield 194, 3) := by decide +kernel
theorem dX12_go_54 : decode cX12_go 54 = .ok (.if_icmp .ne 7, 3) := by decide +kernel
theorem dX12_go_57 : decode cX12_go 57 = .ok (.iconst 1, 1) := by decide +kernel
theorem dX12_go_58 : decode cX12_go 58 = .ok (.goto 4, 3) := by decide +kernel
theorem dX12_go_61 : decode cX12_go 61 = .ok (.iconst 0, 1) := by decide +kernel
theorem dX12_go_62 : decode cX12_go 62 = .ok (.istore_n 1, 1) := by decide +kernel
theorem dX12_go_63 : decode cX12_go 63 = .ok (.aload_n 0, 1) := by decide +kernel
theorem dX12_go_64 : decode cX12_go 64 = .ok (.getfield 191, 3) := by decide +kernel
theorem dX12_go_67 : decode cX12_go 67 = .ok (.aload_n 0, 1) := by decide +kernel
theorem dX12_go_68 : decode cX12_go 68 = .ok (.getfield 184, 3) := by decide +kernel
theorem dX12_go_71 : decode cX12_go 71 = .ok (.if_icmp .ne 11, 3) := by decide +kernel
theorem dX12_go_74 : decode cX12_go 74 = .ok (.aload_n 0, 1) := by decide +kernel
theorem dX12_go_75 : decode cX12_go 75 = .ok (.iconst 0, 1) := by decide +kernel
theorem dX12_go_76 : decode cX12_go 76 = .ok (.putfield 197, 3) := by decide +kernel
theorem dX12_go_79 : decode cX12_go 79 = .ok (.goto 224, 3) := by decide +kernel
theorem dX12_go_82 : decode cX12_go 82 = .ok (.aload_n 0, 1) := by decide +kernel
theorem dX12_go_83 : decode cX12_go 83 = .ok (.aload_n 0, 1) := by decide +kernel
theorem dX12_go_84 : decode cX12_go 84 = .ok (.getfield 191, 3) := by decide +kernel
theorem dX12_go_87 : decode cX12_go 87 = .ok (.invokevirtual 200, 3) := by decide +kernel
theorem dX12_go_90 : decode cX12_go 90 = .ok (.ifCond .eq 64, 3) := by decide +kernel
theorem dX12_go_93 : decode cX12_go 93 = .ok (.aload_n 0, 1) := by decide +kernel
theorem dX12_go_94 : decode cX12_go 94 = .ok (.aload_n 0, 1) := by decide +kernel
theorem dX12_go_95 : decode cX12_go 95 = .ok (.getfield 188, 3) := by decide +kernel
theorem dX12_go_98 : decode cX12_go 98 = .ok (.invokevirtual 200, 3) := by decide +kernel
theorem dX12_go_101 : decode cX12_go 101 = .ok (.ifCond .eq 16, 3) := by decide +kernel
theorem dX12_go_104 : decode cX12_go 104 = .ok (.aload_n 0, 1) := by decide +kernel
theorem dX12_go_105 : decode cX12_go 105 = .ok (.dup, 1) := by decide +kernel
theorem dX12_go_106 : decode cX12_go 106 = .ok (.getfield 188, 3) := by decide +kernel
theorem dX12_go_109 : decode cX12_go 109 = .ok (.iconst 1, 1) := by decide +kernel
theorem dX12_go_110 : decode cX12_go 110 = .ok (.iadd, 1) := by decide +kernel
theorem dX12_go_111 : decode cX12_go 111 = .ok (.putfield 188, 3) := by decide +kernel
theorem dX12_go_114 : decode cX12_go 114 = .ok (.goto (-21), 3) := by decide +kernel
theorem dX12_go_117 : decode cX12_go 117 = .ok (.aload_n 0, 1) := by decide +kernel
theorem dX12_go_118 : decode cX12_go 118 = .ok (.iload_n 1, 1) := by decide +kernel
theorem dX12_go_119 : decode cX12_go 119 = .ok (.ifCond .eq 7, 3) := by decide +kernel
theorem dX12_go_122 : decode cX12_go 122 = .ok (.iconst 4, 1) := by decide +kernel
theorem dX12_go_123 : decode cX12_go 123 = .ok (.goto 4, 3) := by decide +kernel
theorem dX12_go_126 : decode cX12_go 126 = .ok (.iconst 1, 1) := by decide +kernel
theorem dX12_go_127 : decode cX12_go 127 = .ok (.putfield 197, 3) := by decide +kernel
theorem dX12_go_130 : decode cX12_go 130 = .ok (.aload_n 0, 1) := by decide +kernel
theorem dX12_go_131 : decode cX12_go 131 = .ok (.aload_n 0, 1) := by decide +kernel
theorem dX12_go_132 : decode cX12_go 132 = .ok (.getfield 19, 3) := by decide +kernel
theorem dX12_go_135 : decode cX12_go 135 = .ok (.aload_n 0, 1) := by decide +kernel
theorem dX12_go_136 : decode cX12_go 136 = .ok (.getfield 191, 3) := by decide +kernel
theorem dX12_go_139 : decode cX12_go 139 = .ok (.iaload, 1) := by decide +kernel
theorem dX12_go_140 : decode cX12_go 140 = .ok (.putfield 203, 3) := by decide +kernel
theorem dX12_go_143 : decode cX12_go 143 = .ok (.aload_n 0, 1) := by decide +kernel
theorem dX12_go_144 : decode cX12_go 144 = .ok (.aload_n 0, 1) := by decide +kernel
theorem dX12_go_145 : decode cX12_go 145 = .ok (.getfield 188, 3) := by decide +kernel
theorem dX12_go_148 : decode cX12_go 148 = .ok (.putfield 194, 3) := by decide +kernel
theorem dX12_go_151 : decode cX12_go 151 = .ok (.goto 152, 3) := by decide +kernel
theorem dX12_go_154 : decode cX12_go 154 = .ok (.aload_n 0, 1) := by decide +kernel
theorem dX12_go_155 : decode cX12_go 155 = .ok (.aload_n 0, 1) := by decide +kernel
theorem dX12_go_156 : decode cX12_go 156 = .ok (.getfield 191, 3) := by decide +kernel
theorem dX12_go_159 : decode cX12_go 159 = .ok (.invokevirtual 206, 3) := by decide +kernel
theorem dX12_go_162 : decode cX12_go 162 = .ok (.ifCond .eq 113, 3) := by decide +kernel
theorem dX12_go_165 : decode cX12_go 165 = .ok (.aload_n 0, 1) := by decide +kernel
theorem dX12_go_166 : decode cX12_go 166 = .ok (.iconst 0, 1) := by decide +kernel
theorem dX12_go_167 : decode cX12_go 167 = .ok (.putfield 203, 3) := by decide +kernel
theorem dX12_go_170 : decode cX12_go 170 = .ok (.aload_n 0, 1) := by decide +kernel
theorem dX12_go_171 : decode cX12_go 171 = .ok (.aload_n 0, 1) := by decide +kernel
theorem dX12_go_172 : decode cX12_go 172 = .ok (.getfield 188, 3) := by decide +kernel
theorem dX12_go_175 : decode cX12_go 175 = .ok (.invokevirtual 206, 3) := by decide +kernel
theorem dX12_go_178 : decode cX12_go 178 = .ok (.ifCond .eq 60, 3) := by decide +kernel
theorem dX12_go_181 : decode cX12_go 181 = .ok (.aload_n 0, 1) := by decide +kernel
theorem dX12_go_182 : decode cX12_go 182 = .ok (.aload_n 0, 1) := by decide +kernel
theorem dX12_go_183 : decode cX12_go 183 = .ok (.getfield 188, 3) := by decide +kernel
theorem dX12_go_186 : decode cX12_go 186 = .ok (.aload_n 0, 1) := by decide +kernel
theorem dX12_go_187 : decode cX12_go 187 = .ok (.getfield 191, 3) := by decide +kernel
theorem dX12_go_190 : decode cX12_go 190 = .ok (.isub, 1) := by decide +kernel
theorem dX12_go_191 : decode cX12_go 191 = .ok (.iconst 4, 1) := by decide +kernel
theorem dX12_go_192 : decode cX12_go 192 = .ok (.if_icmp .ge 26, 3) := by decide +kernel
theorem dX12_go_195 : decode cX12_go 195 = .ok (.bipush 10, 2) := by decide +kernel
theorem dX12_go_197 : decode cX12_go 197 = .ok (.aload_n 0, 1) := by decide +kernel
theorem dX12_go_198 : decode cX12_go 198 = .ok (.getfield 203, 3) := by decide +kernel
theorem dX12_go_201 : decode cX12_go 201 = .ok (.imul, 1) := by decide +kernel
theorem dX12_go_202 : decode cX12_go 202 = .ok (.aload_n 0, 1) := by decide +kernel
theorem dX12_go_203 : decode cX12_go 203 = .ok (.getfield 19, 3) := by decide +kernel
theorem dX12_go_206 : decode cX12_go 206 = .ok (.aload_n 0, 1) := by decide +kernel
theorem dX12_go_207 : decode cX12_go 207 = .ok (.getfield 188, 3) := by decide +kernel
theorem dX12_go_210 : decode cX12_go 210 = .ok (.iaload, 1) := by decide +kernel
theorem dX12_go_211 : decode cX12_go 211 = .ok (.iadd, 1) := by decide +kernel
theorem dX12_go_212 : decode cX12_go 212 = .ok (.bipush 48, 2) := by decide +kernel
theorem dX12_go_214 : decode cX12_go 214 = .ok (.isub, 1) := by decide +kernel
theorem dX12_go_215 : decode cX12_go 215 = .ok (.goto 7, 3) := by decide +kernel
theorem dX12_go_218 : decode cX12_go 218 = .ok (.aload_n 0, 1) := by decide +kernel
theorem dX12_go_219 : decode cX12_go 219 = .ok (.getfield 203, 3) := by decide +kernel
theorem dX12_go_222 : decode cX12_go 222 = .ok (.putfield 203, 3) := by decide +kernel
theorem dX12_go_225 : decode cX12_go 225 = .ok (.aload_n 0, 1) := by decide +kernel
theorem dX12_go_226 : decode cX12_go 226 = .ok (.dup, 1) := by decide +kernel
theorem dX12_go_227 : decode cX12_go 227 = .ok (.getfield 188, 3) := by decide +kernel
theorem dX12_go_230 : decode cX12_go 230 = .ok (.iconst 1, 1) := by decide +kernel
theorem dX12_go_231 : decode cX12_go 231 = .ok (.iadd, 1) := by decide +kernel
theorem dX12_go_232 : decode cX12_go 232 = .ok (.putfield 188, 3) := by decide +kernel
theorem dX12_go_235 : decode cX12_go 235 = .ok (.goto (-65), 3) := by decide +kernel
theorem dX12_go_238 : decode cX12_go 238 = .ok (.aload_n 0, 1) := by decide +kernel
theorem dX12_go_239 : decode cX12_go 239 = .ok (.iload_n 1, 1) := by decide +kernel
theorem dX12_go_240 : decode cX12_go 240 = .ok (.ifCond .ne 16, 3) := by decide +kernel
theorem dX12_go_243 : decode cX12_go 243 = .ok (.aload_n 0, 1) := by decide +kernel
theorem dX12_go_244 : decode cX12_go 244 = .ok (.getfield 188, 3) := by decide +kernel
theorem dX12_go_247 : decode cX12_go 247 = .ok (.aload_n 0, 1) := by decide +kernel
theorem dX12_go_248 : decode cX12_go 248 = .ok (.getfield 191, 3) := by decide +kernel
theorem dX12_go_251 : decode cX12_go 251 = .ok (.isub, 1) := by decide +kernel
theorem dX12_go_252 : decode cX12_go 252 = .ok (.iconst 4, 1) := by decide +kernel
theorem dX12_go_253 : decode cX12_go 253 = .ok (.if_icmp .le 7, 3) := by decide +kernel
theorem dX12_go_256 : decode cX12_go 256 = .ok (.iconst 4, 1) := by decide +kernel
theorem dX12_go_257 : decode cX12_go 257 = .ok (.goto 4, 3) := by decide +kernel
theorem dX12_go_260 : decode cX12_go 260 = .ok (.iconst 2, 1) := by decide +kernel
theorem dX12_go_261 : decode cX12_go 261 = .ok (.putfield 197, 3) := by decide +kernel
theorem dX12_go_264 : decode cX12_go 264 = .ok (.aload_n 0, 1) := by decide +kernel
theorem dX12_go_265 : decode cX12_go 265 = .ok (.aload_n 0, 1) := by decide +kernel
theorem dX12_go_266 : decode cX12_go 266 = .ok (.getfield 188, 3) := by decide +kernel
theorem dX12_go_269 : decode cX12_go 269 = .ok (.putfield 194, 3) := by decide +kernel
theorem dX12_go_272 : decode cX12_go 272 = .ok (.goto 31, 3) := by decide +kernel
theorem dX12_go_275 : decode cX12_go 275 = .ok (.aload_n 0, 1) := by decide +kernel
theorem dX12_go_276 : decode cX12_go 276 = .ok (.iconst 3, 1) := by decide +kernel
theorem dX12_go_277 : decode cX12_go 277 = .ok (.putfield 197, 3) := by decide +kernel
theorem dX12_go_280 : decode cX12_go 280 = .ok (.aload_n 0, 1) := by decide +kernel
theorem dX12_go_281 : decode cX12_go 281 = .ok (.aload_n 0, 1) := by decide +kernel
theorem dX12_go_282 : decode cX12_go 282 = .ok (.getfield 19, 3) := by decide +kernel
theorem dX12_go_285 : decode cX12_go 285 = .ok (.aload_n 0, 1) := by decide +kernel
theorem dX12_go_286 : decode cX12_go 286 = .ok (.getfield 191, 3) := by decide +kernel
theorem dX12_go_289 : decode cX12_go 289 = .ok (.iaload, 1) := by decide +kernel
theorem dX12_go_290 : decode cX12_go 290 = .ok (.putfield 203, 3) := by decide +kernel
theorem dX12_go_293 : decode cX12_go 293 = .ok (.aload_n 0, 1) := by decide +kernel
theorem dX12_go_294 : decode cX12_go 294 = .ok (.dup, 1) := by decide +kernel
theorem dX12_go_295 : decode cX12_go 295 = .ok (.getfield 188, 3) := by decide +kernel
theorem dX12_go_298 : decode cX12_go 298 = .ok (.iconst 1, 1) := by decide +kernel
theorem dX12_go_299 : decode cX12_go 299 = .ok (.iadd, 1) := by decide +kernel
theorem dX12_go_300 : decode cX12_go 300 = .ok (.putfield 188, 3) := by decide +kernel
theorem dX12_go_303 : decode cX12_go 303 = .ok (.return_, 1) := by decide +kernel
theorem dX12_takesKey_0 : decode cX12_takesKey 0 = .ok (.aload_n 0, 1) := by decide +kernel
theorem dX12_takesKey_1 : decode cX12_takesKey 1 = .ok (.getfield 197, 3) := by decide +kernel
theorem dX12_takesKey_4 : decode cX12_takesKey 4 = .ok (.iconst 1, 1) := by decide +kernel
theorem dX12_takesKey_5 : decode cX12_takesKey 5 = .ok (.if_icmp .eq 5, 3) := by decide +kernel
theorem dX12_takesKey_8 : decode cX12_takesKey 8 = .ok (.iconst 0, 1) := by decide +kernel
theorem dX12_takesKey_9 : decode cX12_takesKey 9 = .ok (.ireturn, 1) := by decide +kernel
theorem dX12_takesKey_10 : decode cX12_takesKey 10 = .ok (.iconst 0, 1) := by decide +kernel
theorem dX12_takesKey_11 : decode cX12_takesKey 11 = .ok (.istore_n 1, 1) := by decide +kernel
theorem dX12_takesKey_12 : decode cX12_takesKey 12 = .ok (.iload_n 1, 1) := by decide +kernel
theorem dX12_takesKey_13 : decode cX12_takesKey 13 = .ok (.iconst 3, 1) := by decide +kernel
theorem dX12_takesKey_14 : decode cX12_takesKey 14 = .ok (.if_icmp .ge 113, 3) := by decide +kernel
theorem dX12_takesKey_17 : decode cX12_takesKey 17 = .ok (.aload_n 0, 1) := by decide +kernel
theorem dX12_takesKey_18 : decode cX12_takesKey 18 = .ok (.getfield 26, 3) := by decide +kernel
theorem dX12_takesKey_21 : decode cX12_takesKey 21 = .ok (.iload_n 1, 1) := by decide +kernel
theorem dX12_takesKey_22 : decode cX12_takesKey 22 = .ok (.iconst 1, 1) := by decide +kernel
theorem dX12_takesKey_23 : decode cX12_takesKey 23 = .ok (.iadd, 1) := by decide +kernel
theorem dX12_takesKey_24 : decode cX12_takesKey 24 = .ok (.iaload, 1) := by decide +kernel
theorem dX12_takesKey_25 : decode cX12_takesKey 25 = .ok (.aload_n 0, 1) := by decide +kernel
theorem dX12_takesKey_26 : decode cX12_takesKey 26 = .ok (.getfield 26, 3) := by decide +kernel
theorem dX12_takesKey_29 : decode cX12_takesKey 29 = .ok (.iload_n 1, 1) := by decide +kernel
theorem dX12_takesKey_30 : decode cX12_takesKey 30 = .ok (.iaload, 1) := by decide +kernel
theorem dX12_takesKey_31 : decode cX12_takesKey 31 = .ok (.isub, 1) := by decide +kernel
theorem dX12_takesKey_32 : decode cX12_takesKey 32 = .ok (.istore_n 2, 1) := by decide +kernel
theorem dX12_takesKey_33 : decode cX12_takesKey 33 = .ok (.iload_n 2, 1) := by decide +kernel
theorem dX12_takesKey_34 : decode cX12_takesKey 34 = .ok (.aload_n 0, 1) := by decide +kernel
theorem dX12_takesKey_35 : decode cX12_takesKey 35 = .ok (.getfield 188, 3) := by decide +kernel
theorem dX12_takesKey_38 : decode cX12_takesKey 38 = .ok (.aload_n 0, 1) := by decide +kernel
theorem dX12_takesKey_39 : decode cX12_takesKey 39 = .ok (.getfield 191, 3) := by decide +kernel
theorem dX12_takesKey_42 : decode cX12_takesKey 42 = .ok (.isub, 1) := by decide +kernel
theorem dX12_takesKey_43 : decode cX12_takesKey 43 = .ok (.if_icmp .ne 7, 3) := by decide +kernel
theorem dX12_takesKey_46 : decode cX12_takesKey 46 = .ok (.iconst 1, 1) := by decide +kernel
theorem dX12_takesKey_47 : decode cX12_takesKey 47 = .ok (.goto 4, 3) := by decide +kernel
theorem dX12_takesKey_50 : decode cX12_takesKey 50 = .ok (.iconst 0, 1) := by decide +kernel
theorem dX12_takesKey_51 : decode cX12_takesKey 51 = .ok (.istore_n 3, 1) := by decide +kernel
theorem dX12_takesKey_52 : decode cX12_takesKey 52 = .ok (.iconst 0, 1) := by decide +kernel
theorem dX12_takesKey_53 : decode cX12_takesKey 53 = .ok (.istore 4, 2) := by decide +kernel
theorem dX12_takesKey_55 : decode cX12_takesKey 55 = .ok (.iload 4, 2) := by decide +kernel
theorem dX12_takesKey_57 : decode cX12_takesKey 57 = .ok (.iload_n 2, 1) := by decide +kernel
theorem dX12_takesKey_58 : decode cX12_takesKey 58 = .ok (.if_icmp .ge 48, 3) := by decide +kernel
theorem dX12_takesKey_61 : decode cX12_takesKey 61 = .ok (.iload_n 3, 1) := by decide +kernel
theorem dX12_takesKey_62 : decode cX12_takesKey 62 = .ok (.ifCond .eq 44, 3) := by decide +kernel
theorem dX12_takesKey_65 : decode cX12_takesKey 65 = .ok (.aload_n 0, 1) := by decide +kernel
theorem dX12_takesKey_66 : decode cX12_takesKey 66 = .ok (.getfield 19, 3) := by decide +kernel
theorem dX12_takesKey_69 : decode cX12_takesKey 69 = .ok (.aload_n 0, 1) := by decide +kernel
theorem dX12_takesKey_70 : decode cX12_takesKey 70 = .ok (.getfield 191, 3) := by decide +kernel
theorem dX12_takesKey_73 : decode cX12_takesKey 73 = .ok (.iload 4, 2) := by decide +kernel
theorem dX12_takesKey_75 : decode cX12_takesKey 75 = .ok (.iadd, 1) := by decide +kernel
theorem dX12_takesKey_76 : decode cX12_takesKey 76 = .ok (.iaload, 1) := by decide +kernel
theorem dX12_takesKey_77 : decode cX12_takesKey 77 = .ok (.aload_n 0, 1) := by decide +kernel
theorem dX12_takesKey_78 : decode cX12_takesKey 78 = .ok (.getfield 22, 3) := by decide +kernel
theorem dX12_takesKey_81 : decode cX12_takesKey 81 = .ok (.aload_n 0, 1) := by decide +kernel
theorem dX12_takesKey_82 : decode cX12_takesKey 82 = .ok (.getfield 26, 3) := by decide +kernel
theorem dX12_takesKey_85 : decode cX12_takesKey 85 = .ok (.iload_n 1, 1) := by decide +kernel
theorem dX12_takesKey_86 : decode cX12_takesKey 86 = .ok (.iaload, 1) := by decide +kernel
theorem dX12_takesKey_87 : decode cX12_takesKey 87 = .ok (.iload 4, 2) := by decide +kernel
theorem dX12_takesKey_89 : decode cX12_takesKey 89 = .ok (.iadd, 1) := by decide +kernel
theorem dX12_takesKey_90 : decode cX12_takesKey 90 = .ok (.caload, 1) := by decide +kernel
theorem dX12_takesKey_91 : decode cX12_takesKey 91 = .ok (.if_icmp .ne 7, 3) := by decide +kernel
theorem dX12_takesKey_94 : decode cX12_takesKey 94 = .ok (.iconst 1, 1) := by decide +kernel
theorem dX12_takesKey_95 : decode cX12_takesKey 95 = .ok (.goto 4, 3) := by decide +kernel
theorem dX12_takesKey_98 : decode cX12_takesKey 98 = .ok (.iconst 0, 1) := by decide +kernel
theorem dX12_takesKey_99 : decode cX12_takesKey 99 = .ok (.istore_n 3, 1) := by decide +kernel
theorem dX12_takesKey_100 : decode cX12_takesKey 100 = .ok (.iinc 4 1, 3) := by decide +kernel
theorem dX12_takesKey_103 : decode cX12_takesKey 103 = .ok (.goto (-48), 3) := by decide +kernel
theorem dX12_takesKey_106 : decode cX12_takesKey 106 = .ok (.iload_n 3, 1) := by decide +kernel
theorem dX12_takesKey_107 : decode cX12_takesKey 107 = .ok (.ifCond .eq 14, 3) := by decide +kernel
theorem dX12_takesKey_110 : decode cX12_takesKey 110 = .ok (.aload_n 0, 1) := by decide +kernel
theorem dX12_takesKey_111 : decode cX12_takesKey 111 = .ok (.iload_n 1, 1) := by decide +kernel
theorem dX12_takesKey_112 : decode cX12_takesKey 112 = .ok (.putfield 209, 3) := by decide +kernel
theorem dX12_takesKey_115 : decode cX12_takesKey 115 = .ok (.aload_n 0, 1) := by decide +kernel
theorem dX12_takesKey_116 : decode cX12_takesKey 116 = .ok (.invokevirtual 212, 3) := by decide +kernel
theorem dX12_takesKey_119 : decode cX12_takesKey 119 = .ok (.iconst 1, 1) := by decide +kernel
theorem dX12_takesKey_120 : decode cX12_takesKey 120 = .ok (.ireturn, 1) := by decide +kernel
theorem dX12_takesKey_121 : decode cX12_takesKey 121 = .ok (.iinc 1 1, 3) := by decide +kernel
theorem dX12_takesKey_124 : decode cX12_takesKey 124 = .ok (.goto (-112), 3) := by decide +kernel
theorem dX12_takesKey_127 : decode cX12_takesKey 127 = .ok (.iconst 0, 1) := by decide +kernel
theorem dX12_takesKey_128 : decode cX12_takesKey 128 = .ok (.ireturn, 1) := by decide +kernel
theorem dX12_nameOf_0 : decode cX12_nameOf 0 = .ok (.aload_n 0, 1) := by decide +kernel
theorem dX12_nameOf_1 : decode cX12_nameOf 1 = .ok (.getfield 209, 3) := by decide +kernel
theorem dX12_nameOf_4 : decode cX12_nameOf 4 = .ok (.ifCond .ne 8, 3) := by decide +kernel
theorem dX12_nameOf_7 : decode cX12_nameOf 7 = .ok (.bipush 119, 2) := by decide +kernel
theorem dX12_nameOf_9 : decode cX12_nameOf 9 = .ok (.goto 17, 3) := by decide +kernel
theorem dX12_nameOf_12 : decode cX12_nameOf 12 = .ok (.aload_n 0, 1) := by decide +kernel
theorem dX12_nameOf_13 : decode cX12_nameOf 13 = .ok (.getfield 209, 3) := by decide +kernel
theorem dX12_nameOf_16 : decode cX12_nameOf 16 = .ok (.iconst 1, 1) := by decide +kernel
theorem dX12_nameOf_17 : decode cX12_nameOf 17 = .ok (.if_icmp .ne 8, 3) := by decide +kernel
theorem dX12_nameOf_20 : decode cX12_nameOf 20 = .ok (.bipush 112, 2) := by decide +kernel
theorem dX12_nameOf_22 : decode cX12_nameOf 22 = .ok (.goto 4, 3) := by decide +kernel
theorem dX12_nameOf_25 : decode cX12_nameOf 25 = .ok (.iconst (-1), 1) := by decide +kernel
theorem dX12_nameOf_26 : decode cX12_nameOf 26 = .ok (.istore_n 2, 1) := by decide +kernel
theorem dX12_nameOf_27 : decode cX12_nameOf 27 = .ok (.iload_n 1, 1) := by decide +kernel
theorem dX12_nameOf_28 : decode cX12_nameOf 28 = .ok (.bipush 115, 2) := by decide +kernel
theorem dX12_nameOf_30 : decode cX12_nameOf 30 = .ok (.if_icmp .ne 7, 3) := by decide +kernel
theorem dX12_nameOf_33 : decode cX12_nameOf 33 = .ok (.iconst 0, 1) := by decide +kernel
theorem dX12_nameOf_34 : decode cX12_nameOf 34 = .ok (.goto 23, 3) := by decide +kernel
theorem dX12_nameOf_37 : decode cX12_nameOf 37 = .ok (.iload_n 1, 1) := by decide +kernel
theorem dX12_nameOf_38 : decode cX12_nameOf 38 = .ok (.bipush 100, 2) := by decide +kernel
theorem dX12_nameOf_40 : decode cX12_nameOf 40 = .ok (.if_icmp .ne 7, 3) := by decide +kernel
theorem dX12_nameOf_43 : decode cX12_nameOf 43 = .ok (.iconst 1, 1) := by decide +kernel
theorem dX12_nameOf_44 : decode cX12_nameOf 44 = .ok (.goto 13, 3) := by decide +kernel
theorem dX12_nameOf_47 : decode cX12_nameOf 47 = .ok (.iload_n 1, 1) := by decide +kernel
theorem dX12_nameOf_48 : decode cX12_nameOf 48 = .ok (.iload_n 2, 1) := by decide +kernel
theorem dX12_nameOf_49 : decode cX12_nameOf 49 = .ok (.if_icmp .ne 7, 3) := by decide +kernel
theorem dX12_nameOf_52 : decode cX12_nameOf 52 = .ok (.iconst 2, 1) := by decide +kernel
theorem dX12_nameOf_53 : decode cX12_nameOf 53 = .ok (.goto 4, 3) := by decide +kernel
theorem dX12_nameOf_56 : decode cX12_nameOf 56 = .ok (.iconst (-1), 1) := by decide +kernel
theorem dX12_nameOf_57 : decode cX12_nameOf 57 = .ok (.ireturn, 1) := by decide +kernel
theorem dX12_rank_0 : decode cX12_rank 0 = .ok (.iload_n 0, 1) := by decide +kernel
theorem dX12_rank_1 : decode cX12_rank 1 = .ok (.iconst (-1), 1) := by decide +kernel
theorem dX12_rank_2 : decode cX12_rank 2 = .ok (.if_icmp .ne 7, 3) := by decide +kernel
theorem dX12_rank_5 : decode cX12_rank 5 = .ok (.iconst 1, 1) := by decide +kernel
theorem dX12_rank_6 : decode cX12_rank 6 = .ok (.goto 45, 3) := by decide +kernel
theorem dX12_rank_9 : decode cX12_rank 9 = .ok (.iload_n 0, 1) := by decide +kernel
theorem dX12_rank_10 : decode cX12_rank 10 = .ok (.bipush (-2), 2) := by decide +kernel
theorem dX12_rank_12 : decode cX12_rank 12 = .ok (.if_icmp .ne 7, 3) := by decide +kernel
theorem dX12_rank_15 : decode cX12_rank 15 = .ok (.iconst 2, 1) := by decide +kernel
theorem dX12_rank_16 : decode cX12_rank 16 = .ok (.goto 35, 3) := by decide +kernel
theorem dX12_rank_19 : decode cX12_rank 19 = .ok (.iload_n 0, 1) := by decide +kernel
theorem dX12_rank_20 : decode cX12_rank 20 = .ok (.bipush (-5), 2) := by decide +kernel
theorem dX12_rank_22 : decode cX12_rank 22 = .ok (.if_icmp .lt 7, 3) := by decide +kernel
theorem dX12_rank_25 : decode cX12_rank 25 = .ok (.iconst 3, 1) := by decide +kernel
theorem dX12_rank_26 : decode cX12_rank 26 = .ok (.goto 25, 3) := by decide +kernel
theorem dX12_rank_29 : decode cX12_rank 29 = .ok (.iload_n 0, 1) := by decide +kernel
theorem dX12_rank_30 : decode cX12_rank 30 = .ok (.bipush (-7), 2) := by decide +kernel
theorem dX12_rank_32 : decode cX12_rank 32 = .ok (.if_icmp .lt 7, 3) := by decide +kernel
theorem dX12_rank_35 : decode cX12_rank 35 = .ok (.iconst 4, 1) := by decide +kernel
theorem dX12_rank_36 : decode cX12_rank 36 = .ok (.goto 15, 3) := by decide +kernel
theorem dX12_rank_39 : decode cX12_rank 39 = .ok (.iload_n 0, 1) := by decide +kernel
theorem dX12_rank_40 : decode cX12_rank 40 = .ok (.bipush (-9), 2) := by decide +kernel
theorem dX12_rank_42 : decode cX12_rank 42 = .ok (.if_icmp .lt 7, 3) := by decide +kernel
theorem dX12_rank_45 : decode cX12_rank 45 = .ok (.iconst 5, 1) := by decide +kernel
theorem dX12_rank_46 : decode cX12_rank 46 = .ok (.goto 5, 3) := by decide +kernel
theorem dX12_rank_49 : decode cX12_rank 49 = .ok (.bipush 6, 2) := by decide +kernel
theorem dX12_rank_51 : decode cX12_rank 51 = .ok (.ireturn, 1) := by decide +kernel
theorem dX12_settle_0 : decode cX12_settle 0 = .ok (.aload_n 0, 1) := by decide +kernel
theorem dX12_settle_1 : decode cX12_settle 1 = .ok (.getfield 215, 3) := by decide +kernel
theorem dX12_settle_4 : decode cX12_settle 4 = .ok (.ifCond .le 78, 3) := by decide +kernel
theorem dX12_settle_7 : decode cX12_settle 7 = .ok (.aload_n 0, 1) := by decide +kernel
theorem dX12_settle_8 : decode cX12_settle 8 = .ok (.getfield 32, 3) := by decide +kernel
theorem dX12_settle_11 : decode cX12_settle 11 = .ok (.aload_n 0, 1) := by decide +kernel
theorem dX12_settle_12 : decode cX12_settle 12 = .ok (.getfield 215, 3) := by decide +kernel
theorem dX12_settle_15 : decode cX12_settle 15 = .ok (.iconst 1, 1) := by decide +kernel
theorem dX12_settle_16 : decode cX12_settle 16 = .ok (.isub, 1) := by decide +kernel
theorem dX12_settle_17 : decode cX12_settle 17 = .ok (.iaload, 1) := by decide +kernel
theorem dX12_settle_18 : decode cX12_settle 18 = .ok (.bipush (-11), 2) := by decide +kernel
theorem dX12_settle_20 : decode cX12_settle 20 = .ok (.if_icmp .eq 62, 3) := by decide +kernel
theorem dX12_settle_23 : decode cX12_settle 23 = .ok (.aload_n 0, 1) := by decide +kernel
theorem dX12_settle_24 : decode cX12_settle 24 = .ok (.getfield 32, 3) := by decide +kernel
theorem dX12_settle_27 : decode cX12_settle 27 = .ok (.aload_n 0, 1) := by decide +kernel
theorem dX12_settle_28 : decode cX12_settle 28 = .ok (.getfield 215, 3) := by decide +kernel
theorem dX12_settle_31 : decode cX12_settle 31 = .ok (.iconst 1, 1) := by decide +kernel
theorem dX12_settle_32 : decode cX12_settle 32 = .ok (.isub, 1) := by decide +kernel
theorem dX12_settle_33 : decode cX12_settle 33 = .ok (.iaload, 1) := by decide +kernel
theorem dX12_settle_34 : decode cX12_settle 34 = .ok (.invokestatic 218, 3) := by decide +kernel
theorem dX12_settle_37 : decode cX12_settle 37 = .ok (.iload_n 1, 1) := by decide +kernel
theorem dX12_settle_38 : decode cX12_settle 38 = .ok (.if_icmp .lt 44, 3) := by decide +kernel
theorem dX12_settle_41 : decode cX12_settle 41 = .ok (.aload_n 0, 1) := by decide +kernel
theorem dX12_settle_42 : decode cX12_settle 42 = .ok (.dup, 1) := by decide +kernel
theorem dX12_settle_43 : decode cX12_settle 43 = .ok (.getfield 215, 3) := by decide +kernel
theorem dX12_settle_46 : decode cX12_settle 46 = .ok (.iconst 1, 1) := by decide +kernel
theorem dX12_settle_47 : decode cX12_settle 47 = .ok (.isub, 1) := by decide +kernel
theorem dX12_settle_48 : decode cX12_settle 48 = .ok (.putfield 215, 3) := by decide +kernel
theorem dX12_settle_51 : decode cX12_settle 51 = .ok (.aload_n 0, 1) := by decide +kernel
theorem dX12_settle_52 : decode cX12_settle 52 = .ok (.getfield 29, 3) := by decide +kernel
theorem dX12_settle_55 : decode cX12_settle 55 = .ok (.aload_n 0, 1) := by decide +kernel
theorem dX12_settle_56 : decode cX12_settle 56 = .ok (.getfield 221, 3) := by decide +kernel
theorem dX12_settle_59 : decode cX12_settle 59 = .ok (.aload_n 0, 1) := by decide +kernel
theorem dX12_settle_60 : decode cX12_settle 60 = .ok (.getfield 32, 3) := by decide +kernel
theorem dX12_settle_63 : decode cX12_settle 63 = .ok (.aload_n 0, 1) := by decide +kernel
theorem dX12_settle_64 : decode cX12_settle 64 = .ok (.getfield 215, 3) := by decide +kernel
theorem dX12_settle_67 : decode cX12_settle 67 = .ok (.iaload, 1) := by decide +kernel
theorem dX12_settle_68 : decode cX12_settle 68 = .ok (.iastore, 1) := by decide +kernel
theorem dX12_settle_69 : decode cX12_settle 69 = .ok (.aload_n 0, 1) := by decide +kernel
theorem dX12_settle_70 : decode cX12_settle 70 = .ok (.dup, 1) := by decide +kernel
theorem dX12_settle_71 : decode cX12_settle 71 = .ok (.getfield 221, 3) := by decide +kernel
theorem dX12_settle_74 : decode cX12_settle 74 = .ok (.iconst 1, 1) := by decide +kernel
theorem dX12_settle_75 : decode cX12_settle 75 = .ok (.iadd, 1) := by decide +kernel
theorem dX12_settle_76 : decode cX12_settle 76 = .ok (.putfield 221, 3) := by decide +kernel
theorem dX12_settle_79 : decode cX12_settle 79 = .ok (.goto (-79), 3) := by decide +kernel
theorem dX12_settle_82 : decode cX12_settle 82 = .ok (.return_, 1) := by decide +kernel
theorem dX12_signHere_0 : decode cX12_signHere 0 = .ok (.aload_n 0, 1) := by decide +kernel
theorem dX12_signHere_1 : decode cX12_signHere 1 = .ok (.getfield 197, 3) := by decide +kernel
theorem dX12_signHere_4 : decode cX12_signHere 4 = .ok (.iconst 3, 1) := by decide +kernel
theorem dX12_signHere_5 : decode cX12_signHere 5 = .ok (.if_icmp .eq 5, 3) := by decide +kernel
theorem dX12_signHere_8 : decode cX12_signHere 8 = .ok (.iconst 0, 1) := by decide +kernel
theorem dX12_signHere_9 : decode cX12_signHere 9 = .ok (.ireturn, 1) := by decide +kernel
theorem dX12_signHere_10 : decode cX12_signHere 10 = .ok (.aload_n 0, 1) := by decide +kernel
theorem dX12_signHere_11 : decode cX12_signHere 11 = .ok (.getfield 203, 3) := by decide +kernel
theorem dX12_signHere_14 : decode cX12_signHere 14 = .ok (.lookupswitch 108 #[(38, 84), (42, 102), (43, 96), (45, 99), (47, 105), (60, 87), (61, 90), (62, 93), (124, 82)], 82) := by decide +kernel
theorem dX12_signHere_96 : decode cX12_signHere 96 = .ok (.iconst (-1), 1) := by decide +kernel
theorem dX12_signHere_97 : decode cX12_signHere 97 = .ok (.ireturn, 1) := by decide +kernel
theorem dX12_signHere_98 : decode cX12_signHere 98 = .ok (.bipush (-2), 2) := by decide +kernel
theorem dX12_signHere_100 : decode cX12_signHere 100 = .ok (.ireturn, 1) := by decide +kernel
theorem dX12_signHere_101 : decode cX12_signHere 101 = .ok (.bipush (-3), 2) := by decide +kernel
theorem dX12_signHere_103 : decode cX12_signHere 103 = .ok (.ireturn, 1) := by decide +kernel
theorem dX12_signHere_104 : decode cX12_signHere 104 = .ok (.bipush (-4), 2) := by decide +kernel
theorem dX12_signHere_106 : decode cX12_signHere 106 = .ok (.ireturn, 1) := by decide +kernel
theorem dX12_signHere_107 : decode cX12_signHere 107 = .ok (.bipush (-5), 2) := by decide +kernel
theorem dX12_signHere_109 : decode cX12_signHere 109 = .ok (.ireturn, 1) := by decide +kernel
theorem dX12_signHere_110 : decode cX12_signHere 110 = .ok (.bipush (-6), 2) := by decide +kernel
theorem dX12_signHere_112 : decode cX12_signHere 112 = .ok (.ireturn, 1) := by decide +kernel
theorem dX12_signHere_113 : decode cX12_signHere 113 = .ok (.bipush (-7), 2) := by decide +kernel
theorem dX12_signHere_115 : decode cX12_signHere 115 = .ok (.ireturn, 1) := by decide +kernel
theorem dX12_signHere_116 : decode cX12_signHere 116 = .ok (.bipush (-8), 2) := by decide +kernel
theorem dX12_signHere_118 : decode cX12_signHere 118 = .ok (.ireturn, 1) := by decide +kernel
theorem dX12_signHere_119 : decode cX12_signHere 119 = .ok (.bipush (-9), 2) := by decide +kernel
theorem dX12_signHere_121 : decode cX12_signHere 121 = .ok (.ireturn, 1) := by decide +kernel
theorem dX12_signHere_122 : decode cX12_signHere 122 = .ok (.iconst 0, 1) := by decide +kernel
theorem dX12_signHere_123 : decode cX12_signHere 123 = .ok (.ireturn, 1) := by decide +kernel
theorem dX12_takesPart_0 : decode cX12_takesPart 0 = .ok (.aload_n 0, 1) := by decide +kernel
theorem dX12_takesPart_1 : decode cX12_takesPart 1 = .ok (.getfield 197, 3) := by decide +kernel
theorem dX12_takesPart_4 : decode cX12_takesPart 4 = .ok (.iconst 1, 1) := by decide +kernel
theorem dX12_takesPart_5 : decode cX12_takesPart 5 = .ok (.if_icmp .ne 31, 3) := by decide +kernel
theorem dX12_takesPart_8 : decode cX12_takesPart 8 = .ok (.aload_n 0, 1) := by decide +kernel
theorem dX12_takesPart_9 : decode cX12_takesPart 9 = .ok (.getfield 188, 3) := by decide +kernel
theorem dX12_takesPart_12 : decode cX12_takesPart 12 = .ok (.aload_n 0, 1) := by decide +kernel
theorem dX12_takesPart_13 : decode cX12_takesPart 13 = .ok (.getfield 191, 3) := by decide +kernel
theorem dX12_takesPart_16 : decode cX12_takesPart 16 = .ok (.isub, 1) := by decide +kernel
theorem dX12_takesPart_17 : decode cX12_takesPart 17 = .ok (.iconst 1, 1) := by decide +kernel
theorem dX12_takesPart_18 : decode cX12_takesPart 18 = .ok (.if_icmp .ne 18, 3) := by decide +kernel
theorem dX12_takesPart_21 : decode cX12_takesPart 21 = .ok (.aload_n 0, 1) := by decide +kernel
theorem dX12_takesPart_22 : decode cX12_takesPart 22 = .ok (.aload_n 0, 1) := by decide +kernel
theorem dX12_takesPart_23 : decode cX12_takesPart 23 = .ok (.getfield 203, 3) := by decide +kernel
theorem dX12_takesPart_26 : decode cX12_takesPart 26 = .ok (.invokevirtual 224, 3) := by decide +kernel
theorem dX12_takesPart_29 : decode cX12_takesPart 29 = .ok (.ifCond .lt 7, 3) := by decide +kernel
theorem dX12_takesPart_32 : decode cX12_takesPart 32 = .ok (.iconst 1, 1) := by decide +kernel
theorem dX12_takesPart_33 : decode cX12_takesPart 33 = .ok (.goto 4, 3) := by decide +kernel
theorem dX12_takesPart_36 : decode cX12_takesPart 36 = .ok (.iconst 0, 1) := by decide +kernel
theorem dX12_takesPart_37 : decode cX12_takesPart 37 = .ok (.istore_n 1, 1) := by decide +kernel
theorem dX12_takesPart_38 : decode cX12_takesPart 38 = .ok (.aload_n 0, 1) := by decide +kernel
theorem dX12_takesPart_39 : decode cX12_takesPart 39 = .ok (.getfield 197, 3) := by decide +kernel
theorem dX12_takesPart_42 : decode cX12_takesPart 42 = .ok (.iconst 2, 1) := by decide +kernel
theorem dX12_takesPart_43 : decode cX12_takesPart 43 = .ok (.if_icmp .eq 9, 3) := by decide +kernel
theorem dX12_takesPart_46 : decode cX12_takesPart 46 = .ok (.iload_n 1, 1) := by decide +kernel
theorem dX12_takesPart_47 : decode cX12_takesPart 47 = .ok (.ifCond .ne 5, 3) := by decide +kernel
theorem dX12_takesPart_50 : decode cX12_takesPart 50 = .ok (.iconst 0, 1) := by decide +kernel
theorem dX12_takesPart_51 : decode cX12_takesPart 51 = .ok (.ireturn, 1) := by decide +kernel
theorem dX12_takesPart_52 : decode cX12_takesPart 52 = .ok (.aload_n 0, 1) := by decide +kernel
theorem dX12_takesPart_53 : decode cX12_takesPart 53 = .ok (.getfield 29, 3) := by decide +kernel
theorem dX12_takesPart_56 : decode cX12_takesPart 56 = .ok (.aload_n 0, 1) := by decide +kernel
theorem dX12_takesPart_57 : decode cX12_takesPart 57 = .ok (.getfield 221, 3) := by decide +kernel
theorem dX12_takesPart_60 : decode cX12_takesPart 60 = .ok (.aload_n 0, 1) := by decide +kernel
theorem dX12_takesPart_61 : decode cX12_takesPart 61 = .ok (.getfield 197, 3) := by decide +kernel
theorem dX12_takesPart_64 : decode cX12_takesPart 64 = .ok (.iconst 2, 1) := by decide +kernel
theorem dX12_takesPart_65 : decode cX12_takesPart 65 = .ok (.if_icmp .ne 10, 3) := by decide +kernel
theorem dX12_takesPart_68 : decode cX12_takesPart 68 = .ok (.aload_n 0, 1) := by decide +kernel
theorem dX12_takesPart_69 : decode cX12_takesPart 69 = .ok (.getfield 203, 3) := by decide +kernel
theorem dX12_takesPart_72 : decode cX12_takesPart 72 = .ok (.goto 15, 3) := by decide +kernel
theorem dX12_takesPart_75 : decode cX12_takesPart 75 = .ok (.sipush 10000, 3) := by decide +kernel
theorem dX12_takesPart_78 : decode cX12_takesPart 78 = .ok (.aload_n 0, 1) := by decide +kernel
theorem dX12_takesPart_79 : decode cX12_takesPart 79 = .ok (.aload_n 0, 1) := by decide +kernel
theorem dX12_takesPart_80 : decode cX12_takesPart 80 = .ok (.getfield 203, 3) := by decide +kernel
theorem dX12_takesPart_83 : decode cX12_takesPart 83 = .ok (.invokevirtual 224, 3) := by decide +kernel
theorem dX12_takesPart_86 : decode cX12_takesPart 86 = .ok (.iadd, 1) := by decide +kernel
theorem dX12_takesPart_87 : decode cX12_takesPart 87 = .ok (.iastore, 1) := by decide +kernel
theorem dX12_takesPart_88 : decode cX12_takesPart 88 = .ok (.aload_n 0, 1) := by decide +kernel
theorem dX12_takesPart_89 : decode cX12_takesPart 89 = .ok (.dup, 1) := by decide +kernel
theorem dX12_takesPart_90 : decode cX12_takesPart 90 = .ok (.getfield 221, 3) := by decide +kernel
theorem dX12_takesPart_93 : decode cX12_takesPart 93 = .ok (.iconst 1, 1) := by decide +kernel
theorem dX12_takesPart_94 : decode cX12_takesPart 94 = .ok (.iadd, 1) := by decide +kernel
theorem dX12_takesPart_95 : decode cX12_takesPart 95 = .ok (.putfield 221, 3) := by decide +kernel
theorem dX12_takesPart_98 : decode cX12_takesPart 98 = .ok (.aload_n 0, 1) := by decide +kernel
theorem dX12_takesPart_99 : decode cX12_takesPart 99 = .ok (.dup, 1) := by decide +kernel
theorem dX12_takesPart_100 : decode cX12_takesPart 100 = .ok (.getfield 227, 3) := by decide +kernel
theorem dX12_takesPart_103 : decode cX12_takesPart 103 = .ok (.iconst 1, 1) := by decide +kernel
theorem dX12_takesPart_104 : decode cX12_takesPart 104 = .ok (.iadd, 1) := by decide +kernel
theorem dX12_takesPart_105 : decode cX12_takesPart 105 = .ok (.putfield 227, 3) := by decide +kernel
theorem dX12_takesPart_108 : decode cX12_takesPart 108 = .ok (.aload_n 0, 1) := by decide +kernel
theorem dX12_takesPart_109 : decode cX12_takesPart 109 = .ok (.bipush 6, 2) := by decide +kernel
theorem dX12_takesPart_111 : decode cX12_takesPart 111 = .ok (.invokevirtual 230, 3) := by decide +kernel
theorem dX12_takesPart_114 : decode cX12_takesPart 114 = .ok (.aload_n 0, 1) := by decide +kernel
theorem dX12_takesPart_115 : decode cX12_takesPart 115 = .ok (.invokevirtual 212, 3) := by decide +kernel
theorem dX12_takesPart_118 : decode cX12_takesPart 118 = .ok (.iconst 1, 1) := by decide +kernel
theorem dX12_takesPart_119 : decode cX12_takesPart 119 = .ok (.ireturn, 1) := by decide +kernel
