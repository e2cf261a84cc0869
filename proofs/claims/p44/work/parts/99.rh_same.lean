/-! same -/
theorem tw_1314 : Cond.static yL_same ∈ gw_tbl := gw_mem 1314 (by decide +kernel) (by decide +kernel)
set_option maxRecDepth 100000 in
theorem tw_1315 : Cond.code yL_same cL_same 14 (some .boolean) ∈ gw_tbl := gw_mem 1315 rfl (by decide +kernel)
theorem tw_1316 : Cond.methodLink RL 92 yN9_log ∈ gw_tbl := gw_mem 1316 (by decide +kernel) (by decide +kernel)
theorem tw_1328 : Cond.methodLink RL 96 yN9_done_ ∈ gw_tbl := gw_mem 1328 (by decide +kernel) (by decide +kernel)
theorem tw_1347 : Cond.methodLink RL 103 yN9_clock ∈ gw_tbl := gw_mem 1347 (by decide +kernel) (by decide +kernel)
theorem tw_1356 : Cond.methodLink RL 121 yN9_vector ∈ gw_tbl := gw_mem 1356 (by decide +kernel) (by decide +kernel)
theorem tw_1357 : Cond.methodLink RL 129 yN9_done ∈ gw_tbl := gw_mem 1357 (by decide +kernel) (by decide +kernel)
theorem tw_1358 : Cond.methodLink RL 132 Lib.Math.min.name ∈ gw_tbl := gw_mem 1358 (by decide +kernel) (by decide +kernel)
theorem tw_1360 : Cond.methodLink RL 194 yN9_sum ∈ gw_tbl := gw_mem 1360 (by decide +kernel) (by decide +kernel)
theorem tw_1364 : Cond.methodLink RL 198 yN9_same_ ∈ gw_tbl := gw_mem 1364 (by decide +kernel) (by decide +kernel)
theorem kb_17 : (Int8.ofInt (17)).toInt32 = (17 : Int32) := by decide
theorem kb_18 : (Int8.ofInt (18)).toInt32 = (18 : Int32) := by decide
theorem dL_same_0 : decode cL_same 0 = .ok (.iconst 1, 1) := by decide +kernel
theorem dL_same_1 : decode cL_same 1 = .ok (.istore_n 2, 1) := by decide +kernel
theorem dL_same_2 : decode cL_same 2 = .ok (.iconst 0, 1) := by decide +kernel
theorem dL_same_3 : decode cL_same 3 = .ok (.istore_n 3, 1) := by decide +kernel
theorem dL_same_4 : decode cL_same 4 = .ok (.bipush 60, 2) := by decide +kernel
theorem dL_same_6 : decode cL_same 6 = .ok (.istore 4, 2) := by decide +kernel
theorem dL_same_8 : decode cL_same 8 = .ok (.iconst 0, 1) := by decide +kernel
theorem dL_same_9 : decode cL_same 9 = .ok (.istore 5, 2) := by decide +kernel
theorem dL_same_11 : decode cL_same 11 = .ok (.iconst 0, 1) := by decide +kernel
theorem dL_same_12 : decode cL_same 12 = .ok (.istore 6, 2) := by decide +kernel
theorem dL_same_14 : decode cL_same 14 = .ok (.iload 6, 2) := by decide +kernel
theorem dL_same_16 : decode cL_same 16 = .ok (.aload_n 1, 1) := by decide +kernel
theorem dL_same_17 : decode cL_same 17 = .ok (.getfield 52, 3) := by decide +kernel
theorem dL_same_20 : decode cL_same 20 = .ok (.if_icmp .ge 446, 3) := by decide +kernel
theorem dL_same_23 : decode cL_same 23 = .ok (.aload_n 1, 1) := by decide +kernel
theorem dL_same_24 : decode cL_same 24 = .ok (.iload 6, 2) := by decide +kernel
theorem dL_same_26 : decode cL_same 26 = .ok (.invokevirtual 92, 3) := by decide +kernel
theorem dL_same_29 : decode cL_same 29 = .ok (.astore 7, 2) := by decide +kernel
theorem dL_same_31 : decode cL_same 31 = .ok (.aload_n 1, 1) := by decide +kernel
theorem dL_same_32 : decode cL_same 32 = .ok (.iload 6, 2) := by decide +kernel
theorem dL_same_34 : decode cL_same 34 = .ok (.invokevirtual 96, 3) := by decide +kernel
theorem dL_same_37 : decode cL_same 37 = .ok (.astore 8, 2) := by decide +kernel
theorem dL_same_39 : decode cL_same 39 = .ok (.iconst 0, 1) := by decide +kernel
theorem dL_same_40 : decode cL_same 40 = .ok (.istore 9, 2) := by decide +kernel
theorem dL_same_42 : decode cL_same 42 = .ok (.iconst 0, 1) := by decide +kernel
theorem dL_same_43 : decode cL_same 43 = .ok (.istore 10, 2) := by decide +kernel
theorem dL_same_45 : decode cL_same 45 = .ok (.iconst 0, 1) := by decide +kernel
theorem dL_same_46 : decode cL_same 46 = .ok (.istore 11, 2) := by decide +kernel
theorem dL_same_48 : decode cL_same 48 = .ok (.iload 11, 2) := by decide +kernel
theorem dL_same_50 : decode cL_same 50 = .ok (.aload 7, 2) := by decide +kernel
theorem dL_same_52 : decode cL_same 52 = .ok (.arraylength, 1) := by decide +kernel
theorem dL_same_53 : decode cL_same 53 = .ok (.if_icmp .ge 63, 3) := by decide +kernel
theorem dL_same_56 : decode cL_same 56 = .ok (.iload_n 2, 1) := by decide +kernel
theorem dL_same_57 : decode cL_same 57 = .ok (.ifCond .eq 23, 3) := by decide +kernel
theorem dL_same_60 : decode cL_same 60 = .ok (.aload_n 0, 1) := by decide +kernel
theorem dL_same_61 : decode cL_same 61 = .ok (.iload 6, 2) := by decide +kernel
theorem dL_same_63 : decode cL_same 63 = .ok (.iload 11, 2) := by decide +kernel
theorem dL_same_65 : decode cL_same 65 = .ok (.invokevirtual 100, 3) := by decide +kernel
theorem dL_same_68 : decode cL_same 68 = .ok (.aload 7, 2) := by decide +kernel
theorem dL_same_70 : decode cL_same 70 = .ok (.iload 11, 2) := by decide +kernel
theorem dL_same_72 : decode cL_same 72 = .ok (.iaload, 1) := by decide +kernel
theorem dL_same_73 : decode cL_same 73 = .ok (.if_icmp .ne 7, 3) := by decide +kernel
theorem dL_same_76 : decode cL_same 76 = .ok (.iconst 1, 1) := by decide +kernel
theorem dL_same_77 : decode cL_same 77 = .ok (.goto 4, 3) := by decide +kernel
theorem dL_same_80 : decode cL_same 80 = .ok (.iconst 0, 1) := by decide +kernel
theorem dL_same_81 : decode cL_same 81 = .ok (.istore_n 2, 1) := by decide +kernel
theorem dL_same_82 : decode cL_same 82 = .ok (.aload 8, 2) := by decide +kernel
theorem dL_same_84 : decode cL_same 84 = .ok (.iconst 0, 1) := by decide +kernel
theorem dL_same_85 : decode cL_same 85 = .ok (.aaload, 1) := by decide +kernel
theorem dL_same_86 : decode cL_same 86 = .ok (.iload 11, 2) := by decide +kernel
theorem dL_same_88 : decode cL_same 88 = .ok (.iaload, 1) := by decide +kernel
theorem dL_same_89 : decode cL_same 89 = .ok (.iconst 1, 1) := by decide +kernel
theorem dL_same_90 : decode cL_same 90 = .ok (.if_icmp .ne 6, 3) := by decide +kernel
theorem dL_same_93 : decode cL_same 93 = .ok (.iinc 9 1, 3) := by decide +kernel
theorem dL_same_96 : decode cL_same 96 = .ok (.aload 8, 2) := by decide +kernel
theorem dL_same_98 : decode cL_same 98 = .ok (.iconst 0, 1) := by decide +kernel
theorem dL_same_99 : decode cL_same 99 = .ok (.aaload, 1) := by decide +kernel
theorem dL_same_100 : decode cL_same 100 = .ok (.iload 11, 2) := by decide +kernel
theorem dL_same_102 : decode cL_same 102 = .ok (.iaload, 1) := by decide +kernel
theorem dL_same_103 : decode cL_same 103 = .ok (.iconst 1, 1) := by decide +kernel
theorem dL_same_104 : decode cL_same 104 = .ok (.if_icmp .le 6, 3) := by decide +kernel
theorem dL_same_107 : decode cL_same 107 = .ok (.iinc 10 1, 3) := by decide +kernel
theorem dL_same_110 : decode cL_same 110 = .ok (.iinc 11 1, 3) := by decide +kernel
theorem dL_same_113 : decode cL_same 113 = .ok (.goto (-65), 3) := by decide +kernel
theorem dL_same_116 : decode cL_same 116 = .ok (.bipush 9, 2) := by decide +kernel
theorem dL_same_118 : decode cL_same 118 = .ok (.newarray .int, 2) := by decide +kernel
theorem dL_same_120 : decode cL_same 120 = .ok (.dup, 1) := by decide +kernel
theorem dL_same_121 : decode cL_same 121 = .ok (.iconst 0, 1) := by decide +kernel
theorem dL_same_122 : decode cL_same 122 = .ok (.aload_n 1, 1) := by decide +kernel
theorem dL_same_123 : decode cL_same 123 = .ok (.iload 6, 2) := by decide +kernel
theorem dL_same_125 : decode cL_same 125 = .ok (.invokevirtual 103, 3) := by decide +kernel
theorem dL_same_128 : decode cL_same 128 = .ok (.iastore, 1) := by decide +kernel
theorem dL_same_129 : decode cL_same 129 = .ok (.dup, 1) := by decide +kernel
theorem dL_same_130 : decode cL_same 130 = .ok (.iconst 1, 1) := by decide +kernel
theorem dL_same_131 : decode cL_same 131 = .ok (.aload 7, 2) := by decide +kernel
theorem dL_same_133 : decode cL_same 133 = .ok (.arraylength, 1) := by decide +kernel
theorem dL_same_134 : decode cL_same 134 = .ok (.iastore, 1) := by decide +kernel
theorem dL_same_135 : decode cL_same 135 = .ok (.dup, 1) := by decide +kernel
theorem dL_same_136 : decode cL_same 136 = .ok (.iconst 2, 1) := by decide +kernel
theorem dL_same_137 : decode cL_same 137 = .ok (.aload_n 1, 1) := by decide +kernel
theorem dL_same_138 : decode cL_same 138 = .ok (.getfield 106, 3) := by decide +kernel
theorem dL_same_141 : decode cL_same 141 = .ok (.iload 6, 2) := by decide +kernel
theorem dL_same_143 : decode cL_same 143 = .ok (.iaload, 1) := by decide +kernel
theorem dL_same_144 : decode cL_same 144 = .ok (.iastore, 1) := by decide +kernel
theorem dL_same_145 : decode cL_same 145 = .ok (.dup, 1) := by decide +kernel
theorem dL_same_146 : decode cL_same 146 = .ok (.iconst 3, 1) := by decide +kernel
theorem dL_same_147 : decode cL_same 147 = .ok (.aload_n 1, 1) := by decide +kernel
theorem dL_same_148 : decode cL_same 148 = .ok (.getfield 109, 3) := by decide +kernel
theorem dL_same_151 : decode cL_same 151 = .ok (.iload 6, 2) := by decide +kernel
theorem dL_same_153 : decode cL_same 153 = .ok (.iaload, 1) := by decide +kernel
theorem dL_same_154 : decode cL_same 154 = .ok (.iastore, 1) := by decide +kernel
theorem dL_same_155 : decode cL_same 155 = .ok (.dup, 1) := by decide +kernel
theorem dL_same_156 : decode cL_same 156 = .ok (.iconst 4, 1) := by decide +kernel
theorem dL_same_157 : decode cL_same 157 = .ok (.aload_n 1, 1) := by decide +kernel
theorem dL_same_158 : decode cL_same 158 = .ok (.getfield 112, 3) := by decide +kernel
theorem dL_same_161 : decode cL_same 161 = .ok (.iload 6, 2) := by decide +kernel
theorem dL_same_163 : decode cL_same 163 = .ok (.iaload, 1) := by decide +kernel
theorem dL_same_164 : decode cL_same 164 = .ok (.iastore, 1) := by decide +kernel
theorem dL_same_165 : decode cL_same 165 = .ok (.dup, 1) := by decide +kernel
theorem dL_same_166 : decode cL_same 166 = .ok (.iconst 5, 1) := by decide +kernel
theorem dL_same_167 : decode cL_same 167 = .ok (.aload_n 1, 1) := by decide +kernel
theorem dL_same_168 : decode cL_same 168 = .ok (.getfield 115, 3) := by decide +kernel
theorem dL_same_171 : decode cL_same 171 = .ok (.iload 6, 2) := by decide +kernel
theorem dL_same_173 : decode cL_same 173 = .ok (.iaload, 1) := by decide +kernel
theorem dL_same_174 : decode cL_same 174 = .ok (.iastore, 1) := by decide +kernel
theorem dL_same_175 : decode cL_same 175 = .ok (.dup, 1) := by decide +kernel
theorem dL_same_176 : decode cL_same 176 = .ok (.bipush 6, 2) := by decide +kernel
theorem dL_same_178 : decode cL_same 178 = .ok (.aload_n 1, 1) := by decide +kernel
theorem dL_same_179 : decode cL_same 179 = .ok (.getfield 115, 3) := by decide +kernel
theorem dL_same_182 : decode cL_same 182 = .ok (.iload 6, 2) := by decide +kernel
theorem dL_same_184 : decode cL_same 184 = .ok (.iaload, 1) := by decide +kernel
theorem dL_same_185 : decode cL_same 185 = .ok (.iastore, 1) := by decide +kernel
theorem dL_same_186 : decode cL_same 186 = .ok (.dup, 1) := by decide +kernel
theorem dL_same_187 : decode cL_same 187 = .ok (.bipush 7, 2) := by decide +kernel
theorem dL_same_189 : decode cL_same 189 = .ok (.iload 9, 2) := by decide +kernel
theorem dL_same_191 : decode cL_same 191 = .ok (.iastore, 1) := by decide +kernel
theorem dL_same_192 : decode cL_same 192 = .ok (.dup, 1) := by decide +kernel
theorem dL_same_193 : decode cL_same 193 = .ok (.bipush 8, 2) := by decide +kernel
theorem dL_same_195 : decode cL_same 195 = .ok (.iload 10, 2) := by decide +kernel
theorem dL_same_197 : decode cL_same 197 = .ok (.iastore, 1) := by decide +kernel
theorem dL_same_198 : decode cL_same 198 = .ok (.astore 11, 2) := by decide +kernel
theorem dL_same_200 : decode cL_same 200 = .ok (.iconst 0, 1) := by decide +kernel
theorem dL_same_201 : decode cL_same 201 = .ok (.istore 12, 2) := by decide +kernel
theorem dL_same_203 : decode cL_same 203 = .ok (.iload 12, 2) := by decide +kernel
theorem dL_same_205 : decode cL_same 205 = .ok (.bipush 9, 2) := by decide +kernel
theorem dL_same_207 : decode cL_same 207 = .ok (.if_icmp .ge 35, 3) := by decide +kernel
theorem dL_same_210 : decode cL_same 210 = .ok (.iload_n 2, 1) := by decide +kernel
theorem dL_same_211 : decode cL_same 211 = .ok (.ifCond .eq 23, 3) := by decide +kernel
theorem dL_same_214 : decode cL_same 214 = .ok (.aload_n 0, 1) := by decide +kernel
theorem dL_same_215 : decode cL_same 215 = .ok (.iload 6, 2) := by decide +kernel
theorem dL_same_217 : decode cL_same 217 = .ok (.iload 12, 2) := by decide +kernel
theorem dL_same_219 : decode cL_same 219 = .ok (.invokevirtual 118, 3) := by decide +kernel
theorem dL_same_222 : decode cL_same 222 = .ok (.aload 11, 2) := by decide +kernel
theorem dL_same_224 : decode cL_same 224 = .ok (.iload 12, 2) := by decide +kernel
theorem dL_same_226 : decode cL_same 226 = .ok (.iaload, 1) := by decide +kernel
theorem dL_same_227 : decode cL_same 227 = .ok (.if_icmp .ne 7, 3) := by decide +kernel
theorem dL_same_230 : decode cL_same 230 = .ok (.iconst 1, 1) := by decide +kernel
theorem dL_same_231 : decode cL_same 231 = .ok (.goto 4, 3) := by decide +kernel
theorem dL_same_234 : decode cL_same 234 = .ok (.iconst 0, 1) := by decide +kernel
theorem dL_same_235 : decode cL_same 235 = .ok (.istore_n 2, 1) := by decide +kernel
theorem dL_same_236 : decode cL_same 236 = .ok (.iinc 12 1, 3) := by decide +kernel
theorem dL_same_239 : decode cL_same 239 = .ok (.goto (-36), 3) := by decide +kernel
theorem dL_same_242 : decode cL_same 242 = .ok (.aload_n 1, 1) := by decide +kernel
theorem dL_same_243 : decode cL_same 243 = .ok (.iload 6, 2) := by decide +kernel
theorem dL_same_245 : decode cL_same 245 = .ok (.invokevirtual 121, 3) := by decide +kernel
theorem dL_same_248 : decode cL_same 248 = .ok (.astore 12, 2) := by decide +kernel
theorem dL_same_250 : decode cL_same 250 = .ok (.iconst 0, 1) := by decide +kernel
theorem dL_same_251 : decode cL_same 251 = .ok (.istore 13, 2) := by decide +kernel
theorem dL_same_253 : decode cL_same 253 = .ok (.iload 13, 2) := by decide +kernel
theorem dL_same_255 : decode cL_same 255 = .ok (.aload_n 1, 1) := by decide +kernel
theorem dL_same_256 : decode cL_same 256 = .ok (.getfield 52, 3) := by decide +kernel
theorem dL_same_259 : decode cL_same 259 = .ok (.if_icmp .ge 35, 3) := by decide +kernel
theorem dL_same_262 : decode cL_same 262 = .ok (.iload_n 2, 1) := by decide +kernel
theorem dL_same_263 : decode cL_same 263 = .ok (.ifCond .eq 23, 3) := by decide +kernel
theorem dL_same_266 : decode cL_same 266 = .ok (.aload_n 0, 1) := by decide +kernel
theorem dL_same_267 : decode cL_same 267 = .ok (.iload 6, 2) := by decide +kernel
theorem dL_same_269 : decode cL_same 269 = .ok (.iload 13, 2) := by decide +kernel
theorem dL_same_271 : decode cL_same 271 = .ok (.invokevirtual 124, 3) := by decide +kernel
theorem dL_same_274 : decode cL_same 274 = .ok (.aload 12, 2) := by decide +kernel
theorem dL_same_276 : decode cL_same 276 = .ok (.iload 13, 2) := by decide +kernel
theorem dL_same_278 : decode cL_same 278 = .ok (.iaload, 1) := by decide +kernel
theorem dL_same_279 : decode cL_same 279 = .ok (.if_icmp .ne 7, 3) := by decide +kernel
theorem dL_same_282 : decode cL_same 282 = .ok (.iconst 1, 1) := by decide +kernel
theorem dL_same_283 : decode cL_same 283 = .ok (.goto 4, 3) := by decide +kernel
theorem dL_same_286 : decode cL_same 286 = .ok (.iconst 0, 1) := by decide +kernel
theorem dL_same_287 : decode cL_same 287 = .ok (.istore_n 2, 1) := by decide +kernel
theorem dL_same_288 : decode cL_same 288 = .ok (.iinc 13 1, 3) := by decide +kernel
theorem dL_same_291 : decode cL_same 291 = .ok (.goto (-38), 3) := by decide +kernel
theorem dL_same_294 : decode cL_same 294 = .ok (.iconst 0, 1) := by decide +kernel
theorem dL_same_295 : decode cL_same 295 = .ok (.istore 13, 2) := by decide +kernel
theorem dL_same_297 : decode cL_same 297 = .ok (.iload 13, 2) := by decide +kernel
theorem dL_same_299 : decode cL_same 299 = .ok (.aload_n 1, 1) := by decide +kernel
theorem dL_same_300 : decode cL_same 300 = .ok (.getfield 58, 3) := by decide +kernel
theorem dL_same_303 : decode cL_same 303 = .ok (.if_icmp .ge 69, 3) := by decide +kernel
theorem dL_same_306 : decode cL_same 306 = .ok (.iload_n 2, 1) := by decide +kernel
theorem dL_same_307 : decode cL_same 307 = .ok (.ifCond .eq 57, 3) := by decide +kernel
theorem dL_same_310 : decode cL_same 310 = .ok (.aload_n 0, 1) := by decide +kernel
theorem dL_same_311 : decode cL_same 311 = .ok (.iload 6, 2) := by decide +kernel
theorem dL_same_313 : decode cL_same 313 = .ok (.iload 13, 2) := by decide +kernel
theorem dL_same_315 : decode cL_same 315 = .ok (.iconst 0, 1) := by decide +kernel
theorem dL_same_316 : decode cL_same 316 = .ok (.invokevirtual 126, 3) := by decide +kernel
theorem dL_same_319 : decode cL_same 319 = .ok (.aload 8, 2) := by decide +kernel
theorem dL_same_321 : decode cL_same 321 = .ok (.iconst 2, 1) := by decide +kernel
theorem dL_same_322 : decode cL_same 322 = .ok (.aaload, 1) := by decide +kernel
theorem dL_same_323 : decode cL_same 323 = .ok (.iload 13, 2) := by decide +kernel
theorem dL_same_325 : decode cL_same 325 = .ok (.iaload, 1) := by decide +kernel
theorem dL_same_326 : decode cL_same 326 = .ok (.if_icmp .ne 38, 3) := by decide +kernel
theorem dL_same_329 : decode cL_same 329 = .ok (.aload_n 0, 1) := by decide +kernel
theorem dL_same_330 : decode cL_same 330 = .ok (.iload 6, 2) := by decide +kernel
theorem dL_same_332 : decode cL_same 332 = .ok (.iload 13, 2) := by decide +kernel
theorem dL_same_334 : decode cL_same 334 = .ok (.iconst 1, 1) := by decide +kernel
theorem dL_same_335 : decode cL_same 335 = .ok (.invokevirtual 126, 3) := by decide +kernel
theorem dL_same_338 : decode cL_same 338 = .ok (.aload_n 1, 1) := by decide +kernel
theorem dL_same_339 : decode cL_same 339 = .ok (.aload 7, 2) := by decide +kernel
theorem dL_same_341 : decode cL_same 341 = .ok (.aload_n 1, 1) := by decide +kernel
theorem dL_same_342 : decode cL_same 342 = .ok (.getfield 106, 3) := by decide +kernel
theorem dL_same_345 : decode cL_same 345 = .ok (.iload 6, 2) := by decide +kernel
theorem dL_same_347 : decode cL_same 347 = .ok (.iaload, 1) := by decide +kernel
theorem dL_same_348 : decode cL_same 348 = .ok (.iconst (-1), 1) := by decide +kernel
theorem dL_same_349 : decode cL_same 349 = .ok (.invokevirtual 129, 3) := by decide +kernel
theorem dL_same_352 : decode cL_same 352 = .ok (.iconst 2, 1) := by decide +kernel
theorem dL_same_353 : decode cL_same 353 = .ok (.aaload, 1) := by decide +kernel
theorem dL_same_354 : decode cL_same 354 = .ok (.iload 13, 2) := by decide +kernel
theorem dL_same_356 : decode cL_same 356 = .ok (.iaload, 1) := by decide +kernel
theorem dL_same_357 : decode cL_same 357 = .ok (.if_icmp .ne 7, 3) := by decide +kernel
theorem dL_same_360 : decode cL_same 360 = .ok (.iconst 1, 1) := by decide +kernel
theorem dL_same_361 : decode cL_same 361 = .ok (.goto 4, 3) := by decide +kernel
theorem dL_same_364 : decode cL_same 364 = .ok (.iconst 0, 1) := by decide +kernel
theorem dL_same_365 : decode cL_same 365 = .ok (.istore_n 2, 1) := by decide +kernel
theorem dL_same_366 : decode cL_same 366 = .ok (.iinc 13 1, 3) := by decide +kernel
theorem dL_same_369 : decode cL_same 369 = .ok (.goto (-72), 3) := by decide +kernel
theorem dL_same_372 : decode cL_same 372 = .ok (.iload_n 3, 1) := by decide +kernel
theorem dL_same_373 : decode cL_same 373 = .ok (.aload_n 1, 1) := by decide +kernel
theorem dL_same_374 : decode cL_same 374 = .ok (.getfield 115, 3) := by decide +kernel
theorem dL_same_377 : decode cL_same 377 = .ok (.iload 6, 2) := by decide +kernel
theorem dL_same_379 : decode cL_same 379 = .ok (.iaload, 1) := by decide +kernel
theorem dL_same_380 : decode cL_same 380 = .ok (.iadd, 1) := by decide +kernel
theorem dL_same_381 : decode cL_same 381 = .ok (.istore_n 3, 1) := by decide +kernel
theorem dL_same_382 : decode cL_same 382 = .ok (.iload 4, 2) := by decide +kernel
theorem dL_same_384 : decode cL_same 384 = .ok (.aload_n 1, 1) := by decide +kernel
theorem dL_same_385 : decode cL_same 385 = .ok (.getfield 106, 3) := by decide +kernel
theorem dL_same_388 : decode cL_same 388 = .ok (.iload 6, 2) := by decide +kernel
theorem dL_same_390 : decode cL_same 390 = .ok (.iaload, 1) := by decide +kernel
theorem dL_same_391 : decode cL_same 391 = .ok (.invokestatic 132, 3) := by decide +kernel
theorem dL_same_394 : decode cL_same 394 = .ok (.istore 4, 2) := by decide +kernel
theorem dL_same_396 : decode cL_same 396 = .ok (.iload_n 2, 1) := by decide +kernel
theorem dL_same_397 : decode cL_same 397 = .ok (.ifCond .eq 20, 3) := by decide +kernel
theorem dL_same_400 : decode cL_same 400 = .ok (.aload_n 0, 1) := by decide +kernel
theorem dL_same_401 : decode cL_same 401 = .ok (.iload 6, 2) := by decide +kernel
theorem dL_same_403 : decode cL_same 403 = .ok (.aload 7, 2) := by decide +kernel
theorem dL_same_405 : decode cL_same 405 = .ok (.arraylength, 1) := by decide +kernel
theorem dL_same_406 : decode cL_same 406 = .ok (.invokevirtual 100, 3) := by decide +kernel
theorem dL_same_409 : decode cL_same 409 = .ok (.iconst (-1), 1) := by decide +kernel
theorem dL_same_410 : decode cL_same 410 = .ok (.if_icmp .ne 7, 3) := by decide +kernel
theorem dL_same_413 : decode cL_same 413 = .ok (.iconst 1, 1) := by decide +kernel
theorem dL_same_414 : decode cL_same 414 = .ok (.goto 4, 3) := by decide +kernel
theorem dL_same_417 : decode cL_same 417 = .ok (.iconst 0, 1) := by decide +kernel
theorem dL_same_418 : decode cL_same 418 = .ok (.istore_n 2, 1) := by decide +kernel
theorem dL_same_419 : decode cL_same 419 = .ok (.iload 6, 2) := by decide +kernel
theorem dL_same_421 : decode cL_same 421 = .ok (.aload_n 1, 1) := by decide +kernel
theorem dL_same_422 : decode cL_same 422 = .ok (.getfield 55, 3) := by decide +kernel
theorem dL_same_425 : decode cL_same 425 = .ok (.if_icmp .ne 35, 3) := by decide +kernel
theorem dL_same_428 : decode cL_same 428 = .ok (.iload_n 2, 1) := by decide +kernel
theorem dL_same_429 : decode cL_same 429 = .ok (.ifCond .eq 29, 3) := by decide +kernel
theorem dL_same_432 : decode cL_same 432 = .ok (.aload_n 0, 1) := by decide +kernel
theorem dL_same_433 : decode cL_same 433 = .ok (.bipush 17, 2) := by decide +kernel
theorem dL_same_435 : decode cL_same 435 = .ok (.invokevirtual 137, 3) := by decide +kernel
theorem dL_same_438 : decode cL_same 438 = .ok (.iload 9, 2) := by decide +kernel
theorem dL_same_440 : decode cL_same 440 = .ok (.if_icmp .ne 18, 3) := by decide +kernel
theorem dL_same_443 : decode cL_same 443 = .ok (.aload_n 0, 1) := by decide +kernel
theorem dL_same_444 : decode cL_same 444 = .ok (.bipush 18, 2) := by decide +kernel
theorem dL_same_446 : decode cL_same 446 = .ok (.invokevirtual 137, 3) := by decide +kernel
theorem dL_same_449 : decode cL_same 449 = .ok (.iload 10, 2) := by decide +kernel
theorem dL_same_451 : decode cL_same 451 = .ok (.if_icmp .ne 7, 3) := by decide +kernel
theorem dL_same_454 : decode cL_same 454 = .ok (.iconst 1, 1) := by decide +kernel
theorem dL_same_455 : decode cL_same 455 = .ok (.goto 4, 3) := by decide +kernel
theorem dL_same_458 : decode cL_same 458 = .ok (.iconst 0, 1) := by decide +kernel
theorem dL_same_459 : decode cL_same 459 = .ok (.istore_n 2, 1) := by decide +kernel
theorem dL_same_460 : decode cL_same 460 = .ok (.iinc 6 1, 3) := by decide +kernel
theorem dL_same_463 : decode cL_same 463 = .ok (.goto (-449), 3) := by decide +kernel
theorem dL_same_466 : decode cL_same 466 = .ok (.iconst 0, 1) := by decide +kernel
theorem dL_same_467 : decode cL_same 467 = .ok (.istore 6, 2) := by decide +kernel
theorem dL_same_469 : decode cL_same 469 = .ok (.iload 6, 2) := by decide +kernel
theorem dL_same_471 : decode cL_same 471 = .ok (.aload_n 1, 1) := by decide +kernel
theorem dL_same_472 : decode cL_same 472 = .ok (.getfield 140, 3) := by decide +kernel
theorem dL_same_475 : decode cL_same 475 = .ok (.if_icmp .ge 225, 3) := by decide +kernel
theorem dL_same_478 : decode cL_same 478 = .ok (.iconst 0, 1) := by decide +kernel
theorem dL_same_479 : decode cL_same 479 = .ok (.istore 7, 2) := by decide +kernel
theorem dL_same_481 : decode cL_same 481 = .ok (.iconst 0, 1) := by decide +kernel
theorem dL_same_482 : decode cL_same 482 = .ok (.istore 8, 2) := by decide +kernel
theorem dL_same_484 : decode cL_same 484 = .ok (.iconst 0, 1) := by decide +kernel
theorem dL_same_485 : decode cL_same 485 = .ok (.istore 9, 2) := by decide +kernel
theorem dL_same_487 : decode cL_same 487 = .ok (.iload 9, 2) := by decide +kernel
theorem dL_same_489 : decode cL_same 489 = .ok (.aload_n 1, 1) := by decide +kernel
theorem dL_same_490 : decode cL_same 490 = .ok (.getfield 52, 3) := by decide +kernel
theorem dL_same_493 : decode cL_same 493 = .ok (.if_icmp .ge 51, 3) := by decide +kernel
theorem dL_same_496 : decode cL_same 496 = .ok (.aload_n 1, 1) := by decide +kernel
theorem dL_same_497 : decode cL_same 497 = .ok (.getfield 143, 3) := by decide +kernel
theorem dL_same_500 : decode cL_same 500 = .ok (.iload 9, 2) := by decide +kernel
theorem dL_same_502 : decode cL_same 502 = .ok (.aaload, 1) := by decide +kernel
theorem dL_same_503 : decode cL_same 503 = .ok (.iload 6, 2) := by decide +kernel
theorem dL_same_505 : decode cL_same 505 = .ok (.baload, 1) := by decide +kernel
theorem dL_same_506 : decode cL_same 506 = .ok (.ifCond .eq 12, 3) := by decide +kernel
theorem dL_same_509 : decode cL_same 509 = .ok (.iload 7, 2) := by decide +kernel
theorem dL_same_511 : decode cL_same 511 = .ok (.iconst 1, 1) := by decide +kernel
theorem dL_same_512 : decode cL_same 512 = .ok (.iload 9, 2) := by decide +kernel
theorem dL_same_514 : decode cL_same 514 = .ok (.ishl, 1) := by decide +kernel
theorem dL_same_515 : decode cL_same 515 = .ok (.ior, 1) := by decide +kernel
theorem dL_same_516 : decode cL_same 516 = .ok (.istore 7, 2) := by decide +kernel
theorem dL_same_518 : decode cL_same 518 = .ok (.aload_n 1, 1) := by decide +kernel
theorem dL_same_519 : decode cL_same 519 = .ok (.iload 9, 2) := by decide +kernel
theorem dL_same_521 : decode cL_same 521 = .ok (.iload 6, 2) := by decide +kernel
theorem dL_same_523 : decode cL_same 523 = .ok (.invokevirtual 147, 3) := by decide +kernel
theorem dL_same_526 : decode cL_same 526 = .ok (.ifCond .eq 12, 3) := by decide +kernel
theorem dL_same_529 : decode cL_same 529 = .ok (.iload 8, 2) := by decide +kernel
theorem dL_same_531 : decode cL_same 531 = .ok (.iconst 1, 1) := by decide +kernel
theorem dL_same_532 : decode cL_same 532 = .ok (.iload 9, 2) := by decide +kernel
theorem dL_same_534 : decode cL_same 534 = .ok (.ishl, 1) := by decide +kernel
theorem dL_same_535 : decode cL_same 535 = .ok (.ior, 1) := by decide +kernel
theorem dL_same_536 : decode cL_same 536 = .ok (.istore 8, 2) := by decide +kernel
theorem dL_same_538 : decode cL_same 538 = .ok (.iinc 9 1, 3) := by decide +kernel
theorem dL_same_541 : decode cL_same 541 = .ok (.goto (-54), 3) := by decide +kernel
theorem dL_same_544 : decode cL_same 544 = .ok (.iload 7, 2) := by decide +kernel
theorem dL_same_546 : decode cL_same 546 = .ok (.iconst 1, 1) := by decide +kernel
theorem dL_same_547 : decode cL_same 547 = .ok (.aload_n 1, 1) := by decide +kernel
theorem dL_same_548 : decode cL_same 548 = .ok (.getfield 52, 3) := by decide +kernel
theorem dL_same_551 : decode cL_same 551 = .ok (.ishl, 1) := by decide +kernel
theorem dL_same_552 : decode cL_same 552 = .ok (.iconst 1, 1) := by decide +kernel
theorem dL_same_553 : decode cL_same 553 = .ok (.isub, 1) := by decide +kernel
theorem dL_same_554 : decode cL_same 554 = .ok (.if_icmp .ne 6, 3) := by decide +kernel
theorem dL_same_557 : decode cL_same 557 = .ok (.iinc 5 1, 3) := by decide +kernel
theorem dL_same_560 : decode cL_same 560 = .ok (.bipush 6, 2) := by decide +kernel
theorem dL_same_562 : decode cL_same 562 = .ok (.newarray .int, 2) := by decide +kernel
theorem dL_same_564 : decode cL_same 564 = .ok (.dup, 1) := by decide +kernel
theorem dL_same_565 : decode cL_same 565 = .ok (.iconst 0, 1) := by decide +kernel
theorem dL_same_566 : decode cL_same 566 = .ok (.aload_n 1, 1) := by decide +kernel
theorem dL_same_567 : decode cL_same 567 = .ok (.getfield 151, 3) := by decide +kernel
theorem dL_same_570 : decode cL_same 570 = .ok (.iload 6, 2) := by decide +kernel
theorem dL_same_572 : decode cL_same 572 = .ok (.aaload, 1) := by decide +kernel
theorem dL_same_573 : decode cL_same 573 = .ok (.iconst 0, 1) := by decide +kernel
theorem dL_same_574 : decode cL_same 574 = .ok (.iaload, 1) := by decide +kernel
theorem dL_same_575 : decode cL_same 575 = .ok (.iastore, 1) := by decide +kernel
theorem dL_same_576 : decode cL_same 576 = .ok (.dup, 1) := by decide +kernel
theorem dL_same_577 : decode cL_same 577 = .ok (.iconst 1, 1) := by decide +kernel
theorem dL_same_578 : decode cL_same 578 = .ok (.aload_n 1, 1) := by decide +kernel
theorem dL_same_579 : decode cL_same 579 = .ok (.getfield 151, 3) := by decide +kernel
theorem dL_same_582 : decode cL_same 582 = .ok (.iload 6, 2) := by decide +kernel
theorem dL_same_584 : decode cL_same 584 = .ok (.aaload, 1) := by decide +kernel
theorem dL_same_585 : decode cL_same 585 = .ok (.iconst 2, 1) := by decide +kernel
theorem dL_same_586 : decode cL_same 586 = .ok (.iaload, 1) := by decide +kernel
theorem dL_same_587 : decode cL_same 587 = .ok (.iastore, 1) := by decide +kernel
theorem dL_same_588 : decode cL_same 588 = .ok (.dup, 1) := by decide +kernel
theorem dL_same_589 : decode cL_same 589 = .ok (.iconst 2, 1) := by decide +kernel
theorem dL_same_590 : decode cL_same 590 = .ok (.aload_n 1, 1) := by decide +kernel
theorem dL_same_591 : decode cL_same 591 = .ok (.getfield 151, 3) := by decide +kernel
theorem dL_same_594 : decode cL_same 594 = .ok (.iload 6, 2) := by decide +kernel
theorem dL_same_596 : decode cL_same 596 = .ok (.aaload, 1) := by decide +kernel
theorem dL_same_597 : decode cL_same 597 = .ok (.iconst 3, 1) := by decide +kernel
theorem dL_same_598 : decode cL_same 598 = .ok (.iaload, 1) := by decide +kernel
theorem dL_same_599 : decode cL_same 599 = .ok (.iastore, 1) := by decide +kernel
theorem dL_same_600 : decode cL_same 600 = .ok (.dup, 1) := by decide +kernel
theorem dL_same_601 : decode cL_same 601 = .ok (.iconst 3, 1) := by decide +kernel
theorem dL_same_602 : decode cL_same 602 = .ok (.aload_n 1, 1) := by decide +kernel
theorem dL_same_603 : decode cL_same 603 = .ok (.getfield 151, 3) := by decide +kernel
theorem dL_same_606 : decode cL_same 606 = .ok (.iload 6, 2) := by decide +kernel
theorem dL_same_608 : decode cL_same 608 = .ok (.aaload, 1) := by decide +kernel
theorem dL_same_609 : decode cL_same 609 = .ok (.iconst 4, 1) := by decide +kernel
theorem dL_same_610 : decode cL_same 610 = .ok (.iaload, 1) := by decide +kernel
theorem dL_same_611 : decode cL_same 611 = .ok (.iastore, 1) := by decide +kernel
theorem dL_same_612 : decode cL_same 612 = .ok (.dup, 1) := by decide +kernel
theorem dL_same_613 : decode cL_same 613 = .ok (.iconst 4, 1) := by decide +kernel
theorem dL_same_614 : decode cL_same 614 = .ok (.iload 7, 2) := by decide +kernel
theorem dL_same_616 : decode cL_same 616 = .ok (.iastore, 1) := by decide +kernel
theorem dL_same_617 : decode cL_same 617 = .ok (.dup, 1) := by decide +kernel
theorem dL_same_618 : decode cL_same 618 = .ok (.iconst 5, 1) := by decide +kernel
theorem dL_same_619 : decode cL_same 619 = .ok (.iload 8, 2) := by decide +kernel
theorem dL_same_621 : decode cL_same 621 = .ok (.iastore, 1) := by decide +kernel
theorem dL_same_622 : decode cL_same 622 = .ok (.astore 9, 2) := by decide +kernel
theorem dL_same_624 : decode cL_same 624 = .ok (.iconst 0, 1) := by decide +kernel
theorem dL_same_625 : decode cL_same 625 = .ok (.istore 10, 2) := by decide +kernel
theorem dL_same_627 : decode cL_same 627 = .ok (.iload 10, 2) := by decide +kernel
theorem dL_same_629 : decode cL_same 629 = .ok (.bipush 6, 2) := by decide +kernel
theorem dL_same_631 : decode cL_same 631 = .ok (.if_icmp .ge 35, 3) := by decide +kernel
theorem dL_same_634 : decode cL_same 634 = .ok (.iload_n 2, 1) := by decide +kernel
theorem dL_same_635 : decode cL_same 635 = .ok (.ifCond .eq 23, 3) := by decide +kernel
theorem dL_same_638 : decode cL_same 638 = .ok (.aload_n 0, 1) := by decide +kernel
theorem dL_same_639 : decode cL_same 639 = .ok (.iload 6, 2) := by decide +kernel
theorem dL_same_641 : decode cL_same 641 = .ok (.iload 10, 2) := by decide +kernel
theorem dL_same_643 : decode cL_same 643 = .ok (.invokevirtual 155, 3) := by decide +kernel
theorem dL_same_646 : decode cL_same 646 = .ok (.aload 9, 2) := by decide +kernel
theorem dL_same_648 : decode cL_same 648 = .ok (.iload 10, 2) := by decide +kernel
theorem dL_same_650 : decode cL_same 650 = .ok (.iaload, 1) := by decide +kernel
theorem dL_same_651 : decode cL_same 651 = .ok (.if_icmp .ne 7, 3) := by decide +kernel
theorem dL_same_654 : decode cL_same 654 = .ok (.iconst 1, 1) := by decide +kernel
theorem dL_same_655 : decode cL_same 655 = .ok (.goto 4, 3) := by decide +kernel
theorem dL_same_658 : decode cL_same 658 = .ok (.iconst 0, 1) := by decide +kernel
theorem dL_same_659 : decode cL_same 659 = .ok (.istore_n 2, 1) := by decide +kernel
theorem dL_same_660 : decode cL_same 660 = .ok (.iinc 10 1, 3) := by decide +kernel
theorem dL_same_663 : decode cL_same 663 = .ok (.goto (-36), 3) := by decide +kernel
theorem dL_same_666 : decode cL_same 666 = .ok (.iload_n 2, 1) := by decide +kernel
theorem dL_same_667 : decode cL_same 667 = .ok (.ifCond .eq 25, 3) := by decide +kernel
theorem dL_same_670 : decode cL_same 670 = .ok (.aload_n 0, 1) := by decide +kernel
theorem dL_same_671 : decode cL_same 671 = .ok (.iload 6, 2) := by decide +kernel
theorem dL_same_673 : decode cL_same 673 = .ok (.invokevirtual 157, 3) := by decide +kernel
theorem dL_same_676 : decode cL_same 676 = .ok (.aload_n 1, 1) := by decide +kernel
theorem dL_same_677 : decode cL_same 677 = .ok (.getfield 151, 3) := by decide +kernel
theorem dL_same_680 : decode cL_same 680 = .ok (.iload 6, 2) := by decide +kernel
theorem dL_same_682 : decode cL_same 682 = .ok (.aaload, 1) := by decide +kernel
theorem dL_same_683 : decode cL_same 683 = .ok (.iconst 1, 1) := by decide +kernel
theorem dL_same_684 : decode cL_same 684 = .ok (.iaload, 1) := by decide +kernel
theorem dL_same_685 : decode cL_same 685 = .ok (.if_icmp .ne 7, 3) := by decide +kernel
theorem dL_same_688 : decode cL_same 688 = .ok (.iconst 1, 1) := by decide +kernel
theorem dL_same_689 : decode cL_same 689 = .ok (.goto 4, 3) := by decide +kernel
theorem dL_same_692 : decode cL_same 692 = .ok (.iconst 0, 1) := by decide +kernel
theorem dL_same_693 : decode cL_same 693 = .ok (.istore_n 2, 1) := by decide +kernel
theorem dL_same_694 : decode cL_same 694 = .ok (.iinc 6 1, 3) := by decide +kernel
theorem dL_same_697 : decode cL_same 697 = .ok (.goto (-228), 3) := by decide +kernel
theorem dL_same_700 : decode cL_same 700 = .ok (.iconst 0, 1) := by decide +kernel
theorem dL_same_701 : decode cL_same 701 = .ok (.istore 6, 2) := by decide +kernel
theorem dL_same_703 : decode cL_same 703 = .ok (.iload 6, 2) := by decide +kernel
theorem dL_same_705 : decode cL_same 705 = .ok (.iconst 4, 1) := by decide +kernel
theorem dL_same_706 : decode cL_same 706 = .ok (.if_icmp .ge 141, 3) := by decide +kernel
theorem dL_same_709 : decode cL_same 709 = .ok (.iload_n 2, 1) := by decide +kernel
theorem dL_same_710 : decode cL_same 710 = .ok (.ifCond .eq 57, 3) := by decide +kernel
theorem dL_same_713 : decode cL_same 713 = .ok (.aload_n 0, 1) := by decide +kernel
theorem dL_same_714 : decode cL_same 714 = .ok (.iload 6, 2) := by decide +kernel
theorem dL_same_716 : decode cL_same 716 = .ok (.iconst 0, 1) := by decide +kernel
theorem dL_same_717 : decode cL_same 717 = .ok (.invokevirtual 160, 3) := by decide +kernel
theorem dL_same_720 : decode cL_same 720 = .ok (.aload_n 1, 1) := by decide +kernel
theorem dL_same_721 : decode cL_same 721 = .ok (.getfield 163, 3) := by decide +kernel
theorem dL_same_724 : decode cL_same 724 = .ok (.iload 6, 2) := by decide +kernel
theorem dL_same_726 : decode cL_same 726 = .ok (.iaload, 1) := by decide +kernel
theorem dL_same_727 : decode cL_same 727 = .ok (.if_icmp .ne 40, 3) := by decide +kernel
theorem dL_same_730 : decode cL_same 730 = .ok (.aload_n 0, 1) := by decide +kernel
theorem dL_same_731 : decode cL_same 731 = .ok (.iload 6, 2) := by decide +kernel
theorem dL_same_733 : decode cL_same 733 = .ok (.iconst 1, 1) := by decide +kernel
theorem dL_same_734 : decode cL_same 734 = .ok (.invokevirtual 160, 3) := by decide +kernel
theorem dL_same_737 : decode cL_same 737 = .ok (.aload_n 1, 1) := by decide +kernel
theorem dL_same_738 : decode cL_same 738 = .ok (.getfield 166, 3) := by decide +kernel
theorem dL_same_741 : decode cL_same 741 = .ok (.iload 6, 2) := by decide +kernel
theorem dL_same_743 : decode cL_same 743 = .ok (.iaload, 1) := by decide +kernel
theorem dL_same_744 : decode cL_same 744 = .ok (.if_icmp .ne 23, 3) := by decide +kernel
theorem dL_same_747 : decode cL_same 747 = .ok (.aload_n 0, 1) := by decide +kernel
theorem dL_same_748 : decode cL_same 748 = .ok (.iload 6, 2) := by decide +kernel
theorem dL_same_750 : decode cL_same 750 = .ok (.invokevirtual 169, 3) := by decide +kernel
theorem dL_same_753 : decode cL_same 753 = .ok (.aload_n 1, 1) := by decide +kernel
theorem dL_same_754 : decode cL_same 754 = .ok (.getfield 172, 3) := by decide +kernel
theorem dL_same_757 : decode cL_same 757 = .ok (.iload 6, 2) := by decide +kernel
theorem dL_same_759 : decode cL_same 759 = .ok (.iaload, 1) := by decide +kernel
theorem dL_same_760 : decode cL_same 760 = .ok (.if_icmp .ne 7, 3) := by decide +kernel
theorem dL_same_763 : decode cL_same 763 = .ok (.iconst 1, 1) := by decide +kernel
theorem dL_same_764 : decode cL_same 764 = .ok (.goto 4, 3) := by decide +kernel
theorem dL_same_767 : decode cL_same 767 = .ok (.iconst 0, 1) := by decide +kernel
theorem dL_same_768 : decode cL_same 768 = .ok (.istore_n 2, 1) := by decide +kernel
theorem dL_same_769 : decode cL_same 769 = .ok (.iconst 0, 1) := by decide +kernel
theorem dL_same_770 : decode cL_same 770 = .ok (.istore 7, 2) := by decide +kernel
theorem dL_same_772 : decode cL_same 772 = .ok (.iload 7, 2) := by decide +kernel
theorem dL_same_774 : decode cL_same 774 = .ok (.aload_n 1, 1) := by decide +kernel
theorem dL_same_775 : decode cL_same 775 = .ok (.getfield 52, 3) := by decide +kernel
theorem dL_same_778 : decode cL_same 778 = .ok (.if_icmp .ge 63, 3) := by decide +kernel
theorem dL_same_781 : decode cL_same 781 = .ok (.iload_n 2, 1) := by decide +kernel
theorem dL_same_782 : decode cL_same 782 = .ok (.ifCond .eq 51, 3) := by decide +kernel
theorem dL_same_785 : decode cL_same 785 = .ok (.aload_n 0, 1) := by decide +kernel
theorem dL_same_786 : decode cL_same 786 = .ok (.iload 6, 2) := by decide +kernel
theorem dL_same_788 : decode cL_same 788 = .ok (.iload 7, 2) := by decide +kernel
theorem dL_same_790 : decode cL_same 790 = .ok (.iconst 0, 1) := by decide +kernel
theorem dL_same_791 : decode cL_same 791 = .ok (.invokevirtual 174, 3) := by decide +kernel
theorem dL_same_794 : decode cL_same 794 = .ok (.aload_n 1, 1) := by decide +kernel
theorem dL_same_795 : decode cL_same 795 = .ok (.getfield 177, 3) := by decide +kernel
theorem dL_same_798 : decode cL_same 798 = .ok (.iload 6, 2) := by decide +kernel
theorem dL_same_800 : decode cL_same 800 = .ok (.aaload, 1) := by decide +kernel
theorem dL_same_801 : decode cL_same 801 = .ok (.iload 7, 2) := by decide +kernel
theorem dL_same_803 : decode cL_same 803 = .ok (.iaload, 1) := by decide +kernel
theorem dL_same_804 : decode cL_same 804 = .ok (.if_icmp .ne 29, 3) := by decide +kernel
theorem dL_same_807 : decode cL_same 807 = .ok (.aload_n 0, 1) := by decide +kernel
theorem dL_same_808 : decode cL_same 808 = .ok (.iload 6, 2) := by decide +kernel
theorem dL_same_810 : decode cL_same 810 = .ok (.iload 7, 2) := by decide +kernel
theorem dL_same_812 : decode cL_same 812 = .ok (.iconst 1, 1) := by decide +kernel
theorem dL_same_813 : decode cL_same 813 = .ok (.invokevirtual 174, 3) := by decide +kernel
theorem dL_same_816 : decode cL_same 816 = .ok (.aload_n 1, 1) := by decide +kernel
theorem dL_same_817 : decode cL_same 817 = .ok (.getfield 180, 3) := by decide +kernel
theorem dL_same_820 : decode cL_same 820 = .ok (.iload 6, 2) := by decide +kernel
theorem dL_same_822 : decode cL_same 822 = .ok (.aaload, 1) := by decide +kernel
theorem dL_same_823 : decode cL_same 823 = .ok (.iload 7, 2) := by decide +kernel
theorem dL_same_825 : decode cL_same 825 = .ok (.iaload, 1) := by decide +kernel
theorem dL_same_826 : decode cL_same 826 = .ok (.if_icmp .ne 7, 3) := by decide +kernel
theorem dL_same_829 : decode cL_same 829 = .ok (.iconst 1, 1) := by decide +kernel
theorem dL_same_830 : decode cL_same 830 = .ok (.goto 4, 3) := by decide +kernel
theorem dL_same_833 : decode cL_same 833 = .ok (.iconst 0, 1) := by decide +kernel
theorem dL_same_834 : decode cL_same 834 = .ok (.istore_n 2, 1) := by decide +kernel
theorem dL_same_835 : decode cL_same 835 = .ok (.iinc 7 1, 3) := by decide +kernel
theorem dL_same_838 : decode cL_same 838 = .ok (.goto (-66), 3) := by decide +kernel
theorem dL_same_841 : decode cL_same 841 = .ok (.iinc 6 1, 3) := by decide +kernel
theorem dL_same_844 : decode cL_same 844 = .ok (.goto (-141), 3) := by decide +kernel
theorem dL_same_847 : decode cL_same 847 = .ok (.iconst 0, 1) := by decide +kernel
theorem dL_same_848 : decode cL_same 848 = .ok (.istore 6, 2) := by decide +kernel
theorem dL_same_850 : decode cL_same 850 = .ok (.iload 6, 2) := by decide +kernel
theorem dL_same_852 : decode cL_same 852 = .ok (.bipush 8, 2) := by decide +kernel
theorem dL_same_854 : decode cL_same 854 = .ok (.if_icmp .ge 50, 3) := by decide +kernel
theorem dL_same_857 : decode cL_same 857 = .ok (.iload_n 2, 1) := by decide +kernel
theorem dL_same_858 : decode cL_same 858 = .ok (.ifCond .eq 38, 3) := by decide +kernel
theorem dL_same_861 : decode cL_same 861 = .ok (.aload_n 0, 1) := by decide +kernel
theorem dL_same_862 : decode cL_same 862 = .ok (.iload 6, 2) := by decide +kernel
theorem dL_same_864 : decode cL_same 864 = .ok (.invokevirtual 183, 3) := by decide +kernel
theorem dL_same_867 : decode cL_same 867 = .ok (.iload 6, 2) := by decide +kernel
theorem dL_same_869 : decode cL_same 869 = .ok (.aload_n 1, 1) := by decide +kernel
theorem dL_same_870 : decode cL_same 870 = .ok (.getfield 186, 3) := by decide +kernel
theorem dL_same_873 : decode cL_same 873 = .ok (.arraylength, 1) := by decide +kernel
theorem dL_same_874 : decode cL_same 874 = .ok (.if_icmp .ge 13, 3) := by decide +kernel
theorem dL_same_877 : decode cL_same 877 = .ok (.aload_n 1, 1) := by decide +kernel
theorem dL_same_878 : decode cL_same 878 = .ok (.getfield 186, 3) := by decide +kernel
theorem dL_same_881 : decode cL_same 881 = .ok (.iload 6, 2) := by decide +kernel
theorem dL_same_883 : decode cL_same 883 = .ok (.iaload, 1) := by decide +kernel
theorem dL_same_884 : decode cL_same 884 = .ok (.goto 5, 3) := by decide +kernel
theorem dL_same_887 : decode cL_same 887 = .ok (.bipush (-2), 2) := by decide +kernel
theorem dL_same_889 : decode cL_same 889 = .ok (.if_icmp .ne 7, 3) := by decide +kernel
theorem dL_same_892 : decode cL_same 892 = .ok (.iconst 1, 1) := by decide +kernel
theorem dL_same_893 : decode cL_same 893 = .ok (.goto 4, 3) := by decide +kernel
theorem dL_same_896 : decode cL_same 896 = .ok (.iconst 0, 1) := by decide +kernel
theorem dL_same_897 : decode cL_same 897 = .ok (.istore_n 2, 1) := by decide +kernel
theorem dL_same_898 : decode cL_same 898 = .ok (.iinc 6 1, 3) := by decide +kernel
theorem dL_same_901 : decode cL_same 901 = .ok (.goto (-51), 3) := by decide +kernel
theorem dL_same_904 : decode cL_same 904 = .ok (.bipush 8, 2) := by decide +kernel
theorem dL_same_906 : decode cL_same 906 = .ok (.newarray .int, 2) := by decide +kernel
theorem dL_same_908 : decode cL_same 908 = .ok (.dup, 1) := by decide +kernel
theorem dL_same_909 : decode cL_same 909 = .ok (.iconst 0, 1) := by decide +kernel
theorem dL_same_910 : decode cL_same 910 = .ok (.aload_n 1, 1) := by decide +kernel
theorem dL_same_911 : decode cL_same 911 = .ok (.getfield 52, 3) := by decide +kernel
theorem dL_same_914 : decode cL_same 914 = .ok (.iastore, 1) := by decide +kernel
theorem dL_same_915 : decode cL_same 915 = .ok (.dup, 1) := by decide +kernel
theorem dL_same_916 : decode cL_same 916 = .ok (.iconst 1, 1) := by decide +kernel
theorem dL_same_917 : decode cL_same 917 = .ok (.aload_n 1, 1) := by decide +kernel
theorem dL_same_918 : decode cL_same 918 = .ok (.getfield 58, 3) := by decide +kernel
theorem dL_same_921 : decode cL_same 921 = .ok (.iastore, 1) := by decide +kernel
theorem dL_same_922 : decode cL_same 922 = .ok (.dup, 1) := by decide +kernel
theorem dL_same_923 : decode cL_same 923 = .ok (.iconst 2, 1) := by decide +kernel
theorem dL_same_924 : decode cL_same 924 = .ok (.aload_n 1, 1) := by decide +kernel
theorem dL_same_925 : decode cL_same 925 = .ok (.getfield 61, 3) := by decide +kernel
theorem dL_same_928 : decode cL_same 928 = .ok (.iastore, 1) := by decide +kernel
theorem dL_same_929 : decode cL_same 929 = .ok (.dup, 1) := by decide +kernel
theorem dL_same_930 : decode cL_same 930 = .ok (.iconst 3, 1) := by decide +kernel
theorem dL_same_931 : decode cL_same 931 = .ok (.aload_n 1, 1) := by decide +kernel
theorem dL_same_932 : decode cL_same 932 = .ok (.getfield 140, 3) := by decide +kernel
theorem dL_same_935 : decode cL_same 935 = .ok (.iastore, 1) := by decide +kernel
theorem dL_same_936 : decode cL_same 936 = .ok (.dup, 1) := by decide +kernel
theorem dL_same_937 : decode cL_same 937 = .ok (.iconst 4, 1) := by decide +kernel
theorem dL_same_938 : decode cL_same 938 = .ok (.aload_n 1, 1) := by decide +kernel
theorem dL_same_939 : decode cL_same 939 = .ok (.getfield 188, 3) := by decide +kernel
theorem dL_same_942 : decode cL_same 942 = .ok (.iastore, 1) := by decide +kernel
theorem dL_same_943 : decode cL_same 943 = .ok (.dup, 1) := by decide +kernel
theorem dL_same_944 : decode cL_same 944 = .ok (.iconst 5, 1) := by decide +kernel
theorem dL_same_945 : decode cL_same 945 = .ok (.aload_n 1, 1) := by decide +kernel
theorem dL_same_946 : decode cL_same 946 = .ok (.getfield 55, 3) := by decide +kernel
theorem dL_same_949 : decode cL_same 949 = .ok (.iastore, 1) := by decide +kernel
theorem dL_same_950 : decode cL_same 950 = .ok (.dup, 1) := by decide +kernel
theorem dL_same_951 : decode cL_same 951 = .ok (.bipush 6, 2) := by decide +kernel
theorem dL_same_953 : decode cL_same 953 = .ok (.aload_n 1, 1) := by decide +kernel
theorem dL_same_954 : decode cL_same 954 = .ok (.getfield 191, 3) := by decide +kernel
theorem dL_same_957 : decode cL_same 957 = .ok (.iastore, 1) := by decide +kernel
theorem dL_same_958 : decode cL_same 958 = .ok (.dup, 1) := by decide +kernel
theorem dL_same_959 : decode cL_same 959 = .ok (.bipush 7, 2) := by decide +kernel
theorem dL_same_961 : decode cL_same 961 = .ok (.aload_n 1, 1) := by decide +kernel
theorem dL_same_962 : decode cL_same 962 = .ok (.aload_n 1, 1) := by decide +kernel
theorem dL_same_963 : decode cL_same 963 = .ok (.getfield 109, 3) := by decide +kernel
theorem dL_same_966 : decode cL_same 966 = .ok (.invokevirtual 194, 3) := by decide +kernel
theorem dL_same_969 : decode cL_same 969 = .ok (.iastore, 1) := by decide +kernel
theorem dL_same_970 : decode cL_same 970 = .ok (.astore 6, 2) := by decide +kernel
theorem dL_same_972 : decode cL_same 972 = .ok (.iconst 0, 1) := by decide +kernel
theorem dL_same_973 : decode cL_same 973 = .ok (.istore 7, 2) := by decide +kernel
theorem dL_same_975 : decode cL_same 975 = .ok (.iload 7, 2) := by decide +kernel
theorem dL_same_977 : decode cL_same 977 = .ok (.bipush 8, 2) := by decide +kernel
theorem dL_same_979 : decode cL_same 979 = .ok (.if_icmp .ge 33, 3) := by decide +kernel
theorem dL_same_982 : decode cL_same 982 = .ok (.iload_n 2, 1) := by decide +kernel
theorem dL_same_983 : decode cL_same 983 = .ok (.ifCond .eq 21, 3) := by decide +kernel
theorem dL_same_986 : decode cL_same 986 = .ok (.aload_n 0, 1) := by decide +kernel
theorem dL_same_987 : decode cL_same 987 = .ok (.iload 7, 2) := by decide +kernel
theorem dL_same_989 : decode cL_same 989 = .ok (.invokevirtual 137, 3) := by decide +kernel
theorem dL_same_992 : decode cL_same 992 = .ok (.aload 6, 2) := by decide +kernel
theorem dL_same_994 : decode cL_same 994 = .ok (.iload 7, 2) := by decide +kernel
theorem dL_same_996 : decode cL_same 996 = .ok (.iaload, 1) := by decide +kernel
theorem dL_same_997 : decode cL_same 997 = .ok (.if_icmp .ne 7, 3) := by decide +kernel
theorem dL_same_1000 : decode cL_same 1000 = .ok (.iconst 1, 1) := by decide +kernel
theorem dL_same_1001 : decode cL_same 1001 = .ok (.goto 4, 3) := by decide +kernel
theorem dL_same_1004 : decode cL_same 1004 = .ok (.iconst 0, 1) := by decide +kernel
theorem dL_same_1005 : decode cL_same 1005 = .ok (.istore_n 2, 1) := by decide +kernel
theorem dL_same_1006 : decode cL_same 1006 = .ok (.iinc 7 1, 3) := by decide +kernel
theorem dL_same_1009 : decode cL_same 1009 = .ok (.goto (-34), 3) := by decide +kernel
theorem dL_same_1012 : decode cL_same 1012 = .ok (.iload_n 2, 1) := by decide +kernel
theorem dL_same_1013 : decode cL_same 1013 = .ok (.ifCond .eq 87, 3) := by decide +kernel
theorem dL_same_1016 : decode cL_same 1016 = .ok (.aload_n 0, 1) := by decide +kernel
theorem dL_same_1017 : decode cL_same 1017 = .ok (.bipush 10, 2) := by decide +kernel
theorem dL_same_1019 : decode cL_same 1019 = .ok (.invokevirtual 137, 3) := by decide +kernel
theorem dL_same_1022 : decode cL_same 1022 = .ok (.aload_n 1, 1) := by decide +kernel
theorem dL_same_1023 : decode cL_same 1023 = .ok (.invokevirtual 198, 3) := by decide +kernel
theorem dL_same_1026 : decode cL_same 1026 = .ok (.ifCond .eq 7, 3) := by decide +kernel
theorem dL_same_1029 : decode cL_same 1029 = .ok (.iconst 1, 1) := by decide +kernel
theorem dL_same_1030 : decode cL_same 1030 = .ok (.goto 4, 3) := by decide +kernel
theorem dL_same_1033 : decode cL_same 1033 = .ok (.iconst 0, 1) := by decide +kernel
theorem dL_same_1034 : decode cL_same 1034 = .ok (.if_icmp .ne 66, 3) := by decide +kernel
theorem dL_same_1037 : decode cL_same 1037 = .ok (.aload_n 0, 1) := by decide +kernel
theorem dL_same_1038 : decode cL_same 1038 = .ok (.bipush 12, 2) := by decide +kernel
theorem dL_same_1040 : decode cL_same 1040 = .ok (.invokevirtual 137, 3) := by decide +kernel
theorem dL_same_1043 : decode cL_same 1043 = .ok (.iload_n 3, 1) := by decide +kernel
theorem dL_same_1044 : decode cL_same 1044 = .ok (.if_icmp .ne 56, 3) := by decide +kernel
theorem dL_same_1047 : decode cL_same 1047 = .ok (.aload_n 0, 1) := by decide +kernel
theorem dL_same_1048 : decode cL_same 1048 = .ok (.bipush 13, 2) := by decide +kernel
theorem dL_same_1050 : decode cL_same 1050 = .ok (.invokevirtual 137, 3) := by decide +kernel
theorem dL_same_1053 : decode cL_same 1053 = .ok (.iload_n 3, 1) := by decide +kernel
theorem dL_same_1054 : decode cL_same 1054 = .ok (.if_icmp .ne 46, 3) := by decide +kernel
theorem dL_same_1057 : decode cL_same 1057 = .ok (.aload_n 0, 1) := by decide +kernel
theorem dL_same_1058 : decode cL_same 1058 = .ok (.bipush 14, 2) := by decide +kernel
theorem dL_same_1060 : decode cL_same 1060 = .ok (.invokevirtual 137, 3) := by decide +kernel
theorem dL_same_1063 : decode cL_same 1063 = .ok (.iload 4, 2) := by decide +kernel
theorem dL_same_1065 : decode cL_same 1065 = .ok (.if_icmp .ne 35, 3) := by decide +kernel
theorem dL_same_1068 : decode cL_same 1068 = .ok (.aload_n 0, 1) := by decide +kernel
theorem dL_same_1069 : decode cL_same 1069 = .ok (.bipush 15, 2) := by decide +kernel
theorem dL_same_1071 : decode cL_same 1071 = .ok (.invokevirtual 137, 3) := by decide +kernel
theorem dL_same_1074 : decode cL_same 1074 = .ok (.iload 5, 2) := by decide +kernel
theorem dL_same_1076 : decode cL_same 1076 = .ok (.if_icmp .ne 24, 3) := by decide +kernel
theorem dL_same_1079 : decode cL_same 1079 = .ok (.aload_n 0, 1) := by decide +kernel
theorem dL_same_1080 : decode cL_same 1080 = .ok (.bipush 16, 2) := by decide +kernel
theorem dL_same_1082 : decode cL_same 1082 = .ok (.invokevirtual 137, 3) := by decide +kernel
theorem dL_same_1085 : decode cL_same 1085 = .ok (.aload_n 1, 1) := by decide +kernel
theorem dL_same_1086 : decode cL_same 1086 = .ok (.aload_n 1, 1) := by decide +kernel
theorem dL_same_1087 : decode cL_same 1087 = .ok (.getfield 166, 3) := by decide +kernel
theorem dL_same_1090 : decode cL_same 1090 = .ok (.invokevirtual 194, 3) := by decide +kernel
theorem dL_same_1093 : decode cL_same 1093 = .ok (.if_icmp .ne 7, 3) := by decide +kernel
theorem dL_same_1096 : decode cL_same 1096 = .ok (.iconst 1, 1) := by decide +kernel
theorem dL_same_1097 : decode cL_same 1097 = .ok (.goto 4, 3) := by decide +kernel
theorem dL_same_1100 : decode cL_same 1100 = .ok (.iconst 0, 1) := by decide +kernel
theorem dL_same_1101 : decode cL_same 1101 = .ok (.ireturn, 1) := by decide +kernel
theorem ms_L_same : Ms yL_same cL_same 14 (some .boolean) 2 := ⟨⟨by decide +kernel, tw_1315, tw_38, by decide +kernel, by decide +kernel⟩, tw_1314⟩
theorem Wo.one {K : Kt} {D : va_G} {A : Nat → Prop} {ws : va_W} {x : Nat × va_E} (i : Nat) (h : ws[i]? = some x) : Wo K D A ws [x] := Wo.sub [i] (by simp [h])
theorem Wo.oneC {K : Kt} {D : va_G} {A : Nat → Prop} {ws wl : va_W} {x : Nat × va_E} (hw : Wo K D A ws wl) (i : Nat) (h : wl[i]? = some x) : Wo K D A ws [x] := by
  obtain ⟨p, l, e, R, s, m, args, below, meth, c, nL, Q, ce0, sl0⟩ := K
  exact fun H locs hP hS => (hw H locs hP hS).sub [i] (by simp [h])
def cntA (iv : Nat → Int32) : Nat → Int32 := fun j => if j = 0 then iv 0 else if j = 1 then iv 1 else if j = 2 then iv 2 else if j = 5 then iv 6 else 0
theorem cntA_eq {iv : Nat → Int32} : upd (upd (upd (upd (upd (upd (upd (upd (fun _ => 0) (ix (0 : Int32)) (iv 0)) (ix (1 : Int32)) (iv 1)) (ix (2 : Int32)) (iv 2)) (ix (3 : Int32)) (0 : Int32)) (ix (4 : Int32)) (0 : Int32)) (ix (5 : Int32)) (iv 6)) (ix (6 : Int32)) (0 : Int32)) (ix (7 : Int32)) (0 : Int32) = cntA iv := by
  funext j
  unfold upd cntA
  rw [show ix (0 : Int32) = 0 from rfl, show ix (1 : Int32) = 1 from rfl, show ix (2 : Int32) = 2 from rfl, show ix (3 : Int32) = 3 from rfl, show ix (4 : Int32) = 4 from rfl, show ix (5 : Int32) = 5 from rfl, show ix (6 : Int32) = 6 from rfl, show ix (7 : Int32) = 7 from rfl]
  by_cases h0 : j = 0 <;> by_cases h1 : j = 1 <;> by_cases h2 : j = 2 <;> by_cases h3 : j = 3 <;> by_cases h4 : j = 4 <;> by_cases h5 : j = 5 <;> by_cases h6 : j = 6 <;> by_cases h7 : j = 7 <;> simp_all
theorem cntA_0 {iv : Nat → Int32} : cntA iv (ix (0 : Int32)) = (iv 0) := rfl
theorem cntA_1 {iv : Nat → Int32} : cntA iv (ix (1 : Int32)) = (iv 1) := rfl
theorem cntA_2 {iv : Nat → Int32} : cntA iv (ix (2 : Int32)) = (iv 2) := rfl
theorem cntA_3 {iv : Nat → Int32} : cntA iv (ix (3 : Int32)) = (0 : Int32) := rfl
theorem cntA_4 {iv : Nat → Int32} : cntA iv (ix (4 : Int32)) = (0 : Int32) := rfl
theorem cntA_5 {iv : Nat → Int32} : cntA iv (ix (5 : Int32)) = (iv 6) := rfl
theorem cntA_6 {iv : Nat → Int32} : cntA iv (ix (6 : Int32)) = (0 : Int32) := rfl
theorem cntA_7 {iv : Nat → Int32} : cntA iv (ix (7 : Int32)) = (0 : Int32) := rfl
/-- what the class answers at first, in all worlds of R -/
def SameF (R : Wd → Prop) (n nc : Nat) (iv fs : Nat → Int32) : Prop :=
  (∀ σ, R σ → ∀ c, c < n → ∃ σ', M_X8_log σ (nI c) 0 = some (-1, σ') ∧ R σ') ∧
  (∀ σ, R σ → ∀ c, c < n → ∀ k, k < 9 → ∃ σ', M_X8_copy σ (nI c) (nI k) = some (0, σ') ∧ R σ') ∧
  (∀ σ, R σ → ∀ c, c < n → ∀ o, o < n → M_X8_vector σ (nI c) (nI o) = some 0) ∧
  (∀ σ, R σ → ∀ c, c < n → ∀ k, k < nc → ∃ σ', M_X8_cell σ (nI c) (nI k) 0 = some (fs k, σ') ∧ R σ') ∧
  (∀ σ, R σ → ∀ c, c < n → ∀ k, k < nc → ∃ σ', M_X8_cell σ (nI c) (nI k) 1 = some (fs k, σ') ∧ R σ') ∧
  (∀ σ, R σ → ∃ σ', M_X8_count σ 0 = some ((iv 0), σ') ∧ R σ') ∧
  (∀ σ, R σ → ∃ σ', M_X8_count σ 1 = some ((iv 1), σ') ∧ R σ') ∧
  (∀ σ, R σ → ∃ σ', M_X8_count σ 2 = some ((iv 2), σ') ∧ R σ') ∧
  (∀ σ, R σ → ∃ σ', M_X8_count σ 3 = some (0, σ') ∧ R σ') ∧
  (∀ σ, R σ → ∃ σ', M_X8_count σ 4 = some (0, σ') ∧ R σ') ∧
  (∀ σ, R σ → ∃ σ', M_X8_count σ 5 = some ((iv 6), σ') ∧ R σ') ∧
  (∀ σ, R σ → ∃ σ', M_X8_count σ 6 = some (0, σ') ∧ R σ') ∧
  (∀ σ, R σ → ∃ σ', M_X8_count σ 7 = some (0, σ') ∧ R σ') ∧
  (∀ σ, R σ → ∃ σ', M_X8_count σ 10 = some (1, σ') ∧ R σ') ∧
  (∀ σ, R σ → ∃ σ', M_X8_count σ 12 = some (0, σ') ∧ R σ') ∧
  (∀ σ, R σ → ∃ σ', M_X8_count σ 13 = some (0, σ') ∧ R σ') ∧
  (∀ σ, R σ → ∃ σ', M_X8_count σ 14 = some (0, σ') ∧ R σ') ∧
  (∀ σ, R σ → ∃ σ', M_X8_count σ 15 = some (0, σ') ∧ R σ') ∧
  (∀ σ, R σ → ∃ σ', M_X8_count σ 16 = some (0, σ') ∧ R σ') ∧
  (∀ σ, R σ → ∃ σ', M_X8_count σ 17 = some (0, σ') ∧ R σ') ∧
  (∀ σ, R σ → ∃ σ', M_X8_count σ 18 = some (0, σ') ∧ R σ') ∧
  (∀ σ, R σ → ∀ s, s < 4 → M_X8_session σ (nI s) 0 = some 0) ∧
  (∀ σ, R σ → ∀ s, s < 4 → M_X8_session σ (nI s) 1 = some 0) ∧
  (∀ σ, R σ → ∀ s, s < 4 → M_X8_got σ (nI s) = some 0) ∧
  (∀ σ, R σ → ∀ s, s < 4 → ∀ o, o < n → M_X8_of σ (nI s) (nI o) 0 = some 0) ∧
  (∀ σ, R σ → ∀ s, s < 4 → ∀ o, o < n → M_X8_of σ (nI s) (nI o) 1 = some 0) ∧
  (∀ σ, R σ → ∀ i, i < 8 → M_X8_shut σ (nI i) = some (-2))
set_option maxRecDepth 100000 in
set_option maxHeartbeats 40000000 in
theorem t_same (l : Launch) (V : Ct_V) (σ : Wd) (z : Nat) (u : Nat → Nat) (iv fs : Nat → Int32) (R : Wd → Prop) (n nc : Nat) (hn1 : 1 ≤ n) (hn5 : n ≤ 5) (hnc : nc ≤ 4) (hiv0 : iv 0 = nI n) (hiv1 : iv 1 = nI nc) (hRs : R σ) (hF : SameF R n nc iv fs) : Cv l V yL_same cL_same 14 (some .boolean) 7 171 155 390 [.ref (zA (Zc V) 0), .ref z] (netW V.2.2.1 z u iv fs) σ (fun rv σ' nl => rv = some (.int 1) ∧ R σ' ∧ nl = []) := by
  refine Cv_intro (own := RL) (by decide +kernel) rfl (Nat.le_of_ble_eq_true rfl) [(0, .ref (zA (Zc V) 0)), (1, .ref z)] rfl (fun K hl hn C hcs hc0 hX hZ R0 => ?_)
  obtain ⟨f_log, f_copy, f_vector, f_cell0, f_cell1, f_count0, f_count1, f_count2, f_count3, f_count4, f_count5, f_count6, f_count7, f_count10, f_count12, f_count13, f_count14, f_count15, f_count16, f_count17, f_count18, f_session0, f_session1, f_got, f_of0, f_of1, f_shut⟩ := hF
  have hN := nl_of (K := K) hn
  have hW : ∀ ws : va_W, Wo K V.1 (fun q => zS (Zc V) q ∨ (Ks K).heap.size ≤ q) ws (netW V.2.2.1 z u iv fs) := fun ws => Wo.const hc0
  have hzA : ∀ q, zS (Zc V) q → (zS (Zc V) q ∨ (Ks K).heap.size ≤ q) := fun q hq => Or.inl hq
  have k847 : ∀ (σe : Wd) (ce sl : Nat), R σe → ce + 3 ≤ 155 → sl + 30 ≤ 390 → Gn K V.1 (fun q => zS (Zc V) q ∨ (Ks K).heap.size ≤ q) (zW (Zc V) σe ++ ([] : va_W)) (ce) (sl) 847 [(0, .ref (zA (Zc V) 0)), (1, .ref z), (2, .int (1 : Int32)), (3, .int (0 : Int32)), (4, .int (0 : Int32)), (5, .int (0 : Int32))] [] := by
    intro σe ce sl hRe hce hsl
    refine g_iconst C 847 dL_same_847 ki_0 ?_
    refine g_istore (L' := [(6, .int (0 : Int32)), (0, .ref (zA (Zc V) 0)), (1, .ref z), (2, .int (1 : Int32)), (3, .int (0 : Int32)), (4, .int (0 : Int32)), (5, .int (0 : Int32))]) C 848 dL_same_848 (hN _ (Nat.le_of_ble_eq_true rfl)) rfl ?_
    refine g_iload C 850 0 dL_same_850 rfl ?_
    refine g_bipush C 852 dL_same_852 kb_8 ?_
    refine g_icmp_ge C 854 904 dL_same_854 (by decide) (fun hq => absurd hq (by decide)) (fun _ => ?_)
    refine g_iload_n C 857 3 dL_same_857 rfl ?_
    refine g_if_eq C 858 896 dL_same_858 (by decide) (fun hq => absurd hq (by decide)) (fun _ => ?_)
    refine g_aload_n C 861 1 dL_same_861 rfl ?_
    refine g_iload C 862 0 dL_same_862 rfl ?_
    have h864 := f_shut _ hRe 0 (by decide)
    refine g_callX C hZ hzA hX 864 [.int (0 : Int32)] [] rfl tw_959 mv_X8_shut rfl (Nat.le_of_ble_eq_true rfl) (Nat.le_of_ble_eq_true rfl) (Nat.le_of_ble_eq_true rfl) (by omega) (by omega) dL_same_864 (c_X8_shut V _ _ _ h864) ?_
    show Gn _ _ _ _ _ _ _ _ [.int (-2 : Int32)]
    refine g_iload C 867 0 dL_same_867 rfl ?_
    refine g_aload_n C 869 2 dL_same_869 rfl ?_
    refine g_cgetN C (hW _) 870 0 rfl 19 (Nat.le_of_ble_eq_true rfl) rfl (List.mem_of_getElem? (i := 25) rfl) rfl dL_same_870 ?_
    refine g_calen (v := (0 : Int32)) C (hW _) 873 9 1 rfl rfl rfl dL_same_873 ?_
    refine g_icmp_ge C 874 887 dL_same_874 (by decide) (fun _ => ?_) (fun hq => absurd (by decide) hq)
    refine g_bipush C 887 dL_same_887 kb_m2 ?_
    refine g_icmp_ne C 889 896 dL_same_889 (by decide) (fun hq => absurd hq (fun z => z rfl)) (fun _ => ?_)
    refine g_iconst C 892 dL_same_892 ki_1 ?_
    refine g_goto C 893 897 dL_same_893 (by decide) ?_
    refine g_istore_n (L' := [(2, .int (1 : Int32)), (6, .int (0 : Int32)), (0, .ref (zA (Zc V) 0)), (1, .ref z), (3, .int (0 : Int32)), (4, .int (0 : Int32)), (5, .int (0 : Int32))]) C 897 dL_same_897 rfl (hN _ (Nat.le_of_ble_eq_true rfl)) rfl ?_
    refine g_iinc (v := (1 : Int32)) (L' := [(6, .int (1 : Int32)), (2, .int (1 : Int32)), (0, .ref (zA (Zc V) 0)), (1, .ref z), (3, .int (0 : Int32)), (4, .int (0 : Int32)), (5, .int (0 : Int32))]) C 898 1 dL_same_898 rfl (by decide) (hN _ (Nat.le_of_ble_eq_true rfl)) rfl ?_
    refine g_goto C 901 850 dL_same_901 (by decide) ?_
    refine g_iload C 850 0 dL_same_850 rfl ?_
    refine g_bipush C 852 dL_same_852 kb_8 ?_
    refine g_icmp_ge C 854 904 dL_same_854 (by decide) (fun hq => absurd hq (by decide)) (fun _ => ?_)
    refine g_iload_n C 857 1 dL_same_857 rfl ?_
    refine g_if_eq C 858 896 dL_same_858 (by decide) (fun hq => absurd hq (by decide)) (fun _ => ?_)
    refine g_aload_n C 861 2 dL_same_861 rfl ?_
    refine g_iload C 862 0 dL_same_862 rfl ?_
    have h864 := f_shut _ hRe 1 (by decide)
    refine g_callX C hZ hzA hX 864 [.int (1 : Int32)] [] rfl tw_959 mv_X8_shut rfl (Nat.le_of_ble_eq_true rfl) (Nat.le_of_ble_eq_true rfl) (Nat.le_of_ble_eq_true rfl) (by omega) (by omega) dL_same_864 (c_X8_shut V _ _ _ h864) ?_
    show Gn _ _ _ _ _ _ _ _ [.int (-2 : Int32)]
    refine g_iload C 867 0 dL_same_867 rfl ?_
    refine g_aload_n C 869 3 dL_same_869 rfl ?_
    refine g_cgetN C (hW _) 870 0 rfl 19 (Nat.le_of_ble_eq_true rfl) rfl (List.mem_of_getElem? (i := 25) rfl) rfl dL_same_870 ?_
    refine g_calen (v := (0 : Int32)) C (hW _) 873 9 1 rfl rfl rfl dL_same_873 ?_
    refine g_icmp_ge C 874 887 dL_same_874 (by decide) (fun _ => ?_) (fun hq => absurd (by decide) hq)
    refine g_bipush C 887 dL_same_887 kb_m2 ?_
    refine g_icmp_ne C 889 896 dL_same_889 (by decide) (fun hq => absurd hq (fun z => z rfl)) (fun _ => ?_)
    refine g_iconst C 892 dL_same_892 ki_1 ?_
    refine g_goto C 893 897 dL_same_893 (by decide) ?_
    refine g_istore_n (L' := [(2, .int (1 : Int32)), (6, .int (1 : Int32)), (0, .ref (zA (Zc V) 0)), (1, .ref z), (3, .int (0 : Int32)), (4, .int (0 : Int32)), (5, .int (0 : Int32))]) C 897 dL_same_897 rfl (hN _ (Nat.le_of_ble_eq_true rfl)) rfl ?_
    refine g_iinc (v := (2 : Int32)) (L' := [(6, .int (2 : Int32)), (2, .int (1 : Int32)), (0, .ref (zA (Zc V) 0)), (1, .ref z), (3, .int (0 : Int32)), (4, .int (0 : Int32)), (5, .int (0 : Int32))]) C 898 1 dL_same_898 rfl (by decide) (hN _ (Nat.le_of_ble_eq_true rfl)) rfl ?_
    refine g_goto C 901 850 dL_same_901 (by decide) ?_
    refine g_iload C 850 0 dL_same_850 rfl ?_
    refine g_bipush C 852 dL_same_852 kb_8 ?_
    refine g_icmp_ge C 854 904 dL_same_854 (by decide) (fun hq => absurd hq (by decide)) (fun _ => ?_)
    refine g_iload_n C 857 1 dL_same_857 rfl ?_
    refine g_if_eq C 858 896 dL_same_858 (by decide) (fun hq => absurd hq (by decide)) (fun _ => ?_)
    refine g_aload_n C 861 2 dL_same_861 rfl ?_
    refine g_iload C 862 0 dL_same_862 rfl ?_
    have h864 := f_shut _ hRe 2 (by decide)
    refine g_callX C hZ hzA hX 864 [.int (2 : Int32)] [] rfl tw_959 mv_X8_shut rfl (Nat.le_of_ble_eq_true rfl) (Nat.le_of_ble_eq_true rfl) (Nat.le_of_ble_eq_true rfl) (by omega) (by omega) dL_same_864 (c_X8_shut V _ _ _ h864) ?_
    show Gn _ _ _ _ _ _ _ _ [.int (-2 : Int32)]
    refine g_iload C 867 0 dL_same_867 rfl ?_
    refine g_aload_n C 869 3 dL_same_869 rfl ?_
    refine g_cgetN C (hW _) 870 0 rfl 19 (Nat.le_of_ble_eq_true rfl) rfl (List.mem_of_getElem? (i := 25) rfl) rfl dL_same_870 ?_
    refine g_calen (v := (0 : Int32)) C (hW _) 873 9 1 rfl rfl rfl dL_same_873 ?_
    refine g_icmp_ge C 874 887 dL_same_874 (by decide) (fun _ => ?_) (fun hq => absurd (by decide) hq)
    refine g_bipush C 887 dL_same_887 kb_m2 ?_
    refine g_icmp_ne C 889 896 dL_same_889 (by decide) (fun hq => absurd hq (fun z => z rfl)) (fun _ => ?_)
    refine g_iconst C 892 dL_same_892 ki_1 ?_
    refine g_goto C 893 897 dL_same_893 (by decide) ?_
    refine g_istore_n (L' := [(2, .int (1 : Int32)), (6, .int (2 : Int32)), (0, .ref (zA (Zc V) 0)), (1, .ref z), (3, .int (0 : Int32)), (4, .int (0 : Int32)), (5, .int (0 : Int32))]) C 897 dL_same_897 rfl (hN _ (Nat.le_of_ble_eq_true rfl)) rfl ?_
    refine g_iinc (v := (3 : Int32)) (L' := [(6, .int (3 : Int32)), (2, .int (1 : Int32)), (0, .ref (zA (Zc V) 0)), (1, .ref z), (3, .int (0 : Int32)), (4, .int (0 : Int32)), (5, .int (0 : Int32))]) C 898 1 dL_same_898 rfl (by decide) (hN _ (Nat.le_of_ble_eq_true rfl)) rfl ?_
    refine g_goto C 901 850 dL_same_901 (by decide) ?_
    refine g_iload C 850 0 dL_same_850 rfl ?_
    refine g_bipush C 852 dL_same_852 kb_8 ?_
    refine g_icmp_ge C 854 904 dL_same_854 (by decide) (fun hq => absurd hq (by decide)) (fun _ => ?_)
    refine g_iload_n C 857 1 dL_same_857 rfl ?_
    refine g_if_eq C 858 896 dL_same_858 (by decide) (fun hq => absurd hq (by decide)) (fun _ => ?_)
    refine g_aload_n C 861 2 dL_same_861 rfl ?_
    refine g_iload C 862 0 dL_same_862 rfl ?_
    have h864 := f_shut _ hRe 3 (by decide)
    refine g_callX C hZ hzA hX 864 [.int (3 : Int32)] [] rfl tw_959 mv_X8_shut rfl (Nat.le_of_ble_eq_true rfl) (Nat.le_of_ble_eq_true rfl) (Nat.le_of_ble_eq_true rfl) (by omega) (by omega) dL_same_864 (c_X8_shut V _ _ _ h864) ?_
    show Gn _ _ _ _ _ _ _ _ [.int (-2 : Int32)]
    refine g_iload C 867 0 dL_same_867 rfl ?_
    refine g_aload_n C 869 3 dL_same_869 rfl ?_
    refine g_cgetN C (hW _) 870 0 rfl 19 (Nat.le_of_ble_eq_true rfl) rfl (List.mem_of_getElem? (i := 25) rfl) rfl dL_same_870 ?_
    refine g_calen (v := (0 : Int32)) C (hW _) 873 9 1 rfl rfl rfl dL_same_873 ?_
    refine g_icmp_ge C 874 887 dL_same_874 (by decide) (fun _ => ?_) (fun hq => absurd (by decide) hq)
    refine g_bipush C 887 dL_same_887 kb_m2 ?_
    refine g_icmp_ne C 889 896 dL_same_889 (by decide) (fun hq => absurd hq (fun z => z rfl)) (fun _ => ?_)
    refine g_iconst C 892 dL_same_892 ki_1 ?_
    refine g_goto C 893 897 dL_same_893 (by decide) ?_
    refine g_istore_n (L' := [(2, .int (1 : Int32)), (6, .int (3 : Int32)), (0, .ref (zA (Zc V) 0)), (1, .ref z), (3, .int (0 : Int32)), (4, .int (0 : Int32)), (5, .int (0 : Int32))]) C 897 dL_same_897 rfl (hN _ (Nat.le_of_ble_eq_true rfl)) rfl ?_
    refine g_iinc (v := (4 : Int32)) (L' := [(6, .int (4 : Int32)), (2, .int (1 : Int32)), (0, .ref (zA (Zc V) 0)), (1, .ref z), (3, .int (0 : Int32)), (4, .int (0 : Int32)), (5, .int (0 : Int32))]) C 898 1 dL_same_898 rfl (by decide) (hN _ (Nat.le_of_ble_eq_true rfl)) rfl ?_
    refine g_goto C 901 850 dL_same_901 (by decide) ?_
    refine g_iload C 850 0 dL_same_850 rfl ?_
    refine g_bipush C 852 dL_same_852 kb_8 ?_
    refine g_icmp_ge C 854 904 dL_same_854 (by decide) (fun hq => absurd hq (by decide)) (fun _ => ?_)
    refine g_iload_n C 857 1 dL_same_857 rfl ?_
    refine g_if_eq C 858 896 dL_same_858 (by decide) (fun hq => absurd hq (by decide)) (fun _ => ?_)
    refine g_aload_n C 861 2 dL_same_861 rfl ?_
    refine g_iload C 862 0 dL_same_862 rfl ?_
    have h864 := f_shut _ hRe 4 (by decide)
    refine g_callX C hZ hzA hX 864 [.int (4 : Int32)] [] rfl tw_959 mv_X8_shut rfl (Nat.le_of_ble_eq_true rfl) (Nat.le_of_ble_eq_true rfl) (Nat.le_of_ble_eq_true rfl) (by omega) (by omega) dL_same_864 (c_X8_shut V _ _ _ h864) ?_
    show Gn _ _ _ _ _ _ _ _ [.int (-2 : Int32)]
    refine g_iload C 867 0 dL_same_867 rfl ?_
    refine g_aload_n C 869 3 dL_same_869 rfl ?_
    refine g_cgetN C (hW _) 870 0 rfl 19 (Nat.le_of_ble_eq_true rfl) rfl (List.mem_of_getElem? (i := 25) rfl) rfl dL_same_870 ?_
    refine g_calen (v := (0 : Int32)) C (hW _) 873 9 1 rfl rfl rfl dL_same_873 ?_
    refine g_icmp_ge C 874 887 dL_same_874 (by decide) (fun _ => ?_) (fun hq => absurd (by decide) hq)
    refine g_bipush C 887 dL_same_887 kb_m2 ?_
    refine g_icmp_ne C 889 896 dL_same_889 (by decide) (fun hq => absurd hq (fun z => z rfl)) (fun _ => ?_)
    refine g_iconst C 892 dL_same_892 ki_1 ?_
    refine g_goto C 893 897 dL_same_893 (by decide) ?_
    refine g_istore_n (L' := [(2, .int (1 : Int32)), (6, .int (4 : Int32)), (0, .ref (zA (Zc V) 0)), (1, .ref z), (3, .int (0 : Int32)), (4, .int (0 : Int32)), (5, .int (0 : Int32))]) C 897 dL_same_897 rfl (hN _ (Nat.le_of_ble_eq_true rfl)) rfl ?_
    refine g_iinc (v := (5 : Int32)) (L' := [(6, .int (5 : Int32)), (2, .int (1 : Int32)), (0, .ref (zA (Zc V) 0)), (1, .ref z), (3, .int (0 : Int32)), (4, .int (0 : Int32)), (5, .int (0 : Int32))]) C 898 1 dL_same_898 rfl (by decide) (hN _ (Nat.le_of_ble_eq_true rfl)) rfl ?_
    refine g_goto C 901 850 dL_same_901 (by decide) ?_
    refine g_iload C 850 0 dL_same_850 rfl ?_
    refine g_bipush C 852 dL_same_852 kb_8 ?_
    refine g_icmp_ge C 854 904 dL_same_854 (by decide) (fun hq => absurd hq (by decide)) (fun _ => ?_)
    refine g_iload_n C 857 1 dL_same_857 rfl ?_
    refine g_if_eq C 858 896 dL_same_858 (by decide) (fun hq => absurd hq (by decide)) (fun _ => ?_)
    refine g_aload_n C 861 2 dL_same_861 rfl ?_
    refine g_iload C 862 0 dL_same_862 rfl ?_
    have h864 := f_shut _ hRe 5 (by decide)
    refine g_callX C hZ hzA hX 864 [.int (5 : Int32)] [] rfl tw_959 mv_X8_shut rfl (Nat.le_of_ble_eq_true rfl) (Nat.le_of_ble_eq_true rfl) (Nat.le_of_ble_eq_true rfl) (by omega) (by omega) dL_same_864 (c_X8_shut V _ _ _ h864) ?_
    show Gn _ _ _ _ _ _ _ _ [.int (-2 : Int32)]
    refine g_iload C 867 0 dL_same_867 rfl ?_
    refine g_aload_n C 869 3 dL_same_869 rfl ?_
    refine g_cgetN C (hW _) 870 0 rfl 19 (Nat.le_of_ble_eq_true rfl) rfl (List.mem_of_getElem? (i := 25) rfl) rfl dL_same_870 ?_
    refine g_calen (v := (0 : Int32)) C (hW _) 873 9 1 rfl rfl rfl dL_same_873 ?_
    refine g_icmp_ge C 874 887 dL_same_874 (by decide) (fun _ => ?_) (fun hq => absurd (by decide) hq)
    refine g_bipush C 887 dL_same_887 kb_m2 ?_
    refine g_icmp_ne C 889 896 dL_same_889 (by decide) (fun hq => absurd hq (fun z => z rfl)) (fun _ => ?_)
    refine g_iconst C 892 dL_same_892 ki_1 ?_
    refine g_goto C 893 897 dL_same_893 (by decide) ?_
    refine g_istore_n (L' := [(2, .int (1 : Int32)), (6, .int (5 : Int32)), (0, .ref (zA (Zc V) 0)), (1, .ref z), (3, .int (0 : Int32)), (4, .int (0 : Int32)), (5, .int (0 : Int32))]) C 897 dL_same_897 rfl (hN _ (Nat.le_of_ble_eq_true rfl)) rfl ?_
    refine g_iinc (v := (6 : Int32)) (L' := [(6, .int (6 : Int32)), (2, .int (1 : Int32)), (0, .ref (zA (Zc V) 0)), (1, .ref z), (3, .int (0 : Int32)), (4, .int (0 : Int32)), (5, .int (0 : Int32))]) C 898 1 dL_same_898 rfl (by decide) (hN _ (Nat.le_of_ble_eq_true rfl)) rfl ?_
    refine g_goto C 901 850 dL_same_901 (by decide) ?_
    refine g_iload C 850 0 dL_same_850 rfl ?_
    refine g_bipush C 852 dL_same_852 kb_8 ?_
    refine g_icmp_ge C 854 904 dL_same_854 (by decide) (fun hq => absurd hq (by decide)) (fun _ => ?_)
    refine g_iload_n C 857 1 dL_same_857 rfl ?_
    refine g_if_eq C 858 896 dL_same_858 (by decide) (fun hq => absurd hq (by decide)) (fun _ => ?_)
    refine g_aload_n C 861 2 dL_same_861 rfl ?_
    refine g_iload C 862 0 dL_same_862 rfl ?_
    have h864 := f_shut _ hRe 6 (by decide)
    refine g_callX C hZ hzA hX 864 [.int (6 : Int32)] [] rfl tw_959 mv_X8_shut rfl (Nat.le_of_ble_eq_true rfl) (Nat.le_of_ble_eq_true rfl) (Nat.le_of_ble_eq_true rfl) (by omega) (by omega) dL_same_864 (c_X8_shut V _ _ _ h864) ?_
    show Gn _ _ _ _ _ _ _ _ [.int (-2 : Int32)]
    refine g_iload C 867 0 dL_same_867 rfl ?_
    refine g_aload_n C 869 3 dL_same_869 rfl ?_
    refine g_cgetN C (hW _) 870 0 rfl 19 (Nat.le_of_ble_eq_true rfl) rfl (List.mem_of_getElem? (i := 25) rfl) rfl dL_same_870 ?_
    refine g_calen (v := (0 : Int32)) C (hW _) 873 9 1 rfl rfl rfl dL_same_873 ?_
    refine g_icmp_ge C 874 887 dL_same_874 (by decide) (fun _ => ?_) (fun hq => absurd (by decide) hq)
    refine g_bipush C 887 dL_same_887 kb_m2 ?_
    refine g_icmp_ne C 889 896 dL_same_889 (by decide) (fun hq => absurd hq (fun z => z rfl)) (fun _ => ?_)
    refine g_iconst C 892 dL_same_892 ki_1 ?_
    refine g_goto C 893 897 dL_same_893 (by decide) ?_
    refine g_istore_n (L' := [(2, .int (1 : Int32)), (6, .int (6 : Int32)), (0, .ref (zA (Zc V) 0)), (1, .ref z), (3, .int (0 : Int32)), (4, .int (0 : Int32)), (5, .int (0 : Int32))]) C 897 dL_same_897 rfl (hN _ (Nat.le_of_ble_eq_true rfl)) rfl ?_
    refine g_iinc (v := (7 : Int32)) (L' := [(6, .int (7 : Int32)), (2, .int (1 : Int32)), (0, .ref (zA (Zc V) 0)), (1, .ref z), (3, .int (0 : Int32)), (4, .int (0 : Int32)), (5, .int (0 : Int32))]) C 898 1 dL_same_898 rfl (by decide) (hN _ (Nat.le_of_ble_eq_true rfl)) rfl ?_
    refine g_goto C 901 850 dL_same_901 (by decide) ?_
    refine g_iload C 850 0 dL_same_850 rfl ?_
    refine g_bipush C 852 dL_same_852 kb_8 ?_
    refine g_icmp_ge C 854 904 dL_same_854 (by decide) (fun hq => absurd hq (by decide)) (fun _ => ?_)
    refine g_iload_n C 857 1 dL_same_857 rfl ?_
    refine g_if_eq C 858 896 dL_same_858 (by decide) (fun hq => absurd hq (by decide)) (fun _ => ?_)
    refine g_aload_n C 861 2 dL_same_861 rfl ?_
    refine g_iload C 862 0 dL_same_862 rfl ?_
    have h864 := f_shut _ hRe 7 (by decide)
    refine g_callX C hZ hzA hX 864 [.int (7 : Int32)] [] rfl tw_959 mv_X8_shut rfl (Nat.le_of_ble_eq_true rfl) (Nat.le_of_ble_eq_true rfl) (Nat.le_of_ble_eq_true rfl) (by omega) (by omega) dL_same_864 (c_X8_shut V _ _ _ h864) ?_
    show Gn _ _ _ _ _ _ _ _ [.int (-2 : Int32)]
    refine g_iload C 867 0 dL_same_867 rfl ?_
    refine g_aload_n C 869 3 dL_same_869 rfl ?_
    refine g_cgetN C (hW _) 870 0 rfl 19 (Nat.le_of_ble_eq_true rfl) rfl (List.mem_of_getElem? (i := 25) rfl) rfl dL_same_870 ?_
    refine g_calen (v := (0 : Int32)) C (hW _) 873 9 1 rfl rfl rfl dL_same_873 ?_
    refine g_icmp_ge C 874 887 dL_same_874 (by decide) (fun _ => ?_) (fun hq => absurd (by decide) hq)
    refine g_bipush C 887 dL_same_887 kb_m2 ?_
    refine g_icmp_ne C 889 896 dL_same_889 (by decide) (fun hq => absurd hq (fun z => z rfl)) (fun _ => ?_)
    refine g_iconst C 892 dL_same_892 ki_1 ?_
    refine g_goto C 893 897 dL_same_893 (by decide) ?_
    refine g_istore_n (L' := [(2, .int (1 : Int32)), (6, .int (7 : Int32)), (0, .ref (zA (Zc V) 0)), (1, .ref z), (3, .int (0 : Int32)), (4, .int (0 : Int32)), (5, .int (0 : Int32))]) C 897 dL_same_897 rfl (hN _ (Nat.le_of_ble_eq_true rfl)) rfl ?_
    refine g_iinc (v := (8 : Int32)) (L' := [(6, .int (8 : Int32)), (2, .int (1 : Int32)), (0, .ref (zA (Zc V) 0)), (1, .ref z), (3, .int (0 : Int32)), (4, .int (0 : Int32)), (5, .int (0 : Int32))]) C 898 1 dL_same_898 rfl (by decide) (hN _ (Nat.le_of_ble_eq_true rfl)) rfl ?_
    refine g_goto C 901 850 dL_same_901 (by decide) ?_
    refine g_iload C 850 0 dL_same_850 rfl ?_
    refine g_bipush C 852 dL_same_852 kb_8 ?_
    refine g_icmp_ge C 854 904 dL_same_854 (by decide) (fun _ => ?_) (fun hq => absurd (by decide) hq)
    refine g_bipush C 904 dL_same_904 kb_8 ?_
    refine g_newi C 906 8 (by decide) rfl (Nat.le_of_ble_eq_true rfl) (by omega) (by omega) dL_same_906 (fun q906 => ?_)
    refine g_eq (ws2 := zW (Zc V) σe ++ ([(q906, .inl (V.2.2.1 1, 8, .inl (fun _ => 0)))] : va_W)) (zwp rfl) ?_
    refine g_dup C 908 dL_same_908 rfl ?_
    refine g_iconst C 909 dL_same_909 ki_0 ?_
    refine g_aload_n C 910 3 dL_same_910 rfl ?_
    refine g_cgetN C (hW _) 911 0 rfl 0 (Nat.le_of_ble_eq_true rfl) rfl (List.mem_of_getElem? (i := 7) rfl) rfl dL_same_911 ?_
    refine g_iast (f' := upd (fun _ => 0) (ix (0 : Int32)) (iv 0)) (ws' := zW (Zc V) σe ++ ([(q906, .inl (V.2.2.1 1, 8, .inl (upd (fun _ => 0) (ix (0 : Int32)) (iv 0))))] : va_W)) C 914 (127 + 0) (zwa rfl) (by decide) rfl (zws rfl) dL_same_914 ?_
    refine g_dup C 915 dL_same_915 rfl ?_
    refine g_iconst C 916 dL_same_916 ki_1 ?_
    refine g_aload_n C 917 3 dL_same_917 rfl ?_
    refine g_cgetN C (hW _) 918 0 rfl 1 (Nat.le_of_ble_eq_true rfl) rfl (List.mem_of_getElem? (i := 8) rfl) rfl dL_same_918 ?_
    refine g_iast (f' := upd (upd (fun _ => 0) (ix (0 : Int32)) (iv 0)) (ix (1 : Int32)) (iv 1)) (ws' := zW (Zc V) σe ++ ([(q906, .inl (V.2.2.1 1, 8, .inl (upd (upd (fun _ => 0) (ix (0 : Int32)) (iv 0)) (ix (1 : Int32)) (iv 1))))] : va_W)) C 921 (127 + 0) (zwa rfl) (by decide) rfl (zws rfl) dL_same_921 ?_
    refine g_dup C 922 dL_same_922 rfl ?_
    refine g_iconst C 923 dL_same_923 ki_2 ?_
    refine g_aload_n C 924 3 dL_same_924 rfl ?_
    refine g_cgetN C (hW _) 925 0 rfl 2 (Nat.le_of_ble_eq_true rfl) rfl (List.mem_of_getElem? (i := 9) rfl) rfl dL_same_925 ?_
    refine g_iast (f' := upd (upd (upd (fun _ => 0) (ix (0 : Int32)) (iv 0)) (ix (1 : Int32)) (iv 1)) (ix (2 : Int32)) (iv 2)) (ws' := zW (Zc V) σe ++ ([(q906, .inl (V.2.2.1 1, 8, .inl (upd (upd (upd (fun _ => 0) (ix (0 : Int32)) (iv 0)) (ix (1 : Int32)) (iv 1)) (ix (2 : Int32)) (iv 2))))] : va_W)) C 928 (127 + 0) (zwa rfl) (by decide) rfl (zws rfl) dL_same_928 ?_
    refine g_dup C 929 dL_same_929 rfl ?_
    refine g_iconst C 930 dL_same_930 ki_3 ?_
    refine g_aload_n C 931 3 dL_same_931 rfl ?_
    refine g_cgetN C (hW _) 932 0 rfl 4 (Nat.le_of_ble_eq_true rfl) rfl (List.mem_of_getElem? (i := 11) rfl) rfl dL_same_932 ?_
    refine g_iast (f' := upd (upd (upd (upd (fun _ => 0) (ix (0 : Int32)) (iv 0)) (ix (1 : Int32)) (iv 1)) (ix (2 : Int32)) (iv 2)) (ix (3 : Int32)) (0 : Int32)) (ws' := zW (Zc V) σe ++ ([(q906, .inl (V.2.2.1 1, 8, .inl (upd (upd (upd (upd (fun _ => 0) (ix (0 : Int32)) (iv 0)) (ix (1 : Int32)) (iv 1)) (ix (2 : Int32)) (iv 2)) (ix (3 : Int32)) (0 : Int32))))] : va_W)) C 935 (127 + 0) (zwa rfl) (by decide) rfl (zws rfl) dL_same_935 ?_
    refine g_dup C 936 dL_same_936 rfl ?_
    refine g_iconst C 937 dL_same_937 ki_4 ?_
    refine g_aload_n C 938 3 dL_same_938 rfl ?_
    refine g_cgetN C (hW _) 939 0 rfl 5 (Nat.le_of_ble_eq_true rfl) rfl (List.mem_of_getElem? (i := 12) rfl) rfl dL_same_939 ?_
    refine g_iast (f' := upd (upd (upd (upd (upd (fun _ => 0) (ix (0 : Int32)) (iv 0)) (ix (1 : Int32)) (iv 1)) (ix (2 : Int32)) (iv 2)) (ix (3 : Int32)) (0 : Int32)) (ix (4 : Int32)) (0 : Int32)) (ws' := zW (Zc V) σe ++ ([(q906, .inl (V.2.2.1 1, 8, .inl (upd (upd (upd (upd (upd (fun _ => 0) (ix (0 : Int32)) (iv 0)) (ix (1 : Int32)) (iv 1)) (ix (2 : Int32)) (iv 2)) (ix (3 : Int32)) (0 : Int32)) (ix (4 : Int32)) (0 : Int32))))] : va_W)) C 942 (127 + 0) (zwa rfl) (by decide) rfl (zws rfl) dL_same_942 ?_
    refine g_dup C 943 dL_same_943 rfl ?_
    refine g_iconst C 944 dL_same_944 ki_5 ?_
    refine g_aload_n C 945 3 dL_same_945 rfl ?_
    refine g_cgetN C (hW _) 946 0 rfl 6 (Nat.le_of_ble_eq_true rfl) rfl (List.mem_of_getElem? (i := 13) rfl) rfl dL_same_946 ?_
    refine g_iast (f' := upd (upd (upd (upd (upd (upd (fun _ => 0) (ix (0 : Int32)) (iv 0)) (ix (1 : Int32)) (iv 1)) (ix (2 : Int32)) (iv 2)) (ix (3 : Int32)) (0 : Int32)) (ix (4 : Int32)) (0 : Int32)) (ix (5 : Int32)) (iv 6)) (ws' := zW (Zc V) σe ++ ([(q906, .inl (V.2.2.1 1, 8, .inl (upd (upd (upd (upd (upd (upd (fun _ => 0) (ix (0 : Int32)) (iv 0)) (ix (1 : Int32)) (iv 1)) (ix (2 : Int32)) (iv 2)) (ix (3 : Int32)) (0 : Int32)) (ix (4 : Int32)) (0 : Int32)) (ix (5 : Int32)) (iv 6))))] : va_W)) C 949 (127 + 0) (zwa rfl) (by decide) rfl (zws rfl) dL_same_949 ?_
    refine g_dup C 950 dL_same_950 rfl ?_
    refine g_bipush C 951 dL_same_951 kb_6 ?_
    refine g_aload_n C 953 3 dL_same_953 rfl ?_
    refine g_cgetN C (hW _) 954 0 rfl 7 (Nat.le_of_ble_eq_true rfl) rfl (List.mem_of_getElem? (i := 14) rfl) rfl dL_same_954 ?_
    refine g_iast (f' := upd (upd (upd (upd (upd (upd (upd (fun _ => 0) (ix (0 : Int32)) (iv 0)) (ix (1 : Int32)) (iv 1)) (ix (2 : Int32)) (iv 2)) (ix (3 : Int32)) (0 : Int32)) (ix (4 : Int32)) (0 : Int32)) (ix (5 : Int32)) (iv 6)) (ix (6 : Int32)) (0 : Int32)) (ws' := zW (Zc V) σe ++ ([(q906, .inl (V.2.2.1 1, 8, .inl (upd (upd (upd (upd (upd (upd (upd (fun _ => 0) (ix (0 : Int32)) (iv 0)) (ix (1 : Int32)) (iv 1)) (ix (2 : Int32)) (iv 2)) (ix (3 : Int32)) (0 : Int32)) (ix (4 : Int32)) (0 : Int32)) (ix (5 : Int32)) (iv 6)) (ix (6 : Int32)) (0 : Int32))))] : va_W)) C 957 (127 + 0) (zwa rfl) (by decide) rfl (zws rfl) dL_same_957 ?_
    refine g_dup C 958 dL_same_958 rfl ?_
    refine g_bipush C 959 dL_same_959 kb_7 ?_
    refine g_aload_n C 961 3 dL_same_961 rfl ?_
    refine g_aload_n C 962 3 dL_same_962 rfl ?_
    refine g_cgetN C (hW _) 963 0 rfl 13 (Nat.le_of_ble_eq_true rfl) rfl (List.mem_of_getElem? (i := 19) rfl) rfl dL_same_963 ?_
    refine g_callQV C hcs 966 [.ref (u 13)] [.int (7 : Int32), .ref q906, .ref q906] rfl tw_1360 mv_N9_sum rfl (Nat.le_of_ble_eq_true rfl) (Nat.le_of_ble_eq_true rfl) (Nat.le_of_ble_eq_true rfl) (by omega) (by omega) dL_same_966 (q_sum5 (Kl K) V.1 V.2.2.1 z u iv fs (u 13)) (Wo.app (hW _) (Wo.oneC (hW _) 3 rfl)) rfl (fun rv966 nl966 hr966 => ?_)
    obtain ⟨rfl, rfl⟩ := hr966
    refine g_eq (ws2 := zW (Zc V) σe ++ ([(q906, .inl (V.2.2.1 1, 8, .inl (upd (upd (upd (upd (upd (upd (upd (fun _ => 0) (ix (0 : Int32)) (iv 0)) (ix (1 : Int32)) (iv 1)) (ix (2 : Int32)) (iv 2)) (ix (3 : Int32)) (0 : Int32)) (ix (4 : Int32)) (0 : Int32)) (ix (5 : Int32)) (iv 6)) (ix (6 : Int32)) (0 : Int32))))] : va_W)) (zwp rfl) ?_
    show Gn _ _ _ _ _ _ _ _ [.int (0 : Int32), .int (7 : Int32), .ref q906, .ref q906]
    refine g_iast (f' := upd (upd (upd (upd (upd (upd (upd (upd (fun _ => 0) (ix (0 : Int32)) (iv 0)) (ix (1 : Int32)) (iv 1)) (ix (2 : Int32)) (iv 2)) (ix (3 : Int32)) (0 : Int32)) (ix (4 : Int32)) (0 : Int32)) (ix (5 : Int32)) (iv 6)) (ix (6 : Int32)) (0 : Int32)) (ix (7 : Int32)) (0 : Int32)) (ws' := zW (Zc V) σe ++ ([(q906, .inl (V.2.2.1 1, 8, .inl (upd (upd (upd (upd (upd (upd (upd (upd (fun _ => 0) (ix (0 : Int32)) (iv 0)) (ix (1 : Int32)) (iv 1)) (ix (2 : Int32)) (iv 2)) (ix (3 : Int32)) (0 : Int32)) (ix (4 : Int32)) (0 : Int32)) (ix (5 : Int32)) (iv 6)) (ix (6 : Int32)) (0 : Int32)) (ix (7 : Int32)) (0 : Int32))))] : va_W)) C 969 (127 + 0) (zwa rfl) (by decide) rfl (zws rfl) dL_same_969 ?_
    refine g_eq (ws2 := zW (Zc V) σe ++ ([(q906, .inl (V.2.2.1 1, 8, .inl (cntA iv)))] : va_W)) (zwq (by rw [cntA_eq])) ?_
    refine g_astore (L' := [(6, .ref q906), (2, .int (1 : Int32)), (0, .ref (zA (Zc V) 0)), (1, .ref z), (3, .int (0 : Int32)), (4, .int (0 : Int32)), (5, .int (0 : Int32))]) C 970 dL_same_970 (hN _ (Nat.le_of_ble_eq_true rfl)) rfl ?_
    refine g_iconst C 972 dL_same_972 ki_0 ?_
    refine g_istore (L' := [(7, .int (0 : Int32)), (6, .ref q906), (2, .int (1 : Int32)), (0, .ref (zA (Zc V) 0)), (1, .ref z), (3, .int (0 : Int32)), (4, .int (0 : Int32)), (5, .int (0 : Int32))]) C 973 dL_same_973 (hN _ (Nat.le_of_ble_eq_true rfl)) rfl ?_
    refine g_iload C 975 0 dL_same_975 rfl ?_
    refine g_bipush C 977 dL_same_977 kb_8 ?_
    refine g_icmp_ge C 979 1012 dL_same_979 (by decide) (fun hq => absurd hq (by decide)) (fun _ => ?_)
    refine g_iload_n C 982 2 dL_same_982 rfl ?_
    refine g_if_eq C 983 1004 dL_same_983 (by decide) (fun hq => absurd hq (by decide)) (fun _ => ?_)
    refine g_aload_n C 986 3 dL_same_986 rfl ?_
    refine g_iload C 987 0 dL_same_987 rfl ?_
    obtain ⟨σ989, h989, hR989⟩ := f_count0 _ hRe 
    refine g_callX C hZ hzA hX 989 [.int (0 : Int32)] [] rfl tw_1117 mv_X8_count rfl (Nat.le_of_ble_eq_true rfl) (Nat.le_of_ble_eq_true rfl) (Nat.le_of_ble_eq_true rfl) (by omega) (by omega) dL_same_989 (c_X8_count V _ _ _ h989) ?_
    show Gn _ _ _ _ _ _ _ _ [.int (iv 0)]
    refine g_aload C 992 1 dL_same_992 rfl ?_
    refine g_iload C 994 0 dL_same_994 rfl ?_
    refine g_iald C 996 (127 + 0) (zwa rfl) (by decide) dL_same_996 ?_
    rw [show ((cntA iv) (ix (0 : Int32))) = (iv 0) from cntA_0]
    refine g_icmp_ne C 997 1004 dL_same_997 (by decide) (fun hq => absurd hq (fun z => z rfl)) (fun _ => ?_)
    refine g_iconst C 1000 dL_same_1000 ki_1 ?_
    refine g_goto C 1001 1005 dL_same_1001 (by decide) ?_
    refine g_istore_n (L' := [(2, .int (1 : Int32)), (7, .int (0 : Int32)), (6, .ref q906), (0, .ref (zA (Zc V) 0)), (1, .ref z), (3, .int (0 : Int32)), (4, .int (0 : Int32)), (5, .int (0 : Int32))]) C 1005 dL_same_1005 rfl (hN _ (Nat.le_of_ble_eq_true rfl)) rfl ?_
    refine g_iinc (v := (1 : Int32)) (L' := [(7, .int (1 : Int32)), (2, .int (1 : Int32)), (6, .ref q906), (0, .ref (zA (Zc V) 0)), (1, .ref z), (3, .int (0 : Int32)), (4, .int (0 : Int32)), (5, .int (0 : Int32))]) C 1006 1 dL_same_1006 rfl (by decide) (hN _ (Nat.le_of_ble_eq_true rfl)) rfl ?_
    refine g_goto C 1009 975 dL_same_1009 (by decide) ?_
    refine g_iload C 975 0 dL_same_975 rfl ?_
    refine g_bipush C 977 dL_same_977 kb_8 ?_
    refine g_icmp_ge C 979 1012 dL_same_979 (by decide) (fun hq => absurd hq (by decide)) (fun _ => ?_)
    refine g_iload_n C 982 1 dL_same_982 rfl ?_
    refine g_if_eq C 983 1004 dL_same_983 (by decide) (fun hq => absurd hq (by decide)) (fun _ => ?_)
    refine g_aload_n C 986 3 dL_same_986 rfl ?_
    refine g_iload C 987 0 dL_same_987 rfl ?_
    obtain ⟨σ989, h989, hR989⟩ := f_count1 _ hR989 
    refine g_callX C hZ hzA hX 989 [.int (1 : Int32)] [] rfl tw_1117 mv_X8_count rfl (Nat.le_of_ble_eq_true rfl) (Nat.le_of_ble_eq_true rfl) (Nat.le_of_ble_eq_true rfl) (by omega) (by omega) dL_same_989 (c_X8_count V _ _ _ h989) ?_
    show Gn _ _ _ _ _ _ _ _ [.int (iv 1)]
    refine g_aload C 992 2 dL_same_992 rfl ?_
    refine g_iload C 994 0 dL_same_994 rfl ?_
    refine g_iald C 996 (127 + 0) (zwa rfl) (by decide) dL_same_996 ?_
    rw [show ((cntA iv) (ix (1 : Int32))) = (iv 1) from cntA_1]
    refine g_icmp_ne C 997 1004 dL_same_997 (by decide) (fun hq => absurd hq (fun z => z rfl)) (fun _ => ?_)
    refine g_iconst C 1000 dL_same_1000 ki_1 ?_
    refine g_goto C 1001 1005 dL_same_1001 (by decide) ?_
    refine g_istore_n (L' := [(2, .int (1 : Int32)), (7, .int (1 : Int32)), (6, .ref q906), (0, .ref (zA (Zc V) 0)), (1, .ref z), (3, .int (0 : Int32)), (4, .int (0 : Int32)), (5, .int (0 : Int32))]) C 1005 dL_same_1005 rfl (hN _ (Nat.le_of_ble_eq_true rfl)) rfl ?_
    refine g_iinc (v := (2 : Int32)) (L' := [(7, .int (2 : Int32)), (2, .int (1 : Int32)), (6, .ref q906), (0, .ref (zA (Zc V) 0)), (1, .ref z), (3, .int (0 : Int32)), (4, .int (0 : Int32)), (5, .int (0 : Int32))]) C 1006 1 dL_same_1006 rfl (by decide) (hN _ (Nat.le_of_ble_eq_true rfl)) rfl ?_
    refine g_goto C 1009 975 dL_same_1009 (by decide) ?_
    refine g_iload C 975 0 dL_same_975 rfl ?_
    refine g_bipush C 977 dL_same_977 kb_8 ?_
    refine g_icmp_ge C 979 1012 dL_same_979 (by decide) (fun hq => absurd hq (by decide)) (fun _ => ?_)
    refine g_iload_n C 982 1 dL_same_982 rfl ?_
    refine g_if_eq C 983 1004 dL_same_983 (by decide) (fun hq => absurd hq (by decide)) (fun _ => ?_)
    refine g_aload_n C 986 3 dL_same_986 rfl ?_
    refine g_iload C 987 0 dL_same_987 rfl ?_
    obtain ⟨σ989, h989, hR989⟩ := f_count2 _ hR989 
    refine g_callX C hZ hzA hX 989 [.int (2 : Int32)] [] rfl tw_1117 mv_X8_count rfl (Nat.le_of_ble_eq_true rfl) (Nat.le_of_ble_eq_true rfl) (Nat.le_of_ble_eq_true rfl) (by omega) (by omega) dL_same_989 (c_X8_count V _ _ _ h989) ?_
    show Gn _ _ _ _ _ _ _ _ [.int (iv 2)]
    refine g_aload C 992 2 dL_same_992 rfl ?_
    refine g_iload C 994 0 dL_same_994 rfl ?_
    refine g_iald C 996 (127 + 0) (zwa rfl) (by decide) dL_same_996 ?_
    rw [show ((cntA iv) (ix (2 : Int32))) = (iv 2) from cntA_2]
    refine g_icmp_ne C 997 1004 dL_same_997 (by decide) (fun hq => absurd hq (fun z => z rfl)) (fun _ => ?_)
    refine g_iconst C 1000 dL_same_1000 ki_1 ?_
    refine g_goto C 1001 1005 dL_same_1001 (by decide) ?_
    refine g_istore_n (L' := [(2, .int (1 : Int32)), (7, .int (2 : Int32)), (6, .ref q906), (0, .ref (zA (Zc V) 0)), (1, .ref z), (3, .int (0 : Int32)), (4, .int (0 : Int32)), (5, .int (0 : Int32))]) C 1005 dL_same_1005 rfl (hN _ (Nat.le_of_ble_eq_true rfl)) rfl ?_
    refine g_iinc (v := (3 : Int32)) (L' := [(7, .int (3 : Int32)), (2, .int (1 : Int32)), (6, .ref q906), (0, .ref (zA (Zc V) 0)), (1, .ref z), (3, .int (0 : Int32)), (4, .int (0 : Int32)), (5, .int (0 : Int32))]) C 1006 1 dL_same_1006 rfl (by decide) (hN _ (Nat.le_of_ble_eq_true rfl)) rfl ?_
    refine g_goto C 1009 975 dL_same_1009 (by decide) ?_
    refine g_iload C 975 0 dL_same_975 rfl ?_
    refine g_bipush C 977 dL_same_977 kb_8 ?_
    refine g_icmp_ge C 979 1012 dL_same_979 (by decide) (fun hq => absurd hq (by decide)) (fun _ => ?_)
    refine g_iload_n C 982 1 dL_same_982 rfl ?_
    refine g_if_eq C 983 1004 dL_same_983 (by decide) (fun hq => absurd hq (by decide)) (fun _ => ?_)
    refine g_aload_n C 986 3 dL_same_986 rfl ?_
    refine g_iload C 987 0 dL_same_987 rfl ?_
    obtain ⟨σ989, h989, hR989⟩ := f_count3 _ hR989 
    refine g_callX C hZ hzA hX 989 [.int (3 : Int32)] [] rfl tw_1117 mv_X8_count rfl (Nat.le_of_ble_eq_true rfl) (Nat.le_of_ble_eq_true rfl) (Nat.le_of_ble_eq_true rfl) (by omega) (by omega) dL_same_989 (c_X8_count V _ _ _ h989) ?_
    show Gn _ _ _ _ _ _ _ _ [.int (0 : Int32)]
    refine g_aload C 992 2 dL_same_992 rfl ?_
    refine g_iload C 994 0 dL_same_994 rfl ?_
    refine g_iald C 996 (127 + 0) (zwa rfl) (by decide) dL_same_996 ?_
    rw [show ((cntA iv) (ix (3 : Int32))) = (0 : Int32) from cntA_3]
    refine g_icmp_ne C 997 1004 dL_same_997 (by decide) (fun hq => absurd hq (fun z => z rfl)) (fun _ => ?_)
    refine g_iconst C 1000 dL_same_1000 ki_1 ?_
    refine g_goto C 1001 1005 dL_same_1001 (by decide) ?_
    refine g_istore_n (L' := [(2, .int (1 : Int32)), (7, .int (3 : Int32)), (6, .ref q906), (0, .ref (zA (Zc V) 0)), (1, .ref z), (3, .int (0 : Int32)), (4, .int (0 : Int32)), (5, .int (0 : Int32))]) C 1005 dL_same_1005 rfl (hN _ (Nat.le_of_ble_eq_true rfl)) rfl ?_
    refine g_iinc (v := (4 : Int32)) (L' := [(7, .int (4 : Int32)), (2, .int (1 : Int32)), (6, .ref q906), (0, .ref (zA (Zc V) 0)), (1, .ref z), (3, .int (0 : Int32)), (4, .int (0 : Int32)), (5, .int (0 : Int32))]) C 1006 1 dL_same_1006 rfl (by decide) (hN _ (Nat.le_of_ble_eq_true rfl)) rfl ?_
    refine g_goto C 1009 975 dL_same_1009 (by decide) ?_
    refine g_iload C 975 0 dL_same_975 rfl ?_
    refine g_bipush C 977 dL_same_977 kb_8 ?_
    refine g_icmp_ge C 979 1012 dL_same_979 (by decide) (fun hq => absurd hq (by decide)) (fun _ => ?_)
    refine g_iload_n C 982 1 dL_same_982 rfl ?_
    refine g_if_eq C 983 1004 dL_same_983 (by decide) (fun hq => absurd hq (by decide)) (fun _ => ?_)
    refine g_aload_n C 986 3 dL_same_986 rfl ?_
    refine g_iload C 987 0 dL_same_987 rfl ?_
    obtain ⟨σ989, h989, hR989⟩ := f_count4 _ hR989 
    refine g_callX C hZ hzA hX 989 [.int (4 : Int32)] [] rfl tw_1117 mv_X8_count rfl (Nat.le_of_ble_eq_true rfl) (Nat.le_of_ble_eq_true rfl) (Nat.le_of_ble_eq_true rfl) (by omega) (by omega) dL_same_989 (c_X8_count V _ _ _ h989) ?_
    show Gn _ _ _ _ _ _ _ _ [.int (0 : Int32)]
    refine g_aload C 992 2 dL_same_992 rfl ?_
    refine g_iload C 994 0 dL_same_994 rfl ?_
    refine g_iald C 996 (127 + 0) (zwa rfl) (by decide) dL_same_996 ?_
    rw [show ((cntA iv) (ix (4 : Int32))) = (0 : Int32) from cntA_4]
    refine g_icmp_ne C 997 1004 dL_same_997 (by decide) (fun hq => absurd hq (fun z => z rfl)) (fun _ => ?_)
    refine g_iconst C 1000 dL_same_1000 ki_1 ?_
    refine g_goto C 1001 1005 dL_same_1001 (by decide) ?_
    refine g_istore_n (L' := [(2, .int (1 : Int32)), (7, .int (4 : Int32)), (6, .ref q906), (0, .ref (zA (Zc V) 0)), (1, .ref z), (3, .int (0 : Int32)), (4, .int (0 : Int32)), (5, .int (0 : Int32))]) C 1005 dL_same_1005 rfl (hN _ (Nat.le_of_ble_eq_true rfl)) rfl ?_
    refine g_iinc (v := (5 : Int32)) (L' := [(7, .int (5 : Int32)), (2, .int (1 : Int32)), (6, .ref q906), (0, .ref (zA (Zc V) 0)), (1, .ref z), (3, .int (0 : Int32)), (4, .int (0 : Int32)), (5, .int (0 : Int32))]) C 1006 1 dL_same_1006 rfl (by decide) (hN _ (Nat.le_of_ble_eq_true rfl)) rfl ?_
    refine g_goto C 1009 975 dL_same_1009 (by decide) ?_
    refine g_iload C 975 0 dL_same_975 rfl ?_
    refine g_bipush C 977 dL_same_977 kb_8 ?_
    refine g_icmp_ge C 979 1012 dL_same_979 (by decide) (fun hq => absurd hq (by decide)) (fun _ => ?_)
    refine g_iload_n C 982 1 dL_same_982 rfl ?_
    refine g_if_eq C 983 1004 dL_same_983 (by decide) (fun hq => absurd hq (by decide)) (fun _ => ?_)
    refine g_aload_n C 986 3 dL_same_986 rfl ?_
    refine g_iload C 987 0 dL_same_987 rfl ?_
    obtain ⟨σ989, h989, hR989⟩ := f_count5 _ hR989 
    refine g_callX C hZ hzA hX 989 [.int (5 : Int32)] [] rfl tw_1117 mv_X8_count rfl (Nat.le_of_ble_eq_true rfl) (Nat.le_of_ble_eq_true rfl) (Nat.le_of_ble_eq_true rfl) (by omega) (by omega) dL_same_989 (c_X8_count V _ _ _ h989) ?_
    show Gn _ _ _ _ _ _ _ _ [.int (iv 6)]
    refine g_aload C 992 2 dL_same_992 rfl ?_
    refine g_iload C 994 0 dL_same_994 rfl ?_
    refine g_iald C 996 (127 + 0) (zwa rfl) (by decide) dL_same_996 ?_
    rw [show ((cntA iv) (ix (5 : Int32))) = (iv 6) from cntA_5]
    refine g_icmp_ne C 997 1004 dL_same_997 (by decide) (fun hq => absurd hq (fun z => z rfl)) (fun _ => ?_)
    refine g_iconst C 1000 dL_same_1000 ki_1 ?_
    refine g_goto C 1001 1005 dL_same_1001 (by decide) ?_
    refine g_istore_n (L' := [(2, .int (1 : Int32)), (7, .int (5 : Int32)), (6, .ref q906), (0, .ref (zA (Zc V) 0)), (1, .ref z), (3, .int (0 : Int32)), (4, .int (0 : Int32)), (5, .int (0 : Int32))]) C 1005 dL_same_1005 rfl (hN _ (Nat.le_of_ble_eq_true rfl)) rfl ?_
    refine g_iinc (v := (6 : Int32)) (L' := [(7, .int (6 : Int32)), (2, .int (1 : Int32)), (6, .ref q906), (0, .ref (zA (Zc V) 0)), (1, .ref z), (3, .int (0 : Int32)), (4, .int (0 : Int32)), (5, .int (0 : Int32))]) C 1006 1 dL_same_1006 rfl (by decide) (hN _ (Nat.le_of_ble_eq_true rfl)) rfl ?_
    refine g_goto C 1009 975 dL_same_1009 (by decide) ?_
    refine g_iload C 975 0 dL_same_975 rfl ?_
    refine g_bipush C 977 dL_same_977 kb_8 ?_
    refine g_icmp_ge C 979 1012 dL_same_979 (by decide) (fun hq => absurd hq (by decide)) (fun _ => ?_)
    refine g_iload_n C 982 1 dL_same_982 rfl ?_
    refine g_if_eq C 983 1004 dL_same_983 (by decide) (fun hq => absurd hq (by decide)) (fun _ => ?_)
    refine g_aload_n C 986 3 dL_same_986 rfl ?_
    refine g_iload C 987 0 dL_same_987 rfl ?_
    obtain ⟨σ989, h989, hR989⟩ := f_count6 _ hR989 
    refine g_callX C hZ hzA hX 989 [.int (6 : Int32)] [] rfl tw_1117 mv_X8_count rfl (Nat.le_of_ble_eq_true rfl) (Nat.le_of_ble_eq_true rfl) (Nat.le_of_ble_eq_true rfl) (by omega) (by omega) dL_same_989 (c_X8_count V _ _ _ h989) ?_
    show Gn _ _ _ _ _ _ _ _ [.int (0 : Int32)]
    refine g_aload C 992 2 dL_same_992 rfl ?_
    refine g_iload C 994 0 dL_same_994 rfl ?_
    refine g_iald C 996 (127 + 0) (zwa rfl) (by decide) dL_same_996 ?_
    rw [show ((cntA iv) (ix (6 : Int32))) = (0 : Int32) from cntA_6]
    refine g_icmp_ne C 997 1004 dL_same_997 (by decide) (fun hq => absurd hq (fun z => z rfl)) (fun _ => ?_)
    refine g_iconst C 1000 dL_same_1000 ki_1 ?_
    refine g_goto C 1001 1005 dL_same_1001 (by decide) ?_
    refine g_istore_n (L' := [(2, .int (1 : Int32)), (7, .int (6 : Int32)), (6, .ref q906), (0, .ref (zA (Zc V) 0)), (1, .ref z), (3, .int (0 : Int32)), (4, .int (0 : Int32)), (5, .int (0 : Int32))]) C 1005 dL_same_1005 rfl (hN _ (Nat.le_of_ble_eq_true rfl)) rfl ?_
    refine g_iinc (v := (7 : Int32)) (L' := [(7, .int (7 : Int32)), (2, .int (1 : Int32)), (6, .ref q906), (0, .ref (zA (Zc V) 0)), (1, .ref z), (3, .int (0 : Int32)), (4, .int (0 : Int32)), (5, .int (0 : Int32))]) C 1006 1 dL_same_1006 rfl (by decide) (hN _ (Nat.le_of_ble_eq_true rfl)) rfl ?_
    refine g_goto C 1009 975 dL_same_1009 (by decide) ?_
    refine g_iload C 975 0 dL_same_975 rfl ?_
    refine g_bipush C 977 dL_same_977 kb_8 ?_
    refine g_icmp_ge C 979 1012 dL_same_979 (by decide) (fun hq => absurd hq (by decide)) (fun _ => ?_)
    refine g_iload_n C 982 1 dL_same_982 rfl ?_
    refine g_if_eq C 983 1004 dL_same_983 (by decide) (fun hq => absurd hq (by decide)) (fun _ => ?_)
    refine g_aload_n C 986 3 dL_same_986 rfl ?_
    refine g_iload C 987 0 dL_same_987 rfl ?_
    obtain ⟨σ989, h989, hR989⟩ := f_count7 _ hR989 
    refine g_callX C hZ hzA hX 989 [.int (7 : Int32)] [] rfl tw_1117 mv_X8_count rfl (Nat.le_of_ble_eq_true rfl) (Nat.le_of_ble_eq_true rfl) (Nat.le_of_ble_eq_true rfl) (by omega) (by omega) dL_same_989 (c_X8_count V _ _ _ h989) ?_
    show Gn _ _ _ _ _ _ _ _ [.int (0 : Int32)]
    refine g_aload C 992 2 dL_same_992 rfl ?_
    refine g_iload C 994 0 dL_same_994 rfl ?_
    refine g_iald C 996 (127 + 0) (zwa rfl) (by decide) dL_same_996 ?_
    rw [show ((cntA iv) (ix (7 : Int32))) = (0 : Int32) from cntA_7]
    refine g_icmp_ne C 997 1004 dL_same_997 (by decide) (fun hq => absurd hq (fun z => z rfl)) (fun _ => ?_)
    refine g_iconst C 1000 dL_same_1000 ki_1 ?_
    refine g_goto C 1001 1005 dL_same_1001 (by decide) ?_
    refine g_istore_n (L' := [(2, .int (1 : Int32)), (7, .int (7 : Int32)), (6, .ref q906), (0, .ref (zA (Zc V) 0)), (1, .ref z), (3, .int (0 : Int32)), (4, .int (0 : Int32)), (5, .int (0 : Int32))]) C 1005 dL_same_1005 rfl (hN _ (Nat.le_of_ble_eq_true rfl)) rfl ?_
    refine g_iinc (v := (8 : Int32)) (L' := [(7, .int (8 : Int32)), (2, .int (1 : Int32)), (6, .ref q906), (0, .ref (zA (Zc V) 0)), (1, .ref z), (3, .int (0 : Int32)), (4, .int (0 : Int32)), (5, .int (0 : Int32))]) C 1006 1 dL_same_1006 rfl (by decide) (hN _ (Nat.le_of_ble_eq_true rfl)) rfl ?_
    refine g_goto C 1009 975 dL_same_1009 (by decide) ?_
    refine g_iload C 975 0 dL_same_975 rfl ?_
    refine g_bipush C 977 dL_same_977 kb_8 ?_
    refine g_icmp_ge C 979 1012 dL_same_979 (by decide) (fun _ => ?_) (fun hq => absurd (by decide) hq)
    refine g_iload_n C 1012 1 dL_same_1012 rfl ?_
    refine g_if_eq C 1013 1100 dL_same_1013 (by decide) (fun hq => absurd hq (by decide)) (fun _ => ?_)
    refine g_aload_n C 1016 3 dL_same_1016 rfl ?_
    refine g_bipush C 1017 dL_same_1017 kb_10 ?_
    obtain ⟨σ1019, h1019, hR1019⟩ := f_count10 _ hR989 
    refine g_callX C hZ hzA hX 1019 [.int (10 : Int32)] [] rfl tw_1117 mv_X8_count rfl (Nat.le_of_ble_eq_true rfl) (Nat.le_of_ble_eq_true rfl) (Nat.le_of_ble_eq_true rfl) (by omega) (by omega) dL_same_1019 (c_X8_count V _ _ _ h1019) ?_
    show Gn _ _ _ _ _ _ _ _ [.int (1 : Int32)]
    refine g_aload_n C 1022 4 dL_same_1022 rfl ?_
    refine g_callQV C hcs 1023 [] [.int (1 : Int32)] rfl tw_1364 mv_N9_same_ rfl (Nat.le_of_ble_eq_true rfl) (Nat.le_of_ble_eq_true rfl) (Nat.le_of_ble_eq_true rfl) (by omega) (by omega) dL_same_1023 (q_same_ (Kl K) V.1 V.2.2.1 z u iv fs n hn5 hiv0) (hW _) rfl (fun rv1023 nl1023 hr1023 => ?_)
    obtain ⟨rfl, rfl⟩ := hr1023
    refine g_eq (ws2 := zW (Zc V) σ1019 ++ ([(q906, .inl (V.2.2.1 1, 8, .inl (cntA iv)))] : va_W)) (zwp rfl) ?_
    show Gn _ _ _ _ _ _ _ _ [.int (1 : Int32), .int (1 : Int32)]
    refine g_if_eq C 1026 1033 dL_same_1026 (by decide) (fun hq => absurd hq (by decide)) (fun _ => ?_)
    refine g_iconst C 1029 dL_same_1029 ki_1 ?_
    refine g_goto C 1030 1034 dL_same_1030 (by decide) ?_
    refine g_icmp_ne C 1034 1100 dL_same_1034 (by decide) (fun hq => absurd hq (fun z => z rfl)) (fun _ => ?_)
    refine g_aload_n C 1037 3 dL_same_1037 rfl ?_
    refine g_bipush C 1038 dL_same_1038 kb_12 ?_
    obtain ⟨σ1040, h1040, hR1040⟩ := f_count12 _ hR1019 
    refine g_callX C hZ hzA hX 1040 [.int (12 : Int32)] [] rfl tw_1117 mv_X8_count rfl (Nat.le_of_ble_eq_true rfl) (Nat.le_of_ble_eq_true rfl) (Nat.le_of_ble_eq_true rfl) (by omega) (by omega) dL_same_1040 (c_X8_count V _ _ _ h1040) ?_
    show Gn _ _ _ _ _ _ _ _ [.int (0 : Int32)]
    refine g_iload_n C 1043 5 dL_same_1043 rfl ?_
    refine g_icmp_ne C 1044 1100 dL_same_1044 (by decide) (fun hq => absurd hq (fun z => z rfl)) (fun _ => ?_)
    refine g_aload_n C 1047 3 dL_same_1047 rfl ?_
    refine g_bipush C 1048 dL_same_1048 kb_13 ?_
    obtain ⟨σ1050, h1050, hR1050⟩ := f_count13 _ hR1040 
    refine g_callX C hZ hzA hX 1050 [.int (13 : Int32)] [] rfl tw_1117 mv_X8_count rfl (Nat.le_of_ble_eq_true rfl) (Nat.le_of_ble_eq_true rfl) (Nat.le_of_ble_eq_true rfl) (by omega) (by omega) dL_same_1050 (c_X8_count V _ _ _ h1050) ?_
    show Gn _ _ _ _ _ _ _ _ [.int (0 : Int32)]
    refine g_iload_n C 1053 5 dL_same_1053 rfl ?_
    refine g_icmp_ne C 1054 1100 dL_same_1054 (by decide) (fun hq => absurd hq (fun z => z rfl)) (fun _ => ?_)
    refine g_aload_n C 1057 3 dL_same_1057 rfl ?_
    refine g_bipush C 1058 dL_same_1058 kb_14 ?_
    obtain ⟨σ1060, h1060, hR1060⟩ := f_count14 _ hR1050 
    refine g_callX C hZ hzA hX 1060 [.int (14 : Int32)] [] rfl tw_1117 mv_X8_count rfl (Nat.le_of_ble_eq_true rfl) (Nat.le_of_ble_eq_true rfl) (Nat.le_of_ble_eq_true rfl) (by omega) (by omega) dL_same_1060 (c_X8_count V _ _ _ h1060) ?_
    show Gn _ _ _ _ _ _ _ _ [.int (0 : Int32)]
    refine g_iload C 1063 6 dL_same_1063 rfl ?_
    refine g_icmp_ne C 1065 1100 dL_same_1065 (by decide) (fun hq => absurd hq (fun z => z rfl)) (fun _ => ?_)
    refine g_aload_n C 1068 3 dL_same_1068 rfl ?_
    refine g_bipush C 1069 dL_same_1069 kb_15 ?_
    obtain ⟨σ1071, h1071, hR1071⟩ := f_count15 _ hR1060 
    refine g_callX C hZ hzA hX 1071 [.int (15 : Int32)] [] rfl tw_1117 mv_X8_count rfl (Nat.le_of_ble_eq_true rfl) (Nat.le_of_ble_eq_true rfl) (Nat.le_of_ble_eq_true rfl) (by omega) (by omega) dL_same_1071 (c_X8_count V _ _ _ h1071) ?_
    show Gn _ _ _ _ _ _ _ _ [.int (0 : Int32)]
    refine g_iload C 1074 7 dL_same_1074 rfl ?_
    refine g_icmp_ne C 1076 1100 dL_same_1076 (by decide) (fun hq => absurd hq (fun z => z rfl)) (fun _ => ?_)
    refine g_aload_n C 1079 3 dL_same_1079 rfl ?_
    refine g_bipush C 1080 dL_same_1080 kb_16 ?_
    obtain ⟨σ1082, h1082, hR1082⟩ := f_count16 _ hR1071 
    refine g_callX C hZ hzA hX 1082 [.int (16 : Int32)] [] rfl tw_1117 mv_X8_count rfl (Nat.le_of_ble_eq_true rfl) (Nat.le_of_ble_eq_true rfl) (Nat.le_of_ble_eq_true rfl) (by omega) (by omega) dL_same_1082 (c_X8_count V _ _ _ h1082) ?_
    show Gn _ _ _ _ _ _ _ _ [.int (0 : Int32)]
    refine g_aload_n C 1085 4 dL_same_1085 rfl ?_
    refine g_aload_n C 1086 4 dL_same_1086 rfl ?_
    refine g_cgetN C (hW _) 1087 0 rfl 16 (Nat.le_of_ble_eq_true rfl) rfl (List.mem_of_getElem? (i := 22) rfl) rfl dL_same_1087 ?_
    refine g_callQV C hcs 1090 [.ref (u 16)] [.int (0 : Int32)] rfl tw_1360 mv_N9_sum rfl (Nat.le_of_ble_eq_true rfl) (Nat.le_of_ble_eq_true rfl) (Nat.le_of_ble_eq_true rfl) (by omega) (by omega) dL_same_1090 (q_sum4 (Kl K) V.1 V.2.2.1 z u iv fs (u 16)) (Wo.app (hW _) (Wo.oneC (hW _) 6 rfl)) rfl (fun rv1090 nl1090 hr1090 => ?_)
    obtain ⟨rfl, rfl⟩ := hr1090
    refine g_eq (ws2 := zW (Zc V) σ1082 ++ ([(q906, .inl (V.2.2.1 1, 8, .inl (cntA iv)))] : va_W)) (zwp rfl) ?_
    show Gn _ _ _ _ _ _ _ _ [.int (0 : Int32), .int (0 : Int32)]
    refine g_icmp_ne C 1093 1100 dL_same_1093 (by decide) (fun hq => absurd hq (fun z => z rfl)) (fun _ => ?_)
    refine g_iconst C 1096 dL_same_1096 ki_1 ?_
    refine g_goto C 1097 1101 dL_same_1097 (by decide) ?_
    exact g_zret C R0 (zb_nar (r := (1 : Int32)) (Or.inr rfl)) (by omega) (by omega) 1101 dL_same_1101 (fun H hP hD => ⟨_, [], ⟨rfl, hR1082, rfl⟩, (va_P_two hP).1, fun j x h => by simp at h, ⟨fun i j a b h => by simp at h, fun j x h => by simp at h⟩⟩)
  have k703_4 : ∀ (σe : Wd) (ce sl : Nat), R σe → ce + 3 ≤ 155 → sl + 30 ≤ 390 → Gn K V.1 (fun q => zS (Zc V) q ∨ (Ks K).heap.size ≤ q) (zW (Zc V) σe ++ ([] : va_W)) (ce) (sl) 703 [(6, .int (4 : Int32)), (0, .ref (zA (Zc V) 0)), (1, .ref z), (2, .int (1 : Int32)), (3, .int (0 : Int32)), (4, .int (0 : Int32)), (5, .int (0 : Int32))] [] := by
    intro σe ce sl hRe hce hsl
    refine g_iload C 703 0 dL_same_703 rfl ?_
    refine g_iconst C 705 dL_same_705 ki_4 ?_
    refine g_icmp_ge C 706 847 dL_same_706 (by decide) (fun _ => ?_) (fun hq => absurd (by decide) hq)
    refine g_sub [1, 2, 3, 4, 5, 6] rfl ?_
    exact k847 σe ce sl hRe hce hsl
  have k703_3 : ∀ (σe : Wd) (ce sl : Nat), R σe → ce + 3 ≤ 155 → sl + 30 ≤ 390 → Gn K V.1 (fun q => zS (Zc V) q ∨ (Ks K).heap.size ≤ q) (zW (Zc V) σe ++ ([] : va_W)) (ce) (sl) 703 [(6, .int (3 : Int32)), (0, .ref (zA (Zc V) 0)), (1, .ref z), (2, .int (1 : Int32)), (3, .int (0 : Int32)), (4, .int (0 : Int32)), (5, .int (0 : Int32))] [] := by
    intro σe ce sl hRe hce hsl
    have lo : ∀ (k o : Nat) (σo : Wd), o + k = n → R σo → Gn K V.1 (fun q => zS (Zc V) q ∨ (Ks K).heap.size ≤ q) (zW (Zc V) σo ++ ([] : va_W)) (ce) (sl) 772 [(7, .int (nI o)), (6, .int (3 : Int32)), (0, .ref (zA (Zc V) 0)), (1, .ref z), (2, .int (1 : Int32)), (3, .int (0 : Int32)), (4, .int (0 : Int32)), (5, .int (0 : Int32))] [] := by
      intro k
      induction k with
      | zero =>
        intro o σo hok hRo
        have hge : iv 0 ≤ nI o := by rw [hiv0, nI_leI (by omega) (by omega)]; omega
        refine g_iload C 772 0 dL_same_772 rfl ?_
        refine g_aload_n C 774 3 dL_same_774 rfl ?_
        refine g_cgetN C (hW _) 775 0 rfl 0 (Nat.le_of_ble_eq_true rfl) rfl (List.mem_of_getElem? (i := 7) rfl) rfl dL_same_775 ?_
        refine g_icmp_ge C 778 841 dL_same_778 (by decide) (fun _ => ?_) (fun hq => absurd hge hq)
        refine g_iinc (v := (4 : Int32)) (L' := [(6, .int (4 : Int32)), (7, .int (nI o)), (0, .ref (zA (Zc V) 0)), (1, .ref z), (2, .int (1 : Int32)), (3, .int (0 : Int32)), (4, .int (0 : Int32)), (5, .int (0 : Int32))]) C 841 1 dL_same_841 rfl (by decide) (hN _ (Nat.le_of_ble_eq_true rfl)) rfl ?_
        refine g_goto C 844 703 dL_same_844 (by decide) ?_
        refine g_sub [0, 2, 3, 4, 5, 6, 7] rfl ?_
        exact k703_4 σo ce sl hRo hce hsl
      | succ k ih =>
        intro o σo hok hRo
        have ho : o < n := by omega
        have hlt : ¬ iv 0 ≤ nI o := by rw [hiv0, nI_leI (by omega) (by omega)]; omega
        have ho5 : ib (nI o) 5 := (ib_nI (by omega)).mpr (by omega)
        refine g_iload C 772 0 dL_same_772 rfl ?_
        refine g_aload_n C 774 3 dL_same_774 rfl ?_
        refine g_cgetN C (hW _) 775 0 rfl 0 (Nat.le_of_ble_eq_true rfl) rfl (List.mem_of_getElem? (i := 7) rfl) rfl dL_same_775 ?_
        refine g_icmp_ge C 778 841 dL_same_778 (by decide) (fun hq => absurd hq hlt) (fun _ => ?_)
        refine g_iload_n C 781 4 dL_same_781 rfl ?_
        refine g_if_eq C 782 833 dL_same_782 (by decide) (fun hq => absurd hq (by decide)) (fun _ => ?_)
        refine g_aload_n C 785 2 dL_same_785 rfl ?_
        refine g_iload C 786 1 dL_same_786 rfl ?_
        refine g_iload C 788 0 dL_same_788 rfl ?_
        refine g_iconst C 790 dL_same_790 ki_0 ?_
        have h791 := f_of0 _ hRo 3 (by decide) o ho
        refine g_callX C hZ hzA hX 791 [.int (3 : Int32), .int (nI o), .int (0 : Int32)] [] rfl tw_954 mv_X8_of rfl (Nat.le_of_ble_eq_true rfl) (Nat.le_of_ble_eq_true rfl) (Nat.le_of_ble_eq_true rfl) (by omega) (by omega) dL_same_791 (c_X8_of V _ _ _ _ _ h791) ?_
        show Gn _ _ _ _ _ _ _ _ [.int (0 : Int32)]
        refine g_aload_n C 794 3 dL_same_794 rfl ?_
        refine g_cgetN C (hW _) 795 0 rfl 21 (Nat.le_of_ble_eq_true rfl) rfl (List.mem_of_getElem? (i := 27) rfl) rfl dL_same_795 ?_
        refine g_iload C 798 1 dL_same_798 rfl ?_
        refine g_caald (b := (u 21 + 1 + 3)) (ty := .array .int) C (hW _) 800 10 6 rfl rfl rfl (by decide) rfl dL_same_800 ?_
        refine g_iload C 801 0 dL_same_801 rfl ?_
        refine g_ciald C (hW _) 803 15 rfl ho5 dL_same_803 ?_
        show Gn _ _ _ _ _ _ _ _ (.int (0 : Int32) :: _)
        refine g_icmp_ne C 804 833 dL_same_804 (by decide) (fun hq => absurd hq (fun z => z rfl)) (fun _ => ?_)
        refine g_aload_n C 807 2 dL_same_807 rfl ?_
        refine g_iload C 808 1 dL_same_808 rfl ?_
        refine g_iload C 810 0 dL_same_810 rfl ?_
        refine g_iconst C 812 dL_same_812 ki_1 ?_
        have h813 := f_of1 _ hRo 3 (by decide) o ho
        refine g_callX C hZ hzA hX 813 [.int (3 : Int32), .int (nI o), .int (1 : Int32)] [] rfl tw_954 mv_X8_of rfl (Nat.le_of_ble_eq_true rfl) (Nat.le_of_ble_eq_true rfl) (Nat.le_of_ble_eq_true rfl) (by omega) (by omega) dL_same_813 (c_X8_of V _ _ _ _ _ h813) ?_
        show Gn _ _ _ _ _ _ _ _ [.int (0 : Int32)]
        refine g_aload_n C 816 3 dL_same_816 rfl ?_
        refine g_cgetN C (hW _) 817 0 rfl 22 (Nat.le_of_ble_eq_true rfl) rfl (List.mem_of_getElem? (i := 28) rfl) rfl dL_same_817 ?_
        refine g_iload C 820 1 dL_same_820 rfl ?_
        refine g_caald (b := (u 22 + 1 + 3)) (ty := .array .int) C (hW _) 822 11 6 rfl rfl rfl (by decide) rfl dL_same_822 ?_
        refine g_iload C 823 0 dL_same_823 rfl ?_
        refine g_ciald C (hW _) 825 19 rfl ho5 dL_same_825 ?_
        show Gn _ _ _ _ _ _ _ _ (.int (0 : Int32) :: _)
        refine g_icmp_ne C 826 833 dL_same_826 (by decide) (fun hq => absurd hq (fun z => z rfl)) (fun _ => ?_)
        refine g_iconst C 829 dL_same_829 ki_1 ?_
        refine g_goto C 830 834 dL_same_830 (by decide) ?_
        refine g_istore_n (L' := [(2, .int (1 : Int32)), (7, .int (nI o)), (6, .int (3 : Int32)), (0, .ref (zA (Zc V) 0)), (1, .ref z), (3, .int (0 : Int32)), (4, .int (0 : Int32)), (5, .int (0 : Int32))]) C 834 dL_same_834 rfl (hN _ (Nat.le_of_ble_eq_true rfl)) rfl ?_
        refine g_iinc (v := nI (o + 1)) (L' := [(7, .int (nI (o + 1))), (2, .int (1 : Int32)), (6, .int (3 : Int32)), (0, .ref (zA (Zc V) 0)), (1, .ref z), (3, .int (0 : Int32)), (4, .int (0 : Int32)), (5, .int (0 : Int32))]) C 835 1 dL_same_835 rfl (nI_1 _) (hN _ (Nat.le_of_ble_eq_true rfl)) rfl ?_
        refine g_goto C 838 772 dL_same_838 (by decide) ?_
        refine g_sub [0, 2, 3, 4, 1, 5, 6, 7] rfl ?_
        exact ih (o + 1) σo (by omega) hRo
    refine g_iload C 703 0 dL_same_703 rfl ?_
    refine g_iconst C 705 dL_same_705 ki_4 ?_
    refine g_icmp_ge C 706 847 dL_same_706 (by decide) (fun hq => absurd hq (by decide)) (fun _ => ?_)
    refine g_iload_n C 709 3 dL_same_709 rfl ?_
    refine g_if_eq C 710 767 dL_same_710 (by decide) (fun hq => absurd hq (by decide)) (fun _ => ?_)
    refine g_aload_n C 713 1 dL_same_713 rfl ?_
    refine g_iload C 714 0 dL_same_714 rfl ?_
    refine g_iconst C 716 dL_same_716 ki_0 ?_
    have h717 := f_session0 _ hRe 3 (by decide)
    refine g_callX C hZ hzA hX 717 [.int (3 : Int32), .int (0 : Int32)] [] rfl tw_950 mv_X8_session rfl (Nat.le_of_ble_eq_true rfl) (Nat.le_of_ble_eq_true rfl) (Nat.le_of_ble_eq_true rfl) (by omega) (by omega) dL_same_717 (c_X8_session V _ _ _ _ h717) ?_
    show Gn _ _ _ _ _ _ _ _ [.int (0 : Int32)]
    refine g_aload_n C 720 2 dL_same_720 rfl ?_
    refine g_cgetN C (hW _) 721 0 rfl 17 (Nat.le_of_ble_eq_true rfl) rfl (List.mem_of_getElem? (i := 23) rfl) rfl dL_same_721 ?_
    refine g_iload C 724 0 dL_same_724 rfl ?_
    refine g_ciald C (hW _) 726 7 rfl (by decide) dL_same_726 ?_
    show Gn _ _ _ _ _ _ _ _ (.int (0 : Int32) :: _)
    refine g_icmp_ne C 727 767 dL_same_727 (by decide) (fun hq => absurd hq (fun z => z rfl)) (fun _ => ?_)
    refine g_aload_n C 730 1 dL_same_730 rfl ?_
    refine g_iload C 731 0 dL_same_731 rfl ?_
    refine g_iconst C 733 dL_same_733 ki_1 ?_
    have h734 := f_session1 _ hRe 3 (by decide)
    refine g_callX C hZ hzA hX 734 [.int (3 : Int32), .int (1 : Int32)] [] rfl tw_950 mv_X8_session rfl (Nat.le_of_ble_eq_true rfl) (Nat.le_of_ble_eq_true rfl) (Nat.le_of_ble_eq_true rfl) (by omega) (by omega) dL_same_734 (c_X8_session V _ _ _ _ h734) ?_
    show Gn _ _ _ _ _ _ _ _ [.int (0 : Int32)]
    refine g_aload_n C 737 2 dL_same_737 rfl ?_
    refine g_cgetN C (hW _) 738 0 rfl 16 (Nat.le_of_ble_eq_true rfl) rfl (List.mem_of_getElem? (i := 22) rfl) rfl dL_same_738 ?_
    refine g_iload C 741 0 dL_same_741 rfl ?_
    refine g_ciald C (hW _) 743 6 rfl (by decide) dL_same_743 ?_
    show Gn _ _ _ _ _ _ _ _ (.int (0 : Int32) :: _)
    refine g_icmp_ne C 744 767 dL_same_744 (by decide) (fun hq => absurd hq (fun z => z rfl)) (fun _ => ?_)
    refine g_aload_n C 747 1 dL_same_747 rfl ?_
    refine g_iload C 748 0 dL_same_748 rfl ?_
    have h750 := f_got _ hRe 3 (by decide)
    refine g_callX C hZ hzA hX 750 [.int (3 : Int32)] [] rfl tw_788 mv_X8_got rfl (Nat.le_of_ble_eq_true rfl) (Nat.le_of_ble_eq_true rfl) (Nat.le_of_ble_eq_true rfl) (by omega) (by omega) dL_same_750 (c_X8_got V _ _ _ h750) ?_
    show Gn _ _ _ _ _ _ _ _ [.int (0 : Int32)]
    refine g_aload_n C 753 2 dL_same_753 rfl ?_
    refine g_cgetN C (hW _) 754 0 rfl 18 (Nat.le_of_ble_eq_true rfl) rfl (List.mem_of_getElem? (i := 24) rfl) rfl dL_same_754 ?_
    refine g_iload C 757 0 dL_same_757 rfl ?_
    refine g_ciald C (hW _) 759 8 rfl (by decide) dL_same_759 ?_
    show Gn _ _ _ _ _ _ _ _ (.int (0 : Int32) :: _)
    refine g_icmp_ne C 760 767 dL_same_760 (by decide) (fun hq => absurd hq (fun z => z rfl)) (fun _ => ?_)
    refine g_iconst C 763 dL_same_763 ki_1 ?_
    refine g_goto C 764 768 dL_same_764 (by decide) ?_
    refine g_istore_n (L' := [(2, .int (1 : Int32)), (6, .int (3 : Int32)), (0, .ref (zA (Zc V) 0)), (1, .ref z), (3, .int (0 : Int32)), (4, .int (0 : Int32)), (5, .int (0 : Int32))]) C 768 dL_same_768 rfl (hN _ (Nat.le_of_ble_eq_true rfl)) rfl ?_
    refine g_iconst C 769 dL_same_769 ki_0 ?_
    refine g_istore (L' := [(7, .int (0 : Int32)), (2, .int (1 : Int32)), (6, .int (3 : Int32)), (0, .ref (zA (Zc V) 0)), (1, .ref z), (3, .int (0 : Int32)), (4, .int (0 : Int32)), (5, .int (0 : Int32))]) C 770 dL_same_770 (hN _ (Nat.le_of_ble_eq_true rfl)) rfl ?_
    refine g_sub [0, 2, 3, 4, 1, 5, 6, 7] rfl ?_
    exact lo n 0 σe (by omega) hRe
  have k703_2 : ∀ (σe : Wd) (ce sl : Nat), R σe → ce + 3 ≤ 155 → sl + 30 ≤ 390 → Gn K V.1 (fun q => zS (Zc V) q ∨ (Ks K).heap.size ≤ q) (zW (Zc V) σe ++ ([] : va_W)) (ce) (sl) 703 [(6, .int (2 : Int32)), (0, .ref (zA (Zc V) 0)), (1, .ref z), (2, .int (1 : Int32)), (3, .int (0 : Int32)), (4, .int (0 : Int32)), (5, .int (0 : Int32))] [] := by
    intro σe ce sl hRe hce hsl
    have lo : ∀ (k o : Nat) (σo : Wd), o + k = n → R σo → Gn K V.1 (fun q => zS (Zc V) q ∨ (Ks K).heap.size ≤ q) (zW (Zc V) σo ++ ([] : va_W)) (ce) (sl) 772 [(7, .int (nI o)), (6, .int (2 : Int32)), (0, .ref (zA (Zc V) 0)), (1, .ref z), (2, .int (1 : Int32)), (3, .int (0 : Int32)), (4, .int (0 : Int32)), (5, .int (0 : Int32))] [] := by
      intro k
      induction k with
      | zero =>
        intro o σo hok hRo
        have hge : iv 0 ≤ nI o := by rw [hiv0, nI_leI (by omega) (by omega)]; omega
        refine g_iload C 772 0 dL_same_772 rfl ?_
        refine g_aload_n C 774 3 dL_same_774 rfl ?_
        refine g_cgetN C (hW _) 775 0 rfl 0 (Nat.le_of_ble_eq_true rfl) rfl (List.mem_of_getElem? (i := 7) rfl) rfl dL_same_775 ?_
        refine g_icmp_ge C 778 841 dL_same_778 (by decide) (fun _ => ?_) (fun hq => absurd hge hq)
        refine g_iinc (v := (3 : Int32)) (L' := [(6, .int (3 : Int32)), (7, .int (nI o)), (0, .ref (zA (Zc V) 0)), (1, .ref z), (2, .int (1 : Int32)), (3, .int (0 : Int32)), (4, .int (0 : Int32)), (5, .int (0 : Int32))]) C 841 1 dL_same_841 rfl (by decide) (hN _ (Nat.le_of_ble_eq_true rfl)) rfl ?_
        refine g_goto C 844 703 dL_same_844 (by decide) ?_
        refine g_sub [0, 2, 3, 4, 5, 6, 7] rfl ?_
        exact k703_3 σo ce sl hRo hce hsl
      | succ k ih =>
        intro o σo hok hRo
        have ho : o < n := by omega
        have hlt : ¬ iv 0 ≤ nI o := by rw [hiv0, nI_leI (by omega) (by omega)]; omega
        have ho5 : ib (nI o) 5 := (ib_nI (by omega)).mpr (by omega)
        refine g_iload C 772 0 dL_same_772 rfl ?_
        refine g_aload_n C 774 3 dL_same_774 rfl ?_
        refine g_cgetN C (hW _) 775 0 rfl 0 (Nat.le_of_ble_eq_true rfl) rfl (List.mem_of_getElem? (i := 7) rfl) rfl dL_same_775 ?_
        refine g_icmp_ge C 778 841 dL_same_778 (by decide) (fun hq => absurd hq hlt) (fun _ => ?_)
        refine g_iload_n C 781 4 dL_same_781 rfl ?_
        refine g_if_eq C 782 833 dL_same_782 (by decide) (fun hq => absurd hq (by decide)) (fun _ => ?_)
        refine g_aload_n C 785 2 dL_same_785 rfl ?_
        refine g_iload C 786 1 dL_same_786 rfl ?_
        refine g_iload C 788 0 dL_same_788 rfl ?_
        refine g_iconst C 790 dL_same_790 ki_0 ?_
        have h791 := f_of0 _ hRo 2 (by decide) o ho
        refine g_callX C hZ hzA hX 791 [.int (2 : Int32), .int (nI o), .int (0 : Int32)] [] rfl tw_954 mv_X8_of rfl (Nat.le_of_ble_eq_true rfl) (Nat.le_of_ble_eq_true rfl) (Nat.le_of_ble_eq_true rfl) (by omega) (by omega) dL_same_791 (c_X8_of V _ _ _ _ _ h791) ?_
        show Gn _ _ _ _ _ _ _ _ [.int (0 : Int32)]
        refine g_aload_n C 794 3 dL_same_794 rfl ?_
        refine g_cgetN C (hW _) 795 0 rfl 21 (Nat.le_of_ble_eq_true rfl) rfl (List.mem_of_getElem? (i := 27) rfl) rfl dL_same_795 ?_
        refine g_iload C 798 1 dL_same_798 rfl ?_
        refine g_caald (b := (u 21 + 1 + 2)) (ty := .array .int) C (hW _) 800 10 6 rfl rfl rfl (by decide) rfl dL_same_800 ?_
        refine g_iload C 801 0 dL_same_801 rfl ?_
        refine g_ciald C (hW _) 803 14 rfl ho5 dL_same_803 ?_
        show Gn _ _ _ _ _ _ _ _ (.int (0 : Int32) :: _)
        refine g_icmp_ne C 804 833 dL_same_804 (by decide) (fun hq => absurd hq (fun z => z rfl)) (fun _ => ?_)
        refine g_aload_n C 807 2 dL_same_807 rfl ?_
        refine g_iload C 808 1 dL_same_808 rfl ?_
        refine g_iload C 810 0 dL_same_810 rfl ?_
        refine g_iconst C 812 dL_same_812 ki_1 ?_
        have h813 := f_of1 _ hRo 2 (by decide) o ho
        refine g_callX C hZ hzA hX 813 [.int (2 : Int32), .int (nI o), .int (1 : Int32)] [] rfl tw_954 mv_X8_of rfl (Nat.le_of_ble_eq_true rfl) (Nat.le_of_ble_eq_true rfl) (Nat.le_of_ble_eq_true rfl) (by omega) (by omega) dL_same_813 (c_X8_of V _ _ _ _ _ h813) ?_
        show Gn _ _ _ _ _ _ _ _ [.int (0 : Int32)]
        refine g_aload_n C 816 3 dL_same_816 rfl ?_
        refine g_cgetN C (hW _) 817 0 rfl 22 (Nat.le_of_ble_eq_true rfl) rfl (List.mem_of_getElem? (i := 28) rfl) rfl dL_same_817 ?_
        refine g_iload C 820 1 dL_same_820 rfl ?_
        refine g_caald (b := (u 22 + 1 + 2)) (ty := .array .int) C (hW _) 822 11 6 rfl rfl rfl (by decide) rfl dL_same_822 ?_
        refine g_iload C 823 0 dL_same_823 rfl ?_
        refine g_ciald C (hW _) 825 18 rfl ho5 dL_same_825 ?_
        show Gn _ _ _ _ _ _ _ _ (.int (0 : Int32) :: _)
        refine g_icmp_ne C 826 833 dL_same_826 (by decide) (fun hq => absurd hq (fun z => z rfl)) (fun _ => ?_)
        refine g_iconst C 829 dL_same_829 ki_1 ?_
        refine g_goto C 830 834 dL_same_830 (by decide) ?_
        refine g_istore_n (L' := [(2, .int (1 : Int32)), (7, .int (nI o)), (6, .int (2 : Int32)), (0, .ref (zA (Zc V) 0)), (1, .ref z), (3, .int (0 : Int32)), (4, .int (0 : Int32)), (5, .int (0 : Int32))]) C 834 dL_same_834 rfl (hN _ (Nat.le_of_ble_eq_true rfl)) rfl ?_
        refine g_iinc (v := nI (o + 1)) (L' := [(7, .int (nI (o + 1))), (2, .int (1 : Int32)), (6, .int (2 : Int32)), (0, .ref (zA (Zc V) 0)), (1, .ref z), (3, .int (0 : Int32)), (4, .int (0 : Int32)), (5, .int (0 : Int32))]) C 835 1 dL_same_835 rfl (nI_1 _) (hN _ (Nat.le_of_ble_eq_true rfl)) rfl ?_
        refine g_goto C 838 772 dL_same_838 (by decide) ?_
        refine g_sub [0, 2, 3, 4, 1, 5, 6, 7] rfl ?_
        exact ih (o + 1) σo (by omega) hRo
    refine g_iload C 703 0 dL_same_703 rfl ?_
    refine g_iconst C 705 dL_same_705 ki_4 ?_
    refine g_icmp_ge C 706 847 dL_same_706 (by decide) (fun hq => absurd hq (by decide)) (fun _ => ?_)
    refine g_iload_n C 709 3 dL_same_709 rfl ?_
    refine g_if_eq C 710 767 dL_same_710 (by decide) (fun hq => absurd hq (by decide)) (fun _ => ?_)
    refine g_aload_n C 713 1 dL_same_713 rfl ?_
    refine g_iload C 714 0 dL_same_714 rfl ?_
    refine g_iconst C 716 dL_same_716 ki_0 ?_
    have h717 := f_session0 _ hRe 2 (by decide)
    refine g_callX C hZ hzA hX 717 [.int (2 : Int32), .int (0 : Int32)] [] rfl tw_950 mv_X8_session rfl (Nat.le_of_ble_eq_true rfl) (Nat.le_of_ble_eq_true rfl) (Nat.le_of_ble_eq_true rfl) (by omega) (by omega) dL_same_717 (c_X8_session V _ _ _ _ h717) ?_
    show Gn _ _ _ _ _ _ _ _ [.int (0 : Int32)]
    refine g_aload_n C 720 2 dL_same_720 rfl ?_
    refine g_cgetN C (hW _) 721 0 rfl 17 (Nat.le_of_ble_eq_true rfl) rfl (List.mem_of_getElem? (i := 23) rfl) rfl dL_same_721 ?_
    refine g_iload C 724 0 dL_same_724 rfl ?_
    refine g_ciald C (hW _) 726 7 rfl (by decide) dL_same_726 ?_
    show Gn _ _ _ _ _ _ _ _ (.int (0 : Int32) :: _)
    refine g_icmp_ne C 727 767 dL_same_727 (by decide) (fun hq => absurd hq (fun z => z rfl)) (fun _ => ?_)
    refine g_aload_n C 730 1 dL_same_730 rfl ?_
    refine g_iload C 731 0 dL_same_731 rfl ?_
    refine g_iconst C 733 dL_same_733 ki_1 ?_
    have h734 := f_session1 _ hRe 2 (by decide)
    refine g_callX C hZ hzA hX 734 [.int (2 : Int32), .int (1 : Int32)] [] rfl tw_950 mv_X8_session rfl (Nat.le_of_ble_eq_true rfl) (Nat.le_of_ble_eq_true rfl) (Nat.le_of_ble_eq_true rfl) (by omega) (by omega) dL_same_734 (c_X8_session V _ _ _ _ h734) ?_
    show Gn _ _ _ _ _ _ _ _ [.int (0 : Int32)]
    refine g_aload_n C 737 2 dL_same_737 rfl ?_
    refine g_cgetN C (hW _) 738 0 rfl 16 (Nat.le_of_ble_eq_true rfl) rfl (List.mem_of_getElem? (i := 22) rfl) rfl dL_same_738 ?_
    refine g_iload C 741 0 dL_same_741 rfl ?_
    refine g_ciald C (hW _) 743 6 rfl (by decide) dL_same_743 ?_
    show Gn _ _ _ _ _ _ _ _ (.int (0 : Int32) :: _)
    refine g_icmp_ne C 744 767 dL_same_744 (by decide) (fun hq => absurd hq (fun z => z rfl)) (fun _ => ?_)
    refine g_aload_n C 747 1 dL_same_747 rfl ?_
    refine g_iload C 748 0 dL_same_748 rfl ?_
    have h750 := f_got _ hRe 2 (by decide)
    refine g_callX C hZ hzA hX 750 [.int (2 : Int32)] [] rfl tw_788 mv_X8_got rfl (Nat.le_of_ble_eq_true rfl) (Nat.le_of_ble_eq_true rfl) (Nat.le_of_ble_eq_true rfl) (by omega) (by omega) dL_same_750 (c_X8_got V _ _ _ h750) ?_
    show Gn _ _ _ _ _ _ _ _ [.int (0 : Int32)]
    refine g_aload_n C 753 2 dL_same_753 rfl ?_
    refine g_cgetN C (hW _) 754 0 rfl 18 (Nat.le_of_ble_eq_true rfl) rfl (List.mem_of_getElem? (i := 24) rfl) rfl dL_same_754 ?_
    refine g_iload C 757 0 dL_same_757 rfl ?_
    refine g_ciald C (hW _) 759 8 rfl (by decide) dL_same_759 ?_
    show Gn _ _ _ _ _ _ _ _ (.int (0 : Int32) :: _)
    refine g_icmp_ne C 760 767 dL_same_760 (by decide) (fun hq => absurd hq (fun z => z rfl)) (fun _ => ?_)
    refine g_iconst C 763 dL_same_763 ki_1 ?_
    refine g_goto C 764 768 dL_same_764 (by decide) ?_
    refine g_istore_n (L' := [(2, .int (1 : Int32)), (6, .int (2 : Int32)), (0, .ref (zA (Zc V) 0)), (1, .ref z), (3, .int (0 : Int32)), (4, .int (0 : Int32)), (5, .int (0 : Int32))]) C 768 dL_same_768 rfl (hN _ (Nat.le_of_ble_eq_true rfl)) rfl ?_
    refine g_iconst C 769 dL_same_769 ki_0 ?_
    refine g_istore (L' := [(7, .int (0 : Int32)), (2, .int (1 : Int32)), (6, .int (2 : Int32)), (0, .ref (zA (Zc V) 0)), (1, .ref z), (3, .int (0 : Int32)), (4, .int (0 : Int32)), (5, .int (0 : Int32))]) C 770 dL_same_770 (hN _ (Nat.le_of_ble_eq_true rfl)) rfl ?_
    refine g_sub [0, 2, 3, 4, 1, 5, 6, 7] rfl ?_
    exact lo n 0 σe (by omega) hRe
  have k703_1 : ∀ (σe : Wd) (ce sl : Nat), R σe → ce + 3 ≤ 155 → sl + 30 ≤ 390 → Gn K V.1 (fun q => zS (Zc V) q ∨ (Ks K).heap.size ≤ q) (zW (Zc V) σe ++ ([] : va_W)) (ce) (sl) 703 [(6, .int (1 : Int32)), (0, .ref (zA (Zc V) 0)), (1, .ref z), (2, .int (1 : Int32)), (3, .int (0 : Int32)), (4, .int (0 : Int32)), (5, .int (0 : Int32))] [] := by
    intro σe ce sl hRe hce hsl
    have lo : ∀ (k o : Nat) (σo : Wd), o + k = n → R σo → Gn K V.1 (fun q => zS (Zc V) q ∨ (Ks K).heap.size ≤ q) (zW (Zc V) σo ++ ([] : va_W)) (ce) (sl) 772 [(7, .int (nI o)), (6, .int (1 : Int32)), (0, .ref (zA (Zc V) 0)), (1, .ref z), (2, .int (1 : Int32)), (3, .int (0 : Int32)), (4, .int (0 : Int32)), (5, .int (0 : Int32))] [] := by
      intro k
      induction k with
      | zero =>
        intro o σo hok hRo
        have hge : iv 0 ≤ nI o := by rw [hiv0, nI_leI (by omega) (by omega)]; omega
        refine g_iload C 772 0 dL_same_772 rfl ?_
        refine g_aload_n C 774 3 dL_same_774 rfl ?_
        refine g_cgetN C (hW _) 775 0 rfl 0 (Nat.le_of_ble_eq_true rfl) rfl (List.mem_of_getElem? (i := 7) rfl) rfl dL_same_775 ?_
        refine g_icmp_ge C 778 841 dL_same_778 (by decide) (fun _ => ?_) (fun hq => absurd hge hq)
        refine g_iinc (v := (2 : Int32)) (L' := [(6, .int (2 : Int32)), (7, .int (nI o)), (0, .ref (zA (Zc V) 0)), (1, .ref z), (2, .int (1 : Int32)), (3, .int (0 : Int32)), (4, .int (0 : Int32)), (5, .int (0 : Int32))]) C 841 1 dL_same_841 rfl (by decide) (hN _ (Nat.le_of_ble_eq_true rfl)) rfl ?_
        refine g_goto C 844 703 dL_same_844 (by decide) ?_
        refine g_sub [0, 2, 3, 4, 5, 6, 7] rfl ?_
        exact k703_2 σo ce sl hRo hce hsl
      | succ k ih =>
        intro o σo hok hRo
        have ho : o < n := by omega
        have hlt : ¬ iv 0 ≤ nI o := by rw [hiv0, nI_leI (by omega) (by omega)]; omega
        have ho5 : ib (nI o) 5 := (ib_nI (by omega)).mpr (by omega)
        refine g_iload C 772 0 dL_same_772 rfl ?_
        refine g_aload_n C 774 3 dL_same_774 rfl ?_
        refine g_cgetN C (hW _) 775 0 rfl 0 (Nat.le_of_ble_eq_true rfl) rfl (List.mem_of_getElem? (i := 7) rfl) rfl dL_same_775 ?_
        refine g_icmp_ge C 778 841 dL_same_778 (by decide) (fun hq => absurd hq hlt) (fun _ => ?_)
        refine g_iload_n C 781 4 dL_same_781 rfl ?_
        refine g_if_eq C 782 833 dL_same_782 (by decide) (fun hq => absurd hq (by decide)) (fun _ => ?_)
        refine g_aload_n C 785 2 dL_same_785 rfl ?_
        refine g_iload C 786 1 dL_same_786 rfl ?_
        refine g_iload C 788 0 dL_same_788 rfl ?_
        refine g_iconst C 790 dL_same_790 ki_0 ?_
        have h791 := f_of0 _ hRo 1 (by decide) o ho
        refine g_callX C hZ hzA hX 791 [.int (1 : Int32), .int (nI o), .int (0 : Int32)] [] rfl tw_954 mv_X8_of rfl (Nat.le_of_ble_eq_true rfl) (Nat.le_of_ble_eq_true rfl) (Nat.le_of_ble_eq_true rfl) (by omega) (by omega) dL_same_791 (c_X8_of V _ _ _ _ _ h791) ?_
        show Gn _ _ _ _ _ _ _ _ [.int (0 : Int32)]
        refine g_aload_n C 794 3 dL_same_794 rfl ?_
        refine g_cgetN C (hW _) 795 0 rfl 21 (Nat.le_of_ble_eq_true rfl) rfl (List.mem_of_getElem? (i := 27) rfl) rfl dL_same_795 ?_
        refine g_iload C 798 1 dL_same_798 rfl ?_
        refine g_caald (b := (u 21 + 1 + 1)) (ty := .array .int) C (hW _) 800 10 6 rfl rfl rfl (by decide) rfl dL_same_800 ?_
        refine g_iload C 801 0 dL_same_801 rfl ?_
        refine g_ciald C (hW _) 803 13 rfl ho5 dL_same_803 ?_
        show Gn _ _ _ _ _ _ _ _ (.int (0 : Int32) :: _)
        refine g_icmp_ne C 804 833 dL_same_804 (by decide) (fun hq => absurd hq (fun z => z rfl)) (fun _ => ?_)
        refine g_aload_n C 807 2 dL_same_807 rfl ?_
        refine g_iload C 808 1 dL_same_808 rfl ?_
        refine g_iload C 810 0 dL_same_810 rfl ?_
        refine g_iconst C 812 dL_same_812 ki_1 ?_
        have h813 := f_of1 _ hRo 1 (by decide) o ho
        refine g_callX C hZ hzA hX 813 [.int (1 : Int32), .int (nI o), .int (1 : Int32)] [] rfl tw_954 mv_X8_of rfl (Nat.le_of_ble_eq_true rfl) (Nat.le_of_ble_eq_true rfl) (Nat.le_of_ble_eq_true rfl) (by omega) (by omega) dL_same_813 (c_X8_of V _ _ _ _ _ h813) ?_
        show Gn _ _ _ _ _ _ _ _ [.int (0 : Int32)]
        refine g_aload_n C 816 3 dL_same_816 rfl ?_
        refine g_cgetN C (hW _) 817 0 rfl 22 (Nat.le_of_ble_eq_true rfl) rfl (List.mem_of_getElem? (i := 28) rfl) rfl dL_same_817 ?_
        refine g_iload C 820 1 dL_same_820 rfl ?_
        refine g_caald (b := (u 22 + 1 + 1)) (ty := .array .int) C (hW _) 822 11 6 rfl rfl rfl (by decide) rfl dL_same_822 ?_
        refine g_iload C 823 0 dL_same_823 rfl ?_
        refine g_ciald C (hW _) 825 17 rfl ho5 dL_same_825 ?_
        show Gn _ _ _ _ _ _ _ _ (.int (0 : Int32) :: _)
        refine g_icmp_ne C 826 833 dL_same_826 (by decide) (fun hq => absurd hq (fun z => z rfl)) (fun _ => ?_)
        refine g_iconst C 829 dL_same_829 ki_1 ?_
        refine g_goto C 830 834 dL_same_830 (by decide) ?_
        refine g_istore_n (L' := [(2, .int (1 : Int32)), (7, .int (nI o)), (6, .int (1 : Int32)), (0, .ref (zA (Zc V) 0)), (1, .ref z), (3, .int (0 : Int32)), (4, .int (0 : Int32)), (5, .int (0 : Int32))]) C 834 dL_same_834 rfl (hN _ (Nat.le_of_ble_eq_true rfl)) rfl ?_
        refine g_iinc (v := nI (o + 1)) (L' := [(7, .int (nI (o + 1))), (2, .int (1 : Int32)), (6, .int (1 : Int32)), (0, .ref (zA (Zc V) 0)), (1, .ref z), (3, .int (0 : Int32)), (4, .int (0 : Int32)), (5, .int (0 : Int32))]) C 835 1 dL_same_835 rfl (nI_1 _) (hN _ (Nat.le_of_ble_eq_true rfl)) rfl ?_
        refine g_goto C 838 772 dL_same_838 (by decide) ?_
        refine g_sub [0, 2, 3, 4, 1, 5, 6, 7] rfl ?_
        exact ih (o + 1) σo (by omega) hRo
    refine g_iload C 703 0 dL_same_703 rfl ?_
    refine g_iconst C 705 dL_same_705 ki_4 ?_
    refine g_icmp_ge C 706 847 dL_same_706 (by decide) (fun hq => absurd hq (by decide)) (fun _ => ?_)
    refine g_iload_n C 709 3 dL_same_709 rfl ?_
    refine g_if_eq C 710 767 dL_same_710 (by decide) (fun hq => absurd hq (by decide)) (fun _ => ?_)
    refine g_aload_n C 713 1 dL_same_713 rfl ?_
    refine g_iload C 714 0 dL_same_714 rfl ?_
    refine g_iconst C 716 dL_same_716 ki_0 ?_
    have h717 := f_session0 _ hRe 1 (by decide)
    refine g_callX C hZ hzA hX 717 [.int (1 : Int32), .int (0 : Int32)] [] rfl tw_950 mv_X8_session rfl (Nat.le_of_ble_eq_true rfl) (Nat.le_of_ble_eq_true rfl) (Nat.le_of_ble_eq_true rfl) (by omega) (by omega) dL_same_717 (c_X8_session V _ _ _ _ h717) ?_
    show Gn _ _ _ _ _ _ _ _ [.int (0 : Int32)]
    refine g_aload_n C 720 2 dL_same_720 rfl ?_
    refine g_cgetN C (hW _) 721 0 rfl 17 (Nat.le_of_ble_eq_true rfl) rfl (List.mem_of_getElem? (i := 23) rfl) rfl dL_same_721 ?_
    refine g_iload C 724 0 dL_same_724 rfl ?_
    refine g_ciald C (hW _) 726 7 rfl (by decide) dL_same_726 ?_
    show Gn _ _ _ _ _ _ _ _ (.int (0 : Int32) :: _)
    refine g_icmp_ne C 727 767 dL_same_727 (by decide) (fun hq => absurd hq (fun z => z rfl)) (fun _ => ?_)
    refine g_aload_n C 730 1 dL_same_730 rfl ?_
    refine g_iload C 731 0 dL_same_731 rfl ?_
    refine g_iconst C 733 dL_same_733 ki_1 ?_
    have h734 := f_session1 _ hRe 1 (by decide)
    refine g_callX C hZ hzA hX 734 [.int (1 : Int32), .int (1 : Int32)] [] rfl tw_950 mv_X8_session rfl (Nat.le_of_ble_eq_true rfl) (Nat.le_of_ble_eq_true rfl) (Nat.le_of_ble_eq_true rfl) (by omega) (by omega) dL_same_734 (c_X8_session V _ _ _ _ h734) ?_
    show Gn _ _ _ _ _ _ _ _ [.int (0 : Int32)]
    refine g_aload_n C 737 2 dL_same_737 rfl ?_
    refine g_cgetN C (hW _) 738 0 rfl 16 (Nat.le_of_ble_eq_true rfl) rfl (List.mem_of_getElem? (i := 22) rfl) rfl dL_same_738 ?_
    refine g_iload C 741 0 dL_same_741 rfl ?_
    refine g_ciald C (hW _) 743 6 rfl (by decide) dL_same_743 ?_
    show Gn _ _ _ _ _ _ _ _ (.int (0 : Int32) :: _)
    refine g_icmp_ne C 744 767 dL_same_744 (by decide) (fun hq => absurd hq (fun z => z rfl)) (fun _ => ?_)
    refine g_aload_n C 747 1 dL_same_747 rfl ?_
    refine g_iload C 748 0 dL_same_748 rfl ?_
    have h750 := f_got _ hRe 1 (by decide)
    refine g_callX C hZ hzA hX 750 [.int (1 : Int32)] [] rfl tw_788 mv_X8_got rfl (Nat.le_of_ble_eq_true rfl) (Nat.le_of_ble_eq_true rfl) (Nat.le_of_ble_eq_true rfl) (by omega) (by omega) dL_same_750 (c_X8_got V _ _ _ h750) ?_
    show Gn _ _ _ _ _ _ _ _ [.int (0 : Int32)]
    refine g_aload_n C 753 2 dL_same_753 rfl ?_
    refine g_cgetN C (hW _) 754 0 rfl 18 (Nat.le_of_ble_eq_true rfl) rfl (List.mem_of_getElem? (i := 24) rfl) rfl dL_same_754 ?_
    refine g_iload C 757 0 dL_same_757 rfl ?_
    refine g_ciald C (hW _) 759 8 rfl (by decide) dL_same_759 ?_
    show Gn _ _ _ _ _ _ _ _ (.int (0 : Int32) :: _)
    refine g_icmp_ne C 760 767 dL_same_760 (by decide) (fun hq => absurd hq (fun z => z rfl)) (fun _ => ?_)
    refine g_iconst C 763 dL_same_763 ki_1 ?_
    refine g_goto C 764 768 dL_same_764 (by decide) ?_
    refine g_istore_n (L' := [(2, .int (1 : Int32)), (6, .int (1 : Int32)), (0, .ref (zA (Zc V) 0)), (1, .ref z), (3, .int (0 : Int32)), (4, .int (0 : Int32)), (5, .int (0 : Int32))]) C 768 dL_same_768 rfl (hN _ (Nat.le_of_ble_eq_true rfl)) rfl ?_
    refine g_iconst C 769 dL_same_769 ki_0 ?_
    refine g_istore (L' := [(7, .int (0 : Int32)), (2, .int (1 : Int32)), (6, .int (1 : Int32)), (0, .ref (zA (Zc V) 0)), (1, .ref z), (3, .int (0 : Int32)), (4, .int (0 : Int32)), (5, .int (0 : Int32))]) C 770 dL_same_770 (hN _ (Nat.le_of_ble_eq_true rfl)) rfl ?_
    refine g_sub [0, 2, 3, 4, 1, 5, 6, 7] rfl ?_
    exact lo n 0 σe (by omega) hRe
  have k703_0 : ∀ (σe : Wd) (ce sl : Nat), R σe → ce + 3 ≤ 155 → sl + 30 ≤ 390 → Gn K V.1 (fun q => zS (Zc V) q ∨ (Ks K).heap.size ≤ q) (zW (Zc V) σe ++ ([] : va_W)) (ce) (sl) 703 [(6, .int (0 : Int32)), (0, .ref (zA (Zc V) 0)), (1, .ref z), (2, .int (1 : Int32)), (3, .int (0 : Int32)), (4, .int (0 : Int32)), (5, .int (0 : Int32))] [] := by
    intro σe ce sl hRe hce hsl
    have lo : ∀ (k o : Nat) (σo : Wd), o + k = n → R σo → Gn K V.1 (fun q => zS (Zc V) q ∨ (Ks K).heap.size ≤ q) (zW (Zc V) σo ++ ([] : va_W)) (ce) (sl) 772 [(7, .int (nI o)), (6, .int (0 : Int32)), (0, .ref (zA (Zc V) 0)), (1, .ref z), (2, .int (1 : Int32)), (3, .int (0 : Int32)), (4, .int (0 : Int32)), (5, .int (0 : Int32))] [] := by
      intro k
      induction k with
      | zero =>
        intro o σo hok hRo
        have hge : iv 0 ≤ nI o := by rw [hiv0, nI_leI (by omega) (by omega)]; omega
        refine g_iload C 772 0 dL_same_772 rfl ?_
        refine g_aload_n C 774 3 dL_same_774 rfl ?_
        refine g_cgetN C (hW _) 775 0 rfl 0 (Nat.le_of_ble_eq_true rfl) rfl (List.mem_of_getElem? (i := 7) rfl) rfl dL_same_775 ?_
        refine g_icmp_ge C 778 841 dL_same_778 (by decide) (fun _ => ?_) (fun hq => absurd hge hq)
        refine g_iinc (v := (1 : Int32)) (L' := [(6, .int (1 : Int32)), (7, .int (nI o)), (0, .ref (zA (Zc V) 0)), (1, .ref z), (2, .int (1 : Int32)), (3, .int (0 : Int32)), (4, .int (0 : Int32)), (5, .int (0 : Int32))]) C 841 1 dL_same_841 rfl (by decide) (hN _ (Nat.le_of_ble_eq_true rfl)) rfl ?_
        refine g_goto C 844 703 dL_same_844 (by decide) ?_
        refine g_sub [0, 2, 3, 4, 5, 6, 7] rfl ?_
        exact k703_1 σo ce sl hRo hce hsl
      | succ k ih =>
        intro o σo hok hRo
        have ho : o < n := by omega
        have hlt : ¬ iv 0 ≤ nI o := by rw [hiv0, nI_leI (by omega) (by omega)]; omega
        have ho5 : ib (nI o) 5 := (ib_nI (by omega)).mpr (by omega)
        refine g_iload C 772 0 dL_same_772 rfl ?_
        refine g_aload_n C 774 3 dL_same_774 rfl ?_
        refine g_cgetN C (hW _) 775 0 rfl 0 (Nat.le_of_ble_eq_true rfl) rfl (List.mem_of_getElem? (i := 7) rfl) rfl dL_same_775 ?_
        refine g_icmp_ge C 778 841 dL_same_778 (by decide) (fun hq => absurd hq hlt) (fun _ => ?_)
        refine g_iload_n C 781 4 dL_same_781 rfl ?_
        refine g_if_eq C 782 833 dL_same_782 (by decide) (fun hq => absurd hq (by decide)) (fun _ => ?_)
        refine g_aload_n C 785 2 dL_same_785 rfl ?_
        refine g_iload C 786 1 dL_same_786 rfl ?_
        refine g_iload C 788 0 dL_same_788 rfl ?_
        refine g_iconst C 790 dL_same_790 ki_0 ?_
        have h791 := f_of0 _ hRo 0 (by decide) o ho
        refine g_callX C hZ hzA hX 791 [.int (0 : Int32), .int (nI o), .int (0 : Int32)] [] rfl tw_954 mv_X8_of rfl (Nat.le_of_ble_eq_true rfl) (Nat.le_of_ble_eq_true rfl) (Nat.le_of_ble_eq_true rfl) (by omega) (by omega) dL_same_791 (c_X8_of V _ _ _ _ _ h791) ?_
        show Gn _ _ _ _ _ _ _ _ [.int (0 : Int32)]
        refine g_aload_n C 794 3 dL_same_794 rfl ?_
        refine g_cgetN C (hW _) 795 0 rfl 21 (Nat.le_of_ble_eq_true rfl) rfl (List.mem_of_getElem? (i := 27) rfl) rfl dL_same_795 ?_
        refine g_iload C 798 1 dL_same_798 rfl ?_
        refine g_caald (b := (u 21 + 1 + 0)) (ty := .array .int) C (hW _) 800 10 6 rfl rfl rfl (by decide) rfl dL_same_800 ?_
        refine g_iload C 801 0 dL_same_801 rfl ?_
        refine g_ciald C (hW _) 803 12 rfl ho5 dL_same_803 ?_
        show Gn _ _ _ _ _ _ _ _ (.int (0 : Int32) :: _)
        refine g_icmp_ne C 804 833 dL_same_804 (by decide) (fun hq => absurd hq (fun z => z rfl)) (fun _ => ?_)
        refine g_aload_n C 807 2 dL_same_807 rfl ?_
        refine g_iload C 808 1 dL_same_808 rfl ?_
        refine g_iload C 810 0 dL_same_810 rfl ?_
        refine g_iconst C 812 dL_same_812 ki_1 ?_
        have h813 := f_of1 _ hRo 0 (by decide) o ho
        refine g_callX C hZ hzA hX 813 [.int (0 : Int32), .int (nI o), .int (1 : Int32)] [] rfl tw_954 mv_X8_of rfl (Nat.le_of_ble_eq_true rfl) (Nat.le_of_ble_eq_true rfl) (Nat.le_of_ble_eq_true rfl) (by omega) (by omega) dL_same_813 (c_X8_of V _ _ _ _ _ h813) ?_
        show Gn _ _ _ _ _ _ _ _ [.int (0 : Int32)]
        refine g_aload_n C 816 3 dL_same_816 rfl ?_
        refine g_cgetN C (hW _) 817 0 rfl 22 (Nat.le_of_ble_eq_true rfl) rfl (List.mem_of_getElem? (i := 28) rfl) rfl dL_same_817 ?_
        refine g_iload C 820 1 dL_same_820 rfl ?_
        refine g_caald (b := (u 22 + 1 + 0)) (ty := .array .int) C (hW _) 822 11 6 rfl rfl rfl (by decide) rfl dL_same_822 ?_
        refine g_iload C 823 0 dL_same_823 rfl ?_
        refine g_ciald C (hW _) 825 16 rfl ho5 dL_same_825 ?_
        show Gn _ _ _ _ _ _ _ _ (.int (0 : Int32) :: _)
        refine g_icmp_ne C 826 833 dL_same_826 (by decide) (fun hq => absurd hq (fun z => z rfl)) (fun _ => ?_)
        refine g_iconst C 829 dL_same_829 ki_1 ?_
        refine g_goto C 830 834 dL_same_830 (by decide) ?_
        refine g_istore_n (L' := [(2, .int (1 : Int32)), (7, .int (nI o)), (6, .int (0 : Int32)), (0, .ref (zA (Zc V) 0)), (1, .ref z), (3, .int (0 : Int32)), (4, .int (0 : Int32)), (5, .int (0 : Int32))]) C 834 dL_same_834 rfl (hN _ (Nat.le_of_ble_eq_true rfl)) rfl ?_
        refine g_iinc (v := nI (o + 1)) (L' := [(7, .int (nI (o + 1))), (2, .int (1 : Int32)), (6, .int (0 : Int32)), (0, .ref (zA (Zc V) 0)), (1, .ref z), (3, .int (0 : Int32)), (4, .int (0 : Int32)), (5, .int (0 : Int32))]) C 835 1 dL_same_835 rfl (nI_1 _) (hN _ (Nat.le_of_ble_eq_true rfl)) rfl ?_
        refine g_goto C 838 772 dL_same_838 (by decide) ?_
        refine g_sub [0, 2, 3, 4, 1, 5, 6, 7] rfl ?_
        exact ih (o + 1) σo (by omega) hRo
    refine g_iload C 703 0 dL_same_703 rfl ?_
    refine g_iconst C 705 dL_same_705 ki_4 ?_
    refine g_icmp_ge C 706 847 dL_same_706 (by decide) (fun hq => absurd hq (by decide)) (fun _ => ?_)
    refine g_iload_n C 709 3 dL_same_709 rfl ?_
    refine g_if_eq C 710 767 dL_same_710 (by decide) (fun hq => absurd hq (by decide)) (fun _ => ?_)
    refine g_aload_n C 713 1 dL_same_713 rfl ?_
    refine g_iload C 714 0 dL_same_714 rfl ?_
    refine g_iconst C 716 dL_same_716 ki_0 ?_
    have h717 := f_session0 _ hRe 0 (by decide)
    refine g_callX C hZ hzA hX 717 [.int (0 : Int32), .int (0 : Int32)] [] rfl tw_950 mv_X8_session rfl (Nat.le_of_ble_eq_true rfl) (Nat.le_of_ble_eq_true rfl) (Nat.le_of_ble_eq_true rfl) (by omega) (by omega) dL_same_717 (c_X8_session V _ _ _ _ h717) ?_
    show Gn _ _ _ _ _ _ _ _ [.int (0 : Int32)]
    refine g_aload_n C 720 2 dL_same_720 rfl ?_
    refine g_cgetN C (hW _) 721 0 rfl 17 (Nat.le_of_ble_eq_true rfl) rfl (List.mem_of_getElem? (i := 23) rfl) rfl dL_same_721 ?_
    refine g_iload C 724 0 dL_same_724 rfl ?_
    refine g_ciald C (hW _) 726 7 rfl (by decide) dL_same_726 ?_
    show Gn _ _ _ _ _ _ _ _ (.int (0 : Int32) :: _)
    refine g_icmp_ne C 727 767 dL_same_727 (by decide) (fun hq => absurd hq (fun z => z rfl)) (fun _ => ?_)
    refine g_aload_n C 730 1 dL_same_730 rfl ?_
    refine g_iload C 731 0 dL_same_731 rfl ?_
    refine g_iconst C 733 dL_same_733 ki_1 ?_
    have h734 := f_session1 _ hRe 0 (by decide)
    refine g_callX C hZ hzA hX 734 [.int (0 : Int32), .int (1 : Int32)] [] rfl tw_950 mv_X8_session rfl (Nat.le_of_ble_eq_true rfl) (Nat.le_of_ble_eq_true rfl) (Nat.le_of_ble_eq_true rfl) (by omega) (by omega) dL_same_734 (c_X8_session V _ _ _ _ h734) ?_
    show Gn _ _ _ _ _ _ _ _ [.int (0 : Int32)]
    refine g_aload_n C 737 2 dL_same_737 rfl ?_
    refine g_cgetN C (hW _) 738 0 rfl 16 (Nat.le_of_ble_eq_true rfl) rfl (List.mem_of_getElem? (i := 22) rfl) rfl dL_same_738 ?_
    refine g_iload C 741 0 dL_same_741 rfl ?_
    refine g_ciald C (hW _) 743 6 rfl (by decide) dL_same_743 ?_
    show Gn _ _ _ _ _ _ _ _ (.int (0 : Int32) :: _)
    refine g_icmp_ne C 744 767 dL_same_744 (by decide) (fun hq => absurd hq (fun z => z rfl)) (fun _ => ?_)
    refine g_aload_n C 747 1 dL_same_747 rfl ?_
    refine g_iload C 748 0 dL_same_748 rfl ?_
    have h750 := f_got _ hRe 0 (by decide)
    refine g_callX C hZ hzA hX 750 [.int (0 : Int32)] [] rfl tw_788 mv_X8_got rfl (Nat.le_of_ble_eq_true rfl) (Nat.le_of_ble_eq_true rfl) (Nat.le_of_ble_eq_true rfl) (by omega) (by omega) dL_same_750 (c_X8_got V _ _ _ h750) ?_
    show Gn _ _ _ _ _ _ _ _ [.int (0 : Int32)]
    refine g_aload_n C 753 2 dL_same_753 rfl ?_
    refine g_cgetN C (hW _) 754 0 rfl 18 (Nat.le_of_ble_eq_true rfl) rfl (List.mem_of_getElem? (i := 24) rfl) rfl dL_same_754 ?_
    refine g_iload C 757 0 dL_same_757 rfl ?_
    refine g_ciald C (hW _) 759 8 rfl (by decide) dL_same_759 ?_
    show Gn _ _ _ _ _ _ _ _ (.int (0 : Int32) :: _)
    refine g_icmp_ne C 760 767 dL_same_760 (by decide) (fun hq => absurd hq (fun z => z rfl)) (fun _ => ?_)
    refine g_iconst C 763 dL_same_763 ki_1 ?_
    refine g_goto C 764 768 dL_same_764 (by decide) ?_
    refine g_istore_n (L' := [(2, .int (1 : Int32)), (6, .int (0 : Int32)), (0, .ref (zA (Zc V) 0)), (1, .ref z), (3, .int (0 : Int32)), (4, .int (0 : Int32)), (5, .int (0 : Int32))]) C 768 dL_same_768 rfl (hN _ (Nat.le_of_ble_eq_true rfl)) rfl ?_
    refine g_iconst C 769 dL_same_769 ki_0 ?_
    refine g_istore (L' := [(7, .int (0 : Int32)), (2, .int (1 : Int32)), (6, .int (0 : Int32)), (0, .ref (zA (Zc V) 0)), (1, .ref z), (3, .int (0 : Int32)), (4, .int (0 : Int32)), (5, .int (0 : Int32))]) C 770 dL_same_770 (hN _ (Nat.le_of_ble_eq_true rfl)) rfl ?_
    refine g_sub [0, 2, 3, 4, 1, 5, 6, 7] rfl ?_
    exact lo n 0 σe (by omega) hRe
  have k466 : ∀ (σe : Wd) (ce sl : Nat), R σe → ce + 3 ≤ 155 → sl + 30 ≤ 390 → Gn K V.1 (fun q => zS (Zc V) q ∨ (Ks K).heap.size ≤ q) (zW (Zc V) σe ++ ([] : va_W)) (ce) (sl) 466 [(0, .ref (zA (Zc V) 0)), (1, .ref z), (2, .int (1 : Int32)), (3, .int (0 : Int32)), (4, .int (0 : Int32)), (5, .int (0 : Int32))] [] := by
    intro σe ce sl hRe hce hsl
    refine g_iconst C 466 dL_same_466 ki_0 ?_
    refine g_istore (L' := [(6, .int (0 : Int32)), (0, .ref (zA (Zc V) 0)), (1, .ref z), (2, .int (1 : Int32)), (3, .int (0 : Int32)), (4, .int (0 : Int32)), (5, .int (0 : Int32))]) C 467 dL_same_467 (hN _ (Nat.le_of_ble_eq_true rfl)) rfl ?_
    refine g_iload C 469 0 dL_same_469 rfl ?_
    refine g_aload_n C 471 2 dL_same_471 rfl ?_
    refine g_cgetN C (hW _) 472 0 rfl 4 (Nat.le_of_ble_eq_true rfl) rfl (List.mem_of_getElem? (i := 11) rfl) rfl dL_same_472 ?_
    refine g_icmp_ge C 475 700 dL_same_475 (by decide) (fun _ => ?_) (fun hq => absurd (by decide) hq)
    refine g_iconst C 700 dL_same_700 ki_0 ?_
    refine g_istore (L' := [(6, .int (0 : Int32)), (0, .ref (zA (Zc V) 0)), (1, .ref z), (2, .int (1 : Int32)), (3, .int (0 : Int32)), (4, .int (0 : Int32)), (5, .int (0 : Int32))]) C 701 dL_same_701 (hN _ (Nat.le_of_ble_eq_true rfl)) rfl ?_
    refine g_sub [0, 1, 2, 3, 4, 5, 6] rfl ?_
    exact k703_0 σe ce sl hRe hce hsl
  have lc : ∀ (kk c : Nat) (le : Int32) (σe : Wd) (ce sl : Nat), c + kk = n → R σe → ce + 29 * kk + 3 ≤ 155 → sl + 70 * kk + 30 ≤ 390 → ((c = 0 ∧ le = 60) ∨ (0 < c ∧ le = 0)) → Gn K V.1 (fun q => zS (Zc V) q ∨ (Ks K).heap.size ≤ q) (zW (Zc V) σe ++ ([] : va_W)) (ce) (sl) 14 [(6, .int (nI c)), (0, .ref (zA (Zc V) 0)), (1, .ref z), (2, .int (1 : Int32)), (3, .int (0 : Int32)), (4, .int le), (5, .int (0 : Int32))] [] := by
    intro kk
    induction kk with
    | zero =>
      intro c le σe ce sl hck hRe hce hsl hle
      have hge : iv 0 ≤ nI c := by rw [hiv0, nI_leI (by omega) (by omega)]; omega
      have e : le = 0 := by
        rcases hle with ⟨h, _⟩ | ⟨_, h⟩
        · omega
        · exact h
      subst e
      refine g_iload C 14 0 dL_same_14 rfl ?_
      refine g_aload_n C 16 2 dL_same_16 rfl ?_
      refine g_cgetN C (hW _) 17 0 rfl 0 (Nat.le_of_ble_eq_true rfl) rfl (List.mem_of_getElem? (i := 7) rfl) rfl dL_same_17 ?_
      refine g_icmp_ge C 20 466 dL_same_20 (by decide) (fun _ => ?_) (fun hq => absurd hge hq)
      refine g_sub [1, 2, 3, 4, 5, 6] rfl ?_
      exact k466 σe ce sl hRe (by omega) (by omega)
    | succ kk ih =>
      intro c le σe ce sl hck hRe hce hsl hle
      have hc : c < n := by omega
      have hlt : ¬ iv 0 ≤ nI c := by rw [hiv0, nI_leI (by omega) (by omega)]; omega
      have hc5 : ib (nI c) 5 := (ib_nI (by omega)).mpr (by omega)
      have hmin : (if (0 : Int32) < le then (0 : Int32) else le) = 0 := by
        rcases hle with ⟨_, h⟩ | ⟨_, h⟩ <;> rw [h] <;> decide
      have hcb : ∃ cb, cb = ce := ⟨ce, rfl⟩
      obtain ⟨cb, hcb⟩ := hcb
      have hsb : ∃ sb, sb = sl := ⟨sl, rfl⟩
      obtain ⟨sb, hsb⟩ := hsb
      refine g_iload C 14 0 dL_same_14 rfl ?_
      refine g_aload_n C 16 2 dL_same_16 rfl ?_
      refine g_cgetN C (hW _) 17 0 rfl 0 (Nat.le_of_ble_eq_true rfl) rfl (List.mem_of_getElem? (i := 7) rfl) rfl dL_same_17 ?_
      refine g_icmp_ge C 20 466 dL_same_20 (by decide) (fun hq => absurd hq hlt) (fun _ => ?_)
      refine g_aload_n C 23 2 dL_same_23 rfl ?_
      refine g_iload C 24 0 dL_same_24 rfl ?_
      refine g_callQV C hcs 26 [.int (nI c)] [] rfl tw_1316 mv_N9_log rfl (Nat.le_of_ble_eq_true rfl) (Nat.le_of_ble_eq_true rfl) (Nat.le_of_ble_eq_true rfl) (by omega) (by omega) dL_same_26 (q_log (Kl K) V.1 V.2.2.1 z u iv fs (nI c) hc5) (hW _) rfl (fun rv26 nl26 hr26 => ?_)
      obtain ⟨q26, rfl, rfl⟩ := hr26
      refine g_eq (ws2 := zW (Zc V) σe ++ ([(q26, .inl (V.2.2.1 1, 0, .inl (fun _ => 0)))] : va_W)) (zwp rfl) ?_
      show Gn _ _ _ _ _ _ _ _ [.ref q26]
      refine g_astore (L' := [(7, .ref q26), (6, .int (nI c)), (0, .ref (zA (Zc V) 0)), (1, .ref z), (2, .int (1 : Int32)), (3, .int (0 : Int32)), (4, .int le), (5, .int (0 : Int32))]) C 29 dL_same_29 (hN _ (Nat.le_of_ble_eq_true rfl)) rfl ?_
      refine g_aload_n C 31 3 dL_same_31 rfl ?_
      refine g_iload C 32 1 dL_same_32 rfl ?_
      refine g_callQV C hcs 34 [.int (nI c)] [] rfl tw_1328 mv_N9_done_ rfl (Nat.le_of_ble_eq_true rfl) (Nat.le_of_ble_eq_true rfl) (Nat.le_of_ble_eq_true rfl) (by omega) (by omega) dL_same_34 (q_done_ (Kl K) V.1 V.2.2.1 z u iv fs (nI c) hc5) (hW _) rfl (fun rv34 nl34 hr34 => ?_)
      obtain ⟨q34, qi34, qo34, qc34, lg34, rfl, rfl⟩ := hr34
      refine g_eq (ws2 := zW (Zc V) σe ++ ([(q26, .inl (V.2.2.1 1, 0, .inl (fun _ => 0))), (lg34, .inl (V.2.2.1 1, 0, .inl (fun _ => 0))), (qi34, .inl (V.2.2.1 1, 4, .inl fs)), (qo34, .inl (V.2.2.1 1, 0, .inl (fun _ => 0))), (qc34, .inl (V.2.2.1 1, 0, .inl (fun _ => 0))), (q34, .inl (V.2.2.1 6, 3, .inr (.inr (.inr (.inr (dnR qo34 qc34 qi34))))))] : va_W)) (zwp rfl) ?_
      show Gn _ _ _ _ _ _ _ _ [.ref q34]
      refine g_astore (L' := [(8, .ref q34), (7, .ref q26), (6, .int (nI c)), (0, .ref (zA (Zc V) 0)), (1, .ref z), (2, .int (1 : Int32)), (3, .int (0 : Int32)), (4, .int le), (5, .int (0 : Int32))]) C 37 dL_same_37 (hN _ (Nat.le_of_ble_eq_true rfl)) rfl ?_
      refine g_iconst C 39 dL_same_39 ki_0 ?_
      refine g_istore (L' := [(9, .int (0 : Int32)), (8, .ref q34), (7, .ref q26), (6, .int (nI c)), (0, .ref (zA (Zc V) 0)), (1, .ref z), (2, .int (1 : Int32)), (3, .int (0 : Int32)), (4, .int le), (5, .int (0 : Int32))]) C 40 dL_same_40 (hN _ (Nat.le_of_ble_eq_true rfl)) rfl ?_
      refine g_iconst C 42 dL_same_42 ki_0 ?_
      refine g_istore (L' := [(10, .int (0 : Int32)), (9, .int (0 : Int32)), (8, .ref q34), (7, .ref q26), (6, .int (nI c)), (0, .ref (zA (Zc V) 0)), (1, .ref z), (2, .int (1 : Int32)), (3, .int (0 : Int32)), (4, .int le), (5, .int (0 : Int32))]) C 43 dL_same_43 (hN _ (Nat.le_of_ble_eq_true rfl)) rfl ?_
      refine g_iconst C 45 dL_same_45 ki_0 ?_
      refine g_istore (L' := [(11, .int (0 : Int32)), (10, .int (0 : Int32)), (9, .int (0 : Int32)), (8, .ref q34), (7, .ref q26), (6, .int (nI c)), (0, .ref (zA (Zc V) 0)), (1, .ref z), (2, .int (1 : Int32)), (3, .int (0 : Int32)), (4, .int le), (5, .int (0 : Int32))]) C 46 dL_same_46 (hN _ (Nat.le_of_ble_eq_true rfl)) rfl ?_
      refine g_iload C 48 0 dL_same_48 rfl ?_
      refine g_aload C 50 4 dL_same_50 rfl ?_
      refine g_alen (v := (0 : Int32)) C 52 (127 + 0) 1 (zwa rfl) rfl rfl dL_same_52 ?_
      refine g_icmp_ge C 53 116 dL_same_53 (by decide) (fun _ => ?_) (fun hq => absurd (by decide) hq)
      refine g_bipush C 116 dL_same_116 kb_9 ?_
      refine g_newi C 118 9 (by decide) rfl (Nat.le_of_ble_eq_true rfl) (by omega) (by omega) dL_same_118 (fun q118 => ?_)
      refine g_eq (ws2 := zW (Zc V) σe ++ ([(q26, .inl (V.2.2.1 1, 0, .inl (fun _ => 0))), (lg34, .inl (V.2.2.1 1, 0, .inl (fun _ => 0))), (qi34, .inl (V.2.2.1 1, 4, .inl fs)), (qo34, .inl (V.2.2.1 1, 0, .inl (fun _ => 0))), (qc34, .inl (V.2.2.1 1, 0, .inl (fun _ => 0))), (q34, .inl (V.2.2.1 6, 3, .inr (.inr (.inr (.inr (dnR qo34 qc34 qi34)))))), (q118, .inl (V.2.2.1 1, 9, .inl (fun _ => 0)))] : va_W)) (zwp rfl) ?_
      refine g_dup C 120 dL_same_120 rfl ?_
      refine g_iconst C 121 dL_same_121 ki_0 ?_
      refine g_aload_n C 122 7 dL_same_122 rfl ?_
      refine g_iload C 123 5 dL_same_123 rfl ?_
      refine g_callQV C hcs 125 [.int (nI c)] [.int (0 : Int32), .ref q118, .ref q118] rfl tw_1347 mv_N9_clock rfl (Nat.le_of_ble_eq_true rfl) (Nat.le_of_ble_eq_true rfl) (Nat.le_of_ble_eq_true rfl) (by omega) (by omega) dL_same_125 (q_clock (Kl K) V.1 V.2.2.1 z u iv fs (nI c)) (hW _) rfl (fun rv125 nl125 hr125 => ?_)
      obtain ⟨rfl, rfl⟩ := hr125
      refine g_eq (ws2 := zW (Zc V) σe ++ ([(q26, .inl (V.2.2.1 1, 0, .inl (fun _ => 0))), (lg34, .inl (V.2.2.1 1, 0, .inl (fun _ => 0))), (qi34, .inl (V.2.2.1 1, 4, .inl fs)), (qo34, .inl (V.2.2.1 1, 0, .inl (fun _ => 0))), (qc34, .inl (V.2.2.1 1, 0, .inl (fun _ => 0))), (q34, .inl (V.2.2.1 6, 3, .inr (.inr (.inr (.inr (dnR qo34 qc34 qi34)))))), (q118, .inl (V.2.2.1 1, 9, .inl (fun _ => 0)))] : va_W)) (zwp rfl) ?_
      show Gn _ _ _ _ _ _ _ _ [.int (0 : Int32), .int (0 : Int32), .ref q118, .ref q118]
      refine g_iast (f' := fun _ => 0) (ws' := zW (Zc V) σe ++ ([(q26, .inl (V.2.2.1 1, 0, .inl (fun _ => 0))), (lg34, .inl (V.2.2.1 1, 0, .inl (fun _ => 0))), (qi34, .inl (V.2.2.1 1, 4, .inl fs)), (qo34, .inl (V.2.2.1 1, 0, .inl (fun _ => 0))), (qc34, .inl (V.2.2.1 1, 0, .inl (fun _ => 0))), (q34, .inl (V.2.2.1 6, 3, .inr (.inr (.inr (.inr (dnR qo34 qc34 qi34)))))), (q118, .inl (V.2.2.1 1, 9, .inl (fun _ => 0)))] : va_W)) C 128 (127 + 6) (zwa rfl) (by decide) upd0 (zws rfl) dL_same_128 ?_
      refine g_dup C 129 dL_same_129 rfl ?_
      refine g_iconst C 130 dL_same_130 ki_1 ?_
      refine g_aload C 131 4 dL_same_131 rfl ?_
      refine g_alen (v := (0 : Int32)) C 133 (127 + 0) 1 (zwa rfl) rfl rfl dL_same_133 ?_
      refine g_iast (f' := fun _ => 0) (ws' := zW (Zc V) σe ++ ([(q26, .inl (V.2.2.1 1, 0, .inl (fun _ => 0))), (lg34, .inl (V.2.2.1 1, 0, .inl (fun _ => 0))), (qi34, .inl (V.2.2.1 1, 4, .inl fs)), (qo34, .inl (V.2.2.1 1, 0, .inl (fun _ => 0))), (qc34, .inl (V.2.2.1 1, 0, .inl (fun _ => 0))), (q34, .inl (V.2.2.1 6, 3, .inr (.inr (.inr (.inr (dnR qo34 qc34 qi34)))))), (q118, .inl (V.2.2.1 1, 9, .inl (fun _ => 0)))] : va_W)) C 134 (127 + 6) (zwa rfl) (by decide) upd0 (zws rfl) dL_same_134 ?_
      refine g_dup C 135 dL_same_135 rfl ?_
      refine g_iconst C 136 dL_same_136 ki_2 ?_
      refine g_aload_n C 137 7 dL_same_137 rfl ?_
      refine g_cgetN C (hW _) 138 0 rfl 12 (Nat.le_of_ble_eq_true rfl) rfl (List.mem_of_getElem? (i := 18) rfl) rfl dL_same_138 ?_
      refine g_iload C 141 5 dL_same_141 rfl ?_
      refine g_ciald C (hW _) 143 2 rfl hc5 dL_same_143 ?_
      show Gn _ _ _ _ _ _ _ _ (.int (0 : Int32) :: _)
      refine g_iast (f' := fun _ => 0) (ws' := zW (Zc V) σe ++ ([(q26, .inl (V.2.2.1 1, 0, .inl (fun _ => 0))), (lg34, .inl (V.2.2.1 1, 0, .inl (fun _ => 0))), (qi34, .inl (V.2.2.1 1, 4, .inl fs)), (qo34, .inl (V.2.2.1 1, 0, .inl (fun _ => 0))), (qc34, .inl (V.2.2.1 1, 0, .inl (fun _ => 0))), (q34, .inl (V.2.2.1 6, 3, .inr (.inr (.inr (.inr (dnR qo34 qc34 qi34)))))), (q118, .inl (V.2.2.1 1, 9, .inl (fun _ => 0)))] : va_W)) C 144 (127 + 6) (zwa rfl) (by decide) upd0 (zws rfl) dL_same_144 ?_
      refine g_dup C 145 dL_same_145 rfl ?_
      refine g_iconst C 146 dL_same_146 ki_3 ?_
      refine g_aload_n C 147 7 dL_same_147 rfl ?_
      refine g_cgetN C (hW _) 148 0 rfl 13 (Nat.le_of_ble_eq_true rfl) rfl (List.mem_of_getElem? (i := 19) rfl) rfl dL_same_148 ?_
      refine g_iload C 151 5 dL_same_151 rfl ?_
      refine g_ciald C (hW _) 153 3 rfl hc5 dL_same_153 ?_
      show Gn _ _ _ _ _ _ _ _ (.int (0 : Int32) :: _)
      refine g_iast (f' := fun _ => 0) (ws' := zW (Zc V) σe ++ ([(q26, .inl (V.2.2.1 1, 0, .inl (fun _ => 0))), (lg34, .inl (V.2.2.1 1, 0, .inl (fun _ => 0))), (qi34, .inl (V.2.2.1 1, 4, .inl fs)), (qo34, .inl (V.2.2.1 1, 0, .inl (fun _ => 0))), (qc34, .inl (V.2.2.1 1, 0, .inl (fun _ => 0))), (q34, .inl (V.2.2.1 6, 3, .inr (.inr (.inr (.inr (dnR qo34 qc34 qi34)))))), (q118, .inl (V.2.2.1 1, 9, .inl (fun _ => 0)))] : va_W)) C 154 (127 + 6) (zwa rfl) (by decide) upd0 (zws rfl) dL_same_154 ?_
      refine g_dup C 155 dL_same_155 rfl ?_
      refine g_iconst C 156 dL_same_156 ki_4 ?_
      refine g_aload_n C 157 7 dL_same_157 rfl ?_
      refine g_cgetN C (hW _) 158 0 rfl 14 (Nat.le_of_ble_eq_true rfl) rfl (List.mem_of_getElem? (i := 20) rfl) rfl dL_same_158 ?_
      refine g_iload C 161 5 dL_same_161 rfl ?_
      refine g_ciald C (hW _) 163 4 rfl hc5 dL_same_163 ?_
      show Gn _ _ _ _ _ _ _ _ (.int (0 : Int32) :: _)
      refine g_iast (f' := fun _ => 0) (ws' := zW (Zc V) σe ++ ([(q26, .inl (V.2.2.1 1, 0, .inl (fun _ => 0))), (lg34, .inl (V.2.2.1 1, 0, .inl (fun _ => 0))), (qi34, .inl (V.2.2.1 1, 4, .inl fs)), (qo34, .inl (V.2.2.1 1, 0, .inl (fun _ => 0))), (qc34, .inl (V.2.2.1 1, 0, .inl (fun _ => 0))), (q34, .inl (V.2.2.1 6, 3, .inr (.inr (.inr (.inr (dnR qo34 qc34 qi34)))))), (q118, .inl (V.2.2.1 1, 9, .inl (fun _ => 0)))] : va_W)) C 164 (127 + 6) (zwa rfl) (by decide) upd0 (zws rfl) dL_same_164 ?_
      refine g_dup C 165 dL_same_165 rfl ?_
      refine g_iconst C 166 dL_same_166 ki_5 ?_
      refine g_aload_n C 167 7 dL_same_167 rfl ?_
      refine g_cgetN C (hW _) 168 0 rfl 15 (Nat.le_of_ble_eq_true rfl) rfl (List.mem_of_getElem? (i := 21) rfl) rfl dL_same_168 ?_
      refine g_iload C 171 5 dL_same_171 rfl ?_
      refine g_ciald C (hW _) 173 5 rfl hc5 dL_same_173 ?_
      show Gn _ _ _ _ _ _ _ _ (.int (0 : Int32) :: _)
      refine g_iast (f' := fun _ => 0) (ws' := zW (Zc V) σe ++ ([(q26, .inl (V.2.2.1 1, 0, .inl (fun _ => 0))), (lg34, .inl (V.2.2.1 1, 0, .inl (fun _ => 0))), (qi34, .inl (V.2.2.1 1, 4, .inl fs)), (qo34, .inl (V.2.2.1 1, 0, .inl (fun _ => 0))), (qc34, .inl (V.2.2.1 1, 0, .inl (fun _ => 0))), (q34, .inl (V.2.2.1 6, 3, .inr (.inr (.inr (.inr (dnR qo34 qc34 qi34)))))), (q118, .inl (V.2.2.1 1, 9, .inl (fun _ => 0)))] : va_W)) C 174 (127 + 6) (zwa rfl) (by decide) upd0 (zws rfl) dL_same_174 ?_
      refine g_dup C 175 dL_same_175 rfl ?_
      refine g_bipush C 176 dL_same_176 kb_6 ?_
      refine g_aload_n C 178 7 dL_same_178 rfl ?_
      refine g_cgetN C (hW _) 179 0 rfl 15 (Nat.le_of_ble_eq_true rfl) rfl (List.mem_of_getElem? (i := 21) rfl) rfl dL_same_179 ?_
      refine g_iload C 182 5 dL_same_182 rfl ?_
      refine g_ciald C (hW _) 184 5 rfl hc5 dL_same_184 ?_
      show Gn _ _ _ _ _ _ _ _ (.int (0 : Int32) :: _)
      refine g_iast (f' := fun _ => 0) (ws' := zW (Zc V) σe ++ ([(q26, .inl (V.2.2.1 1, 0, .inl (fun _ => 0))), (lg34, .inl (V.2.2.1 1, 0, .inl (fun _ => 0))), (qi34, .inl (V.2.2.1 1, 4, .inl fs)), (qo34, .inl (V.2.2.1 1, 0, .inl (fun _ => 0))), (qc34, .inl (V.2.2.1 1, 0, .inl (fun _ => 0))), (q34, .inl (V.2.2.1 6, 3, .inr (.inr (.inr (.inr (dnR qo34 qc34 qi34)))))), (q118, .inl (V.2.2.1 1, 9, .inl (fun _ => 0)))] : va_W)) C 185 (127 + 6) (zwa rfl) (by decide) upd0 (zws rfl) dL_same_185 ?_
      refine g_dup C 186 dL_same_186 rfl ?_
      refine g_bipush C 187 dL_same_187 kb_7 ?_
      refine g_iload C 189 2 dL_same_189 rfl ?_
      refine g_iast (f' := fun _ => 0) (ws' := zW (Zc V) σe ++ ([(q26, .inl (V.2.2.1 1, 0, .inl (fun _ => 0))), (lg34, .inl (V.2.2.1 1, 0, .inl (fun _ => 0))), (qi34, .inl (V.2.2.1 1, 4, .inl fs)), (qo34, .inl (V.2.2.1 1, 0, .inl (fun _ => 0))), (qc34, .inl (V.2.2.1 1, 0, .inl (fun _ => 0))), (q34, .inl (V.2.2.1 6, 3, .inr (.inr (.inr (.inr (dnR qo34 qc34 qi34)))))), (q118, .inl (V.2.2.1 1, 9, .inl (fun _ => 0)))] : va_W)) C 191 (127 + 6) (zwa rfl) (by decide) upd0 (zws rfl) dL_same_191 ?_
      refine g_dup C 192 dL_same_192 rfl ?_
      refine g_bipush C 193 dL_same_193 kb_8 ?_
      refine g_iload C 195 1 dL_same_195 rfl ?_
      refine g_iast (f' := fun _ => 0) (ws' := zW (Zc V) σe ++ ([(q26, .inl (V.2.2.1 1, 0, .inl (fun _ => 0))), (lg34, .inl (V.2.2.1 1, 0, .inl (fun _ => 0))), (qi34, .inl (V.2.2.1 1, 4, .inl fs)), (qo34, .inl (V.2.2.1 1, 0, .inl (fun _ => 0))), (qc34, .inl (V.2.2.1 1, 0, .inl (fun _ => 0))), (q34, .inl (V.2.2.1 6, 3, .inr (.inr (.inr (.inr (dnR qo34 qc34 qi34)))))), (q118, .inl (V.2.2.1 1, 9, .inl (fun _ => 0)))] : va_W)) C 197 (127 + 6) (zwa rfl) (by decide) upd0 (zws rfl) dL_same_197 ?_
      refine g_astore (L' := [(11, .ref q118), (10, .int (0 : Int32)), (9, .int (0 : Int32)), (8, .ref q34), (7, .ref q26), (6, .int (nI c)), (0, .ref (zA (Zc V) 0)), (1, .ref z), (2, .int (1 : Int32)), (3, .int (0 : Int32)), (4, .int le), (5, .int (0 : Int32))]) C 198 dL_same_198 (hN _ (Nat.le_of_ble_eq_true rfl)) rfl ?_
      refine g_iconst C 200 dL_same_200 ki_0 ?_
      refine g_istore (L' := [(12, .int (0 : Int32)), (11, .ref q118), (10, .int (0 : Int32)), (9, .int (0 : Int32)), (8, .ref q34), (7, .ref q26), (6, .int (nI c)), (0, .ref (zA (Zc V) 0)), (1, .ref z), (2, .int (1 : Int32)), (3, .int (0 : Int32)), (4, .int le), (5, .int (0 : Int32))]) C 201 dL_same_201 (hN _ (Nat.le_of_ble_eq_true rfl)) rfl ?_
      refine g_iload C 203 0 dL_same_203 rfl ?_
      refine g_bipush C 205 dL_same_205 kb_9 ?_
      refine g_icmp_ge C 207 242 dL_same_207 (by decide) (fun hq => absurd hq (by decide)) (fun _ => ?_)
      refine g_iload_n C 210 9 dL_same_210 rfl ?_
      refine g_if_eq C 211 234 dL_same_211 (by decide) (fun hq => absurd hq (by decide)) (fun _ => ?_)
      refine g_aload_n C 214 7 dL_same_214 rfl ?_
      refine g_iload C 215 6 dL_same_215 rfl ?_
      refine g_iload C 217 0 dL_same_217 rfl ?_
      obtain ⟨σ219, h219, hR219⟩ := f_copy _ hRe c hc 0 (by decide)
      refine g_callX C hZ hzA hX 219 [.int (nI c), .int (0 : Int32)] [] rfl tw_917 mv_X8_copy rfl (Nat.le_of_ble_eq_true rfl) (Nat.le_of_ble_eq_true rfl) (Nat.le_of_ble_eq_true rfl) (by omega) (by omega) dL_same_219 (c_X8_copy V _ _ _ _ h219) ?_
      show Gn _ _ _ _ _ _ _ _ [.int (0 : Int32)]
      refine g_aload C 222 1 dL_same_222 rfl ?_
      refine g_iload C 224 0 dL_same_224 rfl ?_
      refine g_iald C 226 (127 + 6) (zwa rfl) (by decide) dL_same_226 ?_
      show Gn _ _ _ _ _ _ _ _ (.int (0 : Int32) :: _)
      refine g_icmp_ne C 227 234 dL_same_227 (by decide) (fun hq => absurd hq (fun z => z rfl)) (fun _ => ?_)
      refine g_iconst C 230 dL_same_230 ki_1 ?_
      refine g_goto C 231 235 dL_same_231 (by decide) ?_
      refine g_istore_n (L' := [(2, .int (1 : Int32)), (12, .int (0 : Int32)), (11, .ref q118), (10, .int (0 : Int32)), (9, .int (0 : Int32)), (8, .ref q34), (7, .ref q26), (6, .int (nI c)), (0, .ref (zA (Zc V) 0)), (1, .ref z), (3, .int (0 : Int32)), (4, .int le), (5, .int (0 : Int32))]) C 235 dL_same_235 rfl (hN _ (Nat.le_of_ble_eq_true rfl)) rfl ?_
      refine g_iinc (v := (1 : Int32)) (L' := [(12, .int (1 : Int32)), (2, .int (1 : Int32)), (11, .ref q118), (10, .int (0 : Int32)), (9, .int (0 : Int32)), (8, .ref q34), (7, .ref q26), (6, .int (nI c)), (0, .ref (zA (Zc V) 0)), (1, .ref z), (3, .int (0 : Int32)), (4, .int le), (5, .int (0 : Int32))]) C 236 1 dL_same_236 rfl (by decide) (hN _ (Nat.le_of_ble_eq_true rfl)) rfl ?_
      refine g_goto C 239 203 dL_same_239 (by decide) ?_
      refine g_iload C 203 0 dL_same_203 rfl ?_
      refine g_bipush C 205 dL_same_205 kb_9 ?_
      refine g_icmp_ge C 207 242 dL_same_207 (by decide) (fun hq => absurd hq (by decide)) (fun _ => ?_)
      refine g_iload_n C 210 1 dL_same_210 rfl ?_
      refine g_if_eq C 211 234 dL_same_211 (by decide) (fun hq => absurd hq (by decide)) (fun _ => ?_)
      refine g_aload_n C 214 8 dL_same_214 rfl ?_
      refine g_iload C 215 7 dL_same_215 rfl ?_
      refine g_iload C 217 0 dL_same_217 rfl ?_
      obtain ⟨σ219, h219, hR219⟩ := f_copy _ hR219 c hc 1 (by decide)
      refine g_callX C hZ hzA hX 219 [.int (nI c), .int (1 : Int32)] [] rfl tw_917 mv_X8_copy rfl (Nat.le_of_ble_eq_true rfl) (Nat.le_of_ble_eq_true rfl) (Nat.le_of_ble_eq_true rfl) (by omega) (by omega) dL_same_219 (c_X8_copy V _ _ _ _ h219) ?_
      show Gn _ _ _ _ _ _ _ _ [.int (0 : Int32)]
      refine g_aload C 222 2 dL_same_222 rfl ?_
      refine g_iload C 224 0 dL_same_224 rfl ?_
      refine g_iald C 226 (127 + 6) (zwa rfl) (by decide) dL_same_226 ?_
      show Gn _ _ _ _ _ _ _ _ (.int (0 : Int32) :: _)
      refine g_icmp_ne C 227 234 dL_same_227 (by decide) (fun hq => absurd hq (fun z => z rfl)) (fun _ => ?_)
      refine g_iconst C 230 dL_same_230 ki_1 ?_
      refine g_goto C 231 235 dL_same_231 (by decide) ?_
      refine g_istore_n (L' := [(2, .int (1 : Int32)), (12, .int (1 : Int32)), (11, .ref q118), (10, .int (0 : Int32)), (9, .int (0 : Int32)), (8, .ref q34), (7, .ref q26), (6, .int (nI c)), (0, .ref (zA (Zc V) 0)), (1, .ref z), (3, .int (0 : Int32)), (4, .int le), (5, .int (0 : Int32))]) C 235 dL_same_235 rfl (hN _ (Nat.le_of_ble_eq_true rfl)) rfl ?_
      refine g_iinc (v := (2 : Int32)) (L' := [(12, .int (2 : Int32)), (2, .int (1 : Int32)), (11, .ref q118), (10, .int (0 : Int32)), (9, .int (0 : Int32)), (8, .ref q34), (7, .ref q26), (6, .int (nI c)), (0, .ref (zA (Zc V) 0)), (1, .ref z), (3, .int (0 : Int32)), (4, .int le), (5, .int (0 : Int32))]) C 236 1 dL_same_236 rfl (by decide) (hN _ (Nat.le_of_ble_eq_true rfl)) rfl ?_
      refine g_goto C 239 203 dL_same_239 (by decide) ?_
      refine g_iload C 203 0 dL_same_203 rfl ?_
      refine g_bipush C 205 dL_same_205 kb_9 ?_
      refine g_icmp_ge C 207 242 dL_same_207 (by decide) (fun hq => absurd hq (by decide)) (fun _ => ?_)
      refine g_iload_n C 210 1 dL_same_210 rfl ?_
      refine g_if_eq C 211 234 dL_same_211 (by decide) (fun hq => absurd hq (by decide)) (fun _ => ?_)
      refine g_aload_n C 214 8 dL_same_214 rfl ?_
      refine g_iload C 215 7 dL_same_215 rfl ?_
      refine g_iload C 217 0 dL_same_217 rfl ?_
      obtain ⟨σ219, h219, hR219⟩ := f_copy _ hR219 c hc 2 (by decide)
      refine g_callX C hZ hzA hX 219 [.int (nI c), .int (2 : Int32)] [] rfl tw_917 mv_X8_copy rfl (Nat.le_of_ble_eq_true rfl) (Nat.le_of_ble_eq_true rfl) (Nat.le_of_ble_eq_true rfl) (by omega) (by omega) dL_same_219 (c_X8_copy V _ _ _ _ h219) ?_
      show Gn _ _ _ _ _ _ _ _ [.int (0 : Int32)]
      refine g_aload C 222 2 dL_same_222 rfl ?_
      refine g_iload C 224 0 dL_same_224 rfl ?_
      refine g_iald C 226 (127 + 6) (zwa rfl) (by decide) dL_same_226 ?_
      show Gn _ _ _ _ _ _ _ _ (.int (0 : Int32) :: _)
      refine g_icmp_ne C 227 234 dL_same_227 (by decide) (fun hq => absurd hq (fun z => z rfl)) (fun _ => ?_)
      refine g_iconst C 230 dL_same_230 ki_1 ?_
      refine g_goto C 231 235 dL_same_231 (by decide) ?_
      refine g_istore_n (L' := [(2, .int (1 : Int32)), (12, .int (2 : Int32)), (11, .ref q118), (10, .int (0 : Int32)), (9, .int (0 : Int32)), (8, .ref q34), (7, .ref q26), (6, .int (nI c)), (0, .ref (zA (Zc V) 0)), (1, .ref z), (3, .int (0 : Int32)), (4, .int le), (5, .int (0 : Int32))]) C 235 dL_same_235 rfl (hN _ (Nat.le_of_ble_eq_true rfl)) rfl ?_
      refine g_iinc (v := (3 : Int32)) (L' := [(12, .int (3 : Int32)), (2, .int (1 : Int32)), (11, .ref q118), (10, .int (0 : Int32)), (9, .int (0 : Int32)), (8, .ref q34), (7, .ref q26), (6, .int (nI c)), (0, .ref (zA (Zc V) 0)), (1, .ref z), (3, .int (0 : Int32)), (4, .int le), (5, .int (0 : Int32))]) C 236 1 dL_same_236 rfl (by decide) (hN _ (Nat.le_of_ble_eq_true rfl)) rfl ?_
      refine g_goto C 239 203 dL_same_239 (by decide) ?_
      refine g_iload C 203 0 dL_same_203 rfl ?_
      refine g_bipush C 205 dL_same_205 kb_9 ?_
      refine g_icmp_ge C 207 242 dL_same_207 (by decide) (fun hq => absurd hq (by decide)) (fun _ => ?_)
      refine g_iload_n C 210 1 dL_same_210 rfl ?_
      refine g_if_eq C 211 234 dL_same_211 (by decide) (fun hq => absurd hq (by decide)) (fun _ => ?_)
      refine g_aload_n C 214 8 dL_same_214 rfl ?_
      refine g_iload C 215 7 dL_same_215 rfl ?_
      refine g_iload C 217 0 dL_same_217 rfl ?_
      obtain ⟨σ219, h219, hR219⟩ := f_copy _ hR219 c hc 3 (by decide)
      refine g_callX C hZ hzA hX 219 [.int (nI c), .int (3 : Int32)] [] rfl tw_917 mv_X8_copy rfl (Nat.le_of_ble_eq_true rfl) (Nat.le_of_ble_eq_true rfl) (Nat.le_of_ble_eq_true rfl) (by omega) (by omega) dL_same_219 (c_X8_copy V _ _ _ _ h219) ?_
      show Gn _ _ _ _ _ _ _ _ [.int (0 : Int32)]
      refine g_aload C 222 2 dL_same_222 rfl ?_
      refine g_iload C 224 0 dL_same_224 rfl ?_
      refine g_iald C 226 (127 + 6) (zwa rfl) (by decide) dL_same_226 ?_
      show Gn _ _ _ _ _ _ _ _ (.int (0 : Int32) :: _)
      refine g_icmp_ne C 227 234 dL_same_227 (by decide) (fun hq => absurd hq (fun z => z rfl)) (fun _ => ?_)
      refine g_iconst C 230 dL_same_230 ki_1 ?_
      refine g_goto C 231 235 dL_same_231 (by decide) ?_
      refine g_istore_n (L' := [(2, .int (1 : Int32)), (12, .int (3 : Int32)), (11, .ref q118), (10, .int (0 : Int32)), (9, .int (0 : Int32)), (8, .ref q34), (7, .ref q26), (6, .int (nI c)), (0, .ref (zA (Zc V) 0)), (1, .ref z), (3, .int (0 : Int32)), (4, .int le), (5, .int (0 : Int32))]) C 235 dL_same_235 rfl (hN _ (Nat.le_of_ble_eq_true rfl)) rfl ?_
      refine g_iinc (v := (4 : Int32)) (L' := [(12, .int (4 : Int32)), (2, .int (1 : Int32)), (11, .ref q118), (10, .int (0 : Int32)), (9, .int (0 : Int32)), (8, .ref q34), (7, .ref q26), (6, .int (nI c)), (0, .ref (zA (Zc V) 0)), (1, .ref z), (3, .int (0 : Int32)), (4, .int le), (5, .int (0 : Int32))]) C 236 1 dL_same_236 rfl (by decide) (hN _ (Nat.le_of_ble_eq_true rfl)) rfl ?_
      refine g_goto C 239 203 dL_same_239 (by decide) ?_
      refine g_iload C 203 0 dL_same_203 rfl ?_
      refine g_bipush C 205 dL_same_205 kb_9 ?_
      refine g_icmp_ge C 207 242 dL_same_207 (by decide) (fun hq => absurd hq (by decide)) (fun _ => ?_)
      refine g_iload_n C 210 1 dL_same_210 rfl ?_
      refine g_if_eq C 211 234 dL_same_211 (by decide) (fun hq => absurd hq (by decide)) (fun _ => ?_)
      refine g_aload_n C 214 8 dL_same_214 rfl ?_
      refine g_iload C 215 7 dL_same_215 rfl ?_
      refine g_iload C 217 0 dL_same_217 rfl ?_
      obtain ⟨σ219, h219, hR219⟩ := f_copy _ hR219 c hc 4 (by decide)
      refine g_callX C hZ hzA hX 219 [.int (nI c), .int (4 : Int32)] [] rfl tw_917 mv_X8_copy rfl (Nat.le_of_ble_eq_true rfl) (Nat.le_of_ble_eq_true rfl) (Nat.le_of_ble_eq_true rfl) (by omega) (by omega) dL_same_219 (c_X8_copy V _ _ _ _ h219) ?_
      show Gn _ _ _ _ _ _ _ _ [.int (0 : Int32)]
      refine g_aload C 222 2 dL_same_222 rfl ?_
      refine g_iload C 224 0 dL_same_224 rfl ?_
      refine g_iald C 226 (127 + 6) (zwa rfl) (by decide) dL_same_226 ?_
      show Gn _ _ _ _ _ _ _ _ (.int (0 : Int32) :: _)
      refine g_icmp_ne C 227 234 dL_same_227 (by decide) (fun hq => absurd hq (fun z => z rfl)) (fun _ => ?_)
      refine g_iconst C 230 dL_same_230 ki_1 ?_
      refine g_goto C 231 235 dL_same_231 (by decide) ?_
      refine g_istore_n (L' := [(2, .int (1 : Int32)), (12, .int (4 : Int32)), (11, .ref q118), (10, .int (0 : Int32)), (9, .int (0 : Int32)), (8, .ref q34), (7, .ref q26), (6, .int (nI c)), (0, .ref (zA (Zc V) 0)), (1, .ref z), (3, .int (0 : Int32)), (4, .int le), (5, .int (0 : Int32))]) C 235 dL_same_235 rfl (hN _ (Nat.le_of_ble_eq_true rfl)) rfl ?_
      refine g_iinc (v := (5 : Int32)) (L' := [(12, .int (5 : Int32)), (2, .int (1 : Int32)), (11, .ref q118), (10, .int (0 : Int32)), (9, .int (0 : Int32)), (8, .ref q34), (7, .ref q26), (6, .int (nI c)), (0, .ref (zA (Zc V) 0)), (1, .ref z), (3, .int (0 : Int32)), (4, .int le), (5, .int (0 : Int32))]) C 236 1 dL_same_236 rfl (by decide) (hN _ (Nat.le_of_ble_eq_true rfl)) rfl ?_
      refine g_goto C 239 203 dL_same_239 (by decide) ?_
      refine g_iload C 203 0 dL_same_203 rfl ?_
      refine g_bipush C 205 dL_same_205 kb_9 ?_
      refine g_icmp_ge C 207 242 dL_same_207 (by decide) (fun hq => absurd hq (by decide)) (fun _ => ?_)
      refine g_iload_n C 210 1 dL_same_210 rfl ?_
      refine g_if_eq C 211 234 dL_same_211 (by decide) (fun hq => absurd hq (by decide)) (fun _ => ?_)
      refine g_aload_n C 214 8 dL_same_214 rfl ?_
      refine g_iload C 215 7 dL_same_215 rfl ?_
      refine g_iload C 217 0 dL_same_217 rfl ?_
      obtain ⟨σ219, h219, hR219⟩ := f_copy _ hR219 c hc 5 (by decide)
      refine g_callX C hZ hzA hX 219 [.int (nI c), .int (5 : Int32)] [] rfl tw_917 mv_X8_copy rfl (Nat.le_of_ble_eq_true rfl) (Nat.le_of_ble_eq_true rfl) (Nat.le_of_ble_eq_true rfl) (by omega) (by omega) dL_same_219 (c_X8_copy V _ _ _ _ h219) ?_
      show Gn _ _ _ _ _ _ _ _ [.int (0 : Int32)]
      refine g_aload C 222 2 dL_same_222 rfl ?_
      refine g_iload C 224 0 dL_same_224 rfl ?_
      refine g_iald C 226 (127 + 6) (zwa rfl) (by decide) dL_same_226 ?_
      show Gn _ _ _ _ _ _ _ _ (.int (0 : Int32) :: _)
      refine g_icmp_ne C 227 234 dL_same_227 (by decide) (fun hq => absurd hq (fun z => z rfl)) (fun _ => ?_)
      refine g_iconst C 230 dL_same_230 ki_1 ?_
      refine g_goto C 231 235 dL_same_231 (by decide) ?_
      refine g_istore_n (L' := [(2, .int (1 : Int32)), (12, .int (5 : Int32)), (11, .ref q118), (10, .int (0 : Int32)), (9, .int (0 : Int32)), (8, .ref q34), (7, .ref q26), (6, .int (nI c)), (0, .ref (zA (Zc V) 0)), (1, .ref z), (3, .int (0 : Int32)), (4, .int le), (5, .int (0 : Int32))]) C 235 dL_same_235 rfl (hN _ (Nat.le_of_ble_eq_true rfl)) rfl ?_
      refine g_iinc (v := (6 : Int32)) (L' := [(12, .int (6 : Int32)), (2, .int (1 : Int32)), (11, .ref q118), (10, .int (0 : Int32)), (9, .int (0 : Int32)), (8, .ref q34), (7, .ref q26), (6, .int (nI c)), (0, .ref (zA (Zc V) 0)), (1, .ref z), (3, .int (0 : Int32)), (4, .int le), (5, .int (0 : Int32))]) C 236 1 dL_same_236 rfl (by decide) (hN _ (Nat.le_of_ble_eq_true rfl)) rfl ?_
      refine g_goto C 239 203 dL_same_239 (by decide) ?_
      refine g_iload C 203 0 dL_same_203 rfl ?_
      refine g_bipush C 205 dL_same_205 kb_9 ?_
      refine g_icmp_ge C 207 242 dL_same_207 (by decide) (fun hq => absurd hq (by decide)) (fun _ => ?_)
      refine g_iload_n C 210 1 dL_same_210 rfl ?_
      refine g_if_eq C 211 234 dL_same_211 (by decide) (fun hq => absurd hq (by decide)) (fun _ => ?_)
      refine g_aload_n C 214 8 dL_same_214 rfl ?_
      refine g_iload C 215 7 dL_same_215 rfl ?_
      refine g_iload C 217 0 dL_same_217 rfl ?_
      obtain ⟨σ219, h219, hR219⟩ := f_copy _ hR219 c hc 6 (by decide)
      refine g_callX C hZ hzA hX 219 [.int (nI c), .int (6 : Int32)] [] rfl tw_917 mv_X8_copy rfl (Nat.le_of_ble_eq_true rfl) (Nat.le_of_ble_eq_true rfl) (Nat.le_of_ble_eq_true rfl) (by omega) (by omega) dL_same_219 (c_X8_copy V _ _ _ _ h219) ?_
      show Gn _ _ _ _ _ _ _ _ [.int (0 : Int32)]
      refine g_aload C 222 2 dL_same_222 rfl ?_
      refine g_iload C 224 0 dL_same_224 rfl ?_
      refine g_iald C 226 (127 + 6) (zwa rfl) (by decide) dL_same_226 ?_
      show Gn _ _ _ _ _ _ _ _ (.int (0 : Int32) :: _)
      refine g_icmp_ne C 227 234 dL_same_227 (by decide) (fun hq => absurd hq (fun z => z rfl)) (fun _ => ?_)
      refine g_iconst C 230 dL_same_230 ki_1 ?_
      refine g_goto C 231 235 dL_same_231 (by decide) ?_
      refine g_istore_n (L' := [(2, .int (1 : Int32)), (12, .int (6 : Int32)), (11, .ref q118), (10, .int (0 : Int32)), (9, .int (0 : Int32)), (8, .ref q34), (7, .ref q26), (6, .int (nI c)), (0, .ref (zA (Zc V) 0)), (1, .ref z), (3, .int (0 : Int32)), (4, .int le), (5, .int (0 : Int32))]) C 235 dL_same_235 rfl (hN _ (Nat.le_of_ble_eq_true rfl)) rfl ?_
      refine g_iinc (v := (7 : Int32)) (L' := [(12, .int (7 : Int32)), (2, .int (1 : Int32)), (11, .ref q118), (10, .int (0 : Int32)), (9, .int (0 : Int32)), (8, .ref q34), (7, .ref q26), (6, .int (nI c)), (0, .ref (zA (Zc V) 0)), (1, .ref z), (3, .int (0 : Int32)), (4, .int le), (5, .int (0 : Int32))]) C 236 1 dL_same_236 rfl (by decide) (hN _ (Nat.le_of_ble_eq_true rfl)) rfl ?_
      refine g_goto C 239 203 dL_same_239 (by decide) ?_
      refine g_iload C 203 0 dL_same_203 rfl ?_
      refine g_bipush C 205 dL_same_205 kb_9 ?_
      refine g_icmp_ge C 207 242 dL_same_207 (by decide) (fun hq => absurd hq (by decide)) (fun _ => ?_)
      refine g_iload_n C 210 1 dL_same_210 rfl ?_
      refine g_if_eq C 211 234 dL_same_211 (by decide) (fun hq => absurd hq (by decide)) (fun _ => ?_)
      refine g_aload_n C 214 8 dL_same_214 rfl ?_
      refine g_iload C 215 7 dL_same_215 rfl ?_
      refine g_iload C 217 0 dL_same_217 rfl ?_
      obtain ⟨σ219, h219, hR219⟩ := f_copy _ hR219 c hc 7 (by decide)
      refine g_callX C hZ hzA hX 219 [.int (nI c), .int (7 : Int32)] [] rfl tw_917 mv_X8_copy rfl (Nat.le_of_ble_eq_true rfl) (Nat.le_of_ble_eq_true rfl) (Nat.le_of_ble_eq_true rfl) (by omega) (by omega) dL_same_219 (c_X8_copy V _ _ _ _ h219) ?_
      show Gn _ _ _ _ _ _ _ _ [.int (0 : Int32)]
      refine g_aload C 222 2 dL_same_222 rfl ?_
      refine g_iload C 224 0 dL_same_224 rfl ?_
      refine g_iald C 226 (127 + 6) (zwa rfl) (by decide) dL_same_226 ?_
      show Gn _ _ _ _ _ _ _ _ (.int (0 : Int32) :: _)
      refine g_icmp_ne C 227 234 dL_same_227 (by decide) (fun hq => absurd hq (fun z => z rfl)) (fun _ => ?_)
      refine g_iconst C 230 dL_same_230 ki_1 ?_
      refine g_goto C 231 235 dL_same_231 (by decide) ?_
      refine g_istore_n (L' := [(2, .int (1 : Int32)), (12, .int (7 : Int32)), (11, .ref q118), (10, .int (0 : Int32)), (9, .int (0 : Int32)), (8, .ref q34), (7, .ref q26), (6, .int (nI c)), (0, .ref (zA (Zc V) 0)), (1, .ref z), (3, .int (0 : Int32)), (4, .int le), (5, .int (0 : Int32))]) C 235 dL_same_235 rfl (hN _ (Nat.le_of_ble_eq_true rfl)) rfl ?_
      refine g_iinc (v := (8 : Int32)) (L' := [(12, .int (8 : Int32)), (2, .int (1 : Int32)), (11, .ref q118), (10, .int (0 : Int32)), (9, .int (0 : Int32)), (8, .ref q34), (7, .ref q26), (6, .int (nI c)), (0, .ref (zA (Zc V) 0)), (1, .ref z), (3, .int (0 : Int32)), (4, .int le), (5, .int (0 : Int32))]) C 236 1 dL_same_236 rfl (by decide) (hN _ (Nat.le_of_ble_eq_true rfl)) rfl ?_
      refine g_goto C 239 203 dL_same_239 (by decide) ?_
      refine g_iload C 203 0 dL_same_203 rfl ?_
      refine g_bipush C 205 dL_same_205 kb_9 ?_
      refine g_icmp_ge C 207 242 dL_same_207 (by decide) (fun hq => absurd hq (by decide)) (fun _ => ?_)
      refine g_iload_n C 210 1 dL_same_210 rfl ?_
      refine g_if_eq C 211 234 dL_same_211 (by decide) (fun hq => absurd hq (by decide)) (fun _ => ?_)
      refine g_aload_n C 214 8 dL_same_214 rfl ?_
      refine g_iload C 215 7 dL_same_215 rfl ?_
      refine g_iload C 217 0 dL_same_217 rfl ?_
      obtain ⟨σ219, h219, hR219⟩ := f_copy _ hR219 c hc 8 (by decide)
      refine g_callX C hZ hzA hX 219 [.int (nI c), .int (8 : Int32)] [] rfl tw_917 mv_X8_copy rfl (Nat.le_of_ble_eq_true rfl) (Nat.le_of_ble_eq_true rfl) (Nat.le_of_ble_eq_true rfl) (by omega) (by omega) dL_same_219 (c_X8_copy V _ _ _ _ h219) ?_
      show Gn _ _ _ _ _ _ _ _ [.int (0 : Int32)]
      refine g_aload C 222 2 dL_same_222 rfl ?_
      refine g_iload C 224 0 dL_same_224 rfl ?_
      refine g_iald C 226 (127 + 6) (zwa rfl) (by decide) dL_same_226 ?_
      show Gn _ _ _ _ _ _ _ _ (.int (0 : Int32) :: _)
      refine g_icmp_ne C 227 234 dL_same_227 (by decide) (fun hq => absurd hq (fun z => z rfl)) (fun _ => ?_)
      refine g_iconst C 230 dL_same_230 ki_1 ?_
      refine g_goto C 231 235 dL_same_231 (by decide) ?_
      refine g_istore_n (L' := [(2, .int (1 : Int32)), (12, .int (8 : Int32)), (11, .ref q118), (10, .int (0 : Int32)), (9, .int (0 : Int32)), (8, .ref q34), (7, .ref q26), (6, .int (nI c)), (0, .ref (zA (Zc V) 0)), (1, .ref z), (3, .int (0 : Int32)), (4, .int le), (5, .int (0 : Int32))]) C 235 dL_same_235 rfl (hN _ (Nat.le_of_ble_eq_true rfl)) rfl ?_
      refine g_iinc (v := (9 : Int32)) (L' := [(12, .int (9 : Int32)), (2, .int (1 : Int32)), (11, .ref q118), (10, .int (0 : Int32)), (9, .int (0 : Int32)), (8, .ref q34), (7, .ref q26), (6, .int (nI c)), (0, .ref (zA (Zc V) 0)), (1, .ref z), (3, .int (0 : Int32)), (4, .int le), (5, .int (0 : Int32))]) C 236 1 dL_same_236 rfl (by decide) (hN _ (Nat.le_of_ble_eq_true rfl)) rfl ?_
      refine g_goto C 239 203 dL_same_239 (by decide) ?_
      refine g_iload C 203 0 dL_same_203 rfl ?_
      refine g_bipush C 205 dL_same_205 kb_9 ?_
      refine g_icmp_ge C 207 242 dL_same_207 (by decide) (fun _ => ?_) (fun hq => absurd (by decide) hq)
      refine g_aload_n C 242 9 dL_same_242 rfl ?_
      refine g_iload C 243 7 dL_same_243 rfl ?_
      refine g_callQV C hcs 245 [.int (nI c)] [] rfl tw_1356 mv_N9_vector rfl (Nat.le_of_ble_eq_true rfl) (Nat.le_of_ble_eq_true rfl) (Nat.le_of_ble_eq_true rfl) (by omega) (by omega) dL_same_245 (q_vector (Kl K) V.1 V.2.2.1 z u iv fs (nI c)) (hW _) rfl (fun rv245 nl245 hr245 => ?_)
      obtain ⟨q245, rfl, rfl⟩ := hr245
      refine g_eq (ws2 := zW (Zc V) σ219 ++ ([(q26, .inl (V.2.2.1 1, 0, .inl (fun _ => 0))), (lg34, .inl (V.2.2.1 1, 0, .inl (fun _ => 0))), (qi34, .inl (V.2.2.1 1, 4, .inl fs)), (qo34, .inl (V.2.2.1 1, 0, .inl (fun _ => 0))), (qc34, .inl (V.2.2.1 1, 0, .inl (fun _ => 0))), (q34, .inl (V.2.2.1 6, 3, .inr (.inr (.inr (.inr (dnR qo34 qc34 qi34)))))), (q118, .inl (V.2.2.1 1, 9, .inl (fun _ => 0))), (q245, .inl (V.2.2.1 1, 5, .inl (fun _ => 0)))] : va_W)) (zwp rfl) ?_
      show Gn _ _ _ _ _ _ _ _ [.ref q245]
      refine g_astore (L' := [(12, .ref q245), (2, .int (1 : Int32)), (11, .ref q118), (10, .int (0 : Int32)), (9, .int (0 : Int32)), (8, .ref q34), (7, .ref q26), (6, .int (nI c)), (0, .ref (zA (Zc V) 0)), (1, .ref z), (3, .int (0 : Int32)), (4, .int le), (5, .int (0 : Int32))]) C 248 dL_same_248 (hN _ (Nat.le_of_ble_eq_true rfl)) rfl ?_
      refine g_iconst C 250 dL_same_250 ki_0 ?_
      refine g_istore (L' := [(13, .int (0 : Int32)), (12, .ref q245), (2, .int (1 : Int32)), (11, .ref q118), (10, .int (0 : Int32)), (9, .int (0 : Int32)), (8, .ref q34), (7, .ref q26), (6, .int (nI c)), (0, .ref (zA (Zc V) 0)), (1, .ref z), (3, .int (0 : Int32)), (4, .int le), (5, .int (0 : Int32))]) C 251 dL_same_251 (hN _ (Nat.le_of_ble_eq_true rfl)) rfl ?_
      have k372 : ∀ (k : Nat) (σk : Wd) (ck sk : Nat), R σk → ck ≤ cb + 29 → sk ≤ sb + 70 → Gn K V.1 (fun q => zS (Zc V) q ∨ (Ks K).heap.size ≤ q) (zW (Zc V) σk ++ ([(q26, .inl (V.2.2.1 1, 0, .inl (fun _ => 0))), (lg34, .inl (V.2.2.1 1, 0, .inl (fun _ => 0))), (qi34, .inl (V.2.2.1 1, 4, .inl fs)), (qo34, .inl (V.2.2.1 1, 0, .inl (fun _ => 0))), (qc34, .inl (V.2.2.1 1, 0, .inl (fun _ => 0))), (q34, .inl (V.2.2.1 6, 3, .inr (.inr (.inr (.inr (dnR qo34 qc34 qi34)))))), (q118, .inl (V.2.2.1 1, 9, .inl (fun _ => 0))), (q245, .inl (V.2.2.1 1, 5, .inl (fun _ => 0)))] : va_W)) (ck) (sk) 372 [(13, .int (nI k)), (12, .ref q245), (2, .int (1 : Int32)), (11, .ref q118), (10, .int (0 : Int32)), (9, .int (0 : Int32)), (8, .ref q34), (7, .ref q26), (6, .int (nI c)), (0, .ref (zA (Zc V) 0)), (1, .ref z), (3, .int (0 : Int32)), (4, .int le), (5, .int (0 : Int32))] [] := by
        intro k σk ck sk hRk hck2 hsk2
        refine g_iload_n C 372 11 dL_same_372 rfl ?_
        refine g_aload_n C 373 10 dL_same_373 rfl ?_
        refine g_cgetN C (hW _) 374 0 rfl 15 (Nat.le_of_ble_eq_true rfl) rfl (List.mem_of_getElem? (i := 21) rfl) rfl dL_same_374 ?_
        refine g_iload C 377 8 dL_same_377 rfl ?_
        refine g_ciald C (hW _) 379 5 rfl hc5 dL_same_379 ?_
        show Gn _ _ _ _ _ _ _ _ (.int (0 : Int32) :: _)
        refine g_iadd C 380 dL_same_380 ?_
        rw [show ((0 : Int32) + (0 : Int32)) = (0 : Int32) from by decide]
        refine g_istore_n (L' := [(3, .int (0 : Int32)), (13, .int (nI k)), (12, .ref q245), (2, .int (1 : Int32)), (11, .ref q118), (10, .int (0 : Int32)), (9, .int (0 : Int32)), (8, .ref q34), (7, .ref q26), (6, .int (nI c)), (0, .ref (zA (Zc V) 0)), (1, .ref z), (4, .int le), (5, .int (0 : Int32))]) C 381 dL_same_381 rfl (hN _ (Nat.le_of_ble_eq_true rfl)) rfl ?_
        refine g_iload C 382 12 dL_same_382 rfl ?_
        refine g_aload_n C 384 11 dL_same_384 rfl ?_
        refine g_cgetN C (hW _) 385 0 rfl 12 (Nat.le_of_ble_eq_true rfl) rfl (List.mem_of_getElem? (i := 18) rfl) rfl dL_same_385 ?_
        refine g_iload C 388 9 dL_same_388 rfl ?_
        refine g_ciald C (hW _) 390 2 rfl hc5 dL_same_390 ?_
        show Gn _ _ _ _ _ _ _ _ (.int (0 : Int32) :: _)
        refine g_mmin C 391 tw_1358 tw_414 tw_49 tw_415 (Nat.le_of_ble_eq_true rfl) (Nat.le_of_ble_eq_true rfl) (by omega) (by omega) dL_same_391 ?_
        rw [hmin]
        refine g_istore (L' := [(4, .int (0 : Int32)), (3, .int (0 : Int32)), (13, .int (nI k)), (12, .ref q245), (2, .int (1 : Int32)), (11, .ref q118), (10, .int (0 : Int32)), (9, .int (0 : Int32)), (8, .ref q34), (7, .ref q26), (6, .int (nI c)), (0, .ref (zA (Zc V) 0)), (1, .ref z), (5, .int (0 : Int32))]) C 394 dL_same_394 (hN _ (Nat.le_of_ble_eq_true rfl)) rfl ?_
        refine g_iload_n C 396 4 dL_same_396 rfl ?_
        refine g_if_eq C 397 417 dL_same_397 (by decide) (fun hq => absurd hq (by decide)) (fun _ => ?_)
        refine g_aload_n C 400 11 dL_same_400 rfl ?_
        refine g_iload C 401 10 dL_same_401 rfl ?_
        refine g_aload C 403 9 dL_same_403 rfl ?_
        refine g_alen (v := (0 : Int32)) C 405 (127 + 0) 1 (zwa rfl) rfl rfl dL_same_405 ?_
        obtain ⟨σ406, h406, hR406⟩ := f_log _ hRk c hc
        refine g_callX C hZ hzA hX 406 [.int (nI c), .int (0 : Int32)] [] rfl tw_874 mv_X8_log rfl (Nat.le_of_ble_eq_true rfl) (Nat.le_of_ble_eq_true rfl) (Nat.le_of_ble_eq_true rfl) (by omega) (by omega) dL_same_406 (c_X8_log V _ _ _ _ h406) ?_
        show Gn _ _ _ _ _ _ _ _ [.int (-1 : Int32)]
        refine g_iconst C 409 dL_same_409 ki_m1 ?_
        refine g_icmp_ne C 410 417 dL_same_410 (by decide) (fun hq => absurd hq (fun z => z rfl)) (fun _ => ?_)
        refine g_iconst C 413 dL_same_413 ki_1 ?_
        refine g_goto C 414 418 dL_same_414 (by decide) ?_
        refine g_istore_n (L' := [(2, .int (1 : Int32)), (4, .int (0 : Int32)), (3, .int (0 : Int32)), (13, .int (nI k)), (12, .ref q245), (11, .ref q118), (10, .int (0 : Int32)), (9, .int (0 : Int32)), (8, .ref q34), (7, .ref q26), (6, .int (nI c)), (0, .ref (zA (Zc V) 0)), (1, .ref z), (5, .int (0 : Int32))]) C 418 dL_same_418 rfl (hN _ (Nat.le_of_ble_eq_true rfl)) rfl ?_
        refine g_iload C 419 10 dL_same_419 rfl ?_
        refine g_aload_n C 421 12 dL_same_421 rfl ?_
        refine g_cgetN C (hW _) 422 0 rfl 6 (Nat.le_of_ble_eq_true rfl) rfl (List.mem_of_getElem? (i := 13) rfl) rfl dL_same_422 ?_
        refine g_icmp_ne C 425 460 dL_same_425 (by decide) (fun c7 => ?_) (fun c7 => ?_)
        · refine g_iinc (v := nI (c + 1)) (L' := [(6, .int (nI (c + 1))), (2, .int (1 : Int32)), (4, .int (0 : Int32)), (3, .int (0 : Int32)), (13, .int (nI k)), (12, .ref q245), (11, .ref q118), (10, .int (0 : Int32)), (9, .int (0 : Int32)), (8, .ref q34), (7, .ref q26), (0, .ref (zA (Zc V) 0)), (1, .ref z), (5, .int (0 : Int32))]) C 460 10 dL_same_460 rfl (nI_1 _) (hN _ (Nat.le_of_ble_eq_true rfl)) rfl ?_
          refine g_goto C 463 14 dL_same_463 (by decide) ?_
          refine g_sub [0, 11, 12, 1, 3, 2, 13] rfl ?_
          refine g_eq (ws2 := (zW (Zc V) σ406 ++ ([] : va_W)) ++ [(q26, .inl (V.2.2.1 1, 0, .inl (fun _ => 0))), (lg34, .inl (V.2.2.1 1, 0, .inl (fun _ => 0))), (qi34, .inl (V.2.2.1 1, 4, .inl fs)), (qo34, .inl (V.2.2.1 1, 0, .inl (fun _ => 0))), (qc34, .inl (V.2.2.1 1, 0, .inl (fun _ => 0))), (q34, .inl (V.2.2.1 6, 3, .inr (.inr (.inr (.inr (dnR qo34 qc34 qi34)))))), (q118, .inl (V.2.2.1 1, 9, .inl (fun _ => 0))), (q245, .inl (V.2.2.1 1, 5, .inl (fun _ => 0)))]) (by rw [List.append_nil]) ?_
          refine g_drop ?_
          refine g_more (ce2 := cb + 29) (sl2 := sb + 70) (by omega) (by omega) ?_
          exact ih (c + 1) 0 σ406 (cb + 29) (sb + 70) (by omega) hR406 (by omega) (by omega) (Or.inr ⟨by omega, rfl⟩)
        · refine g_iload_n C 428 0 dL_same_428 rfl ?_
          refine g_if_eq C 429 458 dL_same_429 (by decide) (fun hq => absurd hq (by decide)) (fun _ => ?_)
          refine g_aload_n C 432 11 dL_same_432 rfl ?_
          refine g_bipush C 433 dL_same_433 kb_17 ?_
          obtain ⟨σ435, h435, hR435⟩ := f_count17 _ hR406 
          refine g_callX C hZ hzA hX 435 [.int (17 : Int32)] [] rfl tw_1117 mv_X8_count rfl (Nat.le_of_ble_eq_true rfl) (Nat.le_of_ble_eq_true rfl) (Nat.le_of_ble_eq_true rfl) (by omega) (by omega) dL_same_435 (c_X8_count V _ _ _ h435) ?_
          show Gn _ _ _ _ _ _ _ _ [.int (0 : Int32)]
          refine g_iload C 438 7 dL_same_438 rfl ?_
          refine g_icmp_ne C 440 458 dL_same_440 (by decide) (fun hq => absurd hq (fun z => z rfl)) (fun _ => ?_)
          refine g_aload_n C 443 11 dL_same_443 rfl ?_
          refine g_bipush C 444 dL_same_444 kb_18 ?_
          obtain ⟨σ446, h446, hR446⟩ := f_count18 _ hR435 
          refine g_callX C hZ hzA hX 446 [.int (18 : Int32)] [] rfl tw_1117 mv_X8_count rfl (Nat.le_of_ble_eq_true rfl) (Nat.le_of_ble_eq_true rfl) (Nat.le_of_ble_eq_true rfl) (by omega) (by omega) dL_same_446 (c_X8_count V _ _ _ h446) ?_
          show Gn _ _ _ _ _ _ _ _ [.int (0 : Int32)]
          refine g_iload C 449 6 dL_same_449 rfl ?_
          refine g_icmp_ne C 451 458 dL_same_451 (by decide) (fun hq => absurd hq (fun z => z rfl)) (fun _ => ?_)
          refine g_iconst C 454 dL_same_454 ki_1 ?_
          refine g_goto C 455 459 dL_same_455 (by decide) ?_
          refine g_istore_n (L' := [(2, .int (1 : Int32)), (4, .int (0 : Int32)), (3, .int (0 : Int32)), (13, .int (nI k)), (12, .ref q245), (11, .ref q118), (10, .int (0 : Int32)), (9, .int (0 : Int32)), (8, .ref q34), (7, .ref q26), (6, .int (nI c)), (0, .ref (zA (Zc V) 0)), (1, .ref z), (5, .int (0 : Int32))]) C 459 dL_same_459 rfl (hN _ (Nat.le_of_ble_eq_true rfl)) rfl ?_
          refine g_iinc (v := nI (c + 1)) (L' := [(6, .int (nI (c + 1))), (2, .int (1 : Int32)), (4, .int (0 : Int32)), (3, .int (0 : Int32)), (13, .int (nI k)), (12, .ref q245), (11, .ref q118), (10, .int (0 : Int32)), (9, .int (0 : Int32)), (8, .ref q34), (7, .ref q26), (0, .ref (zA (Zc V) 0)), (1, .ref z), (5, .int (0 : Int32))]) C 460 10 dL_same_460 rfl (nI_1 _) (hN _ (Nat.le_of_ble_eq_true rfl)) rfl ?_
          refine g_goto C 463 14 dL_same_463 (by decide) ?_
          refine g_sub [0, 11, 12, 1, 3, 2, 13] rfl ?_
          refine g_eq (ws2 := (zW (Zc V) σ446 ++ ([] : va_W)) ++ [(q26, .inl (V.2.2.1 1, 0, .inl (fun _ => 0))), (lg34, .inl (V.2.2.1 1, 0, .inl (fun _ => 0))), (qi34, .inl (V.2.2.1 1, 4, .inl fs)), (qo34, .inl (V.2.2.1 1, 0, .inl (fun _ => 0))), (qc34, .inl (V.2.2.1 1, 0, .inl (fun _ => 0))), (q34, .inl (V.2.2.1 6, 3, .inr (.inr (.inr (.inr (dnR qo34 qc34 qi34)))))), (q118, .inl (V.2.2.1 1, 9, .inl (fun _ => 0))), (q245, .inl (V.2.2.1 1, 5, .inl (fun _ => 0)))]) (by rw [List.append_nil]) ?_
          refine g_drop ?_
          refine g_more (ce2 := cb + 29) (sl2 := sb + 70) (by omega) (by omega) ?_
          exact ih (c + 1) 0 σ446 (cb + 29) (sb + 70) (by omega) hR446 (by omega) (by omega) (Or.inr ⟨by omega, rfl⟩)
      have lk : ∀ (j k : Nat) (σk : Wd) (ck sk : Nat), k + j = nc → R σk → ck + 4 * j ≤ cb + 29 → sk + 7 * j ≤ sb + 70 → Gn K V.1 (fun q => zS (Zc V) q ∨ (Ks K).heap.size ≤ q) (zW (Zc V) σk ++ ([(q26, .inl (V.2.2.1 1, 0, .inl (fun _ => 0))), (lg34, .inl (V.2.2.1 1, 0, .inl (fun _ => 0))), (qi34, .inl (V.2.2.1 1, 4, .inl fs)), (qo34, .inl (V.2.2.1 1, 0, .inl (fun _ => 0))), (qc34, .inl (V.2.2.1 1, 0, .inl (fun _ => 0))), (q34, .inl (V.2.2.1 6, 3, .inr (.inr (.inr (.inr (dnR qo34 qc34 qi34)))))), (q118, .inl (V.2.2.1 1, 9, .inl (fun _ => 0))), (q245, .inl (V.2.2.1 1, 5, .inl (fun _ => 0)))] : va_W)) (ck) (sk) 297 [(13, .int (nI k)), (12, .ref q245), (2, .int (1 : Int32)), (11, .ref q118), (10, .int (0 : Int32)), (9, .int (0 : Int32)), (8, .ref q34), (7, .ref q26), (6, .int (nI c)), (0, .ref (zA (Zc V) 0)), (1, .ref z), (3, .int (0 : Int32)), (4, .int le), (5, .int (0 : Int32))] [] := by
        intro j
        induction j with
        | zero =>
          intro k σk ck sk hkj hRk hck2 hsk2
          have hge : iv 1 ≤ nI k := by rw [hiv1, nI_leI (by omega) (by omega)]; omega
          refine g_iload C 297 0 dL_same_297 rfl ?_
          refine g_aload_n C 299 10 dL_same_299 rfl ?_
          refine g_cgetN C (hW _) 300 0 rfl 1 (Nat.le_of_ble_eq_true rfl) rfl (List.mem_of_getElem? (i := 8) rfl) rfl dL_same_300 ?_
          refine g_icmp_ge C 303 372 dL_same_303 (by decide) (fun _ => ?_) (fun hq => absurd hge hq)
          exact k372 k σk ck sk hRk (by omega) (by omega)
        | succ j ih2 =>
          intro k σk ck sk hkj hRk hck2 hsk2
          have hk : k < nc := by omega
          have hlt : ¬ iv 1 ≤ nI k := by rw [hiv1, nI_leI (by omega) (by omega)]; omega
          have hk4 : ib (nI k) 4 := (ib_nI (by omega)).mpr (by omega)
          refine g_iload C 297 0 dL_same_297 rfl ?_
          refine g_aload_n C 299 10 dL_same_299 rfl ?_
          refine g_cgetN C (hW _) 300 0 rfl 1 (Nat.le_of_ble_eq_true rfl) rfl (List.mem_of_getElem? (i := 8) rfl) rfl dL_same_300 ?_
          refine g_icmp_ge C 303 372 dL_same_303 (by decide) (fun hq => absurd hq hlt) (fun _ => ?_)
          refine g_iload_n C 306 2 dL_same_306 rfl ?_
          refine g_if_eq C 307 364 dL_same_307 (by decide) (fun hq => absurd hq (by decide)) (fun _ => ?_)
          refine g_aload_n C 310 9 dL_same_310 rfl ?_
          refine g_iload C 311 8 dL_same_311 rfl ?_
          refine g_iload C 313 0 dL_same_313 rfl ?_
          refine g_iconst C 315 dL_same_315 ki_0 ?_
          obtain ⟨σ316, h316, hR316⟩ := f_cell0 _ hRk c hc k hk
          refine g_callX C hZ hzA hX 316 [.int (nI c), .int (nI k), .int (0 : Int32)] [] rfl tw_869 mv_X8_cell rfl (Nat.le_of_ble_eq_true rfl) (Nat.le_of_ble_eq_true rfl) (Nat.le_of_ble_eq_true rfl) (by omega) (by omega) dL_same_316 (c_X8_cell V _ _ _ _ _ h316) ?_
          show Gn _ _ _ _ _ _ _ _ [.int (fs k)]
          refine g_aload C 319 6 dL_same_319 rfl ?_
          refine g_iconst C 321 dL_same_321 ki_2 ?_
          refine g_aald (b := qi34) (ty := .array .int) C 322 (127 + 5) 6 (zwa rfl) rfl rfl (by decide) rfl dL_same_322 ?_
          refine g_iload C 323 0 dL_same_323 rfl ?_
          refine g_iald C 325 (127 + 2) (zwa rfl) hk4 dL_same_325 ?_
          rw [show ((fs) (ix (nI k))) = fs k from (by rw [ix_nI (by omega)])]
          refine g_icmp_ne C 326 364 dL_same_326 (by decide) (fun hq => absurd hq (fun z => z rfl)) (fun _ => ?_)
          refine g_aload_n C 329 9 dL_same_329 rfl ?_
          refine g_iload C 330 8 dL_same_330 rfl ?_
          refine g_iload C 332 0 dL_same_332 rfl ?_
          refine g_iconst C 334 dL_same_334 ki_1 ?_
          obtain ⟨σ335, h335, hR335⟩ := f_cell1 _ hR316 c hc k hk
          refine g_callX C hZ hzA hX 335 [.int (nI c), .int (nI k), .int (1 : Int32)] [] rfl tw_869 mv_X8_cell rfl (Nat.le_of_ble_eq_true rfl) (Nat.le_of_ble_eq_true rfl) (Nat.le_of_ble_eq_true rfl) (by omega) (by omega) dL_same_335 (c_X8_cell V _ _ _ _ _ h335) ?_
          show Gn _ _ _ _ _ _ _ _ [.int (fs k)]
          refine g_aload_n C 338 10 dL_same_338 rfl ?_
          refine g_aload C 339 7 dL_same_339 rfl ?_
          refine g_aload_n C 341 10 dL_same_341 rfl ?_
          refine g_cgetN C (hW _) 342 0 rfl 12 (Nat.le_of_ble_eq_true rfl) rfl (List.mem_of_getElem? (i := 18) rfl) rfl dL_same_342 ?_
          refine g_iload C 345 8 dL_same_345 rfl ?_
          refine g_ciald C (hW _) 347 2 rfl hc5 dL_same_347 ?_
          show Gn _ _ _ _ _ _ _ _ (.int (0 : Int32) :: _)
          refine g_iconst C 348 dL_same_348 ki_m1 ?_
          refine g_callQV C hcs 349 [.ref q26, .int (0 : Int32), .int (-1 : Int32)] [.int (fs k)] rfl tw_1357 mv_N9_done rfl (Nat.le_of_ble_eq_true rfl) (Nat.le_of_ble_eq_true rfl) (Nat.le_of_ble_eq_true rfl) (by omega) (by omega) dL_same_349 (q_done (Kl K) V.1 V.2.2.1 z u iv fs q26 (-1 : Int32)) (Wo.app (hW _) (Wo.one (127 + 0) (zwa rfl))) rfl (fun rv349 nl349 hr349 => ?_)
          obtain ⟨q349, qi349, qo349, qc349, rfl, rfl⟩ := hr349
          refine g_eq (ws2 := zW (Zc V) σ335 ++ ([(q26, .inl (V.2.2.1 1, 0, .inl (fun _ => 0))), (lg34, .inl (V.2.2.1 1, 0, .inl (fun _ => 0))), (qi34, .inl (V.2.2.1 1, 4, .inl fs)), (qo34, .inl (V.2.2.1 1, 0, .inl (fun _ => 0))), (qc34, .inl (V.2.2.1 1, 0, .inl (fun _ => 0))), (q34, .inl (V.2.2.1 6, 3, .inr (.inr (.inr (.inr (dnR qo34 qc34 qi34)))))), (q118, .inl (V.2.2.1 1, 9, .inl (fun _ => 0))), (q245, .inl (V.2.2.1 1, 5, .inl (fun _ => 0))), (qi349, .inl (V.2.2.1 1, 4, .inl fs)), (qo349, .inl (V.2.2.1 1, 0, .inl (fun _ => 0))), (qc349, .inl (V.2.2.1 1, 0, .inl (fun _ => 0))), (q349, .inl (V.2.2.1 6, 3, .inr (.inr (.inr (.inr (dnR qo349 qc349 qi349))))))] : va_W)) (zwp rfl) ?_
          show Gn _ _ _ _ _ _ _ _ [.ref q349, .int (fs k)]
          refine g_iconst C 352 dL_same_352 ki_2 ?_
          refine g_aald (b := qi349) (ty := .array .int) C 353 (127 + 11) 6 (zwa rfl) rfl rfl (by decide) rfl dL_same_353 ?_
          refine g_iload C 354 0 dL_same_354 rfl ?_
          refine g_iald C 356 (127 + 8) (zwa rfl) hk4 dL_same_356 ?_
          rw [show ((fs) (ix (nI k))) = fs k from (by rw [ix_nI (by omega)])]
          refine g_icmp_ne C 357 364 dL_same_357 (by decide) (fun hq => absurd hq (fun z => z rfl)) (fun _ => ?_)
          refine g_iconst C 360 dL_same_360 ki_1 ?_
          refine g_goto C 361 365 dL_same_361 (by decide) ?_
          refine g_istore_n (L' := [(2, .int (1 : Int32)), (13, .int (nI k)), (12, .ref q245), (11, .ref q118), (10, .int (0 : Int32)), (9, .int (0 : Int32)), (8, .ref q34), (7, .ref q26), (6, .int (nI c)), (0, .ref (zA (Zc V) 0)), (1, .ref z), (3, .int (0 : Int32)), (4, .int le), (5, .int (0 : Int32))]) C 365 dL_same_365 rfl (hN _ (Nat.le_of_ble_eq_true rfl)) rfl ?_
          refine g_iinc (v := nI (k + 1)) (L' := [(13, .int (nI (k + 1))), (2, .int (1 : Int32)), (12, .ref q245), (11, .ref q118), (10, .int (0 : Int32)), (9, .int (0 : Int32)), (8, .ref q34), (7, .ref q26), (6, .int (nI c)), (0, .ref (zA (Zc V) 0)), (1, .ref z), (3, .int (0 : Int32)), (4, .int le), (5, .int (0 : Int32))]) C 366 1 dL_same_366 rfl (nI_1 _) (hN _ (Nat.le_of_ble_eq_true rfl)) rfl ?_
          refine g_goto C 369 297 dL_same_369 (by decide) ?_
          refine g_sub [0, 2, 1, 3, 4, 5, 6, 7, 8, 9, 10, 11, 12, 13] rfl ?_
          refine g_eq (ws2 := (zW (Zc V) σ335 ++ ([(q26, .inl (V.2.2.1 1, 0, .inl (fun _ => 0))), (lg34, .inl (V.2.2.1 1, 0, .inl (fun _ => 0))), (qi34, .inl (V.2.2.1 1, 4, .inl fs)), (qo34, .inl (V.2.2.1 1, 0, .inl (fun _ => 0))), (qc34, .inl (V.2.2.1 1, 0, .inl (fun _ => 0))), (q34, .inl (V.2.2.1 6, 3, .inr (.inr (.inr (.inr (dnR qo34 qc34 qi34)))))), (q118, .inl (V.2.2.1 1, 9, .inl (fun _ => 0))), (q245, .inl (V.2.2.1 1, 5, .inl (fun _ => 0)))] : va_W)) ++ [(qi349, .inl (V.2.2.1 1, 4, .inl fs)), (qo349, .inl (V.2.2.1 1, 0, .inl (fun _ => 0))), (qc349, .inl (V.2.2.1 1, 0, .inl (fun _ => 0))), (q349, .inl (V.2.2.1 6, 3, .inr (.inr (.inr (.inr (dnR qo349 qc349 qi349))))))]) (by simp only [List.append_assoc, List.cons_append, List.nil_append]) ?_
          refine g_drop ?_
          exact ih2 (k + 1) σ335 _ _ (by omega) hR335 (by omega) (by omega)
      have lo : ∀ (j o : Nat) (σo : Wd), o + j = n → R σo → Gn K V.1 (fun q => zS (Zc V) q ∨ (Ks K).heap.size ≤ q) (zW (Zc V) σo ++ ([(q26, .inl (V.2.2.1 1, 0, .inl (fun _ => 0))), (lg34, .inl (V.2.2.1 1, 0, .inl (fun _ => 0))), (qi34, .inl (V.2.2.1 1, 4, .inl fs)), (qo34, .inl (V.2.2.1 1, 0, .inl (fun _ => 0))), (qc34, .inl (V.2.2.1 1, 0, .inl (fun _ => 0))), (q34, .inl (V.2.2.1 6, 3, .inr (.inr (.inr (.inr (dnR qo34 qc34 qi34)))))), (q118, .inl (V.2.2.1 1, 9, .inl (fun _ => 0))), (q245, .inl (V.2.2.1 1, 5, .inl (fun _ => 0)))] : va_W)) (ce + 1 + 5 + 1 + 1 + 1) (sl + 0 + 7 + 9 + 5 + 5) 253 [(13, .int (nI o)), (12, .ref q245), (2, .int (1 : Int32)), (11, .ref q118), (10, .int (0 : Int32)), (9, .int (0 : Int32)), (8, .ref q34), (7, .ref q26), (6, .int (nI c)), (0, .ref (zA (Zc V) 0)), (1, .ref z), (3, .int (0 : Int32)), (4, .int le), (5, .int (0 : Int32))] [] := by
        intro j
        induction j with
        | zero =>
          intro o σo hok hRo
          have hge : iv 0 ≤ nI o := by rw [hiv0, nI_leI (by omega) (by omega)]; omega
          refine g_iload C 253 0 dL_same_253 rfl ?_
          refine g_aload_n C 255 10 dL_same_255 rfl ?_
          refine g_cgetN C (hW _) 256 0 rfl 0 (Nat.le_of_ble_eq_true rfl) rfl (List.mem_of_getElem? (i := 7) rfl) rfl dL_same_256 ?_
          refine g_icmp_ge C 259 294 dL_same_259 (by decide) (fun _ => ?_) (fun hq => absurd hge hq)
          refine g_iconst C 294 dL_same_294 ki_0 ?_
          refine g_istore (L' := [(13, .int (0 : Int32)), (12, .ref q245), (2, .int (1 : Int32)), (11, .ref q118), (10, .int (0 : Int32)), (9, .int (0 : Int32)), (8, .ref q34), (7, .ref q26), (6, .int (nI c)), (0, .ref (zA (Zc V) 0)), (1, .ref z), (3, .int (0 : Int32)), (4, .int le), (5, .int (0 : Int32))]) C 295 dL_same_295 (hN _ (Nat.le_of_ble_eq_true rfl)) rfl ?_
          refine g_sub [0, 1, 2, 3, 4, 5, 6, 7, 8, 9, 10, 11, 12, 13] rfl ?_
          exact lk nc 0 σo _ _ (by omega) hRo (by omega) (by omega)
        | succ j ih3 =>
          intro o σo hok hRo
          have ho : o < n := by omega
          have hlt : ¬ iv 0 ≤ nI o := by rw [hiv0, nI_leI (by omega) (by omega)]; omega
          have ho5 : ib (nI o) 5 := (ib_nI (by omega)).mpr (by omega)
          refine g_iload C 253 0 dL_same_253 rfl ?_
          refine g_aload_n C 255 10 dL_same_255 rfl ?_
          refine g_cgetN C (hW _) 256 0 rfl 0 (Nat.le_of_ble_eq_true rfl) rfl (List.mem_of_getElem? (i := 7) rfl) rfl dL_same_256 ?_
          refine g_icmp_ge C 259 294 dL_same_259 (by decide) (fun hq => absurd hq hlt) (fun _ => ?_)
          refine g_iload_n C 262 2 dL_same_262 rfl ?_
          refine g_if_eq C 263 286 dL_same_263 (by decide) (fun hq => absurd hq (by decide)) (fun _ => ?_)
          refine g_aload_n C 266 9 dL_same_266 rfl ?_
          refine g_iload C 267 8 dL_same_267 rfl ?_
          refine g_iload C 269 0 dL_same_269 rfl ?_
          have h271 := f_vector _ hRo c hc o ho
          refine g_callX C hZ hzA hX 271 [.int (nI c), .int (nI o)] [] rfl tw_945 mv_X8_vector rfl (Nat.le_of_ble_eq_true rfl) (Nat.le_of_ble_eq_true rfl) (Nat.le_of_ble_eq_true rfl) (by omega) (by omega) dL_same_271 (c_X8_vector V _ _ _ _ h271) ?_
          show Gn _ _ _ _ _ _ _ _ [.int (0 : Int32)]
          refine g_aload C 274 1 dL_same_274 rfl ?_
          refine g_iload C 276 0 dL_same_276 rfl ?_
          refine g_iald C 278 (127 + 7) (zwa rfl) ho5 dL_same_278 ?_
          show Gn _ _ _ _ _ _ _ _ (.int (0 : Int32) :: _)
          refine g_icmp_ne C 279 286 dL_same_279 (by decide) (fun hq => absurd hq (fun z => z rfl)) (fun _ => ?_)
          refine g_iconst C 282 dL_same_282 ki_1 ?_
          refine g_goto C 283 287 dL_same_283 (by decide) ?_
          refine g_istore_n (L' := [(2, .int (1 : Int32)), (13, .int (nI o)), (12, .ref q245), (11, .ref q118), (10, .int (0 : Int32)), (9, .int (0 : Int32)), (8, .ref q34), (7, .ref q26), (6, .int (nI c)), (0, .ref (zA (Zc V) 0)), (1, .ref z), (3, .int (0 : Int32)), (4, .int le), (5, .int (0 : Int32))]) C 287 dL_same_287 rfl (hN _ (Nat.le_of_ble_eq_true rfl)) rfl ?_
          refine g_iinc (v := nI (o + 1)) (L' := [(13, .int (nI (o + 1))), (2, .int (1 : Int32)), (12, .ref q245), (11, .ref q118), (10, .int (0 : Int32)), (9, .int (0 : Int32)), (8, .ref q34), (7, .ref q26), (6, .int (nI c)), (0, .ref (zA (Zc V) 0)), (1, .ref z), (3, .int (0 : Int32)), (4, .int le), (5, .int (0 : Int32))]) C 288 1 dL_same_288 rfl (nI_1 _) (hN _ (Nat.le_of_ble_eq_true rfl)) rfl ?_
          refine g_goto C 291 253 dL_same_291 (by decide) ?_
          refine g_sub [0, 2, 1, 3, 4, 5, 6, 7, 8, 9, 10, 11, 12, 13] rfl ?_
          exact ih3 (o + 1) σo (by omega) hRo
      refine g_sub [0, 1, 2, 3, 4, 5, 6, 7, 8, 9, 10, 11, 12, 13] rfl ?_
      exact lo n 0 σ219 (by omega) hR219
  refine g_iconst C 0 dL_same_0 ki_1 ?_
  refine g_istore_n (L' := [(2, .int (1 : Int32)), (0, .ref (zA (Zc V) 0)), (1, .ref z)]) C 1 dL_same_1 rfl (hN _ (Nat.le_of_ble_eq_true rfl)) rfl ?_
  refine g_iconst C 2 dL_same_2 ki_0 ?_
  refine g_istore_n (L' := [(3, .int (0 : Int32)), (2, .int (1 : Int32)), (0, .ref (zA (Zc V) 0)), (1, .ref z)]) C 3 dL_same_3 rfl (hN _ (Nat.le_of_ble_eq_true rfl)) rfl ?_
  refine g_bipush C 4 dL_same_4 kb_60 ?_
  refine g_istore (L' := [(4, .int (60 : Int32)), (3, .int (0 : Int32)), (2, .int (1 : Int32)), (0, .ref (zA (Zc V) 0)), (1, .ref z)]) C 6 dL_same_6 (hN _ (Nat.le_of_ble_eq_true rfl)) rfl ?_
  refine g_iconst C 8 dL_same_8 ki_0 ?_
  refine g_istore (L' := [(5, .int (0 : Int32)), (4, .int (60 : Int32)), (3, .int (0 : Int32)), (2, .int (1 : Int32)), (0, .ref (zA (Zc V) 0)), (1, .ref z)]) C 9 dL_same_9 (hN _ (Nat.le_of_ble_eq_true rfl)) rfl ?_
  refine g_iconst C 11 dL_same_11 ki_0 ?_
  refine g_istore (L' := [(6, .int (0 : Int32)), (5, .int (0 : Int32)), (4, .int (60 : Int32)), (3, .int (0 : Int32)), (2, .int (1 : Int32)), (0, .ref (zA (Zc V) 0)), (1, .ref z)]) C 12 dL_same_12 (hN _ (Nat.le_of_ble_eq_true rfl)) rfl ?_
  refine g_sub [0, 5, 6, 4, 3, 2, 1] rfl ?_
  exact lc n 0 60 σ 0 0 (by omega) hRs (by omega) (by omega) (Or.inl ⟨rfl, rfl⟩)
