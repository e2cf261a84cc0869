/-! told -/
theorem tw_1154 : Cond.static yL_told ∈ gw_tbl := gw_mem 1154 (by decide +kernel) (by decide +kernel)
theorem tw_1155 : Cond.code yL_told cL_told 8 (some (.object "TentativeDeskLaw$Net")) ∈ gw_tbl := gw_mem 1155 (by decide +kernel) (by decide +kernel)
theorem tw_1156 : Cond.classLink RL 45 RN9 ∈ gw_tbl := gw_mem 1156 (by decide +kernel) (by decide +kernel)
theorem tw_1157 : Cond.instantiable RN9 24 ∈ gw_tbl := gw_mem 1157 (by decide +kernel) (by decide +kernel)
theorem tw_1159 : Cond.instanceMethod yN9_init ∈ gw_tbl := gw_mem 1159 (by decide +kernel) (by decide +kernel)
theorem tw_1258 : Cond.constant RL 64 (1936024932 : Int32) ∈ gw_tbl := gw_mem 1258 (by decide +kernel) (by decide +kernel)
theorem tw_1259 : Cond.constant RL 65 (536870912 : Int32) ∈ gw_tbl := gw_mem 1259 (by decide +kernel) (by decide +kernel)
theorem tw_1281 : Cond.constant RL 66 (996372336 : Int32) ∈ gw_tbl := gw_mem 1281 (by decide +kernel) (by decide +kernel)
theorem tw_1282 : Cond.constant RL 67 (1768256288 : Int32) ∈ gw_tbl := gw_mem 1282 (by decide +kernel) (by decide +kernel)
theorem tw_1283 : Cond.constant RL 68 (997225065 : Int32) ∈ gw_tbl := gw_mem 1283 (by decide +kernel) (by decide +kernel)
theorem tw_1284 : Cond.constant RL 69 (1835102841 : Int32) ∈ gw_tbl := gw_mem 1284 (by decide +kernel) (by decide +kernel)
theorem tw_1285 : Cond.constant RL 74 (1667591276 : Int32) ∈ gw_tbl := gw_mem 1285 (by decide +kernel) (by decide +kernel)
theorem tw_1289 : Cond.classLink RL 79 "[I" ∈ gw_tbl := gw_mem 1289 (by decide +kernel) (by decide +kernel)
theorem tw_1290 : Cond.constant RL 80 (1718579821 : Int32) ∈ gw_tbl := gw_mem 1290 (by decide +kernel) (by decide +kernel)
theorem tw_1291 : Cond.constant RL 81 (543555584 : Int32) ∈ gw_tbl := gw_mem 1291 (by decide +kernel) (by decide +kernel)
theorem tw_1292 : Cond.constant RL 82 (544105829 : Int32) ∈ gw_tbl := gw_mem 1292 (by decide +kernel) (by decide +kernel)
theorem tw_1293 : Cond.constant RL 83 (1685258240 : Int32) ∈ gw_tbl := gw_mem 1293 (by decide +kernel) (by decide +kernel)
theorem tw_1294 : Cond.methodLink RL 84 yL_term ∈ gw_tbl := gw_mem 1294 (by decide +kernel) (by decide +kernel)
theorem tw_1309 : Cond.constant RL 88 (544433524 : Int32) ∈ gw_tbl := gw_mem 1309 (by decide +kernel) (by decide +kernel)
theorem tw_1310 : Cond.constant RL 89 (1929379840 : Int32) ∈ gw_tbl := gw_mem 1310 (by decide +kernel) (by decide +kernel)
theorem tw_1311 : Cond.constant RL 90 (543517811 : Int32) ∈ gw_tbl := gw_mem 1311 (by decide +kernel) (by decide +kernel)
theorem tw_1312 : Cond.constant RL 91 (1694498816 : Int32) ∈ gw_tbl := gw_mem 1312 (by decide +kernel) (by decide +kernel)
theorem ks_1023 : (Int16.ofInt (1023)).toInt32 = (1023 : Int32) := by decide
theorem dL_told_0 : decode cL_told 0 = .ok (.new 45, 3) := by decide +kernel
theorem dL_told_3 : decode cL_told 3 = .ok (.dup, 1) := by decide +kernel
theorem dL_told_4 : decode cL_told 4 = .ok (.invokespecial 47, 3) := by decide +kernel
theorem dL_told_7 : decode cL_told 7 = .ok (.astore 4, 2) := by decide +kernel
theorem dL_told_9 : decode cL_told 9 = .ok (.aload 4, 2) := by decide +kernel
theorem dL_told_11 : decode cL_told 11 = .ok (.iload_n 2, 1) := by decide +kernel
theorem dL_told_12 : decode cL_told 12 = .ok (.iconst 2, 1) := by decide +kernel
theorem dL_told_13 : decode cL_told 13 = .ok (.ishr, 1) := by decide +kernel
theorem dL_told_14 : decode cL_told 14 = .ok (.sipush 1023, 3) := by decide +kernel
theorem dL_told_17 : decode cL_told 17 = .ok (.iand, 1) := by decide +kernel
theorem dL_told_18 : decode cL_told 18 = .ok (.putfield 48, 3) := by decide +kernel
theorem dL_told_21 : decode cL_told 21 = .ok (.aload 4, 2) := by decide +kernel
theorem dL_told_23 : decode cL_told 23 = .ok (.iconst 1, 1) := by decide +kernel
theorem dL_told_24 : decode cL_told 24 = .ok (.iload_n 3, 1) := by decide +kernel
theorem dL_told_25 : decode cL_told 25 = .ok (.sipush 255, 3) := by decide +kernel
theorem dL_told_28 : decode cL_told 28 = .ok (.iand, 1) := by decide +kernel
theorem dL_told_29 : decode cL_told 29 = .ok (.iconst 5, 1) := by decide +kernel
theorem dL_told_30 : decode cL_told 30 = .ok (.irem, 1) := by decide +kernel
theorem dL_told_31 : decode cL_told 31 = .ok (.iadd, 1) := by decide +kernel
theorem dL_told_32 : decode cL_told 32 = .ok (.putfield 52, 3) := by decide +kernel
theorem dL_told_35 : decode cL_told 35 = .ok (.aload 4, 2) := by decide +kernel
theorem dL_told_37 : decode cL_told 37 = .ok (.iload_n 2, 1) := by decide +kernel
theorem dL_told_38 : decode cL_told 38 = .ok (.sipush 255, 3) := by decide +kernel
theorem dL_told_41 : decode cL_told 41 = .ok (.iand, 1) := by decide +kernel
theorem dL_told_42 : decode cL_told 42 = .ok (.aload 4, 2) := by decide +kernel
theorem dL_told_44 : decode cL_told 44 = .ok (.getfield 52, 3) := by decide +kernel
theorem dL_told_47 : decode cL_told 47 = .ok (.irem, 1) := by decide +kernel
theorem dL_told_48 : decode cL_told 48 = .ok (.putfield 55, 3) := by decide +kernel
theorem dL_told_51 : decode cL_told 51 = .ok (.aload 4, 2) := by decide +kernel
theorem dL_told_53 : decode cL_told 53 = .ok (.iload_n 2, 1) := by decide +kernel
theorem dL_told_54 : decode cL_told 54 = .ok (.iconst 3, 1) := by decide +kernel
theorem dL_told_55 : decode cL_told 55 = .ok (.ishr, 1) := by decide +kernel
theorem dL_told_56 : decode cL_told 56 = .ok (.sipush 255, 3) := by decide +kernel
theorem dL_told_59 : decode cL_told 59 = .ok (.iand, 1) := by decide +kernel
theorem dL_told_60 : decode cL_told 60 = .ok (.iconst 5, 1) := by decide +kernel
theorem dL_told_61 : decode cL_told 61 = .ok (.irem, 1) := by decide +kernel
theorem dL_told_62 : decode cL_told 62 = .ok (.putfield 58, 3) := by decide +kernel
theorem dL_told_65 : decode cL_told 65 = .ok (.aload 4, 2) := by decide +kernel
theorem dL_told_67 : decode cL_told 67 = .ok (.aload 4, 2) := by decide +kernel
theorem dL_told_69 : decode cL_told 69 = .ok (.getfield 58, 3) := by decide +kernel
theorem dL_told_72 : decode cL_told 72 = .ok (.ifCond .ne 7, 3) := by decide +kernel
theorem dL_told_75 : decode cL_told 75 = .ok (.iconst 0, 1) := by decide +kernel
theorem dL_told_76 : decode cL_told 76 = .ok (.goto 12, 3) := by decide +kernel
theorem dL_told_79 : decode cL_told 79 = .ok (.iload_n 3, 1) := by decide +kernel
theorem dL_told_80 : decode cL_told 80 = .ok (.iconst 3, 1) := by decide +kernel
theorem dL_told_81 : decode cL_told 81 = .ok (.ishr, 1) := by decide +kernel
theorem dL_told_82 : decode cL_told 82 = .ok (.sipush 255, 3) := by decide +kernel
theorem dL_told_85 : decode cL_told 85 = .ok (.iand, 1) := by decide +kernel
theorem dL_told_86 : decode cL_told 86 = .ok (.iconst 5, 1) := by decide +kernel
theorem dL_told_87 : decode cL_told 87 = .ok (.irem, 1) := by decide +kernel
theorem dL_told_88 : decode cL_told 88 = .ok (.putfield 61, 3) := by decide +kernel
theorem dL_told_91 : decode cL_told 91 = .ok (.aload_n 0, 1) := by decide +kernel
theorem dL_told_92 : decode cL_told 92 = .ok (.iconst 5, 1) := by decide +kernel
theorem dL_told_93 : decode cL_told 93 = .ok (.ldc 64, 2) := by decide +kernel
theorem dL_told_95 : decode cL_told 95 = .ok (.ldc 65, 2) := by decide +kernel
theorem dL_told_97 : decode cL_told 97 = .ok (.iconst 0, 1) := by decide +kernel
theorem dL_told_98 : decode cL_told 98 = .ok (.iconst 0, 1) := by decide +kernel
theorem dL_told_99 : decode cL_told 99 = .ok (.iconst 0, 1) := by decide +kernel
theorem dL_told_100 : decode cL_told 100 = .ok (.invokestatic 30, 3) := by decide +kernel
theorem dL_told_103 : decode cL_told 103 = .ok (.aload_n 0, 1) := by decide +kernel
theorem dL_told_104 : decode cL_told 104 = .ok (.aload 4, 2) := by decide +kernel
theorem dL_told_106 : decode cL_told 106 = .ok (.getfield 48, 3) := by decide +kernel
theorem dL_told_109 : decode cL_told 109 = .ok (.invokestatic 23, 3) := by decide +kernel
theorem dL_told_112 : decode cL_told 112 = .ok (.aload_n 0, 1) := by decide +kernel
theorem dL_told_113 : decode cL_told 113 = .ok (.bipush 8, 2) := by decide +kernel
theorem dL_told_115 : decode cL_told 115 = .ok (.ldc 66, 2) := by decide +kernel
theorem dL_told_117 : decode cL_told 117 = .ok (.ldc 67, 2) := by decide +kernel
theorem dL_told_119 : decode cL_told 119 = .ok (.iconst 0, 1) := by decide +kernel
theorem dL_told_120 : decode cL_told 120 = .ok (.iconst 0, 1) := by decide +kernel
theorem dL_told_121 : decode cL_told 121 = .ok (.iconst 0, 1) := by decide +kernel
theorem dL_told_122 : decode cL_told 122 = .ok (.invokestatic 30, 3) := by decide +kernel
theorem dL_told_125 : decode cL_told 125 = .ok (.aload_n 0, 1) := by decide +kernel
theorem dL_told_126 : decode cL_told 126 = .ok (.aload 4, 2) := by decide +kernel
theorem dL_told_128 : decode cL_told 128 = .ok (.getfield 52, 3) := by decide +kernel
theorem dL_told_131 : decode cL_told 131 = .ok (.invokestatic 23, 3) := by decide +kernel
theorem dL_told_134 : decode cL_told 134 = .ok (.aload_n 0, 1) := by decide +kernel
theorem dL_told_135 : decode cL_told 135 = .ok (.bipush 9, 2) := by decide +kernel
theorem dL_told_137 : decode cL_told 137 = .ok (.ldc 68, 2) := by decide +kernel
theorem dL_told_139 : decode cL_told 139 = .ok (.ldc 69, 2) := by decide +kernel
theorem dL_told_141 : decode cL_told 141 = .ok (.ldc 65, 2) := by decide +kernel
theorem dL_told_143 : decode cL_told 143 = .ok (.iconst 0, 1) := by decide +kernel
theorem dL_told_144 : decode cL_told 144 = .ok (.iconst 0, 1) := by decide +kernel
theorem dL_told_145 : decode cL_told 145 = .ok (.invokestatic 30, 3) := by decide +kernel
theorem dL_told_148 : decode cL_told 148 = .ok (.aload_n 0, 1) := by decide +kernel
theorem dL_told_149 : decode cL_told 149 = .ok (.aload 4, 2) := by decide +kernel
theorem dL_told_151 : decode cL_told 151 = .ok (.getfield 55, 3) := by decide +kernel
theorem dL_told_154 : decode cL_told 154 = .ok (.invokestatic 23, 3) := by decide +kernel
theorem dL_told_157 : decode cL_told 157 = .ok (.aload_n 0, 1) := by decide +kernel
theorem dL_told_158 : decode cL_told 158 = .ok (.bipush 59, 2) := by decide +kernel
theorem dL_told_160 : decode cL_told 160 = .ok (.invokestatic 17, 3) := by decide +kernel
theorem dL_told_163 : decode cL_told 163 = .ok (.iconst 0, 1) := by decide +kernel
theorem dL_told_164 : decode cL_told 164 = .ok (.istore 5, 2) := by decide +kernel
theorem dL_told_166 : decode cL_told 166 = .ok (.iload 5, 2) := by decide +kernel
theorem dL_told_168 : decode cL_told 168 = .ok (.aload 4, 2) := by decide +kernel
theorem dL_told_170 : decode cL_told 170 = .ok (.getfield 58, 3) := by decide +kernel
theorem dL_told_173 : decode cL_told 173 = .ok (.if_icmp .ge 63, 3) := by decide +kernel
theorem dL_told_176 : decode cL_told 176 = .ok (.aload 4, 2) := by decide +kernel
theorem dL_told_178 : decode cL_told 178 = .ok (.getfield 70, 3) := by decide +kernel
theorem dL_told_181 : decode cL_told 181 = .ok (.iload 5, 2) := by decide +kernel
theorem dL_told_183 : decode cL_told 183 = .ok (.iload_n 3, 1) := by decide +kernel
theorem dL_told_184 : decode cL_told 184 = .ok (.iload 5, 2) := by decide +kernel
theorem dL_told_186 : decode cL_told 186 = .ok (.ishr, 1) := by decide +kernel
theorem dL_told_187 : decode cL_told 187 = .ok (.sipush 255, 3) := by decide +kernel
theorem dL_told_190 : decode cL_told 190 = .ok (.iand, 1) := by decide +kernel
theorem dL_told_191 : decode cL_told 191 = .ok (.bipush 12, 2) := by decide +kernel
theorem dL_told_193 : decode cL_told 193 = .ok (.irem, 1) := by decide +kernel
theorem dL_told_194 : decode cL_told 194 = .ok (.iastore, 1) := by decide +kernel
theorem dL_told_195 : decode cL_told 195 = .ok (.aload_n 0, 1) := by decide +kernel
theorem dL_told_196 : decode cL_told 196 = .ok (.iconst 4, 1) := by decide +kernel
theorem dL_told_197 : decode cL_told 197 = .ok (.ldc 74, 2) := by decide +kernel
theorem dL_told_199 : decode cL_told 199 = .ok (.iconst 0, 1) := by decide +kernel
theorem dL_told_200 : decode cL_told 200 = .ok (.iconst 0, 1) := by decide +kernel
theorem dL_told_201 : decode cL_told 201 = .ok (.iconst 0, 1) := by decide +kernel
theorem dL_told_202 : decode cL_told 202 = .ok (.iconst 0, 1) := by decide +kernel
theorem dL_told_203 : decode cL_told 203 = .ok (.invokestatic 30, 3) := by decide +kernel
theorem dL_told_206 : decode cL_told 206 = .ok (.aload_n 0, 1) := by decide +kernel
theorem dL_told_207 : decode cL_told 207 = .ok (.iload 5, 2) := by decide +kernel
theorem dL_told_209 : decode cL_told 209 = .ok (.invokestatic 26, 3) := by decide +kernel
theorem dL_told_212 : decode cL_told 212 = .ok (.aload_n 0, 1) := by decide +kernel
theorem dL_told_213 : decode cL_told 213 = .ok (.aload 4, 2) := by decide +kernel
theorem dL_told_215 : decode cL_told 215 = .ok (.getfield 70, 3) := by decide +kernel
theorem dL_told_218 : decode cL_told 218 = .ok (.iload 5, 2) := by decide +kernel
theorem dL_told_220 : decode cL_told 220 = .ok (.iaload, 1) := by decide +kernel
theorem dL_told_221 : decode cL_told 221 = .ok (.invokestatic 23, 3) := by decide +kernel
theorem dL_told_224 : decode cL_told 224 = .ok (.aload_n 0, 1) := by decide +kernel
theorem dL_told_225 : decode cL_told 225 = .ok (.bipush 59, 2) := by decide +kernel
theorem dL_told_227 : decode cL_told 227 = .ok (.invokestatic 17, 3) := by decide +kernel
theorem dL_told_230 : decode cL_told 230 = .ok (.iinc 5 1, 3) := by decide +kernel
theorem dL_told_233 : decode cL_told 233 = .ok (.goto (-67), 3) := by decide +kernel
theorem dL_told_236 : decode cL_told 236 = .ok (.iconst 0, 1) := by decide +kernel
theorem dL_told_237 : decode cL_told 237 = .ok (.istore 5, 2) := by decide +kernel
theorem dL_told_239 : decode cL_told 239 = .ok (.iload 5, 2) := by decide +kernel
theorem dL_told_241 : decode cL_told 241 = .ok (.aload 4, 2) := by decide +kernel
theorem dL_told_243 : decode cL_told 243 = .ok (.getfield 61, 3) := by decide +kernel
theorem dL_told_246 : decode cL_told 246 = .ok (.if_icmp .ge 330, 3) := by decide +kernel
theorem dL_told_249 : decode cL_told 249 = .ok (.iload 5, 2) := by decide +kernel
theorem dL_told_251 : decode cL_told 251 = .ok (.aload_n 1, 1) := by decide +kernel
theorem dL_told_252 : decode cL_told 252 = .ok (.arraylength, 1) := by decide +kernel
theorem dL_told_253 : decode cL_told 253 = .ok (.if_icmp .ge 10, 3) := by decide +kernel
theorem dL_told_256 : decode cL_told 256 = .ok (.aload_n 1, 1) := by decide +kernel
theorem dL_told_257 : decode cL_told 257 = .ok (.iload 5, 2) := by decide +kernel
theorem dL_told_259 : decode cL_told 259 = .ok (.iaload, 1) := by decide +kernel
theorem dL_told_260 : decode cL_told 260 = .ok (.goto 13, 3) := by decide +kernel
theorem dL_told_263 : decode cL_told 263 = .ok (.iload_n 3, 1) := by decide +kernel
theorem dL_told_264 : decode cL_told 264 = .ok (.iload 5, 2) := by decide +kernel
theorem dL_told_266 : decode cL_told 266 = .ok (.iconst 3, 1) := by decide +kernel
theorem dL_told_267 : decode cL_told 267 = .ok (.iadd, 1) := by decide +kernel
theorem dL_told_268 : decode cL_told 268 = .ok (.imul, 1) := by decide +kernel
theorem dL_told_269 : decode cL_told 269 = .ok (.iload_n 2, 1) := by decide +kernel
theorem dL_told_270 : decode cL_told 270 = .ok (.iadd, 1) := by decide +kernel
theorem dL_told_271 : decode cL_told 271 = .ok (.iconst 1, 1) := by decide +kernel
theorem dL_told_272 : decode cL_told 272 = .ok (.ishr, 1) := by decide +kernel
theorem dL_told_273 : decode cL_told 273 = .ok (.istore 6, 2) := by decide +kernel
theorem dL_told_275 : decode cL_told 275 = .ok (.iconst 3, 1) := by decide +kernel
theorem dL_told_276 : decode cL_told 276 = .ok (.newarray .int, 2) := by decide +kernel
theorem dL_told_278 : decode cL_told 278 = .ok (.dup, 1) := by decide +kernel
theorem dL_told_279 : decode cL_told 279 = .ok (.iconst 0, 1) := by decide +kernel
theorem dL_told_280 : decode cL_told 280 = .ok (.iload 6, 2) := by decide +kernel
theorem dL_told_282 : decode cL_told 282 = .ok (.iconst 1, 1) := by decide +kernel
theorem dL_told_283 : decode cL_told 283 = .ok (.iand, 1) := by decide +kernel
theorem dL_told_284 : decode cL_told 284 = .ok (.iastore, 1) := by decide +kernel
theorem dL_told_285 : decode cL_told 285 = .ok (.dup, 1) := by decide +kernel
theorem dL_told_286 : decode cL_told 286 = .ok (.iconst 1, 1) := by decide +kernel
theorem dL_told_287 : decode cL_told 287 = .ok (.iload 6, 2) := by decide +kernel
theorem dL_told_289 : decode cL_told 289 = .ok (.iconst 1, 1) := by decide +kernel
theorem dL_told_290 : decode cL_told 290 = .ok (.ishr, 1) := by decide +kernel
theorem dL_told_291 : decode cL_told 291 = .ok (.sipush 255, 3) := by decide +kernel
theorem dL_told_294 : decode cL_told 294 = .ok (.iand, 1) := by decide +kernel
theorem dL_told_295 : decode cL_told 295 = .ok (.aload 4, 2) := by decide +kernel
theorem dL_told_297 : decode cL_told 297 = .ok (.getfield 58, 3) := by decide +kernel
theorem dL_told_300 : decode cL_told 300 = .ok (.irem, 1) := by decide +kernel
theorem dL_told_301 : decode cL_told 301 = .ok (.iastore, 1) := by decide +kernel
theorem dL_told_302 : decode cL_told 302 = .ok (.dup, 1) := by decide +kernel
theorem dL_told_303 : decode cL_told 303 = .ok (.iconst 2, 1) := by decide +kernel
theorem dL_told_304 : decode cL_told 304 = .ok (.iload 6, 2) := by decide +kernel
theorem dL_told_306 : decode cL_told 306 = .ok (.iconst 3, 1) := by decide +kernel
theorem dL_told_307 : decode cL_told 307 = .ok (.ishr, 1) := by decide +kernel
theorem dL_told_308 : decode cL_told 308 = .ok (.iconst 1, 1) := by decide +kernel
theorem dL_told_309 : decode cL_told 309 = .ok (.iand, 1) := by decide +kernel
theorem dL_told_310 : decode cL_told 310 = .ok (.ifCond .ne 7, 3) := by decide +kernel
theorem dL_told_313 : decode cL_told 313 = .ok (.iconst (-1), 1) := by decide +kernel
theorem dL_told_314 : decode cL_told 314 = .ok (.goto 17, 3) := by decide +kernel
theorem dL_told_317 : decode cL_told 317 = .ok (.iload 6, 2) := by decide +kernel
theorem dL_told_319 : decode cL_told 319 = .ok (.iconst 4, 1) := by decide +kernel
theorem dL_told_320 : decode cL_told 320 = .ok (.ishr, 1) := by decide +kernel
theorem dL_told_321 : decode cL_told 321 = .ok (.sipush 255, 3) := by decide +kernel
theorem dL_told_324 : decode cL_told 324 = .ok (.iand, 1) := by decide +kernel
theorem dL_told_325 : decode cL_told 325 = .ok (.aload 4, 2) := by decide +kernel
theorem dL_told_327 : decode cL_told 327 = .ok (.getfield 58, 3) := by decide +kernel
theorem dL_told_330 : decode cL_told 330 = .ok (.irem, 1) := by decide +kernel
theorem dL_told_331 : decode cL_told 331 = .ok (.iastore, 1) := by decide +kernel
theorem dL_told_332 : decode cL_told 332 = .ok (.astore 7, 2) := by decide +kernel
theorem dL_told_334 : decode cL_told 334 = .ok (.aload 4, 2) := by decide +kernel
theorem dL_told_336 : decode cL_told 336 = .ok (.getfield 75, 3) := by decide +kernel
theorem dL_told_339 : decode cL_told 339 = .ok (.iload 5, 2) := by decide +kernel
theorem dL_told_341 : decode cL_told 341 = .ok (.iconst 5, 1) := by decide +kernel
theorem dL_told_342 : decode cL_told 342 = .ok (.anewarray 79, 3) := by decide +kernel
theorem dL_told_345 : decode cL_told 345 = .ok (.aastore, 1) := by decide +kernel
theorem dL_told_346 : decode cL_told 346 = .ok (.aload 4, 2) := by decide +kernel
theorem dL_told_348 : decode cL_told 348 = .ok (.getfield 75, 3) := by decide +kernel
theorem dL_told_351 : decode cL_told 351 = .ok (.iload 5, 2) := by decide +kernel
theorem dL_told_353 : decode cL_told 353 = .ok (.aaload, 1) := by decide +kernel
theorem dL_told_354 : decode cL_told 354 = .ok (.iconst 0, 1) := by decide +kernel
theorem dL_told_355 : decode cL_told 355 = .ok (.aload 7, 2) := by decide +kernel
theorem dL_told_357 : decode cL_told 357 = .ok (.aastore, 1) := by decide +kernel
theorem dL_told_358 : decode cL_told 358 = .ok (.aload_n 0, 1) := by decide +kernel
theorem dL_told_359 : decode cL_told 359 = .ok (.bipush 6, 2) := by decide +kernel
theorem dL_told_361 : decode cL_told 361 = .ok (.ldc 80, 2) := by decide +kernel
theorem dL_told_363 : decode cL_told 363 = .ok (.ldc 81, 2) := by decide +kernel
theorem dL_told_365 : decode cL_told 365 = .ok (.iconst 0, 1) := by decide +kernel
theorem dL_told_366 : decode cL_told 366 = .ok (.iconst 0, 1) := by decide +kernel
theorem dL_told_367 : decode cL_told 367 = .ok (.iconst 0, 1) := by decide +kernel
theorem dL_told_368 : decode cL_told 368 = .ok (.invokestatic 30, 3) := by decide +kernel
theorem dL_told_371 : decode cL_told 371 = .ok (.aload_n 0, 1) := by decide +kernel
theorem dL_told_372 : decode cL_told 372 = .ok (.bipush 97, 2) := by decide +kernel
theorem dL_told_374 : decode cL_told 374 = .ok (.iload 5, 2) := by decide +kernel
theorem dL_told_376 : decode cL_told 376 = .ok (.iadd, 1) := by decide +kernel
theorem dL_told_377 : decode cL_told 377 = .ok (.invokestatic 17, 3) := by decide +kernel
theorem dL_told_380 : decode cL_told 380 = .ok (.aload_n 0, 1) := by decide +kernel
theorem dL_told_381 : decode cL_told 381 = .ok (.bipush 6, 2) := by decide +kernel
theorem dL_told_383 : decode cL_told 383 = .ok (.ldc 82, 2) := by decide +kernel
theorem dL_told_385 : decode cL_told 385 = .ok (.ldc 83, 2) := by decide +kernel
theorem dL_told_387 : decode cL_told 387 = .ok (.iconst 0, 1) := by decide +kernel
theorem dL_told_388 : decode cL_told 388 = .ok (.iconst 0, 1) := by decide +kernel
theorem dL_told_389 : decode cL_told 389 = .ok (.iconst 0, 1) := by decide +kernel
theorem dL_told_390 : decode cL_told 390 = .ok (.invokestatic 30, 3) := by decide +kernel
theorem dL_told_393 : decode cL_told 393 = .ok (.aload 4, 2) := by decide +kernel
theorem dL_told_395 : decode cL_told 395 = .ok (.getfield 75, 3) := by decide +kernel
theorem dL_told_398 : decode cL_told 398 = .ok (.iload 5, 2) := by decide +kernel
theorem dL_told_400 : decode cL_told 400 = .ok (.aaload, 1) := by decide +kernel
theorem dL_told_401 : decode cL_told 401 = .ok (.iconst 1, 1) := by decide +kernel
theorem dL_told_402 : decode cL_told 402 = .ok (.aload_n 0, 1) := by decide +kernel
theorem dL_told_403 : decode cL_told 403 = .ok (.iload 6, 2) := by decide +kernel
theorem dL_told_405 : decode cL_told 405 = .ok (.iconst 2, 1) := by decide +kernel
theorem dL_told_406 : decode cL_told 406 = .ok (.ishr, 1) := by decide +kernel
theorem dL_told_407 : decode cL_told 407 = .ok (.aload 4, 2) := by decide +kernel
theorem dL_told_409 : decode cL_told 409 = .ok (.getfield 58, 3) := by decide +kernel
theorem dL_told_412 : decode cL_told 412 = .ok (.invokestatic 84, 3) := by decide +kernel
theorem dL_told_415 : decode cL_told 415 = .ok (.aastore, 1) := by decide +kernel
theorem dL_told_416 : decode cL_told 416 = .ok (.aload_n 0, 1) := by decide +kernel
theorem dL_told_417 : decode cL_told 417 = .ok (.aload 7, 2) := by decide +kernel
theorem dL_told_419 : decode cL_told 419 = .ok (.iconst 0, 1) := by decide +kernel
theorem dL_told_420 : decode cL_told 420 = .ok (.iaload, 1) := by decide +kernel
theorem dL_told_421 : decode cL_told 421 = .ok (.iconst 1, 1) := by decide +kernel
theorem dL_told_422 : decode cL_told 422 = .ok (.if_icmp .ne 8, 3) := by decide +kernel
theorem dL_told_425 : decode cL_told 425 = .ok (.bipush 60, 2) := by decide +kernel
theorem dL_told_427 : decode cL_told 427 = .ok (.goto 5, 3) := by decide +kernel
theorem dL_told_430 : decode cL_told 430 = .ok (.bipush 61, 2) := by decide +kernel
theorem dL_told_432 : decode cL_told 432 = .ok (.invokestatic 17, 3) := by decide +kernel
theorem dL_told_435 : decode cL_told 435 = .ok (.aload 4, 2) := by decide +kernel
theorem dL_told_437 : decode cL_told 437 = .ok (.getfield 75, 3) := by decide +kernel
theorem dL_told_440 : decode cL_told 440 = .ok (.iload 5, 2) := by decide +kernel
theorem dL_told_442 : decode cL_told 442 = .ok (.aaload, 1) := by decide +kernel
theorem dL_told_443 : decode cL_told 443 = .ok (.iconst 2, 1) := by decide +kernel
theorem dL_told_444 : decode cL_told 444 = .ok (.aload_n 0, 1) := by decide +kernel
theorem dL_told_445 : decode cL_told 445 = .ok (.iload 6, 2) := by decide +kernel
theorem dL_told_447 : decode cL_told 447 = .ok (.iconst 3, 1) := by decide +kernel
theorem dL_told_448 : decode cL_told 448 = .ok (.imul, 1) := by decide +kernel
theorem dL_told_449 : decode cL_told 449 = .ok (.iload_n 2, 1) := by decide +kernel
theorem dL_told_450 : decode cL_told 450 = .ok (.iadd, 1) := by decide +kernel
theorem dL_told_451 : decode cL_told 451 = .ok (.iconst 3, 1) := by decide +kernel
theorem dL_told_452 : decode cL_told 452 = .ok (.ishr, 1) := by decide +kernel
theorem dL_told_453 : decode cL_told 453 = .ok (.aload 4, 2) := by decide +kernel
theorem dL_told_455 : decode cL_told 455 = .ok (.getfield 58, 3) := by decide +kernel
theorem dL_told_458 : decode cL_told 458 = .ok (.invokestatic 84, 3) := by decide +kernel
theorem dL_told_461 : decode cL_told 461 = .ok (.aastore, 1) := by decide +kernel
theorem dL_told_462 : decode cL_told 462 = .ok (.aload_n 0, 1) := by decide +kernel
theorem dL_told_463 : decode cL_told 463 = .ok (.iconst 5, 1) := by decide +kernel
theorem dL_told_464 : decode cL_told 464 = .ok (.ldc 88, 2) := by decide +kernel
theorem dL_told_466 : decode cL_told 466 = .ok (.ldc 89, 2) := by decide +kernel
theorem dL_told_468 : decode cL_told 468 = .ok (.iconst 0, 1) := by decide +kernel
theorem dL_told_469 : decode cL_told 469 = .ok (.iconst 0, 1) := by decide +kernel
theorem dL_told_470 : decode cL_told 470 = .ok (.iconst 0, 1) := by decide +kernel
theorem dL_told_471 : decode cL_told 471 = .ok (.invokestatic 30, 3) := by decide +kernel
theorem dL_told_474 : decode cL_told 474 = .ok (.aload_n 0, 1) := by decide +kernel
theorem dL_told_475 : decode cL_told 475 = .ok (.aload 7, 2) := by decide +kernel
theorem dL_told_477 : decode cL_told 477 = .ok (.iconst 1, 1) := by decide +kernel
theorem dL_told_478 : decode cL_told 478 = .ok (.iaload, 1) := by decide +kernel
theorem dL_told_479 : decode cL_told 479 = .ok (.invokestatic 26, 3) := by decide +kernel
theorem dL_told_482 : decode cL_told 482 = .ok (.aload 4, 2) := by decide +kernel
theorem dL_told_484 : decode cL_told 484 = .ok (.getfield 75, 3) := by decide +kernel
theorem dL_told_487 : decode cL_told 487 = .ok (.iload 5, 2) := by decide +kernel
theorem dL_told_489 : decode cL_told 489 = .ok (.aaload, 1) := by decide +kernel
theorem dL_told_490 : decode cL_told 490 = .ok (.iconst 3, 1) := by decide +kernel
theorem dL_told_491 : decode cL_told 491 = .ok (.aload_n 0, 1) := by decide +kernel
theorem dL_told_492 : decode cL_told 492 = .ok (.iload 6, 2) := by decide +kernel
theorem dL_told_494 : decode cL_told 494 = .ok (.iconst 5, 1) := by decide +kernel
theorem dL_told_495 : decode cL_told 495 = .ok (.imul, 1) := by decide +kernel
theorem dL_told_496 : decode cL_told 496 = .ok (.iload_n 3, 1) := by decide +kernel
theorem dL_told_497 : decode cL_told 497 = .ok (.iadd, 1) := by decide +kernel
theorem dL_told_498 : decode cL_told 498 = .ok (.iconst 2, 1) := by decide +kernel
theorem dL_told_499 : decode cL_told 499 = .ok (.ishr, 1) := by decide +kernel
theorem dL_told_500 : decode cL_told 500 = .ok (.aload 4, 2) := by decide +kernel
theorem dL_told_502 : decode cL_told 502 = .ok (.getfield 58, 3) := by decide +kernel
theorem dL_told_505 : decode cL_told 505 = .ok (.invokestatic 84, 3) := by decide +kernel
theorem dL_told_508 : decode cL_told 508 = .ok (.aastore, 1) := by decide +kernel
theorem dL_told_509 : decode cL_told 509 = .ok (.aload 7, 2) := by decide +kernel
theorem dL_told_511 : decode cL_told 511 = .ok (.iconst 2, 1) := by decide +kernel
theorem dL_told_512 : decode cL_told 512 = .ok (.iaload, 1) := by decide +kernel
theorem dL_told_513 : decode cL_told 513 = .ok (.ifCond .lt 51, 3) := by decide +kernel
theorem dL_told_516 : decode cL_told 516 = .ok (.aload_n 0, 1) := by decide +kernel
theorem dL_told_517 : decode cL_told 517 = .ok (.iconst 5, 1) := by decide +kernel
theorem dL_told_518 : decode cL_told 518 = .ok (.ldc 90, 2) := by decide +kernel
theorem dL_told_520 : decode cL_told 520 = .ok (.ldc 91, 2) := by decide +kernel
theorem dL_told_522 : decode cL_told 522 = .ok (.iconst 0, 1) := by decide +kernel
theorem dL_told_523 : decode cL_told 523 = .ok (.iconst 0, 1) := by decide +kernel
theorem dL_told_524 : decode cL_told 524 = .ok (.iconst 0, 1) := by decide +kernel
theorem dL_told_525 : decode cL_told 525 = .ok (.invokestatic 30, 3) := by decide +kernel
theorem dL_told_528 : decode cL_told 528 = .ok (.aload_n 0, 1) := by decide +kernel
theorem dL_told_529 : decode cL_told 529 = .ok (.aload 7, 2) := by decide +kernel
theorem dL_told_531 : decode cL_told 531 = .ok (.iconst 2, 1) := by decide +kernel
theorem dL_told_532 : decode cL_told 532 = .ok (.iaload, 1) := by decide +kernel
theorem dL_told_533 : decode cL_told 533 = .ok (.invokestatic 26, 3) := by decide +kernel
theorem dL_told_536 : decode cL_told 536 = .ok (.aload 4, 2) := by decide +kernel
theorem dL_told_538 : decode cL_told 538 = .ok (.getfield 75, 3) := by decide +kernel
theorem dL_told_541 : decode cL_told 541 = .ok (.iload 5, 2) := by decide +kernel
theorem dL_told_543 : decode cL_told 543 = .ok (.aaload, 1) := by decide +kernel
theorem dL_told_544 : decode cL_told 544 = .ok (.iconst 4, 1) := by decide +kernel
theorem dL_told_545 : decode cL_told 545 = .ok (.aload_n 0, 1) := by decide +kernel
theorem dL_told_546 : decode cL_told 546 = .ok (.iload 6, 2) := by decide +kernel
theorem dL_told_548 : decode cL_told 548 = .ok (.bipush 7, 2) := by decide +kernel
theorem dL_told_550 : decode cL_told 550 = .ok (.imul, 1) := by decide +kernel
theorem dL_told_551 : decode cL_told 551 = .ok (.iload_n 2, 1) := by decide +kernel
theorem dL_told_552 : decode cL_told 552 = .ok (.iadd, 1) := by decide +kernel
theorem dL_told_553 : decode cL_told 553 = .ok (.iconst 2, 1) := by decide +kernel
theorem dL_told_554 : decode cL_told 554 = .ok (.ishr, 1) := by decide +kernel
theorem dL_told_555 : decode cL_told 555 = .ok (.aload 4, 2) := by decide +kernel
theorem dL_told_557 : decode cL_told 557 = .ok (.getfield 58, 3) := by decide +kernel
theorem dL_told_560 : decode cL_told 560 = .ok (.invokestatic 84, 3) := by decide +kernel
theorem dL_told_563 : decode cL_told 563 = .ok (.aastore, 1) := by decide +kernel
theorem dL_told_564 : decode cL_told 564 = .ok (.aload_n 0, 1) := by decide +kernel
theorem dL_told_565 : decode cL_told 565 = .ok (.bipush 59, 2) := by decide +kernel
theorem dL_told_567 : decode cL_told 567 = .ok (.invokestatic 17, 3) := by decide +kernel
theorem dL_told_570 : decode cL_told 570 = .ok (.iinc 5 1, 3) := by decide +kernel
theorem dL_told_573 : decode cL_told 573 = .ok (.goto (-334), 3) := by decide +kernel
theorem dL_told_576 : decode cL_told 576 = .ok (.aload 4, 2) := by decide +kernel
theorem dL_told_578 : decode cL_told 578 = .ok (.areturn, 1) := by decide +kernel
theorem ms_L_told : Ms yL_told cL_told 8 (some (.object "TentativeDeskLaw$Net")) 4 := ⟨⟨by decide +kernel, tw_1155, tw_38, by decide +kernel, by decide +kernel⟩, tw_1154⟩
def M_told_C (q : Int32) : Nat → Nat → Wd → Option Wd
  | 0, _, σ => some σ
  | k + 1, i, σ => bnd1 (M_L_put σ (4 : Int32) (1667591276 : Int32) (0 : Int32) (0 : Int32) (0 : Int32) (0 : Int32)) fun s_203 => bnd1 (M_L_cell s_203 (nI i)) fun s_209 => bnd1 (M_L_number s_209 (tdFirst q (nI i))) fun s_221 => bnd1 (M_L_sign s_221 (59 : Int32)) fun s_227 => M_told_C q k (i + 1) s_227
def M_told_F (f8 : Nat → Int32) (p q : Int32) : Nat → Nat → Wd → Option Wd
  | 0, _, σ => some σ
  | k + 1, f, σ => bnd1 (M_L_put σ (6 : Int32) (1718579821 : Int32) (543555584 : Int32) (0 : Int32) (0 : Int32) (0 : Int32)) fun s_368 => bnd1 (M_L_sign s_368 ((97 : Int32) + nI f)) fun s_377 => bnd1 (M_L_put s_377 (6 : Int32) (544105829 : Int32) (1685258240 : Int32) (0 : Int32) (0 : Int32) (0 : Int32)) fun s_390 => bnd1 (M_L_term s_390 (f8 f >>> ((2 : Int32) &&& 31)) (tdCel p)) fun s_412 => bnd1 (M_L_sign s_412 (sgF1 (f8 f))) fun s_432 => bnd1 (M_L_term s_432 (((f8 f * (3 : Int32)) + p) >>> ((3 : Int32) &&& 31)) (tdCel p)) fun s_458 => bnd1 (M_L_put s_458 (5 : Int32) (544433524 : Int32) (1929379840 : Int32) (0 : Int32) (0 : Int32) (0 : Int32)) fun s_471 => bnd1 (M_L_cell s_471 (hwB (f8 f) (tdCel p))) fun s_479 => bnd1 (M_L_term s_479 (((f8 f * (5 : Int32)) + q) >>> ((2 : Int32) &&& 31)) (tdCel p)) fun s_505 => if hwC (f8 f) (tdCel p) < 0 then (bnd1 (M_L_sign s_505 (59 : Int32)) fun s_567 => M_told_F f8 p q k (f + 1) s_567) else (bnd1 (M_L_put s_505 (5 : Int32) (543517811 : Int32) (1694498816 : Int32) (0 : Int32) (0 : Int32) (0 : Int32)) fun s_525 => bnd1 (M_L_cell s_525 (hwC (f8 f) (tdCel p))) fun s_533 => bnd1 (M_L_term s_533 (((f8 f * (7 : Int32)) + p) >>> ((2 : Int32) &&& 31)) (tdCel p)) fun s_560 => bnd1 (M_L_sign s_560 (59 : Int32)) fun s_567 => M_told_F f8 p q k (f + 1) s_567)
def M_L_told (f8 : Nat → Int32) (p q : Int32) (σ : Wd) : Option Wd :=
  bnd1 (M_L_put σ (5 : Int32) (1936024932 : Int32) (536870912 : Int32) (0 : Int32) (0 : Int32) (0 : Int32)) fun s_100 => bnd1 (M_L_number s_100 (tdSeed p)) fun s_109 => bnd1 (M_L_put s_109 (8 : Int32) (996372336 : Int32) (1768256288 : Int32) (0 : Int32) (0 : Int32) (0 : Int32)) fun s_122 => bnd1 (M_L_number s_122 (tdCop q)) fun s_131 => bnd1 (M_L_put s_131 (9 : Int32) (997225065 : Int32) (1835102841 : Int32) (536870912 : Int32) (0 : Int32) (0 : Int32)) fun s_145 => bnd1 (M_L_number s_145 (tdPri p q)) fun s_154 => bnd1 (M_L_sign s_154 (59 : Int32)) fun s_160 => bnd1 (M_told_C q (ix (tdCel p)) 0 s_160) fun s => M_told_F f8 p q (ix (tdFor p q)) 0 s
def netT (cy : Nat → ClassId) (z : Nat) (u : Nat → Nat) (p q : Int32) (nc : Nat) (g : Nat → Option Nat) : va_W := [(z, .inr (9, [.int (tdCop q), .int (tdCel p), .int (tdFor p q), .int (tdSeed p), .int 0, .int 0, .int (tdPri p q), .int 0, .ref (u 8), .ref (u 9), .ref (u 10), .ref (u 11), .ref (u 12), .ref (u 13), .ref (u 14), .ref (u 15), .ref (u 16), .ref (u 17), .ref (u 18), .ref (u 19), .ref (u 20), .ref (u 21), .ref (u 22), .int 0])), ((u 8), .inl (cy 1, 4, .inl (tdFs q nc))), ((u 9), .inl (cy 7, 4, .inr (.inr (.inr (.inr g))))), ((u 10), .inl (cy 6, 60, .inr (.inr (.inr (.inr (fun _ => none)))))), ((u 11), .inl (cy 1, 60, .inl (fun _ => 0))), ((u 12), .inl (cy 1, 5, .inl (fun _ => 0))), ((u 13), .inl (cy 1, 5, .inl (fun _ => 0))), ((u 14), .inl (cy 1, 5, .inl (fun _ => 0))), ((u 15), .inl (cy 1, 5, .inl (fun _ => 0))), ((u 16), .inl (cy 1, 4, .inl (fun _ => 0))), ((u 17), .inl (cy 1, 4, .inl (fun _ => 0))), ((u 18), .inl (cy 1, 4, .inl (fun _ => 0))), ((u 19), .inl (cy 1, 0, .inl (fun _ => 0))), ((u 20), .inl (cy 8, 5, .inr (.inr (.inr (.inr (fun j => some ((u 20) + 1 + j))))))), (((u 20) + 1 + 0), .inl (cy 3, 60, .inl (fun _ => 0))), (((u 20) + 1 + 1), .inl (cy 3, 60, .inl (fun _ => 0))), (((u 20) + 1 + 2), .inl (cy 3, 60, .inl (fun _ => 0))), (((u 20) + 1 + 3), .inl (cy 3, 60, .inl (fun _ => 0))), (((u 20) + 1 + 4), .inl (cy 3, 60, .inl (fun _ => 0))), ((u 21), .inl (cy 6, 4, .inr (.inr (.inr (.inr (fun j => some ((u 21) + 1 + j))))))), (((u 21) + 1 + 0), .inl (cy 1, 5, .inl (fun _ => 0))), (((u 21) + 1 + 1), .inl (cy 1, 5, .inl (fun _ => 0))), (((u 21) + 1 + 2), .inl (cy 1, 5, .inl (fun _ => 0))), (((u 21) + 1 + 3), .inl (cy 1, 5, .inl (fun _ => 0))), ((u 22), .inl (cy 6, 4, .inr (.inr (.inr (.inr (fun j => some ((u 22) + 1 + j))))))), (((u 22) + 1 + 0), .inl (cy 1, 5, .inl (fun _ => 0))), (((u 22) + 1 + 1), .inl (cy 1, 5, .inl (fun _ => 0))), (((u 22) + 1 + 2), .inl (cy 1, 5, .inl (fun _ => 0))), (((u 22) + 1 + 3), .inl (cy 1, 5, .inl (fun _ => 0)))]
set_option maxRecDepth 100000 in
set_option maxHeartbeats 40000000 in
theorem t_told (l : Launch) (V : Ct_V) (σ : Wd) (ra : Nat) (f8 : Nat → Int32) (p q : Int32) {σ2 : Wd} (hcop : ¬ tdCop q = 0) (hce5 : ∃ nc, tdCel p = nI nc ∧ nc ≤ 4) (hfo5 : ∃ nf, tdFor p q = nI nf ∧ nf ≤ 4) (h : M_L_told f8 p q σ = some σ2) : Cv l V yL_told cL_told 8 (some (.object "TentativeDeskLaw$Net")) 5 114 53 617 [.ref (zA (Zc V) 0), .ref ra, .int p, .int q] [(ra, .inl (V.2.2.1 1, 8, .inl f8))] σ (fun rv σ' nl => σ' = σ2 ∧ ∃ z u g fc, rv = some (.ref z) ∧ nl = fc ++ netT V.2.2.1 z u p q (ix (tdCel p)) g ∧ FcOk V.2.2.1 (fun f => hwF (f8 f) (tdCel p)) (ix (tdFor p q)) fc g ∧ ∀ i, ix (tdFor p q) ≤ i → g i = none) := by
  refine Cv_intro (own := RL) (by decide +kernel) rfl (Nat.le_of_ble_eq_true rfl) [(0, .ref (zA (Zc V) 0)), (1, .ref ra), (2, .int p), (3, .int q)] rfl (fun K hl hn C hcs hc hX hZ R => ?_)
  obtain ⟨nc, hnc5, hnc4⟩ := hce5
  obtain ⟨nf, hnf5, hnf4⟩ := hfo5
  have hN := nl_of (K := K) hn
  have hW : ∀ ws : va_W, Wo K V.1 (fun q => zS (Zc V) q ∨ (Ks K).heap.size ≤ q) ws [(ra, .inl (V.2.2.1 1, 8, .inl f8))] := fun ws => Wo.const hc
  have hzA : ∀ q, zS (Zc V) q → (zS (Zc V) q ∨ (Ks K).heap.size ≤ q) := fun q hq => Or.inl hq
  have hnc0 : nc ≠ 0 ∨ nf = 0 := by
    by_cases h0 : tdCel p = 0
    · right
      have e : tdFor p q = 0 := if_pos h0
      rw [hnf5] at e
      exact (nI_eq (by omega) (by decide)).mp e
    · left
      rintro rfl
      exact h0 hnc5
  unfold M_L_told at h
  refine n_new (ci := 9) (fs := [.int 0, .int 0, .int 0, .int 0, .int 0, .int 0, .int 0, .int 0, .null, .null, .null, .null, .null, .null, .null, .null, .null, .null, .null, .null, .null, .null, .null, .int 0]) C 0 in_N9 tyN9 tyN9_ok tw_1156 tw_1157 tw_48 rfl df_N9 (Nat.le_of_ble_eq_true rfl) (Nat.le_of_ble_eq_true rfl) dL_told_0 (fun q0 => ?_)
  refine g_dup C 3 dL_told_3 rfl ?_
  refine n_initN (host := RL) C 4 [] (List.mem_of_getElem? (i := 6) rfl) mw_N9 tw_1159 rfl (i_N9 (Kl _) V.1 V.2.2.1 q0) (Nat.le_of_ble_eq_true rfl) (Nat.le_of_ble_eq_true rfl) (Nat.le_of_ble_eq_true rfl) (Nat.le_of_ble_eq_true rfl) (Nat.le_of_ble_eq_true rfl) rfl dL_told_4 (fun u => ?_)
  refine g_eq (ws2 := zW (Zc V) σ ++ ([(q0, .inr (9, [.int (3 : Int32), .int 0, .int 0, .int 0, .int 0, .int 0, .int 0, .int 0, .ref (u 8), .ref (u 9), .ref (u 10), .ref (u 11), .ref (u 12), .ref (u 13), .ref (u 14), .ref (u 15), .ref (u 16), .ref (u 17), .ref (u 18), .ref (u 19), .ref (u 20), .ref (u 21), .ref (u 22), .int 0])), ((u 8), .inl (V.2.2.1 1, 4, .inl (fun _ => 0))), ((u 9), .inl (V.2.2.1 7, 4, .inr (.inr (.inr (.inr (fun _ => none)))))), ((u 10), .inl (V.2.2.1 6, 60, .inr (.inr (.inr (.inr (fun _ => none)))))), ((u 11), .inl (V.2.2.1 1, 60, .inl (fun _ => 0))), ((u 12), .inl (V.2.2.1 1, 5, .inl (fun _ => 0))), ((u 13), .inl (V.2.2.1 1, 5, .inl (fun _ => 0))), ((u 14), .inl (V.2.2.1 1, 5, .inl (fun _ => 0))), ((u 15), .inl (V.2.2.1 1, 5, .inl (fun _ => 0))), ((u 16), .inl (V.2.2.1 1, 4, .inl (fun _ => 0))), ((u 17), .inl (V.2.2.1 1, 4, .inl (fun _ => 0))), ((u 18), .inl (V.2.2.1 1, 4, .inl (fun _ => 0))), ((u 19), .inl (V.2.2.1 1, 0, .inl (fun _ => 0))), ((u 20), .inl (V.2.2.1 8, 5, .inr (.inr (.inr (.inr (fun j => some ((u 20) + 1 + j))))))), (((u 20) + 1 + 0), .inl (V.2.2.1 3, 60, .inl (fun _ => 0))), (((u 20) + 1 + 1), .inl (V.2.2.1 3, 60, .inl (fun _ => 0))), (((u 20) + 1 + 2), .inl (V.2.2.1 3, 60, .inl (fun _ => 0))), (((u 20) + 1 + 3), .inl (V.2.2.1 3, 60, .inl (fun _ => 0))), (((u 20) + 1 + 4), .inl (V.2.2.1 3, 60, .inl (fun _ => 0))), ((u 21), .inl (V.2.2.1 6, 4, .inr (.inr (.inr (.inr (fun j => some ((u 21) + 1 + j))))))), (((u 21) + 1 + 0), .inl (V.2.2.1 1, 5, .inl (fun _ => 0))), (((u 21) + 1 + 1), .inl (V.2.2.1 1, 5, .inl (fun _ => 0))), (((u 21) + 1 + 2), .inl (V.2.2.1 1, 5, .inl (fun _ => 0))), (((u 21) + 1 + 3), .inl (V.2.2.1 1, 5, .inl (fun _ => 0))), ((u 22), .inl (V.2.2.1 6, 4, .inr (.inr (.inr (.inr (fun j => some ((u 22) + 1 + j))))))), (((u 22) + 1 + 0), .inl (V.2.2.1 1, 5, .inl (fun _ => 0))), (((u 22) + 1 + 1), .inl (V.2.2.1 1, 5, .inl (fun _ => 0))), (((u 22) + 1 + 2), .inl (V.2.2.1 1, 5, .inl (fun _ => 0))), (((u 22) + 1 + 3), .inl (V.2.2.1 1, 5, .inl (fun _ => 0)))] : va_W)) (zwp rfl) ?_
  refine g_astore (L' := [(4, .ref q0), (0, .ref (zA (Zc V) 0)), (1, .ref ra), (2, .int p), (3, .int q)]) C 7 dL_told_7 (hN _ (Nat.le_of_ble_eq_true rfl)) rfl ?_
  refine g_aload C 9 0 dL_told_9 rfl ?_
  refine g_iload_n C 11 3 dL_told_11 rfl ?_
  refine g_iconst C 12 dL_told_12 ki_2 ?_
  refine g_ishr C 13 dL_told_13 ?_
  refine g_sipush C 14 dL_told_14 ks_1023 ?_
  refine g_iand C 17 dL_told_17 ?_
  show Gn _ _ _ _ _ _ _ _ [.int (tdSeed p), .ref q0]
  refine g_putN (ty := .int) (fs' := [.int (3 : Int32), .int 0, .int 0, .int (tdSeed p), .int 0, .int 0, .int 0, .int 0, .ref (u 8), .ref (u 9), .ref (u 10), .ref (u 11), .ref (u 12), .ref (u 13), .ref (u 14), .ref (u 15), .ref (u 16), .ref (u 17), .ref (u 18), .ref (u 19), .ref (u 20), .ref (u 21), .ref (u 22), .int 0]) (ws' := zW (Zc V) σ ++ ([(q0, .inr (9, [.int (3 : Int32), .int 0, .int 0, .int (tdSeed p), .int 0, .int 0, .int 0, .int 0, .ref (u 8), .ref (u 9), .ref (u 10), .ref (u 11), .ref (u 12), .ref (u 13), .ref (u 14), .ref (u 15), .ref (u 16), .ref (u 17), .ref (u 18), .ref (u 19), .ref (u 20), .ref (u 21), .ref (u 22), .int 0])), ((u 8), .inl (V.2.2.1 1, 4, .inl (fun _ => 0))), ((u 9), .inl (V.2.2.1 7, 4, .inr (.inr (.inr (.inr (fun _ => none)))))), ((u 10), .inl (V.2.2.1 6, 60, .inr (.inr (.inr (.inr (fun _ => none)))))), ((u 11), .inl (V.2.2.1 1, 60, .inl (fun _ => 0))), ((u 12), .inl (V.2.2.1 1, 5, .inl (fun _ => 0))), ((u 13), .inl (V.2.2.1 1, 5, .inl (fun _ => 0))), ((u 14), .inl (V.2.2.1 1, 5, .inl (fun _ => 0))), ((u 15), .inl (V.2.2.1 1, 5, .inl (fun _ => 0))), ((u 16), .inl (V.2.2.1 1, 4, .inl (fun _ => 0))), ((u 17), .inl (V.2.2.1 1, 4, .inl (fun _ => 0))), ((u 18), .inl (V.2.2.1 1, 4, .inl (fun _ => 0))), ((u 19), .inl (V.2.2.1 1, 0, .inl (fun _ => 0))), ((u 20), .inl (V.2.2.1 8, 5, .inr (.inr (.inr (.inr (fun j => some ((u 20) + 1 + j))))))), (((u 20) + 1 + 0), .inl (V.2.2.1 3, 60, .inl (fun _ => 0))), (((u 20) + 1 + 1), .inl (V.2.2.1 3, 60, .inl (fun _ => 0))), (((u 20) + 1 + 2), .inl (V.2.2.1 3, 60, .inl (fun _ => 0))), (((u 20) + 1 + 3), .inl (V.2.2.1 3, 60, .inl (fun _ => 0))), (((u 20) + 1 + 4), .inl (V.2.2.1 3, 60, .inl (fun _ => 0))), ((u 21), .inl (V.2.2.1 6, 4, .inr (.inr (.inr (.inr (fun j => some ((u 21) + 1 + j))))))), (((u 21) + 1 + 0), .inl (V.2.2.1 1, 5, .inl (fun _ => 0))), (((u 21) + 1 + 1), .inl (V.2.2.1 1, 5, .inl (fun _ => 0))), (((u 21) + 1 + 2), .inl (V.2.2.1 1, 5, .inl (fun _ => 0))), (((u 21) + 1 + 3), .inl (V.2.2.1 1, 5, .inl (fun _ => 0))), ((u 22), .inl (V.2.2.1 6, 4, .inr (.inr (.inr (.inr (fun j => some ((u 22) + 1 + j))))))), (((u 22) + 1 + 0), .inl (V.2.2.1 1, 5, .inl (fun _ => 0))), (((u 22) + 1 + 1), .inl (V.2.2.1 1, 5, .inl (fun _ => 0))), (((u 22) + 1 + 2), .inl (V.2.2.1 1, 5, .inl (fun _ => 0))), (((u 22) + 1 + 3), .inl (V.2.2.1 1, 5, .inl (fun _ => 0)))] : va_W)) C 18 (127 + 0) (zwa rfl) 3 (Nat.le_of_ble_eq_true rfl) rfl (List.mem_of_getElem? (i := 10) rfl) rfl (by decide +kernel) rfl rfl (Nat.le_of_ble_eq_true rfl) rfl (zws rfl) dL_told_18 ?_
  refine g_aload C 21 0 dL_told_21 rfl ?_
  refine g_iconst C 23 dL_told_23 ki_1 ?_
  refine g_iload_n C 24 4 dL_told_24 rfl ?_
  refine g_sipush C 25 dL_told_25 ks_255 ?_
  refine g_iand C 28 dL_told_28 ?_
  refine g_iconst C 29 dL_told_29 ki_5 ?_
  refine g_irem C 30 dL_told_30 (by decide) ?_
  refine g_iadd C 31 dL_told_31 ?_
  show Gn _ _ _ _ _ _ _ _ [.int (tdCop q), .ref q0]
  refine g_putN (ty := .int) (fs' := [.int (tdCop q), .int 0, .int 0, .int (tdSeed p), .int 0, .int 0, .int 0, .int 0, .ref (u 8), .ref (u 9), .ref (u 10), .ref (u 11), .ref (u 12), .ref (u 13), .ref (u 14), .ref (u 15), .ref (u 16), .ref (u 17), .ref (u 18), .ref (u 19), .ref (u 20), .ref (u 21), .ref (u 22), .int 0]) (ws' := zW (Zc V) σ ++ ([(q0, .inr (9, [.int (tdCop q), .int 0, .int 0, .int (tdSeed p), .int 0, .int 0, .int 0, .int 0, .ref (u 8), .ref (u 9), .ref (u 10), .ref (u 11), .ref (u 12), .ref (u 13), .ref (u 14), .ref (u 15), .ref (u 16), .ref (u 17), .ref (u 18), .ref (u 19), .ref (u 20), .ref (u 21), .ref (u 22), .int 0])), ((u 8), .inl (V.2.2.1 1, 4, .inl (fun _ => 0))), ((u 9), .inl (V.2.2.1 7, 4, .inr (.inr (.inr (.inr (fun _ => none)))))), ((u 10), .inl (V.2.2.1 6, 60, .inr (.inr (.inr (.inr (fun _ => none)))))), ((u 11), .inl (V.2.2.1 1, 60, .inl (fun _ => 0))), ((u 12), .inl (V.2.2.1 1, 5, .inl (fun _ => 0))), ((u 13), .inl (V.2.2.1 1, 5, .inl (fun _ => 0))), ((u 14), .inl (V.2.2.1 1, 5, .inl (fun _ => 0))), ((u 15), .inl (V.2.2.1 1, 5, .inl (fun _ => 0))), ((u 16), .inl (V.2.2.1 1, 4, .inl (fun _ => 0))), ((u 17), .inl (V.2.2.1 1, 4, .inl (fun _ => 0))), ((u 18), .inl (V.2.2.1 1, 4, .inl (fun _ => 0))), ((u 19), .inl (V.2.2.1 1, 0, .inl (fun _ => 0))), ((u 20), .inl (V.2.2.1 8, 5, .inr (.inr (.inr (.inr (fun j => some ((u 20) + 1 + j))))))), (((u 20) + 1 + 0), .inl (V.2.2.1 3, 60, .inl (fun _ => 0))), (((u 20) + 1 + 1), .inl (V.2.2.1 3, 60, .inl (fun _ => 0))), (((u 20) + 1 + 2), .inl (V.2.2.1 3, 60, .inl (fun _ => 0))), (((u 20) + 1 + 3), .inl (V.2.2.1 3, 60, .inl (fun _ => 0))), (((u 20) + 1 + 4), .inl (V.2.2.1 3, 60, .inl (fun _ => 0))), ((u 21), .inl (V.2.2.1 6, 4, .inr (.inr (.inr (.inr (fun j => some ((u 21) + 1 + j))))))), (((u 21) + 1 + 0), .inl (V.2.2.1 1, 5, .inl (fun _ => 0))), (((u 21) + 1 + 1), .inl (V.2.2.1 1, 5, .inl (fun _ => 0))), (((u 21) + 1 + 2), .inl (V.2.2.1 1, 5, .inl (fun _ => 0))), (((u 21) + 1 + 3), .inl (V.2.2.1 1, 5, .inl (fun _ => 0))), ((u 22), .inl (V.2.2.1 6, 4, .inr (.inr (.inr (.inr (fun j => some ((u 22) + 1 + j))))))), (((u 22) + 1 + 0), .inl (V.2.2.1 1, 5, .inl (fun _ => 0))), (((u 22) + 1 + 1), .inl (V.2.2.1 1, 5, .inl (fun _ => 0))), (((u 22) + 1 + 2), .inl (V.2.2.1 1, 5, .inl (fun _ => 0))), (((u 22) + 1 + 3), .inl (V.2.2.1 1, 5, .inl (fun _ => 0)))] : va_W)) C 32 (127 + 0) (zwa rfl) 0 (Nat.le_of_ble_eq_true rfl) rfl (List.mem_of_getElem? (i := 7) rfl) rfl (by decide +kernel) rfl rfl (Nat.le_of_ble_eq_true rfl) rfl (zws rfl) dL_told_32 ?_
  refine g_aload C 35 0 dL_told_35 rfl ?_
  refine g_iload_n C 37 3 dL_told_37 rfl ?_
  refine g_sipush C 38 dL_told_38 ks_255 ?_
  refine g_iand C 41 dL_told_41 ?_
  refine g_aload C 42 0 dL_told_42 rfl ?_
  refine g_getN C 44 (127 + 0) (zwa rfl) 0 (Nat.le_of_ble_eq_true rfl) rfl (List.mem_of_getElem? (i := 7) rfl) rfl dL_told_44 ?_
  refine g_irem C 47 dL_told_47 hcop ?_
  show Gn _ _ _ _ _ _ _ _ [.int (tdPri p q), .ref q0]
  refine g_putN (ty := .int) (fs' := [.int (tdCop q), .int 0, .int 0, .int (tdSeed p), .int 0, .int 0, .int (tdPri p q), .int 0, .ref (u 8), .ref (u 9), .ref (u 10), .ref (u 11), .ref (u 12), .ref (u 13), .ref (u 14), .ref (u 15), .ref (u 16), .ref (u 17), .ref (u 18), .ref (u 19), .ref (u 20), .ref (u 21), .ref (u 22), .int 0]) (ws' := zW (Zc V) σ ++ ([(q0, .inr (9, [.int (tdCop q), .int 0, .int 0, .int (tdSeed p), .int 0, .int 0, .int (tdPri p q), .int 0, .ref (u 8), .ref (u 9), .ref (u 10), .ref (u 11), .ref (u 12), .ref (u 13), .ref (u 14), .ref (u 15), .ref (u 16), .ref (u 17), .ref (u 18), .ref (u 19), .ref (u 20), .ref (u 21), .ref (u 22), .int 0])), ((u 8), .inl (V.2.2.1 1, 4, .inl (fun _ => 0))), ((u 9), .inl (V.2.2.1 7, 4, .inr (.inr (.inr (.inr (fun _ => none)))))), ((u 10), .inl (V.2.2.1 6, 60, .inr (.inr (.inr (.inr (fun _ => none)))))), ((u 11), .inl (V.2.2.1 1, 60, .inl (fun _ => 0))), ((u 12), .inl (V.2.2.1 1, 5, .inl (fun _ => 0))), ((u 13), .inl (V.2.2.1 1, 5, .inl (fun _ => 0))), ((u 14), .inl (V.2.2.1 1, 5, .inl (fun _ => 0))), ((u 15), .inl (V.2.2.1 1, 5, .inl (fun _ => 0))), ((u 16), .inl (V.2.2.1 1, 4, .inl (fun _ => 0))), ((u 17), .inl (V.2.2.1 1, 4, .inl (fun _ => 0))), ((u 18), .inl (V.2.2.1 1, 4, .inl (fun _ => 0))), ((u 19), .inl (V.2.2.1 1, 0, .inl (fun _ => 0))), ((u 20), .inl (V.2.2.1 8, 5, .inr (.inr (.inr (.inr (fun j => some ((u 20) + 1 + j))))))), (((u 20) + 1 + 0), .inl (V.2.2.1 3, 60, .inl (fun _ => 0))), (((u 20) + 1 + 1), .inl (V.2.2.1 3, 60, .inl (fun _ => 0))), (((u 20) + 1 + 2), .inl (V.2.2.1 3, 60, .inl (fun _ => 0))), (((u 20) + 1 + 3), .inl (V.2.2.1 3, 60, .inl (fun _ => 0))), (((u 20) + 1 + 4), .inl (V.2.2.1 3, 60, .inl (fun _ => 0))), ((u 21), .inl (V.2.2.1 6, 4, .inr (.inr (.inr (.inr (fun j => some ((u 21) + 1 + j))))))), (((u 21) + 1 + 0), .inl (V.2.2.1 1, 5, .inl (fun _ => 0))), (((u 21) + 1 + 1), .inl (V.2.2.1 1, 5, .inl (fun _ => 0))), (((u 21) + 1 + 2), .inl (V.2.2.1 1, 5, .inl (fun _ => 0))), (((u 21) + 1 + 3), .inl (V.2.2.1 1, 5, .inl (fun _ => 0))), ((u 22), .inl (V.2.2.1 6, 4, .inr (.inr (.inr (.inr (fun j => some ((u 22) + 1 + j))))))), (((u 22) + 1 + 0), .inl (V.2.2.1 1, 5, .inl (fun _ => 0))), (((u 22) + 1 + 1), .inl (V.2.2.1 1, 5, .inl (fun _ => 0))), (((u 22) + 1 + 2), .inl (V.2.2.1 1, 5, .inl (fun _ => 0))), (((u 22) + 1 + 3), .inl (V.2.2.1 1, 5, .inl (fun _ => 0)))] : va_W)) C 48 (127 + 0) (zwa rfl) 6 (Nat.le_of_ble_eq_true rfl) rfl (List.mem_of_getElem? (i := 13) rfl) rfl (by decide +kernel) rfl rfl (Nat.le_of_ble_eq_true rfl) rfl (zws rfl) dL_told_48 ?_
  refine g_aload C 51 0 dL_told_51 rfl ?_
  refine g_iload_n C 53 3 dL_told_53 rfl ?_
  refine g_iconst C 54 dL_told_54 ki_3 ?_
  refine g_ishr C 55 dL_told_55 ?_
  refine g_sipush C 56 dL_told_56 ks_255 ?_
  refine g_iand C 59 dL_told_59 ?_
  refine g_iconst C 60 dL_told_60 ki_5 ?_
  refine g_irem C 61 dL_told_61 (by decide) ?_
  show Gn _ _ _ _ _ _ _ _ [.int (tdCel p), .ref q0]
  refine g_putN (ty := .int) (fs' := [.int (tdCop q), .int (tdCel p), .int 0, .int (tdSeed p), .int 0, .int 0, .int (tdPri p q), .int 0, .ref (u 8), .ref (u 9), .ref (u 10), .ref (u 11), .ref (u 12), .ref (u 13), .ref (u 14), .ref (u 15), .ref (u 16), .ref (u 17), .ref (u 18), .ref (u 19), .ref (u 20), .ref (u 21), .ref (u 22), .int 0]) (ws' := zW (Zc V) σ ++ ([(q0, .inr (9, [.int (tdCop q), .int (tdCel p), .int 0, .int (tdSeed p), .int 0, .int 0, .int (tdPri p q), .int 0, .ref (u 8), .ref (u 9), .ref (u 10), .ref (u 11), .ref (u 12), .ref (u 13), .ref (u 14), .ref (u 15), .ref (u 16), .ref (u 17), .ref (u 18), .ref (u 19), .ref (u 20), .ref (u 21), .ref (u 22), .int 0])), ((u 8), .inl (V.2.2.1 1, 4, .inl (fun _ => 0))), ((u 9), .inl (V.2.2.1 7, 4, .inr (.inr (.inr (.inr (fun _ => none)))))), ((u 10), .inl (V.2.2.1 6, 60, .inr (.inr (.inr (.inr (fun _ => none)))))), ((u 11), .inl (V.2.2.1 1, 60, .inl (fun _ => 0))), ((u 12), .inl (V.2.2.1 1, 5, .inl (fun _ => 0))), ((u 13), .inl (V.2.2.1 1, 5, .inl (fun _ => 0))), ((u 14), .inl (V.2.2.1 1, 5, .inl (fun _ => 0))), ((u 15), .inl (V.2.2.1 1, 5, .inl (fun _ => 0))), ((u 16), .inl (V.2.2.1 1, 4, .inl (fun _ => 0))), ((u 17), .inl (V.2.2.1 1, 4, .inl (fun _ => 0))), ((u 18), .inl (V.2.2.1 1, 4, .inl (fun _ => 0))), ((u 19), .inl (V.2.2.1 1, 0, .inl (fun _ => 0))), ((u 20), .inl (V.2.2.1 8, 5, .inr (.inr (.inr (.inr (fun j => some ((u 20) + 1 + j))))))), (((u 20) + 1 + 0), .inl (V.2.2.1 3, 60, .inl (fun _ => 0))), (((u 20) + 1 + 1), .inl (V.2.2.1 3, 60, .inl (fun _ => 0))), (((u 20) + 1 + 2), .inl (V.2.2.1 3, 60, .inl (fun _ => 0))), (((u 20) + 1 + 3), .inl (V.2.2.1 3, 60, .inl (fun _ => 0))), (((u 20) + 1 + 4), .inl (V.2.2.1 3, 60, .inl (fun _ => 0))), ((u 21), .inl (V.2.2.1 6, 4, .inr (.inr (.inr (.inr (fun j => some ((u 21) + 1 + j))))))), (((u 21) + 1 + 0), .inl (V.2.2.1 1, 5, .inl (fun _ => 0))), (((u 21) + 1 + 1), .inl (V.2.2.1 1, 5, .inl (fun _ => 0))), (((u 21) + 1 + 2), .inl (V.2.2.1 1, 5, .inl (fun _ => 0))), (((u 21) + 1 + 3), .inl (V.2.2.1 1, 5, .inl (fun _ => 0))), ((u 22), .inl (V.2.2.1 6, 4, .inr (.inr (.inr (.inr (fun j => some ((u 22) + 1 + j))))))), (((u 22) + 1 + 0), .inl (V.2.2.1 1, 5, .inl (fun _ => 0))), (((u 22) + 1 + 1), .inl (V.2.2.1 1, 5, .inl (fun _ => 0))), (((u 22) + 1 + 2), .inl (V.2.2.1 1, 5, .inl (fun _ => 0))), (((u 22) + 1 + 3), .inl (V.2.2.1 1, 5, .inl (fun _ => 0)))] : va_W)) C 62 (127 + 0) (zwa rfl) 1 (Nat.le_of_ble_eq_true rfl) rfl (List.mem_of_getElem? (i := 8) rfl) rfl (by decide +kernel) rfl rfl (Nat.le_of_ble_eq_true rfl) rfl (zws rfl) dL_told_62 ?_
  refine g_aload C 65 0 dL_told_65 rfl ?_
  refine g_aload C 67 0 dL_told_67 rfl ?_
  refine g_getN C 69 (127 + 0) (zwa rfl) 1 (Nat.le_of_ble_eq_true rfl) rfl (List.mem_of_getElem? (i := 8) rfl) rfl dL_told_69 ?_
  have loopF : ∀ (k f : Nat) (σf : Wd) (fc : va_W) (g : Nat → Option Nat) (ce sl : Nat), f + k = nf → ce + 6 * k ≤ 53 → sl + 20 * k ≤ 617 → FcOk V.2.2.1 (fun f => hwF (f8 f) (tdCel p)) f fc g → (∀ i, f ≤ i → g i = none) → M_told_F f8 p q k f σf = some σ2 → Gn K V.1 (fun q => zS (Zc V) q ∨ (Ks K).heap.size ≤ q) (zW (Zc V) σf ++ (fc ++ [(q0, .inr (9, [.int (tdCop q), .int (tdCel p), .int (tdFor p q), .int (tdSeed p), .int 0, .int 0, .int (tdPri p q), .int 0, .ref (u 8), .ref (u 9), .ref (u 10), .ref (u 11), .ref (u 12), .ref (u 13), .ref (u 14), .ref (u 15), .ref (u 16), .ref (u 17), .ref (u 18), .ref (u 19), .ref (u 20), .ref (u 21), .ref (u 22), .int 0])), ((u 8), .inl (V.2.2.1 1, 4, .inl (tdFs q nc))), ((u 9), .inl (V.2.2.1 7, 4, .inr (.inr (.inr (.inr g))))), ((u 10), .inl (V.2.2.1 6, 60, .inr (.inr (.inr (.inr (fun _ => none)))))), ((u 11), .inl (V.2.2.1 1, 60, .inl (fun _ => 0))), ((u 12), .inl (V.2.2.1 1, 5, .inl (fun _ => 0))), ((u 13), .inl (V.2.2.1 1, 5, .inl (fun _ => 0))), ((u 14), .inl (V.2.2.1 1, 5, .inl (fun _ => 0))), ((u 15), .inl (V.2.2.1 1, 5, .inl (fun _ => 0))), ((u 16), .inl (V.2.2.1 1, 4, .inl (fun _ => 0))), ((u 17), .inl (V.2.2.1 1, 4, .inl (fun _ => 0))), ((u 18), .inl (V.2.2.1 1, 4, .inl (fun _ => 0))), ((u 19), .inl (V.2.2.1 1, 0, .inl (fun _ => 0))), ((u 20), .inl (V.2.2.1 8, 5, .inr (.inr (.inr (.inr (fun j => some ((u 20) + 1 + j))))))), (((u 20) + 1 + 0), .inl (V.2.2.1 3, 60, .inl (fun _ => 0))), (((u 20) + 1 + 1), .inl (V.2.2.1 3, 60, .inl (fun _ => 0))), (((u 20) + 1 + 2), .inl (V.2.2.1 3, 60, .inl (fun _ => 0))), (((u 20) + 1 + 3), .inl (V.2.2.1 3, 60, .inl (fun _ => 0))), (((u 20) + 1 + 4), .inl (V.2.2.1 3, 60, .inl (fun _ => 0))), ((u 21), .inl (V.2.2.1 6, 4, .inr (.inr (.inr (.inr (fun j => some ((u 21) + 1 + j))))))), (((u 21) + 1 + 0), .inl (V.2.2.1 1, 5, .inl (fun _ => 0))), (((u 21) + 1 + 1), .inl (V.2.2.1 1, 5, .inl (fun _ => 0))), (((u 21) + 1 + 2), .inl (V.2.2.1 1, 5, .inl (fun _ => 0))), (((u 21) + 1 + 3), .inl (V.2.2.1 1, 5, .inl (fun _ => 0))), ((u 22), .inl (V.2.2.1 6, 4, .inr (.inr (.inr (.inr (fun j => some ((u 22) + 1 + j))))))), (((u 22) + 1 + 0), .inl (V.2.2.1 1, 5, .inl (fun _ => 0))), (((u 22) + 1 + 1), .inl (V.2.2.1 1, 5, .inl (fun _ => 0))), (((u 22) + 1 + 2), .inl (V.2.2.1 1, 5, .inl (fun _ => 0))), (((u 22) + 1 + 3), .inl (V.2.2.1 1, 5, .inl (fun _ => 0)))])) (ce) (sl) 239 [(5, .int (nI f)), (4, .ref q0), (0, .ref (zA (Zc V) 0)), (1, .ref ra), (2, .int p), (3, .int q)] [] := by
    intro k
    induction k with
    | zero =>
      intro f σf fc g ce sl hf hce hsl hfc hgn h
      cases h
      have hge : tdFor p q ≤ nI f := by rw [hnf5, nI_leI (by omega) (by omega)]; omega
      refine g_iload C 239 0 dL_told_239 rfl ?_
      refine g_aload C 241 1 dL_told_241 rfl ?_
      refine g_getN C 243 (127 + (fc.length + 0)) (zwa (fca rfl)) 2 (Nat.le_of_ble_eq_true rfl) rfl (List.mem_of_getElem? (i := 9) rfl) rfl dL_told_243 ?_
      refine g_icmp_ge C 246 576 dL_told_246 (by decide) (fun _ => ?_) (fun hq => absurd hge hq)
      refine g_aload C 576 1 dL_told_576 rfl ?_
      exact g_aret C R (Or.inl ⟨_, rfl⟩) (by omega) (by omega) 578 dL_told_578 (fun H hP hD => ⟨_, _, ⟨rfl, q0, u, g, fc, rfl, by rw [show ix (tdCel p) = nc by rw [hnc5, ix_nI (by omega)]]; rfl, by rw [hnf5, ix_nI (by omega), show nf = f by omega]; exact hfc, by rw [hnf5, ix_nI (by omega), show nf = f by omega]; exact hgn⟩, (va_P_two hP).1, (va_P_two hP).2, zw_new hD⟩)
    | succ k ih =>
      intro f σf fc g ce sl hf hce hsl hfc hgn h
      unfold M_told_F at h
      have hlt : ¬ tdFor p q ≤ nI f := by rw [hnf5, nI_leI (by omega) (by omega)]; omega
      have hf8 : ¬ (8 : Int32) ≤ nI f := by rw [show (8 : Int32) = nI 8 from rfl, nI_leI (by omega) (by omega)]; omega
      have hf8b : ib (nI f) 8 := (ib_nI (by omega)).mpr (by omega)
      have hf4 : ib (nI f) 4 := (ib_nI (by omega)).mpr (by omega)
      have hnc : ¬ tdCel p = 0 := by
        intro e
        rw [hnc5] at e
        have := (nI_eq (a := nc) (b := 0) (by omega) (by decide)).mp e
        omega
      refine g_iload C 239 0 dL_told_239 rfl ?_
      refine g_aload C 241 1 dL_told_241 rfl ?_
      refine g_getN C 243 (127 + (fc.length + 0)) (zwa (fca rfl)) 2 (Nat.le_of_ble_eq_true rfl) rfl (List.mem_of_getElem? (i := 9) rfl) rfl dL_told_243 ?_
      refine g_icmp_ge C 246 576 dL_told_246 (by decide) (fun hq => absurd hq hlt) (fun _ => ?_)
      refine g_iload C 249 0 dL_told_249 rfl ?_
      refine g_aload_n C 251 3 dL_told_251 rfl ?_
      refine g_calen (v := (8 : Int32)) C (hW _) 252 0 1 rfl rfl rfl dL_told_252 ?_
      refine g_icmp_ge C 253 263 dL_told_253 (by decide) (fun hq => absurd hq hf8) (fun _ => ?_)
      refine g_aload_n C 256 3 dL_told_256 rfl ?_
      refine g_iload C 257 0 dL_told_257 rfl ?_
      refine g_ciald C (hW _) 259 0 rfl hf8b dL_told_259 ?_
      rw [show ((f8) (ix (nI f))) = f8 f from (by rw [ix_nI (by omega)])]
      refine g_goto C 260 273 dL_told_260 (by decide) ?_
      refine g_istore (L' := [(6, .int (f8 f)), (5, .int (nI f)), (4, .ref q0), (0, .ref (zA (Zc V) 0)), (1, .ref ra), (2, .int p), (3, .int q)]) C 273 dL_told_273 (hN _ (Nat.le_of_ble_eq_true rfl)) rfl ?_
      refine g_iconst C 275 dL_told_275 ki_3 ?_
      refine g_newi C 276 3 (by decide) rfl (Nat.le_of_ble_eq_true rfl) (by omega) (by omega) dL_told_276 (fun q276 => ?_)
      refine g_eq (ws2 := zW (Zc V) σf ++ (fc ++ [(q0, .inr (9, [.int (tdCop q), .int (tdCel p), .int (tdFor p q), .int (tdSeed p), .int 0, .int 0, .int (tdPri p q), .int 0, .ref (u 8), .ref (u 9), .ref (u 10), .ref (u 11), .ref (u 12), .ref (u 13), .ref (u 14), .ref (u 15), .ref (u 16), .ref (u 17), .ref (u 18), .ref (u 19), .ref (u 20), .ref (u 21), .ref (u 22), .int 0])), ((u 8), .inl (V.2.2.1 1, 4, .inl (tdFs q nc))), ((u 9), .inl (V.2.2.1 7, 4, .inr (.inr (.inr (.inr g))))), ((u 10), .inl (V.2.2.1 6, 60, .inr (.inr (.inr (.inr (fun _ => none)))))), ((u 11), .inl (V.2.2.1 1, 60, .inl (fun _ => 0))), ((u 12), .inl (V.2.2.1 1, 5, .inl (fun _ => 0))), ((u 13), .inl (V.2.2.1 1, 5, .inl (fun _ => 0))), ((u 14), .inl (V.2.2.1 1, 5, .inl (fun _ => 0))), ((u 15), .inl (V.2.2.1 1, 5, .inl (fun _ => 0))), ((u 16), .inl (V.2.2.1 1, 4, .inl (fun _ => 0))), ((u 17), .inl (V.2.2.1 1, 4, .inl (fun _ => 0))), ((u 18), .inl (V.2.2.1 1, 4, .inl (fun _ => 0))), ((u 19), .inl (V.2.2.1 1, 0, .inl (fun _ => 0))), ((u 20), .inl (V.2.2.1 8, 5, .inr (.inr (.inr (.inr (fun j => some ((u 20) + 1 + j))))))), (((u 20) + 1 + 0), .inl (V.2.2.1 3, 60, .inl (fun _ => 0))), (((u 20) + 1 + 1), .inl (V.2.2.1 3, 60, .inl (fun _ => 0))), (((u 20) + 1 + 2), .inl (V.2.2.1 3, 60, .inl (fun _ => 0))), (((u 20) + 1 + 3), .inl (V.2.2.1 3, 60, .inl (fun _ => 0))), (((u 20) + 1 + 4), .inl (V.2.2.1 3, 60, .inl (fun _ => 0))), ((u 21), .inl (V.2.2.1 6, 4, .inr (.inr (.inr (.inr (fun j => some ((u 21) + 1 + j))))))), (((u 21) + 1 + 0), .inl (V.2.2.1 1, 5, .inl (fun _ => 0))), (((u 21) + 1 + 1), .inl (V.2.2.1 1, 5, .inl (fun _ => 0))), (((u 21) + 1 + 2), .inl (V.2.2.1 1, 5, .inl (fun _ => 0))), (((u 21) + 1 + 3), .inl (V.2.2.1 1, 5, .inl (fun _ => 0))), ((u 22), .inl (V.2.2.1 6, 4, .inr (.inr (.inr (.inr (fun j => some ((u 22) + 1 + j))))))), (((u 22) + 1 + 0), .inl (V.2.2.1 1, 5, .inl (fun _ => 0))), (((u 22) + 1 + 1), .inl (V.2.2.1 1, 5, .inl (fun _ => 0))), (((u 22) + 1 + 2), .inl (V.2.2.1 1, 5, .inl (fun _ => 0))), (((u 22) + 1 + 3), .inl (V.2.2.1 1, 5, .inl (fun _ => 0))), (q276, .inl (V.2.2.1 1, 3, .inl (fun _ => 0)))])) (zwp (fcp rfl)) ?_
      refine g_dup C 278 dL_told_278 rfl ?_
      refine g_iconst C 279 dL_told_279 ki_0 ?_
      refine g_iload C 280 0 dL_told_280 rfl ?_
      refine g_iconst C 282 dL_told_282 ki_1 ?_
      refine g_iand C 283 dL_told_283 ?_
      refine g_iast (f' := upd (fun _ => 0) (ix (0 : Int32)) (f8 f &&& (1 : Int32))) (ws' := zW (Zc V) σf ++ (fc ++ [(q0, .inr (9, [.int (tdCop q), .int (tdCel p), .int (tdFor p q), .int (tdSeed p), .int 0, .int 0, .int (tdPri p q), .int 0, .ref (u 8), .ref (u 9), .ref (u 10), .ref (u 11), .ref (u 12), .ref (u 13), .ref (u 14), .ref (u 15), .ref (u 16), .ref (u 17), .ref (u 18), .ref (u 19), .ref (u 20), .ref (u 21), .ref (u 22), .int 0])), ((u 8), .inl (V.2.2.1 1, 4, .inl (tdFs q nc))), ((u 9), .inl (V.2.2.1 7, 4, .inr (.inr (.inr (.inr g))))), ((u 10), .inl (V.2.2.1 6, 60, .inr (.inr (.inr (.inr (fun _ => none)))))), ((u 11), .inl (V.2.2.1 1, 60, .inl (fun _ => 0))), ((u 12), .inl (V.2.2.1 1, 5, .inl (fun _ => 0))), ((u 13), .inl (V.2.2.1 1, 5, .inl (fun _ => 0))), ((u 14), .inl (V.2.2.1 1, 5, .inl (fun _ => 0))), ((u 15), .inl (V.2.2.1 1, 5, .inl (fun _ => 0))), ((u 16), .inl (V.2.2.1 1, 4, .inl (fun _ => 0))), ((u 17), .inl (V.2.2.1 1, 4, .inl (fun _ => 0))), ((u 18), .inl (V.2.2.1 1, 4, .inl (fun _ => 0))), ((u 19), .inl (V.2.2.1 1, 0, .inl (fun _ => 0))), ((u 20), .inl (V.2.2.1 8, 5, .inr (.inr (.inr (.inr (fun j => some ((u 20) + 1 + j))))))), (((u 20) + 1 + 0), .inl (V.2.2.1 3, 60, .inl (fun _ => 0))), (((u 20) + 1 + 1), .inl (V.2.2.1 3, 60, .inl (fun _ => 0))), (((u 20) + 1 + 2), .inl (V.2.2.1 3, 60, .inl (fun _ => 0))), (((u 20) + 1 + 3), .inl (V.2.2.1 3, 60, .inl (fun _ => 0))), (((u 20) + 1 + 4), .inl (V.2.2.1 3, 60, .inl (fun _ => 0))), ((u 21), .inl (V.2.2.1 6, 4, .inr (.inr (.inr (.inr (fun j => some ((u 21) + 1 + j))))))), (((u 21) + 1 + 0), .inl (V.2.2.1 1, 5, .inl (fun _ => 0))), (((u 21) + 1 + 1), .inl (V.2.2.1 1, 5, .inl (fun _ => 0))), (((u 21) + 1 + 2), .inl (V.2.2.1 1, 5, .inl (fun _ => 0))), (((u 21) + 1 + 3), .inl (V.2.2.1 1, 5, .inl (fun _ => 0))), ((u 22), .inl (V.2.2.1 6, 4, .inr (.inr (.inr (.inr (fun j => some ((u 22) + 1 + j))))))), (((u 22) + 1 + 0), .inl (V.2.2.1 1, 5, .inl (fun _ => 0))), (((u 22) + 1 + 1), .inl (V.2.2.1 1, 5, .inl (fun _ => 0))), (((u 22) + 1 + 2), .inl (V.2.2.1 1, 5, .inl (fun _ => 0))), (((u 22) + 1 + 3), .inl (V.2.2.1 1, 5, .inl (fun _ => 0))), (q276, .inl (V.2.2.1 1, 3, .inl (upd (fun _ => 0) (ix (0 : Int32)) (f8 f &&& (1 : Int32)))))])) C 284 (127 + (fc.length + 29)) (zwa (fca rfl)) (by decide) rfl (zws (fcs rfl)) dL_told_284 ?_
      refine g_dup C 285 dL_told_285 rfl ?_
      refine g_iconst C 286 dL_told_286 ki_1 ?_
      refine g_iload C 287 0 dL_told_287 rfl ?_
      refine g_iconst C 289 dL_told_289 ki_1 ?_
      refine g_ishr C 290 dL_told_290 ?_
      refine g_sipush C 291 dL_told_291 ks_255 ?_
      refine g_iand C 294 dL_told_294 ?_
      refine g_aload C 295 2 dL_told_295 rfl ?_
      refine g_getN C 297 (127 + (fc.length + 0)) (zwa (fca rfl)) 1 (Nat.le_of_ble_eq_true rfl) rfl (List.mem_of_getElem? (i := 8) rfl) rfl dL_told_297 ?_
      refine g_irem C 300 dL_told_300 hnc ?_
      refine g_iast (f' := upd (upd (fun _ => 0) (ix (0 : Int32)) (f8 f &&& (1 : Int32))) (ix (1 : Int32)) (((f8 f >>> ((1 : Int32) &&& 31)) &&& (255 : Int32)) - ((f8 f >>> ((1 : Int32) &&& 31)) &&& (255 : Int32)) / (tdCel p) * (tdCel p))) (ws' := zW (Zc V) σf ++ (fc ++ [(q0, .inr (9, [.int (tdCop q), .int (tdCel p), .int (tdFor p q), .int (tdSeed p), .int 0, .int 0, .int (tdPri p q), .int 0, .ref (u 8), .ref (u 9), .ref (u 10), .ref (u 11), .ref (u 12), .ref (u 13), .ref (u 14), .ref (u 15), .ref (u 16), .ref (u 17), .ref (u 18), .ref (u 19), .ref (u 20), .ref (u 21), .ref (u 22), .int 0])), ((u 8), .inl (V.2.2.1 1, 4, .inl (tdFs q nc))), ((u 9), .inl (V.2.2.1 7, 4, .inr (.inr (.inr (.inr g))))), ((u 10), .inl (V.2.2.1 6, 60, .inr (.inr (.inr (.inr (fun _ => none)))))), ((u 11), .inl (V.2.2.1 1, 60, .inl (fun _ => 0))), ((u 12), .inl (V.2.2.1 1, 5, .inl (fun _ => 0))), ((u 13), .inl (V.2.2.1 1, 5, .inl (fun _ => 0))), ((u 14), .inl (V.2.2.1 1, 5, .inl (fun _ => 0))), ((u 15), .inl (V.2.2.1 1, 5, .inl (fun _ => 0))), ((u 16), .inl (V.2.2.1 1, 4, .inl (fun _ => 0))), ((u 17), .inl (V.2.2.1 1, 4, .inl (fun _ => 0))), ((u 18), .inl (V.2.2.1 1, 4, .inl (fun _ => 0))), ((u 19), .inl (V.2.2.1 1, 0, .inl (fun _ => 0))), ((u 20), .inl (V.2.2.1 8, 5, .inr (.inr (.inr (.inr (fun j => some ((u 20) + 1 + j))))))), (((u 20) + 1 + 0), .inl (V.2.2.1 3, 60, .inl (fun _ => 0))), (((u 20) + 1 + 1), .inl (V.2.2.1 3, 60, .inl (fun _ => 0))), (((u 20) + 1 + 2), .inl (V.2.2.1 3, 60, .inl (fun _ => 0))), (((u 20) + 1 + 3), .inl (V.2.2.1 3, 60, .inl (fun _ => 0))), (((u 20) + 1 + 4), .inl (V.2.2.1 3, 60, .inl (fun _ => 0))), ((u 21), .inl (V.2.2.1 6, 4, .inr (.inr (.inr (.inr (fun j => some ((u 21) + 1 + j))))))), (((u 21) + 1 + 0), .inl (V.2.2.1 1, 5, .inl (fun _ => 0))), (((u 21) + 1 + 1), .inl (V.2.2.1 1, 5, .inl (fun _ => 0))), (((u 21) + 1 + 2), .inl (V.2.2.1 1, 5, .inl (fun _ => 0))), (((u 21) + 1 + 3), .inl (V.2.2.1 1, 5, .inl (fun _ => 0))), ((u 22), .inl (V.2.2.1 6, 4, .inr (.inr (.inr (.inr (fun j => some ((u 22) + 1 + j))))))), (((u 22) + 1 + 0), .inl (V.2.2.1 1, 5, .inl (fun _ => 0))), (((u 22) + 1 + 1), .inl (V.2.2.1 1, 5, .inl (fun _ => 0))), (((u 22) + 1 + 2), .inl (V.2.2.1 1, 5, .inl (fun _ => 0))), (((u 22) + 1 + 3), .inl (V.2.2.1 1, 5, .inl (fun _ => 0))), (q276, .inl (V.2.2.1 1, 3, .inl (upd (upd (fun _ => 0) (ix (0 : Int32)) (f8 f &&& (1 : Int32))) (ix (1 : Int32)) (((f8 f >>> ((1 : Int32) &&& 31)) &&& (255 : Int32)) - ((f8 f >>> ((1 : Int32) &&& 31)) &&& (255 : Int32)) / (tdCel p) * (tdCel p)))))])) C 301 (127 + (fc.length + 29)) (zwa (fca rfl)) (by decide) rfl (zws (fcs rfl)) dL_told_301 ?_
      refine g_dup C 302 dL_told_302 rfl ?_
      refine g_iconst C 303 dL_told_303 ki_2 ?_
      refine g_iload C 304 0 dL_told_304 rfl ?_
      refine g_iconst C 306 dL_told_306 ki_3 ?_
      refine g_ishr C 307 dL_told_307 ?_
      refine g_iconst C 308 dL_told_308 ki_1 ?_
      refine g_iand C 309 dL_told_309 ?_
      have k331 : Gn K V.1 (fun q => zS (Zc V) q ∨ (Ks K).heap.size ≤ q) (zW (Zc V) σf ++ (fc ++ [(q0, .inr (9, [.int (tdCop q), .int (tdCel p), .int (tdFor p q), .int (tdSeed p), .int 0, .int 0, .int (tdPri p q), .int 0, .ref (u 8), .ref (u 9), .ref (u 10), .ref (u 11), .ref (u 12), .ref (u 13), .ref (u 14), .ref (u 15), .ref (u 16), .ref (u 17), .ref (u 18), .ref (u 19), .ref (u 20), .ref (u 21), .ref (u 22), .int 0])), ((u 8), .inl (V.2.2.1 1, 4, .inl (tdFs q nc))), ((u 9), .inl (V.2.2.1 7, 4, .inr (.inr (.inr (.inr g))))), ((u 10), .inl (V.2.2.1 6, 60, .inr (.inr (.inr (.inr (fun _ => none)))))), ((u 11), .inl (V.2.2.1 1, 60, .inl (fun _ => 0))), ((u 12), .inl (V.2.2.1 1, 5, .inl (fun _ => 0))), ((u 13), .inl (V.2.2.1 1, 5, .inl (fun _ => 0))), ((u 14), .inl (V.2.2.1 1, 5, .inl (fun _ => 0))), ((u 15), .inl (V.2.2.1 1, 5, .inl (fun _ => 0))), ((u 16), .inl (V.2.2.1 1, 4, .inl (fun _ => 0))), ((u 17), .inl (V.2.2.1 1, 4, .inl (fun _ => 0))), ((u 18), .inl (V.2.2.1 1, 4, .inl (fun _ => 0))), ((u 19), .inl (V.2.2.1 1, 0, .inl (fun _ => 0))), ((u 20), .inl (V.2.2.1 8, 5, .inr (.inr (.inr (.inr (fun j => some ((u 20) + 1 + j))))))), (((u 20) + 1 + 0), .inl (V.2.2.1 3, 60, .inl (fun _ => 0))), (((u 20) + 1 + 1), .inl (V.2.2.1 3, 60, .inl (fun _ => 0))), (((u 20) + 1 + 2), .inl (V.2.2.1 3, 60, .inl (fun _ => 0))), (((u 20) + 1 + 3), .inl (V.2.2.1 3, 60, .inl (fun _ => 0))), (((u 20) + 1 + 4), .inl (V.2.2.1 3, 60, .inl (fun _ => 0))), ((u 21), .inl (V.2.2.1 6, 4, .inr (.inr (.inr (.inr (fun j => some ((u 21) + 1 + j))))))), (((u 21) + 1 + 0), .inl (V.2.2.1 1, 5, .inl (fun _ => 0))), (((u 21) + 1 + 1), .inl (V.2.2.1 1, 5, .inl (fun _ => 0))), (((u 21) + 1 + 2), .inl (V.2.2.1 1, 5, .inl (fun _ => 0))), (((u 21) + 1 + 3), .inl (V.2.2.1 1, 5, .inl (fun _ => 0))), ((u 22), .inl (V.2.2.1 6, 4, .inr (.inr (.inr (.inr (fun j => some ((u 22) + 1 + j))))))), (((u 22) + 1 + 0), .inl (V.2.2.1 1, 5, .inl (fun _ => 0))), (((u 22) + 1 + 1), .inl (V.2.2.1 1, 5, .inl (fun _ => 0))), (((u 22) + 1 + 2), .inl (V.2.2.1 1, 5, .inl (fun _ => 0))), (((u 22) + 1 + 3), .inl (V.2.2.1 1, 5, .inl (fun _ => 0))), (q276, .inl (V.2.2.1 1, 3, .inl (upd (upd (fun _ => 0) (ix (0 : Int32)) (f8 f &&& (1 : Int32))) (ix (1 : Int32)) (((f8 f >>> ((1 : Int32) &&& 31)) &&& (255 : Int32)) - ((f8 f >>> ((1 : Int32) &&& 31)) &&& (255 : Int32)) / (tdCel p) * (tdCel p)))))])) (ce + 1) (sl + 3) 331 [(6, .int (f8 f)), (5, .int (nI f)), (4, .ref q0), (0, .ref (zA (Zc V) 0)), (1, .ref ra), (2, .int p), (3, .int q)] [.int (hwC (f8 f) (tdCel p)), .int (2 : Int32), .ref q276, .ref q276] := by
        refine g_iast (f' := upd (upd (upd (fun _ => 0) (ix (0 : Int32)) (f8 f &&& (1 : Int32))) (ix (1 : Int32)) (((f8 f >>> ((1 : Int32) &&& 31)) &&& (255 : Int32)) - ((f8 f >>> ((1 : Int32) &&& 31)) &&& (255 : Int32)) / (tdCel p) * (tdCel p))) (ix (2 : Int32)) (hwC (f8 f) (tdCel p))) (ws' := zW (Zc V) σf ++ (fc ++ [(q0, .inr (9, [.int (tdCop q), .int (tdCel p), .int (tdFor p q), .int (tdSeed p), .int 0, .int 0, .int (tdPri p q), .int 0, .ref (u 8), .ref (u 9), .ref (u 10), .ref (u 11), .ref (u 12), .ref (u 13), .ref (u 14), .ref (u 15), .ref (u 16), .ref (u 17), .ref (u 18), .ref (u 19), .ref (u 20), .ref (u 21), .ref (u 22), .int 0])), ((u 8), .inl (V.2.2.1 1, 4, .inl (tdFs q nc))), ((u 9), .inl (V.2.2.1 7, 4, .inr (.inr (.inr (.inr g))))), ((u 10), .inl (V.2.2.1 6, 60, .inr (.inr (.inr (.inr (fun _ => none)))))), ((u 11), .inl (V.2.2.1 1, 60, .inl (fun _ => 0))), ((u 12), .inl (V.2.2.1 1, 5, .inl (fun _ => 0))), ((u 13), .inl (V.2.2.1 1, 5, .inl (fun _ => 0))), ((u 14), .inl (V.2.2.1 1, 5, .inl (fun _ => 0))), ((u 15), .inl (V.2.2.1 1, 5, .inl (fun _ => 0))), ((u 16), .inl (V.2.2.1 1, 4, .inl (fun _ => 0))), ((u 17), .inl (V.2.2.1 1, 4, .inl (fun _ => 0))), ((u 18), .inl (V.2.2.1 1, 4, .inl (fun _ => 0))), ((u 19), .inl (V.2.2.1 1, 0, .inl (fun _ => 0))), ((u 20), .inl (V.2.2.1 8, 5, .inr (.inr (.inr (.inr (fun j => some ((u 20) + 1 + j))))))), (((u 20) + 1 + 0), .inl (V.2.2.1 3, 60, .inl (fun _ => 0))), (((u 20) + 1 + 1), .inl (V.2.2.1 3, 60, .inl (fun _ => 0))), (((u 20) + 1 + 2), .inl (V.2.2.1 3, 60, .inl (fun _ => 0))), (((u 20) + 1 + 3), .inl (V.2.2.1 3, 60, .inl (fun _ => 0))), (((u 20) + 1 + 4), .inl (V.2.2.1 3, 60, .inl (fun _ => 0))), ((u 21), .inl (V.2.2.1 6, 4, .inr (.inr (.inr (.inr (fun j => some ((u 21) + 1 + j))))))), (((u 21) + 1 + 0), .inl (V.2.2.1 1, 5, .inl (fun _ => 0))), (((u 21) + 1 + 1), .inl (V.2.2.1 1, 5, .inl (fun _ => 0))), (((u 21) + 1 + 2), .inl (V.2.2.1 1, 5, .inl (fun _ => 0))), (((u 21) + 1 + 3), .inl (V.2.2.1 1, 5, .inl (fun _ => 0))), ((u 22), .inl (V.2.2.1 6, 4, .inr (.inr (.inr (.inr (fun j => some ((u 22) + 1 + j))))))), (((u 22) + 1 + 0), .inl (V.2.2.1 1, 5, .inl (fun _ => 0))), (((u 22) + 1 + 1), .inl (V.2.2.1 1, 5, .inl (fun _ => 0))), (((u 22) + 1 + 2), .inl (V.2.2.1 1, 5, .inl (fun _ => 0))), (((u 22) + 1 + 3), .inl (V.2.2.1 1, 5, .inl (fun _ => 0))), (q276, .inl (V.2.2.1 1, 3, .inl (upd (upd (upd (fun _ => 0) (ix (0 : Int32)) (f8 f &&& (1 : Int32))) (ix (1 : Int32)) (((f8 f >>> ((1 : Int32) &&& 31)) &&& (255 : Int32)) - ((f8 f >>> ((1 : Int32) &&& 31)) &&& (255 : Int32)) / (tdCel p) * (tdCel p))) (ix (2 : Int32)) (hwC (f8 f) (tdCel p)))))])) C 331 (127 + (fc.length + 29)) (zwa (fca rfl)) (by decide) rfl (zws (fcs rfl)) dL_told_331 ?_
        refine g_eq (ws2 := zW (Zc V) σf ++ (fc ++ [(q0, .inr (9, [.int (tdCop q), .int (tdCel p), .int (tdFor p q), .int (tdSeed p), .int 0, .int 0, .int (tdPri p q), .int 0, .ref (u 8), .ref (u 9), .ref (u 10), .ref (u 11), .ref (u 12), .ref (u 13), .ref (u 14), .ref (u 15), .ref (u 16), .ref (u 17), .ref (u 18), .ref (u 19), .ref (u 20), .ref (u 21), .ref (u 22), .int 0])), ((u 8), .inl (V.2.2.1 1, 4, .inl (tdFs q nc))), ((u 9), .inl (V.2.2.1 7, 4, .inr (.inr (.inr (.inr g))))), ((u 10), .inl (V.2.2.1 6, 60, .inr (.inr (.inr (.inr (fun _ => none)))))), ((u 11), .inl (V.2.2.1 1, 60, .inl (fun _ => 0))), ((u 12), .inl (V.2.2.1 1, 5, .inl (fun _ => 0))), ((u 13), .inl (V.2.2.1 1, 5, .inl (fun _ => 0))), ((u 14), .inl (V.2.2.1 1, 5, .inl (fun _ => 0))), ((u 15), .inl (V.2.2.1 1, 5, .inl (fun _ => 0))), ((u 16), .inl (V.2.2.1 1, 4, .inl (fun _ => 0))), ((u 17), .inl (V.2.2.1 1, 4, .inl (fun _ => 0))), ((u 18), .inl (V.2.2.1 1, 4, .inl (fun _ => 0))), ((u 19), .inl (V.2.2.1 1, 0, .inl (fun _ => 0))), ((u 20), .inl (V.2.2.1 8, 5, .inr (.inr (.inr (.inr (fun j => some ((u 20) + 1 + j))))))), (((u 20) + 1 + 0), .inl (V.2.2.1 3, 60, .inl (fun _ => 0))), (((u 20) + 1 + 1), .inl (V.2.2.1 3, 60, .inl (fun _ => 0))), (((u 20) + 1 + 2), .inl (V.2.2.1 3, 60, .inl (fun _ => 0))), (((u 20) + 1 + 3), .inl (V.2.2.1 3, 60, .inl (fun _ => 0))), (((u 20) + 1 + 4), .inl (V.2.2.1 3, 60, .inl (fun _ => 0))), ((u 21), .inl (V.2.2.1 6, 4, .inr (.inr (.inr (.inr (fun j => some ((u 21) + 1 + j))))))), (((u 21) + 1 + 0), .inl (V.2.2.1 1, 5, .inl (fun _ => 0))), (((u 21) + 1 + 1), .inl (V.2.2.1 1, 5, .inl (fun _ => 0))), (((u 21) + 1 + 2), .inl (V.2.2.1 1, 5, .inl (fun _ => 0))), (((u 21) + 1 + 3), .inl (V.2.2.1 1, 5, .inl (fun _ => 0))), ((u 22), .inl (V.2.2.1 6, 4, .inr (.inr (.inr (.inr (fun j => some ((u 22) + 1 + j))))))), (((u 22) + 1 + 0), .inl (V.2.2.1 1, 5, .inl (fun _ => 0))), (((u 22) + 1 + 1), .inl (V.2.2.1 1, 5, .inl (fun _ => 0))), (((u 22) + 1 + 2), .inl (V.2.2.1 1, 5, .inl (fun _ => 0))), (((u 22) + 1 + 3), .inl (V.2.2.1 1, 5, .inl (fun _ => 0))), (q276, .inl (V.2.2.1 1, 3, .inl (hwF (f8 f) (tdCel p))))])) rfl ?_
        refine g_astore (L' := [(7, .ref q276), (6, .int (f8 f)), (5, .int (nI f)), (4, .ref q0), (0, .ref (zA (Zc V) 0)), (1, .ref ra), (2, .int p), (3, .int q)]) C 332 dL_told_332 (hN _ (Nat.le_of_ble_eq_true rfl)) rfl ?_
        refine g_aload C 334 3 dL_told_334 rfl ?_
        refine g_getN C 336 (127 + (fc.length + 0)) (zwa (fca rfl)) 9 (Nat.le_of_ble_eq_true rfl) rfl (List.mem_of_getElem? (i := 16) rfl) rfl dL_told_336 ?_
        refine g_iload C 339 2 dL_told_339 rfl ?_
        refine g_iconst C 341 dL_told_341 ki_5 ?_
        refine g_anewA (t := .int) C 342 5 tw_1289 (show (T6 V.2.2.1)[6]? = some (V.2.2.1 6, .array .int) from rfl) (fun _ h => h) (fun _ h => h.2.2.2.1) (by decide) rfl (Nat.le_of_ble_eq_true rfl) (by omega) (by omega) dL_told_342 (fun q342 => ?_)
        refine g_eq (ws2 := zW (Zc V) σf ++ (fc ++ [(q0, .inr (9, [.int (tdCop q), .int (tdCel p), .int (tdFor p q), .int (tdSeed p), .int 0, .int 0, .int (tdPri p q), .int 0, .ref (u 8), .ref (u 9), .ref (u 10), .ref (u 11), .ref (u 12), .ref (u 13), .ref (u 14), .ref (u 15), .ref (u 16), .ref (u 17), .ref (u 18), .ref (u 19), .ref (u 20), .ref (u 21), .ref (u 22), .int 0])), ((u 8), .inl (V.2.2.1 1, 4, .inl (tdFs q nc))), ((u 9), .inl (V.2.2.1 7, 4, .inr (.inr (.inr (.inr g))))), ((u 10), .inl (V.2.2.1 6, 60, .inr (.inr (.inr (.inr (fun _ => none)))))), ((u 11), .inl (V.2.2.1 1, 60, .inl (fun _ => 0))), ((u 12), .inl (V.2.2.1 1, 5, .inl (fun _ => 0))), ((u 13), .inl (V.2.2.1 1, 5, .inl (fun _ => 0))), ((u 14), .inl (V.2.2.1 1, 5, .inl (fun _ => 0))), ((u 15), .inl (V.2.2.1 1, 5, .inl (fun _ => 0))), ((u 16), .inl (V.2.2.1 1, 4, .inl (fun _ => 0))), ((u 17), .inl (V.2.2.1 1, 4, .inl (fun _ => 0))), ((u 18), .inl (V.2.2.1 1, 4, .inl (fun _ => 0))), ((u 19), .inl (V.2.2.1 1, 0, .inl (fun _ => 0))), ((u 20), .inl (V.2.2.1 8, 5, .inr (.inr (.inr (.inr (fun j => some ((u 20) + 1 + j))))))), (((u 20) + 1 + 0), .inl (V.2.2.1 3, 60, .inl (fun _ => 0))), (((u 20) + 1 + 1), .inl (V.2.2.1 3, 60, .inl (fun _ => 0))), (((u 20) + 1 + 2), .inl (V.2.2.1 3, 60, .inl (fun _ => 0))), (((u 20) + 1 + 3), .inl (V.2.2.1 3, 60, .inl (fun _ => 0))), (((u 20) + 1 + 4), .inl (V.2.2.1 3, 60, .inl (fun _ => 0))), ((u 21), .inl (V.2.2.1 6, 4, .inr (.inr (.inr (.inr (fun j => some ((u 21) + 1 + j))))))), (((u 21) + 1 + 0), .inl (V.2.2.1 1, 5, .inl (fun _ => 0))), (((u 21) + 1 + 1), .inl (V.2.2.1 1, 5, .inl (fun _ => 0))), (((u 21) + 1 + 2), .inl (V.2.2.1 1, 5, .inl (fun _ => 0))), (((u 21) + 1 + 3), .inl (V.2.2.1 1, 5, .inl (fun _ => 0))), ((u 22), .inl (V.2.2.1 6, 4, .inr (.inr (.inr (.inr (fun j => some ((u 22) + 1 + j))))))), (((u 22) + 1 + 0), .inl (V.2.2.1 1, 5, .inl (fun _ => 0))), (((u 22) + 1 + 1), .inl (V.2.2.1 1, 5, .inl (fun _ => 0))), (((u 22) + 1 + 2), .inl (V.2.2.1 1, 5, .inl (fun _ => 0))), (((u 22) + 1 + 3), .inl (V.2.2.1 1, 5, .inl (fun _ => 0))), (q276, .inl (V.2.2.1 1, 3, .inl (hwF (f8 f) (tdCel p)))), (q342, .inl (V.2.2.1 6, 5, .inr (.inr (.inr (.inr (fun _ => none))))))])) (zwp (fcp rfl)) ?_
        refine g_aast (t := .array .int) (f' := va_up (g) (ix (nI f)) (some q342)) (ws' := zW (Zc V) σf ++ (fc ++ [(q0, .inr (9, [.int (tdCop q), .int (tdCel p), .int (tdFor p q), .int (tdSeed p), .int 0, .int 0, .int (tdPri p q), .int 0, .ref (u 8), .ref (u 9), .ref (u 10), .ref (u 11), .ref (u 12), .ref (u 13), .ref (u 14), .ref (u 15), .ref (u 16), .ref (u 17), .ref (u 18), .ref (u 19), .ref (u 20), .ref (u 21), .ref (u 22), .int 0])), ((u 8), .inl (V.2.2.1 1, 4, .inl (tdFs q nc))), ((u 9), .inl (V.2.2.1 7, 4, .inr (.inr (.inr (.inr (va_up (g) (ix (nI f)) (some q342))))))), ((u 10), .inl (V.2.2.1 6, 60, .inr (.inr (.inr (.inr (fun _ => none)))))), ((u 11), .inl (V.2.2.1 1, 60, .inl (fun _ => 0))), ((u 12), .inl (V.2.2.1 1, 5, .inl (fun _ => 0))), ((u 13), .inl (V.2.2.1 1, 5, .inl (fun _ => 0))), ((u 14), .inl (V.2.2.1 1, 5, .inl (fun _ => 0))), ((u 15), .inl (V.2.2.1 1, 5, .inl (fun _ => 0))), ((u 16), .inl (V.2.2.1 1, 4, .inl (fun _ => 0))), ((u 17), .inl (V.2.2.1 1, 4, .inl (fun _ => 0))), ((u 18), .inl (V.2.2.1 1, 4, .inl (fun _ => 0))), ((u 19), .inl (V.2.2.1 1, 0, .inl (fun _ => 0))), ((u 20), .inl (V.2.2.1 8, 5, .inr (.inr (.inr (.inr (fun j => some ((u 20) + 1 + j))))))), (((u 20) + 1 + 0), .inl (V.2.2.1 3, 60, .inl (fun _ => 0))), (((u 20) + 1 + 1), .inl (V.2.2.1 3, 60, .inl (fun _ => 0))), (((u 20) + 1 + 2), .inl (V.2.2.1 3, 60, .inl (fun _ => 0))), (((u 20) + 1 + 3), .inl (V.2.2.1 3, 60, .inl (fun _ => 0))), (((u 20) + 1 + 4), .inl (V.2.2.1 3, 60, .inl (fun _ => 0))), ((u 21), .inl (V.2.2.1 6, 4, .inr (.inr (.inr (.inr (fun j => some ((u 21) + 1 + j))))))), (((u 21) + 1 + 0), .inl (V.2.2.1 1, 5, .inl (fun _ => 0))), (((u 21) + 1 + 1), .inl (V.2.2.1 1, 5, .inl (fun _ => 0))), (((u 21) + 1 + 2), .inl (V.2.2.1 1, 5, .inl (fun _ => 0))), (((u 21) + 1 + 3), .inl (V.2.2.1 1, 5, .inl (fun _ => 0))), ((u 22), .inl (V.2.2.1 6, 4, .inr (.inr (.inr (.inr (fun j => some ((u 22) + 1 + j))))))), (((u 22) + 1 + 0), .inl (V.2.2.1 1, 5, .inl (fun _ => 0))), (((u 22) + 1 + 1), .inl (V.2.2.1 1, 5, .inl (fun _ => 0))), (((u 22) + 1 + 2), .inl (V.2.2.1 1, 5, .inl (fun _ => 0))), (((u 22) + 1 + 3), .inl (V.2.2.1 1, 5, .inl (fun _ => 0))), (q276, .inl (V.2.2.1 1, 3, .inl (hwF (f8 f) (tdCel p)))), (q342, .inl (V.2.2.1 6, 5, .inr (.inr (.inr (.inr (fun _ => none))))))])) C 345 (127 + (fc.length + 2)) 7 (127 + (fc.length + 30)) (zwa (fca rfl)) (show (T6 V.2.2.1)[7]? = some (V.2.2.1 7, .array (.array .int)) from rfl) (zwa (fca rfl)) (fun _ h => h.2.2.2.2.1) (fun _ h => (h.2 6 (V.2.2.1 6, .array .int) rfl).2) (fun _ h => h) hf4 rfl (zws (fcs rfl)) dL_told_345 ?_
        refine g_aload C 346 3 dL_told_346 rfl ?_
        refine g_getN C 348 (127 + (fc.length + 0)) (zwa (fca rfl)) 9 (Nat.le_of_ble_eq_true rfl) rfl (List.mem_of_getElem? (i := 16) rfl) rfl dL_told_348 ?_
        refine g_iload C 351 2 dL_told_351 rfl ?_
        refine g_aald (b := q342) (ty := .array (.array .int)) C 353 (127 + (fc.length + 2)) 7 (zwa (fca rfl)) rfl rfl hf4 vup_s dL_told_353 ?_
        refine g_iconst C 354 dL_told_354 ki_0 ?_
        refine g_aload C 355 0 dL_told_355 rfl ?_
        refine g_aast (t := .int) (f' := va_up (fun _ => none) (ix (0 : Int32)) (some q276)) (ws' := zW (Zc V) σf ++ (fc ++ [(q0, .inr (9, [.int (tdCop q), .int (tdCel p), .int (tdFor p q), .int (tdSeed p), .int 0, .int 0, .int (tdPri p q), .int 0, .ref (u 8), .ref (u 9), .ref (u 10), .ref (u 11), .ref (u 12), .ref (u 13), .ref (u 14), .ref (u 15), .ref (u 16), .ref (u 17), .ref (u 18), .ref (u 19), .ref (u 20), .ref (u 21), .ref (u 22), .int 0])), ((u 8), .inl (V.2.2.1 1, 4, .inl (tdFs q nc))), ((u 9), .inl (V.2.2.1 7, 4, .inr (.inr (.inr (.inr (va_up (g) (ix (nI f)) (some q342))))))), ((u 10), .inl (V.2.2.1 6, 60, .inr (.inr (.inr (.inr (fun _ => none)))))), ((u 11), .inl (V.2.2.1 1, 60, .inl (fun _ => 0))), ((u 12), .inl (V.2.2.1 1, 5, .inl (fun _ => 0))), ((u 13), .inl (V.2.2.1 1, 5, .inl (fun _ => 0))), ((u 14), .inl (V.2.2.1 1, 5, .inl (fun _ => 0))), ((u 15), .inl (V.2.2.1 1, 5, .inl (fun _ => 0))), ((u 16), .inl (V.2.2.1 1, 4, .inl (fun _ => 0))), ((u 17), .inl (V.2.2.1 1, 4, .inl (fun _ => 0))), ((u 18), .inl (V.2.2.1 1, 4, .inl (fun _ => 0))), ((u 19), .inl (V.2.2.1 1, 0, .inl (fun _ => 0))), ((u 20), .inl (V.2.2.1 8, 5, .inr (.inr (.inr (.inr (fun j => some ((u 20) + 1 + j))))))), (((u 20) + 1 + 0), .inl (V.2.2.1 3, 60, .inl (fun _ => 0))), (((u 20) + 1 + 1), .inl (V.2.2.1 3, 60, .inl (fun _ => 0))), (((u 20) + 1 + 2), .inl (V.2.2.1 3, 60, .inl (fun _ => 0))), (((u 20) + 1 + 3), .inl (V.2.2.1 3, 60, .inl (fun _ => 0))), (((u 20) + 1 + 4), .inl (V.2.2.1 3, 60, .inl (fun _ => 0))), ((u 21), .inl (V.2.2.1 6, 4, .inr (.inr (.inr (.inr (fun j => some ((u 21) + 1 + j))))))), (((u 21) + 1 + 0), .inl (V.2.2.1 1, 5, .inl (fun _ => 0))), (((u 21) + 1 + 1), .inl (V.2.2.1 1, 5, .inl (fun _ => 0))), (((u 21) + 1 + 2), .inl (V.2.2.1 1, 5, .inl (fun _ => 0))), (((u 21) + 1 + 3), .inl (V.2.2.1 1, 5, .inl (fun _ => 0))), ((u 22), .inl (V.2.2.1 6, 4, .inr (.inr (.inr (.inr (fun j => some ((u 22) + 1 + j))))))), (((u 22) + 1 + 0), .inl (V.2.2.1 1, 5, .inl (fun _ => 0))), (((u 22) + 1 + 1), .inl (V.2.2.1 1, 5, .inl (fun _ => 0))), (((u 22) + 1 + 2), .inl (V.2.2.1 1, 5, .inl (fun _ => 0))), (((u 22) + 1 + 3), .inl (V.2.2.1 1, 5, .inl (fun _ => 0))), (q276, .inl (V.2.2.1 1, 3, .inl (hwF (f8 f) (tdCel p)))), (q342, .inl (V.2.2.1 6, 5, .inr (.inr (.inr (.inr (va_up (fun _ => none) (ix (0 : Int32)) (some q276)))))))])) C 357 (127 + (fc.length + 30)) 6 (127 + (fc.length + 29)) (zwa (fca rfl)) (show (T6 V.2.2.1)[6]? = some (V.2.2.1 6, .array .int) from rfl) (zwa (fca rfl)) (fun _ h => h.2.2.2.1) (fun _ h => (h.2 1 (V.2.2.1 1, .int) rfl).2) (fun _ h => h) (by decide) rfl (zws (fcs rfl)) dL_told_357 ?_
        refine g_aload_n C 358 4 dL_told_358 rfl ?_
        refine g_bipush C 359 dL_told_359 kb_6 ?_
        refine g_ldc C 361 (hw := tw_1290) dL_told_361 ?_
        refine g_ldc C 363 (hw := tw_1291) dL_told_363 ?_
        refine g_iconst C 365 dL_told_365 ki_0 ?_
        refine g_iconst C 366 dL_told_366 ki_0 ?_
        refine g_iconst C 367 dL_told_367 ki_0 ?_
        obtain ⟨s_368, h368, h⟩ := bnd1_inv h
        refine g_callL C hZ hzA hX 368 [.ref (zA (Zc V) 0), .int (6 : Int32), .int (1718579821 : Int32), .int (543555584 : Int32), .int (0 : Int32), .int (0 : Int32), .int (0 : Int32)] [] rfl tw_1260 ms_L_put (Nat.le_of_ble_eq_true rfl) (Nat.le_of_ble_eq_true rfl) (Nat.le_of_ble_eq_true rfl) (by omega) (by omega) dL_told_368 (c_L_put V _ _ _ _ _ _ _ _ h368) ?_
        show Gn _ _ _ _ _ _ _ _ []
        refine g_aload_n C 371 4 dL_told_371 rfl ?_
        refine g_bipush C 372 dL_told_372 kb_97 ?_
        refine g_iload C 374 2 dL_told_374 rfl ?_
        refine g_iadd C 376 dL_told_376 ?_
        obtain ⟨s_377, h377, h⟩ := bnd1_inv h
        refine g_callL C hZ hzA hX 377 [.ref (zA (Zc V) 0), .int ((97 : Int32) + nI f)] [] rfl tw_1278 ms_L_sign (Nat.le_of_ble_eq_true rfl) (Nat.le_of_ble_eq_true rfl) (Nat.le_of_ble_eq_true rfl) (by omega) (by omega) dL_told_377 (c_L_sign V _ _ _ h377) ?_
        show Gn _ _ _ _ _ _ _ _ []
        refine g_aload_n C 380 4 dL_told_380 rfl ?_
        refine g_bipush C 381 dL_told_381 kb_6 ?_
        refine g_ldc C 383 (hw := tw_1292) dL_told_383 ?_
        refine g_ldc C 385 (hw := tw_1293) dL_told_385 ?_
        refine g_iconst C 387 dL_told_387 ki_0 ?_
        refine g_iconst C 388 dL_told_388 ki_0 ?_
        refine g_iconst C 389 dL_told_389 ki_0 ?_
        obtain ⟨s_390, h390, h⟩ := bnd1_inv h
        refine g_callL C hZ hzA hX 390 [.ref (zA (Zc V) 0), .int (6 : Int32), .int (544105829 : Int32), .int (1685258240 : Int32), .int (0 : Int32), .int (0 : Int32), .int (0 : Int32)] [] rfl tw_1260 ms_L_put (Nat.le_of_ble_eq_true rfl) (Nat.le_of_ble_eq_true rfl) (Nat.le_of_ble_eq_true rfl) (by omega) (by omega) dL_told_390 (c_L_put V _ _ _ _ _ _ _ _ h390) ?_
        show Gn _ _ _ _ _ _ _ _ []
        refine g_aload C 393 3 dL_told_393 rfl ?_
        refine g_getN C 395 (127 + (fc.length + 0)) (zwa (fca rfl)) 9 (Nat.le_of_ble_eq_true rfl) rfl (List.mem_of_getElem? (i := 16) rfl) rfl dL_told_395 ?_
        refine g_iload C 398 2 dL_told_398 rfl ?_
        refine g_aald (b := q342) (ty := .array (.array .int)) C 400 (127 + (fc.length + 2)) 7 (zwa (fca rfl)) rfl rfl hf4 vup_s dL_told_400 ?_
        refine g_iconst C 401 dL_told_401 ki_1 ?_
        refine g_aload_n C 402 4 dL_told_402 rfl ?_
        refine g_iload C 403 1 dL_told_403 rfl ?_
        refine g_iconst C 405 dL_told_405 ki_2 ?_
        refine g_ishr C 406 dL_told_406 ?_
        refine g_aload C 407 3 dL_told_407 rfl ?_
        refine g_getN C 409 (127 + (fc.length + 0)) (zwa (fca rfl)) 1 (Nat.le_of_ble_eq_true rfl) rfl (List.mem_of_getElem? (i := 8) rfl) rfl dL_told_409 ?_
        obtain ⟨s_412, h412, h⟩ := bnd1_inv h
        refine g_callW C hcs hZ hzA hX 412 [.ref (zA (Zc V) 0), .int (f8 f >>> ((2 : Int32) &&& 31)), .int (tdCel p)] [.int (1 : Int32), .ref q342] rfl tw_1294 ms_L_term (Nat.le_of_ble_eq_true rfl) (Nat.le_of_ble_eq_true rfl) (Nat.le_of_ble_eq_true rfl) (by omega) (by omega) dL_told_412 (t_term (Kl K) V _ _ _ hnc h412) [] rfl (fun rv412 w412 nl412 hr412 => ?_)
        obtain ⟨hw412, q412, rfl, rfl⟩ := hr412
        rw [hw412]
        refine g_eq (ws2 := zW (Zc V) s_412 ++ (fc ++ [(q0, .inr (9, [.int (tdCop q), .int (tdCel p), .int (tdFor p q), .int (tdSeed p), .int 0, .int 0, .int (tdPri p q), .int 0, .ref (u 8), .ref (u 9), .ref (u 10), .ref (u 11), .ref (u 12), .ref (u 13), .ref (u 14), .ref (u 15), .ref (u 16), .ref (u 17), .ref (u 18), .ref (u 19), .ref (u 20), .ref (u 21), .ref (u 22), .int 0])), ((u 8), .inl (V.2.2.1 1, 4, .inl (tdFs q nc))), ((u 9), .inl (V.2.2.1 7, 4, .inr (.inr (.inr (.inr (va_up (g) (ix (nI f)) (some q342))))))), ((u 10), .inl (V.2.2.1 6, 60, .inr (.inr (.inr (.inr (fun _ => none)))))), ((u 11), .inl (V.2.2.1 1, 60, .inl (fun _ => 0))), ((u 12), .inl (V.2.2.1 1, 5, .inl (fun _ => 0))), ((u 13), .inl (V.2.2.1 1, 5, .inl (fun _ => 0))), ((u 14), .inl (V.2.2.1 1, 5, .inl (fun _ => 0))), ((u 15), .inl (V.2.2.1 1, 5, .inl (fun _ => 0))), ((u 16), .inl (V.2.2.1 1, 4, .inl (fun _ => 0))), ((u 17), .inl (V.2.2.1 1, 4, .inl (fun _ => 0))), ((u 18), .inl (V.2.2.1 1, 4, .inl (fun _ => 0))), ((u 19), .inl (V.2.2.1 1, 0, .inl (fun _ => 0))), ((u 20), .inl (V.2.2.1 8, 5, .inr (.inr (.inr (.inr (fun j => some ((u 20) + 1 + j))))))), (((u 20) + 1 + 0), .inl (V.2.2.1 3, 60, .inl (fun _ => 0))), (((u 20) + 1 + 1), .inl (V.2.2.1 3, 60, .inl (fun _ => 0))), (((u 20) + 1 + 2), .inl (V.2.2.1 3, 60, .inl (fun _ => 0))), (((u 20) + 1 + 3), .inl (V.2.2.1 3, 60, .inl (fun _ => 0))), (((u 20) + 1 + 4), .inl (V.2.2.1 3, 60, .inl (fun _ => 0))), ((u 21), .inl (V.2.2.1 6, 4, .inr (.inr (.inr (.inr (fun j => some ((u 21) + 1 + j))))))), (((u 21) + 1 + 0), .inl (V.2.2.1 1, 5, .inl (fun _ => 0))), (((u 21) + 1 + 1), .inl (V.2.2.1 1, 5, .inl (fun _ => 0))), (((u 21) + 1 + 2), .inl (V.2.2.1 1, 5, .inl (fun _ => 0))), (((u 21) + 1 + 3), .inl (V.2.2.1 1, 5, .inl (fun _ => 0))), ((u 22), .inl (V.2.2.1 6, 4, .inr (.inr (.inr (.inr (fun j => some ((u 22) + 1 + j))))))), (((u 22) + 1 + 0), .inl (V.2.2.1 1, 5, .inl (fun _ => 0))), (((u 22) + 1 + 1), .inl (V.2.2.1 1, 5, .inl (fun _ => 0))), (((u 22) + 1 + 2), .inl (V.2.2.1 1, 5, .inl (fun _ => 0))), (((u 22) + 1 + 3), .inl (V.2.2.1 1, 5, .inl (fun _ => 0))), (q276, .inl (V.2.2.1 1, 3, .inl (hwF (f8 f) (tdCel p)))), (q342, .inl (V.2.2.1 6, 5, .inr (.inr (.inr (.inr (va_up (fun _ => none) (ix (0 : Int32)) (some q276))))))), (q412, .inl (V.2.2.1 1, 3, .inl (tm3 ((f8 f >>> ((2 : Int32) &&& 31)) &&& (7 : Int32)) (((f8 f >>> ((2 : Int32) &&& 31)) >>> ((3 : Int32) &&& 31)) &&& (3 : Int32)) ((((f8 f >>> ((2 : Int32) &&& 31)) >>> ((5 : Int32) &&& 31)) &&& (255 : Int32)) - (((f8 f >>> ((2 : Int32) &&& 31)) >>> ((5 : Int32) &&& 31)) &&& (255 : Int32)) / (tdCel p) * (tdCel p)))))])) (zwq (fcp rfl)) ?_
        show Gn _ _ _ _ _ _ _ _ [.ref q412, .int (1 : Int32), .ref q342]
        refine g_aast (t := .int) (f' := va_up (va_up (fun _ => none) (ix (0 : Int32)) (some q276)) (ix (1 : Int32)) (some q412)) (ws' := zW (Zc V) s_412 ++ (fc ++ [(q0, .inr (9, [.int (tdCop q), .int (tdCel p), .int (tdFor p q), .int (tdSeed p), .int 0, .int 0, .int (tdPri p q), .int 0, .ref (u 8), .ref (u 9), .ref (u 10), .ref (u 11), .ref (u 12), .ref (u 13), .ref (u 14), .ref (u 15), .ref (u 16), .ref (u 17), .ref (u 18), .ref (u 19), .ref (u 20), .ref (u 21), .ref (u 22), .int 0])), ((u 8), .inl (V.2.2.1 1, 4, .inl (tdFs q nc))), ((u 9), .inl (V.2.2.1 7, 4, .inr (.inr (.inr (.inr (va_up (g) (ix (nI f)) (some q342))))))), ((u 10), .inl (V.2.2.1 6, 60, .inr (.inr (.inr (.inr (fun _ => none)))))), ((u 11), .inl (V.2.2.1 1, 60, .inl (fun _ => 0))), ((u 12), .inl (V.2.2.1 1, 5, .inl (fun _ => 0))), ((u 13), .inl (V.2.2.1 1, 5, .inl (fun _ => 0))), ((u 14), .inl (V.2.2.1 1, 5, .inl (fun _ => 0))), ((u 15), .inl (V.2.2.1 1, 5, .inl (fun _ => 0))), ((u 16), .inl (V.2.2.1 1, 4, .inl (fun _ => 0))), ((u 17), .inl (V.2.2.1 1, 4, .inl (fun _ => 0))), ((u 18), .inl (V.2.2.1 1, 4, .inl (fun _ => 0))), ((u 19), .inl (V.2.2.1 1, 0, .inl (fun _ => 0))), ((u 20), .inl (V.2.2.1 8, 5, .inr (.inr (.inr (.inr (fun j => some ((u 20) + 1 + j))))))), (((u 20) + 1 + 0), .inl (V.2.2.1 3, 60, .inl (fun _ => 0))), (((u 20) + 1 + 1), .inl (V.2.2.1 3, 60, .inl (fun _ => 0))), (((u 20) + 1 + 2), .inl (V.2.2.1 3, 60, .inl (fun _ => 0))), (((u 20) + 1 + 3), .inl (V.2.2.1 3, 60, .inl (fun _ => 0))), (((u 20) + 1 + 4), .inl (V.2.2.1 3, 60, .inl (fun _ => 0))), ((u 21), .inl (V.2.2.1 6, 4, .inr (.inr (.inr (.inr (fun j => some ((u 21) + 1 + j))))))), (((u 21) + 1 + 0), .inl (V.2.2.1 1, 5, .inl (fun _ => 0))), (((u 21) + 1 + 1), .inl (V.2.2.1 1, 5, .inl (fun _ => 0))), (((u 21) + 1 + 2), .inl (V.2.2.1 1, 5, .inl (fun _ => 0))), (((u 21) + 1 + 3), .inl (V.2.2.1 1, 5, .inl (fun _ => 0))), ((u 22), .inl (V.2.2.1 6, 4, .inr (.inr (.inr (.inr (fun j => some ((u 22) + 1 + j))))))), (((u 22) + 1 + 0), .inl (V.2.2.1 1, 5, .inl (fun _ => 0))), (((u 22) + 1 + 1), .inl (V.2.2.1 1, 5, .inl (fun _ => 0))), (((u 22) + 1 + 2), .inl (V.2.2.1 1, 5, .inl (fun _ => 0))), (((u 22) + 1 + 3), .inl (V.2.2.1 1, 5, .inl (fun _ => 0))), (q276, .inl (V.2.2.1 1, 3, .inl (hwF (f8 f) (tdCel p)))), (q342, .inl (V.2.2.1 6, 5, .inr (.inr (.inr (.inr (va_up (va_up (fun _ => none) (ix (0 : Int32)) (some q276)) (ix (1 : Int32)) (some q412))))))), (q412, .inl (V.2.2.1 1, 3, .inl (tm3 ((f8 f >>> ((2 : Int32) &&& 31)) &&& (7 : Int32)) (((f8 f >>> ((2 : Int32) &&& 31)) >>> ((3 : Int32) &&& 31)) &&& (3 : Int32)) ((((f8 f >>> ((2 : Int32) &&& 31)) >>> ((5 : Int32) &&& 31)) &&& (255 : Int32)) - (((f8 f >>> ((2 : Int32) &&& 31)) >>> ((5 : Int32) &&& 31)) &&& (255 : Int32)) / (tdCel p) * (tdCel p)))))])) C 415 (127 + (fc.length + 30)) 6 (127 + (fc.length + 31)) (zwa (fca rfl)) (show (T6 V.2.2.1)[6]? = some (V.2.2.1 6, .array .int) from rfl) (zwa (fca rfl)) (fun _ h => h.2.2.2.1) (fun _ h => (h.2 1 (V.2.2.1 1, .int) rfl).2) (fun _ h => h) (by decide) rfl (zws (fcs rfl)) dL_told_415 ?_
        refine g_aload_n C 416 4 dL_told_416 rfl ?_
        refine g_aload C 417 0 dL_told_417 rfl ?_
        refine g_iconst C 419 dL_told_419 ki_0 ?_
        refine g_iald C 420 (127 + (fc.length + 29)) (zwa (fca rfl)) (by decide) dL_told_420 ?_
        rw [show ((hwF (f8 f) (tdCel p)) (ix (0 : Int32))) = hwA (f8 f) from tm3_0]
        refine g_iconst C 421 dL_told_421 ki_1 ?_
        have k432 : Gn K V.1 (fun q => zS (Zc V) q ∨ (Ks K).heap.size ≤ q) (zW (Zc V) s_412 ++ (fc ++ [(q0, .inr (9, [.int (tdCop q), .int (tdCel p), .int (tdFor p q), .int (tdSeed p), .int 0, .int 0, .int (tdPri p q), .int 0, .ref (u 8), .ref (u 9), .ref (u 10), .ref (u 11), .ref (u 12), .ref (u 13), .ref (u 14), .ref (u 15), .ref (u 16), .ref (u 17), .ref (u 18), .ref (u 19), .ref (u 20), .ref (u 21), .ref (u 22), .int 0])), ((u 8), .inl (V.2.2.1 1, 4, .inl (tdFs q nc))), ((u 9), .inl (V.2.2.1 7, 4, .inr (.inr (.inr (.inr (va_up (g) (ix (nI f)) (some q342))))))), ((u 10), .inl (V.2.2.1 6, 60, .inr (.inr (.inr (.inr (fun _ => none)))))), ((u 11), .inl (V.2.2.1 1, 60, .inl (fun _ => 0))), ((u 12), .inl (V.2.2.1 1, 5, .inl (fun _ => 0))), ((u 13), .inl (V.2.2.1 1, 5, .inl (fun _ => 0))), ((u 14), .inl (V.2.2.1 1, 5, .inl (fun _ => 0))), ((u 15), .inl (V.2.2.1 1, 5, .inl (fun _ => 0))), ((u 16), .inl (V.2.2.1 1, 4, .inl (fun _ => 0))), ((u 17), .inl (V.2.2.1 1, 4, .inl (fun _ => 0))), ((u 18), .inl (V.2.2.1 1, 4, .inl (fun _ => 0))), ((u 19), .inl (V.2.2.1 1, 0, .inl (fun _ => 0))), ((u 20), .inl (V.2.2.1 8, 5, .inr (.inr (.inr (.inr (fun j => some ((u 20) + 1 + j))))))), (((u 20) + 1 + 0), .inl (V.2.2.1 3, 60, .inl (fun _ => 0))), (((u 20) + 1 + 1), .inl (V.2.2.1 3, 60, .inl (fun _ => 0))), (((u 20) + 1 + 2), .inl (V.2.2.1 3, 60, .inl (fun _ => 0))), (((u 20) + 1 + 3), .inl (V.2.2.1 3, 60, .inl (fun _ => 0))), (((u 20) + 1 + 4), .inl (V.2.2.1 3, 60, .inl (fun _ => 0))), ((u 21), .inl (V.2.2.1 6, 4, .inr (.inr (.inr (.inr (fun j => some ((u 21) + 1 + j))))))), (((u 21) + 1 + 0), .inl (V.2.2.1 1, 5, .inl (fun _ => 0))), (((u 21) + 1 + 1), .inl (V.2.2.1 1, 5, .inl (fun _ => 0))), (((u 21) + 1 + 2), .inl (V.2.2.1 1, 5, .inl (fun _ => 0))), (((u 21) + 1 + 3), .inl (V.2.2.1 1, 5, .inl (fun _ => 0))), ((u 22), .inl (V.2.2.1 6, 4, .inr (.inr (.inr (.inr (fun j => some ((u 22) + 1 + j))))))), (((u 22) + 1 + 0), .inl (V.2.2.1 1, 5, .inl (fun _ => 0))), (((u 22) + 1 + 1), .inl (V.2.2.1 1, 5, .inl (fun _ => 0))), (((u 22) + 1 + 2), .inl (V.2.2.1 1, 5, .inl (fun _ => 0))), (((u 22) + 1 + 3), .inl (V.2.2.1 1, 5, .inl (fun _ => 0))), (q276, .inl (V.2.2.1 1, 3, .inl (hwF (f8 f) (tdCel p)))), (q342, .inl (V.2.2.1 6, 5, .inr (.inr (.inr (.inr (va_up (va_up (fun _ => none) (ix (0 : Int32)) (some q276)) (ix (1 : Int32)) (some q412))))))), (q412, .inl (V.2.2.1 1, 3, .inl (tm3 ((f8 f >>> ((2 : Int32) &&& 31)) &&& (7 : Int32)) (((f8 f >>> ((2 : Int32) &&& 31)) >>> ((3 : Int32) &&& 31)) &&& (3 : Int32)) ((((f8 f >>> ((2 : Int32) &&& 31)) >>> ((5 : Int32) &&& 31)) &&& (255 : Int32)) - (((f8 f >>> ((2 : Int32) &&& 31)) >>> ((5 : Int32) &&& 31)) &&& (255 : Int32)) / (tdCel p) * (tdCel p)))))])) (ce + 1 + 1 + 1) (sl + 3 + 5 + 3) 432 [(7, .ref q276), (6, .int (f8 f)), (5, .int (nI f)), (4, .ref q0), (0, .ref (zA (Zc V) 0)), (1, .ref ra), (2, .int p), (3, .int q)] [.int (sgF1 (f8 f)), .ref (zA (Zc V) 0)] := by
          obtain ⟨s_432, h432, h⟩ := bnd1_inv h
          refine g_callL C hZ hzA hX 432 [.ref (zA (Zc V) 0), .int (sgF1 (f8 f))] [] rfl tw_1278 ms_L_sign (Nat.le_of_ble_eq_true rfl) (Nat.le_of_ble_eq_true rfl) (Nat.le_of_ble_eq_true rfl) (by omega) (by omega) dL_told_432 (c_L_sign V _ _ _ h432) ?_
          show Gn _ _ _ _ _ _ _ _ []
          refine g_aload C 435 3 dL_told_435 rfl ?_
          refine g_getN C 437 (127 + (fc.length + 0)) (zwa (fca rfl)) 9 (Nat.le_of_ble_eq_true rfl) rfl (List.mem_of_getElem? (i := 16) rfl) rfl dL_told_437 ?_
          refine g_iload C 440 2 dL_told_440 rfl ?_
          refine g_aald (b := q342) (ty := .array (.array .int)) C 442 (127 + (fc.length + 2)) 7 (zwa (fca rfl)) rfl rfl hf4 vup_s dL_told_442 ?_
          refine g_iconst C 443 dL_told_443 ki_2 ?_
          refine g_aload_n C 444 4 dL_told_444 rfl ?_
          refine g_iload C 445 1 dL_told_445 rfl ?_
          refine g_iconst C 447 dL_told_447 ki_3 ?_
          refine g_imul C 448 dL_told_448 ?_
          refine g_iload_n C 449 6 dL_told_449 rfl ?_
          refine g_iadd C 450 dL_told_450 ?_
          refine g_iconst C 451 dL_told_451 ki_3 ?_
          refine g_ishr C 452 dL_told_452 ?_
          refine g_aload C 453 3 dL_told_453 rfl ?_
          refine g_getN C 455 (127 + (fc.length + 0)) (zwa (fca rfl)) 1 (Nat.le_of_ble_eq_true rfl) rfl (List.mem_of_getElem? (i := 8) rfl) rfl dL_told_455 ?_
          obtain ⟨s_458, h458, h⟩ := bnd1_inv h
          refine g_callW C hcs hZ hzA hX 458 [.ref (zA (Zc V) 0), .int (((f8 f * (3 : Int32)) + p) >>> ((3 : Int32) &&& 31)), .int (tdCel p)] [.int (2 : Int32), .ref q342] rfl tw_1294 ms_L_term (Nat.le_of_ble_eq_true rfl) (Nat.le_of_ble_eq_true rfl) (Nat.le_of_ble_eq_true rfl) (by omega) (by omega) dL_told_458 (t_term (Kl K) V _ _ _ hnc h458) [] rfl (fun rv458 w458 nl458 hr458 => ?_)
          obtain ⟨hw458, q458, rfl, rfl⟩ := hr458
          rw [hw458]
          refine g_eq (ws2 := zW (Zc V) s_458 ++ (fc ++ [(q0, .inr (9, [.int (tdCop q), .int (tdCel p), .int (tdFor p q), .int (tdSeed p), .int 0, .int 0, .int (tdPri p q), .int 0, .ref (u 8), .ref (u 9), .ref (u 10), .ref (u 11), .ref (u 12), .ref (u 13), .ref (u 14), .ref (u 15), .ref (u 16), .ref (u 17), .ref (u 18), .ref (u 19), .ref (u 20), .ref (u 21), .ref (u 22), .int 0])), ((u 8), .inl (V.2.2.1 1, 4, .inl (tdFs q nc))), ((u 9), .inl (V.2.2.1 7, 4, .inr (.inr (.inr (.inr (va_up (g) (ix (nI f)) (some q342))))))), ((u 10), .inl (V.2.2.1 6, 60, .inr (.inr (.inr (.inr (fun _ => none)))))), ((u 11), .inl (V.2.2.1 1, 60, .inl (fun _ => 0))), ((u 12), .inl (V.2.2.1 1, 5, .inl (fun _ => 0))), ((u 13), .inl (V.2.2.1 1, 5, .inl (fun _ => 0))), ((u 14), .inl (V.2.2.1 1, 5, .inl (fun _ => 0))), ((u 15), .inl (V.2.2.1 1, 5, .inl (fun _ => 0))), ((u 16), .inl (V.2.2.1 1, 4, .inl (fun _ => 0))), ((u 17), .inl (V.2.2.1 1, 4, .inl (fun _ => 0))), ((u 18), .inl (V.2.2.1 1, 4, .inl (fun _ => 0))), ((u 19), .inl (V.2.2.1 1, 0, .inl (fun _ => 0))), ((u 20), .inl (V.2.2.1 8, 5, .inr (.inr (.inr (.inr (fun j => some ((u 20) + 1 + j))))))), (((u 20) + 1 + 0), .inl (V.2.2.1 3, 60, .inl (fun _ => 0))), (((u 20) + 1 + 1), .inl (V.2.2.1 3, 60, .inl (fun _ => 0))), (((u 20) + 1 + 2), .inl (V.2.2.1 3, 60, .inl (fun _ => 0))), (((u 20) + 1 + 3), .inl (V.2.2.1 3, 60, .inl (fun _ => 0))), (((u 20) + 1 + 4), .inl (V.2.2.1 3, 60, .inl (fun _ => 0))), ((u 21), .inl (V.2.2.1 6, 4, .inr (.inr (.inr (.inr (fun j => some ((u 21) + 1 + j))))))), (((u 21) + 1 + 0), .inl (V.2.2.1 1, 5, .inl (fun _ => 0))), (((u 21) + 1 + 1), .inl (V.2.2.1 1, 5, .inl (fun _ => 0))), (((u 21) + 1 + 2), .inl (V.2.2.1 1, 5, .inl (fun _ => 0))), (((u 21) + 1 + 3), .inl (V.2.2.1 1, 5, .inl (fun _ => 0))), ((u 22), .inl (V.2.2.1 6, 4, .inr (.inr (.inr (.inr (fun j => some ((u 22) + 1 + j))))))), (((u 22) + 1 + 0), .inl (V.2.2.1 1, 5, .inl (fun _ => 0))), (((u 22) + 1 + 1), .inl (V.2.2.1 1, 5, .inl (fun _ => 0))), (((u 22) + 1 + 2), .inl (V.2.2.1 1, 5, .inl (fun _ => 0))), (((u 22) + 1 + 3), .inl (V.2.2.1 1, 5, .inl (fun _ => 0))), (q276, .inl (V.2.2.1 1, 3, .inl (hwF (f8 f) (tdCel p)))), (q342, .inl (V.2.2.1 6, 5, .inr (.inr (.inr (.inr (va_up (va_up (fun _ => none) (ix (0 : Int32)) (some q276)) (ix (1 : Int32)) (some q412))))))), (q412, .inl (V.2.2.1 1, 3, .inl (tm3 ((f8 f >>> ((2 : Int32) &&& 31)) &&& (7 : Int32)) (((f8 f >>> ((2 : Int32) &&& 31)) >>> ((3 : Int32) &&& 31)) &&& (3 : Int32)) ((((f8 f >>> ((2 : Int32) &&& 31)) >>> ((5 : Int32) &&& 31)) &&& (255 : Int32)) - (((f8 f >>> ((2 : Int32) &&& 31)) >>> ((5 : Int32) &&& 31)) &&& (255 : Int32)) / (tdCel p) * (tdCel p))))), (q458, .inl (V.2.2.1 1, 3, .inl (tm3 ((((f8 f * (3 : Int32)) + p) >>> ((3 : Int32) &&& 31)) &&& (7 : Int32)) (((((f8 f * (3 : Int32)) + p) >>> ((3 : Int32) &&& 31)) >>> ((3 : Int32) &&& 31)) &&& (3 : Int32)) ((((((f8 f * (3 : Int32)) + p) >>> ((3 : Int32) &&& 31)) >>> ((5 : Int32) &&& 31)) &&& (255 : Int32)) - (((((f8 f * (3 : Int32)) + p) >>> ((3 : Int32) &&& 31)) >>> ((5 : Int32) &&& 31)) &&& (255 : Int32)) / (tdCel p) * (tdCel p)))))])) (zwq (fcp rfl)) ?_
          show Gn _ _ _ _ _ _ _ _ [.ref q458, .int (2 : Int32), .ref q342]
          refine g_aast (t := .int) (f' := va_up (va_up (va_up (fun _ => none) (ix (0 : Int32)) (some q276)) (ix (1 : Int32)) (some q412)) (ix (2 : Int32)) (some q458)) (ws' := zW (Zc V) s_458 ++ (fc ++ [(q0, .inr (9, [.int (tdCop q), .int (tdCel p), .int (tdFor p q), .int (tdSeed p), .int 0, .int 0, .int (tdPri p q), .int 0, .ref (u 8), .ref (u 9), .ref (u 10), .ref (u 11), .ref (u 12), .ref (u 13), .ref (u 14), .ref (u 15), .ref (u 16), .ref (u 17), .ref (u 18), .ref (u 19), .ref (u 20), .ref (u 21), .ref (u 22), .int 0])), ((u 8), .inl (V.2.2.1 1, 4, .inl (tdFs q nc))), ((u 9), .inl (V.2.2.1 7, 4, .inr (.inr (.inr (.inr (va_up (g) (ix (nI f)) (some q342))))))), ((u 10), .inl (V.2.2.1 6, 60, .inr (.inr (.inr (.inr (fun _ => none)))))), ((u 11), .inl (V.2.2.1 1, 60, .inl (fun _ => 0))), ((u 12), .inl (V.2.2.1 1, 5, .inl (fun _ => 0))), ((u 13), .inl (V.2.2.1 1, 5, .inl (fun _ => 0))), ((u 14), .inl (V.2.2.1 1, 5, .inl (fun _ => 0))), ((u 15), .inl (V.2.2.1 1, 5, .inl (fun _ => 0))), ((u 16), .inl (V.2.2.1 1, 4, .inl (fun _ => 0))), ((u 17), .inl (V.2.2.1 1, 4, .inl (fun _ => 0))), ((u 18), .inl (V.2.2.1 1, 4, .inl (fun _ => 0))), ((u 19), .inl (V.2.2.1 1, 0, .inl (fun _ => 0))), ((u 20), .inl (V.2.2.1 8, 5, .inr (.inr (.inr (.inr (fun j => some ((u 20) + 1 + j))))))), (((u 20) + 1 + 0), .inl (V.2.2.1 3, 60, .inl (fun _ => 0))), (((u 20) + 1 + 1), .inl (V.2.2.1 3, 60, .inl (fun _ => 0))), (((u 20) + 1 + 2), .inl (V.2.2.1 3, 60, .inl (fun _ => 0))), (((u 20) + 1 + 3), .inl (V.2.2.1 3, 60, .inl (fun _ => 0))), (((u 20) + 1 + 4), .inl (V.2.2.1 3, 60, .inl (fun _ => 0))), ((u 21), .inl (V.2.2.1 6, 4, .inr (.inr (.inr (.inr (fun j => some ((u 21) + 1 + j))))))), (((u 21) + 1 + 0), .inl (V.2.2.1 1, 5, .inl (fun _ => 0))), (((u 21) + 1 + 1), .inl (V.2.2.1 1, 5, .inl (fun _ => 0))), (((u 21) + 1 + 2), .inl (V.2.2.1 1, 5, .inl (fun _ => 0))), (((u 21) + 1 + 3), .inl (V.2.2.1 1, 5, .inl (fun _ => 0))), ((u 22), .inl (V.2.2.1 6, 4, .inr (.inr (.inr (.inr (fun j => some ((u 22) + 1 + j))))))), (((u 22) + 1 + 0), .inl (V.2.2.1 1, 5, .inl (fun _ => 0))), (((u 22) + 1 + 1), .inl (V.2.2.1 1, 5, .inl (fun _ => 0))), (((u 22) + 1 + 2), .inl (V.2.2.1 1, 5, .inl (fun _ => 0))), (((u 22) + 1 + 3), .inl (V.2.2.1 1, 5, .inl (fun _ => 0))), (q276, .inl (V.2.2.1 1, 3, .inl (hwF (f8 f) (tdCel p)))), (q342, .inl (V.2.2.1 6, 5, .inr (.inr (.inr (.inr (va_up (va_up (va_up (fun _ => none) (ix (0 : Int32)) (some q276)) (ix (1 : Int32)) (some q412)) (ix (2 : Int32)) (some q458))))))), (q412, .inl (V.2.2.1 1, 3, .inl (tm3 ((f8 f >>> ((2 : Int32) &&& 31)) &&& (7 : Int32)) (((f8 f >>> ((2 : Int32) &&& 31)) >>> ((3 : Int32) &&& 31)) &&& (3 : Int32)) ((((f8 f >>> ((2 : Int32) &&& 31)) >>> ((5 : Int32) &&& 31)) &&& (255 : Int32)) - (((f8 f >>> ((2 : Int32) &&& 31)) >>> ((5 : Int32) &&& 31)) &&& (255 : Int32)) / (tdCel p) * (tdCel p))))), (q458, .inl (V.2.2.1 1, 3, .inl (tm3 ((((f8 f * (3 : Int32)) + p) >>> ((3 : Int32) &&& 31)) &&& (7 : Int32)) (((((f8 f * (3 : Int32)) + p) >>> ((3 : Int32) &&& 31)) >>> ((3 : Int32) &&& 31)) &&& (3 : Int32)) ((((((f8 f * (3 : Int32)) + p) >>> ((3 : Int32) &&& 31)) >>> ((5 : Int32) &&& 31)) &&& (255 : Int32)) - (((((f8 f * (3 : Int32)) + p) >>> ((3 : Int32) &&& 31)) >>> ((5 : Int32) &&& 31)) &&& (255 : Int32)) / (tdCel p) * (tdCel p)))))])) C 461 (127 + (fc.length + 30)) 6 (127 + (fc.length + 32)) (zwa (fca rfl)) (show (T6 V.2.2.1)[6]? = some (V.2.2.1 6, .array .int) from rfl) (zwa (fca rfl)) (fun _ h => h.2.2.2.1) (fun _ h => (h.2 1 (V.2.2.1 1, .int) rfl).2) (fun _ h => h) (by decide) rfl (zws (fcs rfl)) dL_told_461 ?_
          refine g_aload_n C 462 4 dL_told_462 rfl ?_
          refine g_iconst C 463 dL_told_463 ki_5 ?_
          refine g_ldc C 464 (hw := tw_1309) dL_told_464 ?_
          refine g_ldc C 466 (hw := tw_1310) dL_told_466 ?_
          refine g_iconst C 468 dL_told_468 ki_0 ?_
          refine g_iconst C 469 dL_told_469 ki_0 ?_
          refine g_iconst C 470 dL_told_470 ki_0 ?_
          obtain ⟨s_471, h471, h⟩ := bnd1_inv h
          refine g_callL C hZ hzA hX 471 [.ref (zA (Zc V) 0), .int (5 : Int32), .int (544433524 : Int32), .int (1929379840 : Int32), .int (0 : Int32), .int (0 : Int32), .int (0 : Int32)] [] rfl tw_1260 ms_L_put (Nat.le_of_ble_eq_true rfl) (Nat.le_of_ble_eq_true rfl) (Nat.le_of_ble_eq_true rfl) (by omega) (by omega) dL_told_471 (c_L_put V _ _ _ _ _ _ _ _ h471) ?_
          show Gn _ _ _ _ _ _ _ _ []
          refine g_aload_n C 474 4 dL_told_474 rfl ?_
          refine g_aload C 475 0 dL_told_475 rfl ?_
          refine g_iconst C 477 dL_told_477 ki_1 ?_
          refine g_iald C 478 (127 + (fc.length + 29)) (zwa (fca rfl)) (by decide) dL_told_478 ?_
          rw [show ((hwF (f8 f) (tdCel p)) (ix (1 : Int32))) = hwB (f8 f) (tdCel p) from tm3_1]
          obtain ⟨s_479, h479, h⟩ := bnd1_inv h
          refine g_callL C hZ hzA hX 479 [.ref (zA (Zc V) 0), .int (hwB (f8 f) (tdCel p))] [] rfl tw_1286 ms_L_cell (Nat.le_of_ble_eq_true rfl) (Nat.le_of_ble_eq_true rfl) (Nat.le_of_ble_eq_true rfl) (by omega) (by omega) dL_told_479 (c_L_cell V _ _ _ h479) ?_
          show Gn _ _ _ _ _ _ _ _ []
          refine g_aload C 482 3 dL_told_482 rfl ?_
          refine g_getN C 484 (127 + (fc.length + 0)) (zwa (fca rfl)) 9 (Nat.le_of_ble_eq_true rfl) rfl (List.mem_of_getElem? (i := 16) rfl) rfl dL_told_484 ?_
          refine g_iload C 487 2 dL_told_487 rfl ?_
          refine g_aald (b := q342) (ty := .array (.array .int)) C 489 (127 + (fc.length + 2)) 7 (zwa (fca rfl)) rfl rfl hf4 vup_s dL_told_489 ?_
          refine g_iconst C 490 dL_told_490 ki_3 ?_
          refine g_aload_n C 491 4 dL_told_491 rfl ?_
          refine g_iload C 492 1 dL_told_492 rfl ?_
          refine g_iconst C 494 dL_told_494 ki_5 ?_
          refine g_imul C 495 dL_told_495 ?_
          refine g_iload_n C 496 7 dL_told_496 rfl ?_
          refine g_iadd C 497 dL_told_497 ?_
          refine g_iconst C 498 dL_told_498 ki_2 ?_
          refine g_ishr C 499 dL_told_499 ?_
          refine g_aload C 500 3 dL_told_500 rfl ?_
          refine g_getN C 502 (127 + (fc.length + 0)) (zwa (fca rfl)) 1 (Nat.le_of_ble_eq_true rfl) rfl (List.mem_of_getElem? (i := 8) rfl) rfl dL_told_502 ?_
          obtain ⟨s_505, h505, h⟩ := bnd1_inv h
          refine g_callW C hcs hZ hzA hX 505 [.ref (zA (Zc V) 0), .int (((f8 f * (5 : Int32)) + q) >>> ((2 : Int32) &&& 31)), .int (tdCel p)] [.int (3 : Int32), .ref q342] rfl tw_1294 ms_L_term (Nat.le_of_ble_eq_true rfl) (Nat.le_of_ble_eq_true rfl) (Nat.le_of_ble_eq_true rfl) (by omega) (by omega) dL_told_505 (t_term (Kl K) V _ _ _ hnc h505) [] rfl (fun rv505 w505 nl505 hr505 => ?_)
          obtain ⟨hw505, q505, rfl, rfl⟩ := hr505
          rw [hw505]
          refine g_eq (ws2 := zW (Zc V) s_505 ++ (fc ++ [(q0, .inr (9, [.int (tdCop q), .int (tdCel p), .int (tdFor p q), .int (tdSeed p), .int 0, .int 0, .int (tdPri p q), .int 0, .ref (u 8), .ref (u 9), .ref (u 10), .ref (u 11), .ref (u 12), .ref (u 13), .ref (u 14), .ref (u 15), .ref (u 16), .ref (u 17), .ref (u 18), .ref (u 19), .ref (u 20), .ref (u 21), .ref (u 22), .int 0])), ((u 8), .inl (V.2.2.1 1, 4, .inl (tdFs q nc))), ((u 9), .inl (V.2.2.1 7, 4, .inr (.inr (.inr (.inr (va_up (g) (ix (nI f)) (some q342))))))), ((u 10), .inl (V.2.2.1 6, 60, .inr (.inr (.inr (.inr (fun _ => none)))))), ((u 11), .inl (V.2.2.1 1, 60, .inl (fun _ => 0))), ((u 12), .inl (V.2.2.1 1, 5, .inl (fun _ => 0))), ((u 13), .inl (V.2.2.1 1, 5, .inl (fun _ => 0))), ((u 14), .inl (V.2.2.1 1, 5, .inl (fun _ => 0))), ((u 15), .inl (V.2.2.1 1, 5, .inl (fun _ => 0))), ((u 16), .inl (V.2.2.1 1, 4, .inl (fun _ => 0))), ((u 17), .inl (V.2.2.1 1, 4, .inl (fun _ => 0))), ((u 18), .inl (V.2.2.1 1, 4, .inl (fun _ => 0))), ((u 19), .inl (V.2.2.1 1, 0, .inl (fun _ => 0))), ((u 20), .inl (V.2.2.1 8, 5, .inr (.inr (.inr (.inr (fun j => some ((u 20) + 1 + j))))))), (((u 20) + 1 + 0), .inl (V.2.2.1 3, 60, .inl (fun _ => 0))), (((u 20) + 1 + 1), .inl (V.2.2.1 3, 60, .inl (fun _ => 0))), (((u 20) + 1 + 2), .inl (V.2.2.1 3, 60, .inl (fun _ => 0))), (((u 20) + 1 + 3), .inl (V.2.2.1 3, 60, .inl (fun _ => 0))), (((u 20) + 1 + 4), .inl (V.2.2.1 3, 60, .inl (fun _ => 0))), ((u 21), .inl (V.2.2.1 6, 4, .inr (.inr (.inr (.inr (fun j => some ((u 21) + 1 + j))))))), (((u 21) + 1 + 0), .inl (V.2.2.1 1, 5, .inl (fun _ => 0))), (((u 21) + 1 + 1), .inl (V.2.2.1 1, 5, .inl (fun _ => 0))), (((u 21) + 1 + 2), .inl (V.2.2.1 1, 5, .inl (fun _ => 0))), (((u 21) + 1 + 3), .inl (V.2.2.1 1, 5, .inl (fun _ => 0))), ((u 22), .inl (V.2.2.1 6, 4, .inr (.inr (.inr (.inr (fun j => some ((u 22) + 1 + j))))))), (((u 22) + 1 + 0), .inl (V.2.2.1 1, 5, .inl (fun _ => 0))), (((u 22) + 1 + 1), .inl (V.2.2.1 1, 5, .inl (fun _ => 0))), (((u 22) + 1 + 2), .inl (V.2.2.1 1, 5, .inl (fun _ => 0))), (((u 22) + 1 + 3), .inl (V.2.2.1 1, 5, .inl (fun _ => 0))), (q276, .inl (V.2.2.1 1, 3, .inl (hwF (f8 f) (tdCel p)))), (q342, .inl (V.2.2.1 6, 5, .inr (.inr (.inr (.inr (va_up (va_up (va_up (fun _ => none) (ix (0 : Int32)) (some q276)) (ix (1 : Int32)) (some q412)) (ix (2 : Int32)) (some q458))))))), (q412, .inl (V.2.2.1 1, 3, .inl (tm3 ((f8 f >>> ((2 : Int32) &&& 31)) &&& (7 : Int32)) (((f8 f >>> ((2 : Int32) &&& 31)) >>> ((3 : Int32) &&& 31)) &&& (3 : Int32)) ((((f8 f >>> ((2 : Int32) &&& 31)) >>> ((5 : Int32) &&& 31)) &&& (255 : Int32)) - (((f8 f >>> ((2 : Int32) &&& 31)) >>> ((5 : Int32) &&& 31)) &&& (255 : Int32)) / (tdCel p) * (tdCel p))))), (q458, .inl (V.2.2.1 1, 3, .inl (tm3 ((((f8 f * (3 : Int32)) + p) >>> ((3 : Int32) &&& 31)) &&& (7 : Int32)) (((((f8 f * (3 : Int32)) + p) >>> ((3 : Int32) &&& 31)) >>> ((3 : Int32) &&& 31)) &&& (3 : Int32)) ((((((f8 f * (3 : Int32)) + p) >>> ((3 : Int32) &&& 31)) >>> ((5 : Int32) &&& 31)) &&& (255 : Int32)) - (((((f8 f * (3 : Int32)) + p) >>> ((3 : Int32) &&& 31)) >>> ((5 : Int32) &&& 31)) &&& (255 : Int32)) / (tdCel p) * (tdCel p))))), (q505, .inl (V.2.2.1 1, 3, .inl (tm3 ((((f8 f * (5 : Int32)) + q) >>> ((2 : Int32) &&& 31)) &&& (7 : Int32)) (((((f8 f * (5 : Int32)) + q) >>> ((2 : Int32) &&& 31)) >>> ((3 : Int32) &&& 31)) &&& (3 : Int32)) ((((((f8 f * (5 : Int32)) + q) >>> ((2 : Int32) &&& 31)) >>> ((5 : Int32) &&& 31)) &&& (255 : Int32)) - (((((f8 f * (5 : Int32)) + q) >>> ((2 : Int32) &&& 31)) >>> ((5 : Int32) &&& 31)) &&& (255 : Int32)) / (tdCel p) * (tdCel p)))))])) (zwq (fcp rfl)) ?_
          show Gn _ _ _ _ _ _ _ _ [.ref q505, .int (3 : Int32), .ref q342]
          refine g_aast (t := .int) (f' := va_up (va_up (va_up (va_up (fun _ => none) (ix (0 : Int32)) (some q276)) (ix (1 : Int32)) (some q412)) (ix (2 : Int32)) (some q458)) (ix (3 : Int32)) (some q505)) (ws' := zW (Zc V) s_505 ++ (fc ++ [(q0, .inr (9, [.int (tdCop q), .int (tdCel p), .int (tdFor p q), .int (tdSeed p), .int 0, .int 0, .int (tdPri p q), .int 0, .ref (u 8), .ref (u 9), .ref (u 10), .ref (u 11), .ref (u 12), .ref (u 13), .ref (u 14), .ref (u 15), .ref (u 16), .ref (u 17), .ref (u 18), .ref (u 19), .ref (u 20), .ref (u 21), .ref (u 22), .int 0])), ((u 8), .inl (V.2.2.1 1, 4, .inl (tdFs q nc))), ((u 9), .inl (V.2.2.1 7, 4, .inr (.inr (.inr (.inr (va_up (g) (ix (nI f)) (some q342))))))), ((u 10), .inl (V.2.2.1 6, 60, .inr (.inr (.inr (.inr (fun _ => none)))))), ((u 11), .inl (V.2.2.1 1, 60, .inl (fun _ => 0))), ((u 12), .inl (V.2.2.1 1, 5, .inl (fun _ => 0))), ((u 13), .inl (V.2.2.1 1, 5, .inl (fun _ => 0))), ((u 14), .inl (V.2.2.1 1, 5, .inl (fun _ => 0))), ((u 15), .inl (V.2.2.1 1, 5, .inl (fun _ => 0))), ((u 16), .inl (V.2.2.1 1, 4, .inl (fun _ => 0))), ((u 17), .inl (V.2.2.1 1, 4, .inl (fun _ => 0))), ((u 18), .inl (V.2.2.1 1, 4, .inl (fun _ => 0))), ((u 19), .inl (V.2.2.1 1, 0, .inl (fun _ => 0))), ((u 20), .inl (V.2.2.1 8, 5, .inr (.inr (.inr (.inr (fun j => some ((u 20) + 1 + j))))))), (((u 20) + 1 + 0), .inl (V.2.2.1 3, 60, .inl (fun _ => 0))), (((u 20) + 1 + 1), .inl (V.2.2.1 3, 60, .inl (fun _ => 0))), (((u 20) + 1 + 2), .inl (V.2.2.1 3, 60, .inl (fun _ => 0))), (((u 20) + 1 + 3), .inl (V.2.2.1 3, 60, .inl (fun _ => 0))), (((u 20) + 1 + 4), .inl (V.2.2.1 3, 60, .inl (fun _ => 0))), ((u 21), .inl (V.2.2.1 6, 4, .inr (.inr (.inr (.inr (fun j => some ((u 21) + 1 + j))))))), (((u 21) + 1 + 0), .inl (V.2.2.1 1, 5, .inl (fun _ => 0))), (((u 21) + 1 + 1), .inl (V.2.2.1 1, 5, .inl (fun _ => 0))), (((u 21) + 1 + 2), .inl (V.2.2.1 1, 5, .inl (fun _ => 0))), (((u 21) + 1 + 3), .inl (V.2.2.1 1, 5, .inl (fun _ => 0))), ((u 22), .inl (V.2.2.1 6, 4, .inr (.inr (.inr (.inr (fun j => some ((u 22) + 1 + j))))))), (((u 22) + 1 + 0), .inl (V.2.2.1 1, 5, .inl (fun _ => 0))), (((u 22) + 1 + 1), .inl (V.2.2.1 1, 5, .inl (fun _ => 0))), (((u 22) + 1 + 2), .inl (V.2.2.1 1, 5, .inl (fun _ => 0))), (((u 22) + 1 + 3), .inl (V.2.2.1 1, 5, .inl (fun _ => 0))), (q276, .inl (V.2.2.1 1, 3, .inl (hwF (f8 f) (tdCel p)))), (q342, .inl (V.2.2.1 6, 5, .inr (.inr (.inr (.inr (va_up (va_up (va_up (va_up (fun _ => none) (ix (0 : Int32)) (some q276)) (ix (1 : Int32)) (some q412)) (ix (2 : Int32)) (some q458)) (ix (3 : Int32)) (some q505))))))), (q412, .inl (V.2.2.1 1, 3, .inl (tm3 ((f8 f >>> ((2 : Int32) &&& 31)) &&& (7 : Int32)) (((f8 f >>> ((2 : Int32) &&& 31)) >>> ((3 : Int32) &&& 31)) &&& (3 : Int32)) ((((f8 f >>> ((2 : Int32) &&& 31)) >>> ((5 : Int32) &&& 31)) &&& (255 : Int32)) - (((f8 f >>> ((2 : Int32) &&& 31)) >>> ((5 : Int32) &&& 31)) &&& (255 : Int32)) / (tdCel p) * (tdCel p))))), (q458, .inl (V.2.2.1 1, 3, .inl (tm3 ((((f8 f * (3 : Int32)) + p) >>> ((3 : Int32) &&& 31)) &&& (7 : Int32)) (((((f8 f * (3 : Int32)) + p) >>> ((3 : Int32) &&& 31)) >>> ((3 : Int32) &&& 31)) &&& (3 : Int32)) ((((((f8 f * (3 : Int32)) + p) >>> ((3 : Int32) &&& 31)) >>> ((5 : Int32) &&& 31)) &&& (255 : Int32)) - (((((f8 f * (3 : Int32)) + p) >>> ((3 : Int32) &&& 31)) >>> ((5 : Int32) &&& 31)) &&& (255 : Int32)) / (tdCel p) * (tdCel p))))), (q505, .inl (V.2.2.1 1, 3, .inl (tm3 ((((f8 f * (5 : Int32)) + q) >>> ((2 : Int32) &&& 31)) &&& (7 : Int32)) (((((f8 f * (5 : Int32)) + q) >>> ((2 : Int32) &&& 31)) >>> ((3 : Int32) &&& 31)) &&& (3 : Int32)) ((((((f8 f * (5 : Int32)) + q) >>> ((2 : Int32) &&& 31)) >>> ((5 : Int32) &&& 31)) &&& (255 : Int32)) - (((((f8 f * (5 : Int32)) + q) >>> ((2 : Int32) &&& 31)) >>> ((5 : Int32) &&& 31)) &&& (255 : Int32)) / (tdCel p) * (tdCel p)))))])) C 508 (127 + (fc.length + 30)) 6 (127 + (fc.length + 33)) (zwa (fca rfl)) (show (T6 V.2.2.1)[6]? = some (V.2.2.1 6, .array .int) from rfl) (zwa (fca rfl)) (fun _ h => h.2.2.2.1) (fun _ h => (h.2 1 (V.2.2.1 1, .int) rfl).2) (fun _ h => h) (by decide) rfl (zws (fcs rfl)) dL_told_508 ?_
          refine g_aload C 509 0 dL_told_509 rfl ?_
          refine g_iconst C 511 dL_told_511 ki_2 ?_
          refine g_iald C 512 (127 + (fc.length + 29)) (zwa (fca rfl)) (by decide) dL_told_512 ?_
          rw [show ((hwF (f8 f) (tdCel p)) (ix (2 : Int32))) = hwC (f8 f) (tdCel p) from tm3_2]
          refine g_if_lt C 513 564 dL_told_513 (by decide) (fun c3 => ?_) (fun c3 => ?_)
          · rw [if_pos c3] at h
            refine g_aload_n C 564 4 dL_told_564 rfl ?_
            refine g_bipush C 565 dL_told_565 kb_59 ?_
            obtain ⟨s_567, h567, h⟩ := bnd1_inv h
            refine g_callL C hZ hzA hX 567 [.ref (zA (Zc V) 0), .int (59 : Int32)] [] rfl tw_1278 ms_L_sign (Nat.le_of_ble_eq_true rfl) (Nat.le_of_ble_eq_true rfl) (Nat.le_of_ble_eq_true rfl) (by omega) (by omega) dL_told_567 (c_L_sign V _ _ _ h567) ?_
            show Gn _ _ _ _ _ _ _ _ []
            refine g_iinc (v := nI (f + 1)) (L' := [(5, .int (nI (f + 1))), (7, .ref q276), (6, .int (f8 f)), (4, .ref q0), (0, .ref (zA (Zc V) 0)), (1, .ref ra), (2, .int p), (3, .int q)]) C 570 2 dL_told_570 rfl (nI_1 _) (hN _ (Nat.le_of_ble_eq_true rfl)) rfl ?_
            refine g_goto C 573 239 dL_told_573 (by decide) ?_
            refine g_eq (ws2 := (zW (Zc V) s_567 ++ (fc ++ ([(q0, .inr (9, [.int (tdCop q), .int (tdCel p), .int (tdFor p q), .int (tdSeed p), .int 0, .int 0, .int (tdPri p q), .int 0, .ref (u 8), .ref (u 9), .ref (u 10), .ref (u 11), .ref (u 12), .ref (u 13), .ref (u 14), .ref (u 15), .ref (u 16), .ref (u 17), .ref (u 18), .ref (u 19), .ref (u 20), .ref (u 21), .ref (u 22), .int 0])), ((u 8), .inl (V.2.2.1 1, 4, .inl (tdFs q nc))), ((u 9), .inl (V.2.2.1 7, 4, .inr (.inr (.inr (.inr (va_up (g) (ix (nI f)) (some q342))))))), ((u 10), .inl (V.2.2.1 6, 60, .inr (.inr (.inr (.inr (fun _ => none)))))), ((u 11), .inl (V.2.2.1 1, 60, .inl (fun _ => 0))), ((u 12), .inl (V.2.2.1 1, 5, .inl (fun _ => 0))), ((u 13), .inl (V.2.2.1 1, 5, .inl (fun _ => 0))), ((u 14), .inl (V.2.2.1 1, 5, .inl (fun _ => 0))), ((u 15), .inl (V.2.2.1 1, 5, .inl (fun _ => 0))), ((u 16), .inl (V.2.2.1 1, 4, .inl (fun _ => 0))), ((u 17), .inl (V.2.2.1 1, 4, .inl (fun _ => 0))), ((u 18), .inl (V.2.2.1 1, 4, .inl (fun _ => 0))), ((u 19), .inl (V.2.2.1 1, 0, .inl (fun _ => 0))), ((u 20), .inl (V.2.2.1 8, 5, .inr (.inr (.inr (.inr (fun j => some ((u 20) + 1 + j))))))), (((u 20) + 1 + 0), .inl (V.2.2.1 3, 60, .inl (fun _ => 0))), (((u 20) + 1 + 1), .inl (V.2.2.1 3, 60, .inl (fun _ => 0))), (((u 20) + 1 + 2), .inl (V.2.2.1 3, 60, .inl (fun _ => 0))), (((u 20) + 1 + 3), .inl (V.2.2.1 3, 60, .inl (fun _ => 0))), (((u 20) + 1 + 4), .inl (V.2.2.1 3, 60, .inl (fun _ => 0))), ((u 21), .inl (V.2.2.1 6, 4, .inr (.inr (.inr (.inr (fun j => some ((u 21) + 1 + j))))))), (((u 21) + 1 + 0), .inl (V.2.2.1 1, 5, .inl (fun _ => 0))), (((u 21) + 1 + 1), .inl (V.2.2.1 1, 5, .inl (fun _ => 0))), (((u 21) + 1 + 2), .inl (V.2.2.1 1, 5, .inl (fun _ => 0))), (((u 21) + 1 + 3), .inl (V.2.2.1 1, 5, .inl (fun _ => 0))), ((u 22), .inl (V.2.2.1 6, 4, .inr (.inr (.inr (.inr (fun j => some ((u 22) + 1 + j))))))), (((u 22) + 1 + 0), .inl (V.2.2.1 1, 5, .inl (fun _ => 0))), (((u 22) + 1 + 1), .inl (V.2.2.1 1, 5, .inl (fun _ => 0))), (((u 22) + 1 + 2), .inl (V.2.2.1 1, 5, .inl (fun _ => 0))), (((u 22) + 1 + 3), .inl (V.2.2.1 1, 5, .inl (fun _ => 0)))] ++ [(q276, .inl (V.2.2.1 1, 3, .inl (hwF (f8 f) (tdCel p)))), (q342, .inl (V.2.2.1 6, 5, .inr (.inr (.inr (.inr (va_up (va_up (va_up (va_up (fun _ => none) (ix (0 : Int32)) (some q276)) (ix (1 : Int32)) (some q412)) (ix (2 : Int32)) (some q458)) (ix (3 : Int32)) (some q505)))))))]))) ++ [(q412, .inl (V.2.2.1 1, 3, .inl (tm3 ((f8 f >>> ((2 : Int32) &&& 31)) &&& (7 : Int32)) (((f8 f >>> ((2 : Int32) &&& 31)) >>> ((3 : Int32) &&& 31)) &&& (3 : Int32)) ((((f8 f >>> ((2 : Int32) &&& 31)) >>> ((5 : Int32) &&& 31)) &&& (255 : Int32)) - (((f8 f >>> ((2 : Int32) &&& 31)) >>> ((5 : Int32) &&& 31)) &&& (255 : Int32)) / (tdCel p) * (tdCel p))))), (q458, .inl (V.2.2.1 1, 3, .inl (tm3 ((((f8 f * (3 : Int32)) + p) >>> ((3 : Int32) &&& 31)) &&& (7 : Int32)) (((((f8 f * (3 : Int32)) + p) >>> ((3 : Int32) &&& 31)) >>> ((3 : Int32) &&& 31)) &&& (3 : Int32)) ((((((f8 f * (3 : Int32)) + p) >>> ((3 : Int32) &&& 31)) >>> ((5 : Int32) &&& 31)) &&& (255 : Int32)) - (((((f8 f * (3 : Int32)) + p) >>> ((3 : Int32) &&& 31)) >>> ((5 : Int32) &&& 31)) &&& (255 : Int32)) / (tdCel p) * (tdCel p))))), (q505, .inl (V.2.2.1 1, 3, .inl (tm3 ((((f8 f * (5 : Int32)) + q) >>> ((2 : Int32) &&& 31)) &&& (7 : Int32)) (((((f8 f * (5 : Int32)) + q) >>> ((2 : Int32) &&& 31)) >>> ((3 : Int32) &&& 31)) &&& (3 : Int32)) ((((((f8 f * (5 : Int32)) + q) >>> ((2 : Int32) &&& 31)) >>> ((5 : Int32) &&& 31)) &&& (255 : Int32)) - (((((f8 f * (5 : Int32)) + q) >>> ((2 : Int32) &&& 31)) >>> ((5 : Int32) &&& 31)) &&& (255 : Int32)) / (tdCel p) * (tdCel p)))))]) (by simp only [List.append_assoc, List.cons_append, List.nil_append]) ?_
            refine g_drop ?_
            refine n_perm perm_fc ?_
            refine g_more (ce2 := ce + 6) (sl2 := sl + 20) (by omega) (by omega) ?_
            refine g_sub [0, 3, 4, 5, 6, 7] rfl ?_
            exact ih (f + 1) s_567 _ _ _ _ (by omega) (by omega) (by omega) ⟨fc, _, _, _, rfl, by rw [ix_nI (by omega)]; exact vup_s, rfl, FcOk.cong f fc (fun i hi => vup_o (by rw [ix_nI (by omega)]; omega)) hfc⟩ (fun i hi => (vup_o (by rw [ix_nI (by omega)]; omega)).trans (hgn i (by omega))) h
          · rw [if_neg c3] at h
            refine g_aload_n C 516 4 dL_told_516 rfl ?_
            refine g_iconst C 517 dL_told_517 ki_5 ?_
            refine g_ldc C 518 (hw := tw_1311) dL_told_518 ?_
            refine g_ldc C 520 (hw := tw_1312) dL_told_520 ?_
            refine g_iconst C 522 dL_told_522 ki_0 ?_
            refine g_iconst C 523 dL_told_523 ki_0 ?_
            refine g_iconst C 524 dL_told_524 ki_0 ?_
            obtain ⟨s_525, h525, h⟩ := bnd1_inv h
            refine g_callL C hZ hzA hX 525 [.ref (zA (Zc V) 0), .int (5 : Int32), .int (543517811 : Int32), .int (1694498816 : Int32), .int (0 : Int32), .int (0 : Int32), .int (0 : Int32)] [] rfl tw_1260 ms_L_put (Nat.le_of_ble_eq_true rfl) (Nat.le_of_ble_eq_true rfl) (Nat.le_of_ble_eq_true rfl) (by omega) (by omega) dL_told_525 (c_L_put V _ _ _ _ _ _ _ _ h525) ?_
            show Gn _ _ _ _ _ _ _ _ []
            refine g_aload_n C 528 4 dL_told_528 rfl ?_
            refine g_aload C 529 0 dL_told_529 rfl ?_
            refine g_iconst C 531 dL_told_531 ki_2 ?_
            refine g_iald C 532 (127 + (fc.length + 29)) (zwa (fca rfl)) (by decide) dL_told_532 ?_
            rw [show ((hwF (f8 f) (tdCel p)) (ix (2 : Int32))) = hwC (f8 f) (tdCel p) from tm3_2]
            obtain ⟨s_533, h533, h⟩ := bnd1_inv h
            refine g_callL C hZ hzA hX 533 [.ref (zA (Zc V) 0), .int (hwC (f8 f) (tdCel p))] [] rfl tw_1286 ms_L_cell (Nat.le_of_ble_eq_true rfl) (Nat.le_of_ble_eq_true rfl) (Nat.le_of_ble_eq_true rfl) (by omega) (by omega) dL_told_533 (c_L_cell V _ _ _ h533) ?_
            show Gn _ _ _ _ _ _ _ _ []
            refine g_aload C 536 3 dL_told_536 rfl ?_
            refine g_getN C 538 (127 + (fc.length + 0)) (zwa (fca rfl)) 9 (Nat.le_of_ble_eq_true rfl) rfl (List.mem_of_getElem? (i := 16) rfl) rfl dL_told_538 ?_
            refine g_iload C 541 2 dL_told_541 rfl ?_
            refine g_aald (b := q342) (ty := .array (.array .int)) C 543 (127 + (fc.length + 2)) 7 (zwa (fca rfl)) rfl rfl hf4 vup_s dL_told_543 ?_
            refine g_iconst C 544 dL_told_544 ki_4 ?_
            refine g_aload_n C 545 4 dL_told_545 rfl ?_
            refine g_iload C 546 1 dL_told_546 rfl ?_
            refine g_bipush C 548 dL_told_548 kb_7 ?_
            refine g_imul C 550 dL_told_550 ?_
            refine g_iload_n C 551 6 dL_told_551 rfl ?_
            refine g_iadd C 552 dL_told_552 ?_
            refine g_iconst C 553 dL_told_553 ki_2 ?_
            refine g_ishr C 554 dL_told_554 ?_
            refine g_aload C 555 3 dL_told_555 rfl ?_
            refine g_getN C 557 (127 + (fc.length + 0)) (zwa (fca rfl)) 1 (Nat.le_of_ble_eq_true rfl) rfl (List.mem_of_getElem? (i := 8) rfl) rfl dL_told_557 ?_
            obtain ⟨s_560, h560, h⟩ := bnd1_inv h
            refine g_callW C hcs hZ hzA hX 560 [.ref (zA (Zc V) 0), .int (((f8 f * (7 : Int32)) + p) >>> ((2 : Int32) &&& 31)), .int (tdCel p)] [.int (4 : Int32), .ref q342] rfl tw_1294 ms_L_term (Nat.le_of_ble_eq_true rfl) (Nat.le_of_ble_eq_true rfl) (Nat.le_of_ble_eq_true rfl) (by omega) (by omega) dL_told_560 (t_term (Kl K) V _ _ _ hnc h560) [] rfl (fun rv560 w560 nl560 hr560 => ?_)
            obtain ⟨hw560, q560, rfl, rfl⟩ := hr560
            rw [hw560]
            refine g_eq (ws2 := zW (Zc V) s_560 ++ (fc ++ [(q0, .inr (9, [.int (tdCop q), .int (tdCel p), .int (tdFor p q), .int (tdSeed p), .int 0, .int 0, .int (tdPri p q), .int 0, .ref (u 8), .ref (u 9), .ref (u 10), .ref (u 11), .ref (u 12), .ref (u 13), .ref (u 14), .ref (u 15), .ref (u 16), .ref (u 17), .ref (u 18), .ref (u 19), .ref (u 20), .ref (u 21), .ref (u 22), .int 0])), ((u 8), .inl (V.2.2.1 1, 4, .inl (tdFs q nc))), ((u 9), .inl (V.2.2.1 7, 4, .inr (.inr (.inr (.inr (va_up (g) (ix (nI f)) (some q342))))))), ((u 10), .inl (V.2.2.1 6, 60, .inr (.inr (.inr (.inr (fun _ => none)))))), ((u 11), .inl (V.2.2.1 1, 60, .inl (fun _ => 0))), ((u 12), .inl (V.2.2.1 1, 5, .inl (fun _ => 0))), ((u 13), .inl (V.2.2.1 1, 5, .inl (fun _ => 0))), ((u 14), .inl (V.2.2.1 1, 5, .inl (fun _ => 0))), ((u 15), .inl (V.2.2.1 1, 5, .inl (fun _ => 0))), ((u 16), .inl (V.2.2.1 1, 4, .inl (fun _ => 0))), ((u 17), .inl (V.2.2.1 1, 4, .inl (fun _ => 0))), ((u 18), .inl (V.2.2.1 1, 4, .inl (fun _ => 0))), ((u 19), .inl (V.2.2.1 1, 0, .inl (fun _ => 0))), ((u 20), .inl (V.2.2.1 8, 5, .inr (.inr (.inr (.inr (fun j => some ((u 20) + 1 + j))))))), (((u 20) + 1 + 0), .inl (V.2.2.1 3, 60, .inl (fun _ => 0))), (((u 20) + 1 + 1), .inl (V.2.2.1 3, 60, .inl (fun _ => 0))), (((u 20) + 1 + 2), .inl (V.2.2.1 3, 60, .inl (fun _ => 0))), (((u 20) + 1 + 3), .inl (V.2.2.1 3, 60, .inl (fun _ => 0))), (((u 20) + 1 + 4), .inl (V.2.2.1 3, 60, .inl (fun _ => 0))), ((u 21), .inl (V.2.2.1 6, 4, .inr (.inr (.inr (.inr (fun j => some ((u 21) + 1 + j))))))), (((u 21) + 1 + 0), .inl (V.2.2.1 1, 5, .inl (fun _ => 0))), (((u 21) + 1 + 1), .inl (V.2.2.1 1, 5, .inl (fun _ => 0))), (((u 21) + 1 + 2), .inl (V.2.2.1 1, 5, .inl (fun _ => 0))), (((u 21) + 1 + 3), .inl (V.2.2.1 1, 5, .inl (fun _ => 0))), ((u 22), .inl (V.2.2.1 6, 4, .inr (.inr (.inr (.inr (fun j => some ((u 22) + 1 + j))))))), (((u 22) + 1 + 0), .inl (V.2.2.1 1, 5, .inl (fun _ => 0))), (((u 22) + 1 + 1), .inl (V.2.2.1 1, 5, .inl (fun _ => 0))), (((u 22) + 1 + 2), .inl (V.2.2.1 1, 5, .inl (fun _ => 0))), (((u 22) + 1 + 3), .inl (V.2.2.1 1, 5, .inl (fun _ => 0))), (q276, .inl (V.2.2.1 1, 3, .inl (hwF (f8 f) (tdCel p)))), (q342, .inl (V.2.2.1 6, 5, .inr (.inr (.inr (.inr (va_up (va_up (va_up (va_up (fun _ => none) (ix (0 : Int32)) (some q276)) (ix (1 : Int32)) (some q412)) (ix (2 : Int32)) (some q458)) (ix (3 : Int32)) (some q505))))))), (q412, .inl (V.2.2.1 1, 3, .inl (tm3 ((f8 f >>> ((2 : Int32) &&& 31)) &&& (7 : Int32)) (((f8 f >>> ((2 : Int32) &&& 31)) >>> ((3 : Int32) &&& 31)) &&& (3 : Int32)) ((((f8 f >>> ((2 : Int32) &&& 31)) >>> ((5 : Int32) &&& 31)) &&& (255 : Int32)) - (((f8 f >>> ((2 : Int32) &&& 31)) >>> ((5 : Int32) &&& 31)) &&& (255 : Int32)) / (tdCel p) * (tdCel p))))), (q458, .inl (V.2.2.1 1, 3, .inl (tm3 ((((f8 f * (3 : Int32)) + p) >>> ((3 : Int32) &&& 31)) &&& (7 : Int32)) (((((f8 f * (3 : Int32)) + p) >>> ((3 : Int32) &&& 31)) >>> ((3 : Int32) &&& 31)) &&& (3 : Int32)) ((((((f8 f * (3 : Int32)) + p) >>> ((3 : Int32) &&& 31)) >>> ((5 : Int32) &&& 31)) &&& (255 : Int32)) - (((((f8 f * (3 : Int32)) + p) >>> ((3 : Int32) &&& 31)) >>> ((5 : Int32) &&& 31)) &&& (255 : Int32)) / (tdCel p) * (tdCel p))))), (q505, .inl (V.2.2.1 1, 3, .inl (tm3 ((((f8 f * (5 : Int32)) + q) >>> ((2 : Int32) &&& 31)) &&& (7 : Int32)) (((((f8 f * (5 : Int32)) + q) >>> ((2 : Int32) &&& 31)) >>> ((3 : Int32) &&& 31)) &&& (3 : Int32)) ((((((f8 f * (5 : Int32)) + q) >>> ((2 : Int32) &&& 31)) >>> ((5 : Int32) &&& 31)) &&& (255 : Int32)) - (((((f8 f * (5 : Int32)) + q) >>> ((2 : Int32) &&& 31)) >>> ((5 : Int32) &&& 31)) &&& (255 : Int32)) / (tdCel p) * (tdCel p))))), (q560, .inl (V.2.2.1 1, 3, .inl (tm3 ((((f8 f * (7 : Int32)) + p) >>> ((2 : Int32) &&& 31)) &&& (7 : Int32)) (((((f8 f * (7 : Int32)) + p) >>> ((2 : Int32) &&& 31)) >>> ((3 : Int32) &&& 31)) &&& (3 : Int32)) ((((((f8 f * (7 : Int32)) + p) >>> ((2 : Int32) &&& 31)) >>> ((5 : Int32) &&& 31)) &&& (255 : Int32)) - (((((f8 f * (7 : Int32)) + p) >>> ((2 : Int32) &&& 31)) >>> ((5 : Int32) &&& 31)) &&& (255 : Int32)) / (tdCel p) * (tdCel p)))))])) (zwq (fcp rfl)) ?_
            show Gn _ _ _ _ _ _ _ _ [.ref q560, .int (4 : Int32), .ref q342]
            refine g_aast (t := .int) (f' := va_up (va_up (va_up (va_up (va_up (fun _ => none) (ix (0 : Int32)) (some q276)) (ix (1 : Int32)) (some q412)) (ix (2 : Int32)) (some q458)) (ix (3 : Int32)) (some q505)) (ix (4 : Int32)) (some q560)) (ws' := zW (Zc V) s_560 ++ (fc ++ [(q0, .inr (9, [.int (tdCop q), .int (tdCel p), .int (tdFor p q), .int (tdSeed p), .int 0, .int 0, .int (tdPri p q), .int 0, .ref (u 8), .ref (u 9), .ref (u 10), .ref (u 11), .ref (u 12), .ref (u 13), .ref (u 14), .ref (u 15), .ref (u 16), .ref (u 17), .ref (u 18), .ref (u 19), .ref (u 20), .ref (u 21), .ref (u 22), .int 0])), ((u 8), .inl (V.2.2.1 1, 4, .inl (tdFs q nc))), ((u 9), .inl (V.2.2.1 7, 4, .inr (.inr (.inr (.inr (va_up (g) (ix (nI f)) (some q342))))))), ((u 10), .inl (V.2.2.1 6, 60, .inr (.inr (.inr (.inr (fun _ => none)))))), ((u 11), .inl (V.2.2.1 1, 60, .inl (fun _ => 0))), ((u 12), .inl (V.2.2.1 1, 5, .inl (fun _ => 0))), ((u 13), .inl (V.2.2.1 1, 5, .inl (fun _ => 0))), ((u 14), .inl (V.2.2.1 1, 5, .inl (fun _ => 0))), ((u 15), .inl (V.2.2.1 1, 5, .inl (fun _ => 0))), ((u 16), .inl (V.2.2.1 1, 4, .inl (fun _ => 0))), ((u 17), .inl (V.2.2.1 1, 4, .inl (fun _ => 0))), ((u 18), .inl (V.2.2.1 1, 4, .inl (fun _ => 0))), ((u 19), .inl (V.2.2.1 1, 0, .inl (fun _ => 0))), ((u 20), .inl (V.2.2.1 8, 5, .inr (.inr (.inr (.inr (fun j => some ((u 20) + 1 + j))))))), (((u 20) + 1 + 0), .inl (V.2.2.1 3, 60, .inl (fun _ => 0))), (((u 20) + 1 + 1), .inl (V.2.2.1 3, 60, .inl (fun _ => 0))), (((u 20) + 1 + 2), .inl (V.2.2.1 3, 60, .inl (fun _ => 0))), (((u 20) + 1 + 3), .inl (V.2.2.1 3, 60, .inl (fun _ => 0))), (((u 20) + 1 + 4), .inl (V.2.2.1 3, 60, .inl (fun _ => 0))), ((u 21), .inl (V.2.2.1 6, 4, .inr (.inr (.inr (.inr (fun j => some ((u 21) + 1 + j))))))), (((u 21) + 1 + 0), .inl (V.2.2.1 1, 5, .inl (fun _ => 0))), (((u 21) + 1 + 1), .inl (V.2.2.1 1, 5, .inl (fun _ => 0))), (((u 21) + 1 + 2), .inl (V.2.2.1 1, 5, .inl (fun _ => 0))), (((u 21) + 1 + 3), .inl (V.2.2.1 1, 5, .inl (fun _ => 0))), ((u 22), .inl (V.2.2.1 6, 4, .inr (.inr (.inr (.inr (fun j => some ((u 22) + 1 + j))))))), (((u 22) + 1 + 0), .inl (V.2.2.1 1, 5, .inl (fun _ => 0))), (((u 22) + 1 + 1), .inl (V.2.2.1 1, 5, .inl (fun _ => 0))), (((u 22) + 1 + 2), .inl (V.2.2.1 1, 5, .inl (fun _ => 0))), (((u 22) + 1 + 3), .inl (V.2.2.1 1, 5, .inl (fun _ => 0))), (q276, .inl (V.2.2.1 1, 3, .inl (hwF (f8 f) (tdCel p)))), (q342, .inl (V.2.2.1 6, 5, .inr (.inr (.inr (.inr (va_up (va_up (va_up (va_up (va_up (fun _ => none) (ix (0 : Int32)) (some q276)) (ix (1 : Int32)) (some q412)) (ix (2 : Int32)) (some q458)) (ix (3 : Int32)) (some q505)) (ix (4 : Int32)) (some q560))))))), (q412, .inl (V.2.2.1 1, 3, .inl (tm3 ((f8 f >>> ((2 : Int32) &&& 31)) &&& (7 : Int32)) (((f8 f >>> ((2 : Int32) &&& 31)) >>> ((3 : Int32) &&& 31)) &&& (3 : Int32)) ((((f8 f >>> ((2 : Int32) &&& 31)) >>> ((5 : Int32) &&& 31)) &&& (255 : Int32)) - (((f8 f >>> ((2 : Int32) &&& 31)) >>> ((5 : Int32) &&& 31)) &&& (255 : Int32)) / (tdCel p) * (tdCel p))))), (q458, .inl (V.2.2.1 1, 3, .inl (tm3 ((((f8 f * (3 : Int32)) + p) >>> ((3 : Int32) &&& 31)) &&& (7 : Int32)) (((((f8 f * (3 : Int32)) + p) >>> ((3 : Int32) &&& 31)) >>> ((3 : Int32) &&& 31)) &&& (3 : Int32)) ((((((f8 f * (3 : Int32)) + p) >>> ((3 : Int32) &&& 31)) >>> ((5 : Int32) &&& 31)) &&& (255 : Int32)) - (((((f8 f * (3 : Int32)) + p) >>> ((3 : Int32) &&& 31)) >>> ((5 : Int32) &&& 31)) &&& (255 : Int32)) / (tdCel p) * (tdCel p))))), (q505, .inl (V.2.2.1 1, 3, .inl (tm3 ((((f8 f * (5 : Int32)) + q) >>> ((2 : Int32) &&& 31)) &&& (7 : Int32)) (((((f8 f * (5 : Int32)) + q) >>> ((2 : Int32) &&& 31)) >>> ((3 : Int32) &&& 31)) &&& (3 : Int32)) ((((((f8 f * (5 : Int32)) + q) >>> ((2 : Int32) &&& 31)) >>> ((5 : Int32) &&& 31)) &&& (255 : Int32)) - (((((f8 f * (5 : Int32)) + q) >>> ((2 : Int32) &&& 31)) >>> ((5 : Int32) &&& 31)) &&& (255 : Int32)) / (tdCel p) * (tdCel p))))), (q560, .inl (V.2.2.1 1, 3, .inl (tm3 ((((f8 f * (7 : Int32)) + p) >>> ((2 : Int32) &&& 31)) &&& (7 : Int32)) (((((f8 f * (7 : Int32)) + p) >>> ((2 : Int32) &&& 31)) >>> ((3 : Int32) &&& 31)) &&& (3 : Int32)) ((((((f8 f * (7 : Int32)) + p) >>> ((2 : Int32) &&& 31)) >>> ((5 : Int32) &&& 31)) &&& (255 : Int32)) - (((((f8 f * (7 : Int32)) + p) >>> ((2 : Int32) &&& 31)) >>> ((5 : Int32) &&& 31)) &&& (255 : Int32)) / (tdCel p) * (tdCel p)))))])) C 563 (127 + (fc.length + 30)) 6 (127 + (fc.length + 34)) (zwa (fca rfl)) (show (T6 V.2.2.1)[6]? = some (V.2.2.1 6, .array .int) from rfl) (zwa (fca rfl)) (fun _ h => h.2.2.2.1) (fun _ h => (h.2 1 (V.2.2.1 1, .int) rfl).2) (fun _ h => h) (by decide) rfl (zws (fcs rfl)) dL_told_563 ?_
            refine g_aload_n C 564 4 dL_told_564 rfl ?_
            refine g_bipush C 565 dL_told_565 kb_59 ?_
            obtain ⟨s_567, h567, h⟩ := bnd1_inv h
            refine g_callL C hZ hzA hX 567 [.ref (zA (Zc V) 0), .int (59 : Int32)] [] rfl tw_1278 ms_L_sign (Nat.le_of_ble_eq_true rfl) (Nat.le_of_ble_eq_true rfl) (Nat.le_of_ble_eq_true rfl) (by omega) (by omega) dL_told_567 (c_L_sign V _ _ _ h567) ?_
            show Gn _ _ _ _ _ _ _ _ []
            refine g_iinc (v := nI (f + 1)) (L' := [(5, .int (nI (f + 1))), (7, .ref q276), (6, .int (f8 f)), (4, .ref q0), (0, .ref (zA (Zc V) 0)), (1, .ref ra), (2, .int p), (3, .int q)]) C 570 2 dL_told_570 rfl (nI_1 _) (hN _ (Nat.le_of_ble_eq_true rfl)) rfl ?_
            refine g_goto C 573 239 dL_told_573 (by decide) ?_
            refine g_eq (ws2 := (zW (Zc V) s_567 ++ (fc ++ ([(q0, .inr (9, [.int (tdCop q), .int (tdCel p), .int (tdFor p q), .int (tdSeed p), .int 0, .int 0, .int (tdPri p q), .int 0, .ref (u 8), .ref (u 9), .ref (u 10), .ref (u 11), .ref (u 12), .ref (u 13), .ref (u 14), .ref (u 15), .ref (u 16), .ref (u 17), .ref (u 18), .ref (u 19), .ref (u 20), .ref (u 21), .ref (u 22), .int 0])), ((u 8), .inl (V.2.2.1 1, 4, .inl (tdFs q nc))), ((u 9), .inl (V.2.2.1 7, 4, .inr (.inr (.inr (.inr (va_up (g) (ix (nI f)) (some q342))))))), ((u 10), .inl (V.2.2.1 6, 60, .inr (.inr (.inr (.inr (fun _ => none)))))), ((u 11), .inl (V.2.2.1 1, 60, .inl (fun _ => 0))), ((u 12), .inl (V.2.2.1 1, 5, .inl (fun _ => 0))), ((u 13), .inl (V.2.2.1 1, 5, .inl (fun _ => 0))), ((u 14), .inl (V.2.2.1 1, 5, .inl (fun _ => 0))), ((u 15), .inl (V.2.2.1 1, 5, .inl (fun _ => 0))), ((u 16), .inl (V.2.2.1 1, 4, .inl (fun _ => 0))), ((u 17), .inl (V.2.2.1 1, 4, .inl (fun _ => 0))), ((u 18), .inl (V.2.2.1 1, 4, .inl (fun _ => 0))), ((u 19), .inl (V.2.2.1 1, 0, .inl (fun _ => 0))), ((u 20), .inl (V.2.2.1 8, 5, .inr (.inr (.inr (.inr (fun j => some ((u 20) + 1 + j))))))), (((u 20) + 1 + 0), .inl (V.2.2.1 3, 60, .inl (fun _ => 0))), (((u 20) + 1 + 1), .inl (V.2.2.1 3, 60, .inl (fun _ => 0))), (((u 20) + 1 + 2), .inl (V.2.2.1 3, 60, .inl (fun _ => 0))), (((u 20) + 1 + 3), .inl (V.2.2.1 3, 60, .inl (fun _ => 0))), (((u 20) + 1 + 4), .inl (V.2.2.1 3, 60, .inl (fun _ => 0))), ((u 21), .inl (V.2.2.1 6, 4, .inr (.inr (.inr (.inr (fun j => some ((u 21) + 1 + j))))))), (((u 21) + 1 + 0), .inl (V.2.2.1 1, 5, .inl (fun _ => 0))), (((u 21) + 1 + 1), .inl (V.2.2.1 1, 5, .inl (fun _ => 0))), (((u 21) + 1 + 2), .inl (V.2.2.1 1, 5, .inl (fun _ => 0))), (((u 21) + 1 + 3), .inl (V.2.2.1 1, 5, .inl (fun _ => 0))), ((u 22), .inl (V.2.2.1 6, 4, .inr (.inr (.inr (.inr (fun j => some ((u 22) + 1 + j))))))), (((u 22) + 1 + 0), .inl (V.2.2.1 1, 5, .inl (fun _ => 0))), (((u 22) + 1 + 1), .inl (V.2.2.1 1, 5, .inl (fun _ => 0))), (((u 22) + 1 + 2), .inl (V.2.2.1 1, 5, .inl (fun _ => 0))), (((u 22) + 1 + 3), .inl (V.2.2.1 1, 5, .inl (fun _ => 0)))] ++ [(q276, .inl (V.2.2.1 1, 3, .inl (hwF (f8 f) (tdCel p)))), (q342, .inl (V.2.2.1 6, 5, .inr (.inr (.inr (.inr (va_up (va_up (va_up (va_up (va_up (fun _ => none) (ix (0 : Int32)) (some q276)) (ix (1 : Int32)) (some q412)) (ix (2 : Int32)) (some q458)) (ix (3 : Int32)) (some q505)) (ix (4 : Int32)) (some q560)))))))]))) ++ [(q412, .inl (V.2.2.1 1, 3, .inl (tm3 ((f8 f >>> ((2 : Int32) &&& 31)) &&& (7 : Int32)) (((f8 f >>> ((2 : Int32) &&& 31)) >>> ((3 : Int32) &&& 31)) &&& (3 : Int32)) ((((f8 f >>> ((2 : Int32) &&& 31)) >>> ((5 : Int32) &&& 31)) &&& (255 : Int32)) - (((f8 f >>> ((2 : Int32) &&& 31)) >>> ((5 : Int32) &&& 31)) &&& (255 : Int32)) / (tdCel p) * (tdCel p))))), (q458, .inl (V.2.2.1 1, 3, .inl (tm3 ((((f8 f * (3 : Int32)) + p) >>> ((3 : Int32) &&& 31)) &&& (7 : Int32)) (((((f8 f * (3 : Int32)) + p) >>> ((3 : Int32) &&& 31)) >>> ((3 : Int32) &&& 31)) &&& (3 : Int32)) ((((((f8 f * (3 : Int32)) + p) >>> ((3 : Int32) &&& 31)) >>> ((5 : Int32) &&& 31)) &&& (255 : Int32)) - (((((f8 f * (3 : Int32)) + p) >>> ((3 : Int32) &&& 31)) >>> ((5 : Int32) &&& 31)) &&& (255 : Int32)) / (tdCel p) * (tdCel p))))), (q505, .inl (V.2.2.1 1, 3, .inl (tm3 ((((f8 f * (5 : Int32)) + q) >>> ((2 : Int32) &&& 31)) &&& (7 : Int32)) (((((f8 f * (5 : Int32)) + q) >>> ((2 : Int32) &&& 31)) >>> ((3 : Int32) &&& 31)) &&& (3 : Int32)) ((((((f8 f * (5 : Int32)) + q) >>> ((2 : Int32) &&& 31)) >>> ((5 : Int32) &&& 31)) &&& (255 : Int32)) - (((((f8 f * (5 : Int32)) + q) >>> ((2 : Int32) &&& 31)) >>> ((5 : Int32) &&& 31)) &&& (255 : Int32)) / (tdCel p) * (tdCel p))))), (q560, .inl (V.2.2.1 1, 3, .inl (tm3 ((((f8 f * (7 : Int32)) + p) >>> ((2 : Int32) &&& 31)) &&& (7 : Int32)) (((((f8 f * (7 : Int32)) + p) >>> ((2 : Int32) &&& 31)) >>> ((3 : Int32) &&& 31)) &&& (3 : Int32)) ((((((f8 f * (7 : Int32)) + p) >>> ((2 : Int32) &&& 31)) >>> ((5 : Int32) &&& 31)) &&& (255 : Int32)) - (((((f8 f * (7 : Int32)) + p) >>> ((2 : Int32) &&& 31)) >>> ((5 : Int32) &&& 31)) &&& (255 : Int32)) / (tdCel p) * (tdCel p)))))]) (by simp only [List.append_assoc, List.cons_append, List.nil_append]) ?_
            refine g_drop ?_
            refine n_perm perm_fc ?_
            refine g_more (ce2 := ce + 6) (sl2 := sl + 20) (by omega) (by omega) ?_
            refine g_sub [0, 3, 4, 5, 6, 7] rfl ?_
            exact ih (f + 1) s_567 _ _ _ _ (by omega) (by omega) (by omega) ⟨fc, _, _, _, rfl, by rw [ix_nI (by omega)]; exact vup_s, rfl, FcOk.cong f fc (fun i hi => vup_o (by rw [ix_nI (by omega)]; omega)) hfc⟩ (fun i hi => (vup_o (by rw [ix_nI (by omega)]; omega)).trans (hgn i (by omega))) h
        refine g_icmp_ne C 422 430 dL_told_422 (by decide) (fun c2 => ?_) (fun c2 => ?_)
        · refine g_bipush C 430 dL_told_430 kb_61 ?_
          have e : sgF1 (f8 f) = 61 := if_neg c2
          rw [e] at k432
          exact k432
        · refine g_bipush C 425 dL_told_425 kb_60 ?_
          refine g_goto C 427 432 dL_told_427 (by decide) ?_
          have e : sgF1 (f8 f) = 60 := if_pos (Decidable.not_not.mp c2)
          rw [e] at k432
          exact k432
      refine g_if_ne C 310 317 dL_told_310 (by decide) (fun c1 => ?_) (fun c1 => ?_)
      · refine g_iload C 317 0 dL_told_317 rfl ?_
        refine g_iconst C 319 dL_told_319 ki_4 ?_
        refine g_ishr C 320 dL_told_320 ?_
        refine g_sipush C 321 dL_told_321 ks_255 ?_
        refine g_iand C 324 dL_told_324 ?_
        refine g_aload C 325 2 dL_told_325 rfl ?_
        refine g_getN C 327 (127 + (fc.length + 0)) (zwa (fca rfl)) 1 (Nat.le_of_ble_eq_true rfl) rfl (List.mem_of_getElem? (i := 8) rfl) rfl dL_told_327 ?_
        refine g_irem C 330 dL_told_330 hnc ?_
        have e : hwC (f8 f) (tdCel p) = _ := if_neg c1
        rw [e] at k331
        exact k331
      · refine g_iconst C 313 dL_told_313 ki_m1 ?_
        refine g_goto C 314 331 dL_told_314 (by decide) ?_
        have e : hwC (f8 f) (tdCel p) = -1 := if_pos (Decidable.not_not.mp c1)
        rw [e] at k331
        exact k331
  have loopC : ∀ (k i : Nat) (σc σ3 : Wd), i + k = nc → M_told_C q k i σc = some σ3 → M_told_F f8 p q nf 0 σ3 = some σ2 → Gn K V.1 (fun q => zS (Zc V) q ∨ (Ks K).heap.size ≤ q) (zW (Zc V) σc ++ ([(q0, .inr (9, [.int (tdCop q), .int (tdCel p), .int (tdFor p q), .int (tdSeed p), .int 0, .int 0, .int (tdPri p q), .int 0, .ref (u 8), .ref (u 9), .ref (u 10), .ref (u 11), .ref (u 12), .ref (u 13), .ref (u 14), .ref (u 15), .ref (u 16), .ref (u 17), .ref (u 18), .ref (u 19), .ref (u 20), .ref (u 21), .ref (u 22), .int 0])), ((u 8), .inl (V.2.2.1 1, 4, .inl (tdFs q i))), ((u 9), .inl (V.2.2.1 7, 4, .inr (.inr (.inr (.inr (fun _ => none)))))), ((u 10), .inl (V.2.2.1 6, 60, .inr (.inr (.inr (.inr (fun _ => none)))))), ((u 11), .inl (V.2.2.1 1, 60, .inl (fun _ => 0))), ((u 12), .inl (V.2.2.1 1, 5, .inl (fun _ => 0))), ((u 13), .inl (V.2.2.1 1, 5, .inl (fun _ => 0))), ((u 14), .inl (V.2.2.1 1, 5, .inl (fun _ => 0))), ((u 15), .inl (V.2.2.1 1, 5, .inl (fun _ => 0))), ((u 16), .inl (V.2.2.1 1, 4, .inl (fun _ => 0))), ((u 17), .inl (V.2.2.1 1, 4, .inl (fun _ => 0))), ((u 18), .inl (V.2.2.1 1, 4, .inl (fun _ => 0))), ((u 19), .inl (V.2.2.1 1, 0, .inl (fun _ => 0))), ((u 20), .inl (V.2.2.1 8, 5, .inr (.inr (.inr (.inr (fun j => some ((u 20) + 1 + j))))))), (((u 20) + 1 + 0), .inl (V.2.2.1 3, 60, .inl (fun _ => 0))), (((u 20) + 1 + 1), .inl (V.2.2.1 3, 60, .inl (fun _ => 0))), (((u 20) + 1 + 2), .inl (V.2.2.1 3, 60, .inl (fun _ => 0))), (((u 20) + 1 + 3), .inl (V.2.2.1 3, 60, .inl (fun _ => 0))), (((u 20) + 1 + 4), .inl (V.2.2.1 3, 60, .inl (fun _ => 0))), ((u 21), .inl (V.2.2.1 6, 4, .inr (.inr (.inr (.inr (fun j => some ((u 21) + 1 + j))))))), (((u 21) + 1 + 0), .inl (V.2.2.1 1, 5, .inl (fun _ => 0))), (((u 21) + 1 + 1), .inl (V.2.2.1 1, 5, .inl (fun _ => 0))), (((u 21) + 1 + 2), .inl (V.2.2.1 1, 5, .inl (fun _ => 0))), (((u 21) + 1 + 3), .inl (V.2.2.1 1, 5, .inl (fun _ => 0))), ((u 22), .inl (V.2.2.1 6, 4, .inr (.inr (.inr (.inr (fun j => some ((u 22) + 1 + j))))))), (((u 22) + 1 + 0), .inl (V.2.2.1 1, 5, .inl (fun _ => 0))), (((u 22) + 1 + 1), .inl (V.2.2.1 1, 5, .inl (fun _ => 0))), (((u 22) + 1 + 2), .inl (V.2.2.1 1, 5, .inl (fun _ => 0))), (((u 22) + 1 + 3), .inl (V.2.2.1 1, 5, .inl (fun _ => 0)))] : va_W)) (29) (537) 166 [(5, .int (nI i)), (4, .ref q0), (0, .ref (zA (Zc V) 0)), (1, .ref ra), (2, .int p), (3, .int q)] [] := by
    intro k
    induction k with
    | zero =>
      intro i σc σ3 hi hc2 h
      cases hc2
      have hge : tdCel p ≤ nI nc := by rw [hnc5, nI_leI (by omega) (by omega)]; exact Nat.le_refl _
      rw [show i = nc by omega]
      refine g_iload C 166 0 dL_told_166 rfl ?_
      refine g_aload C 168 1 dL_told_168 rfl ?_
      refine g_getN C 170 (127 + 0) (zwa rfl) 1 (Nat.le_of_ble_eq_true rfl) rfl (List.mem_of_getElem? (i := 8) rfl) rfl dL_told_170 ?_
      refine g_icmp_ge C 173 236 dL_told_173 (by decide) (fun _ => ?_) (fun hq => absurd hge hq)
      refine g_iconst C 236 dL_told_236 ki_0 ?_
      refine g_istore (L' := [(5, .int (0 : Int32)), (4, .ref q0), (0, .ref (zA (Zc V) 0)), (1, .ref ra), (2, .int p), (3, .int q)]) C 237 dL_told_237 (hN _ (Nat.le_of_ble_eq_true rfl)) rfl ?_
      refine g_sub [0, 1, 2, 3, 4, 5] rfl ?_
      exact loopF nf 0 _ [] (fun _ => none) 29 537 (by omega) (by omega) (by omega) rfl (fun _ _ => rfl) h
    | succ k ih =>
      intro i σc σ3 hi h hF
      unfold M_told_C at h
      have hlt : ¬ tdCel p ≤ nI i := by rw [hnc5, nI_leI (by omega) (by omega)]; omega
      have hi4 : ib (nI i) 4 := (ib_nI (by omega)).mpr (by omega)
      refine g_iload C 166 0 dL_told_166 rfl ?_
      refine g_aload C 168 1 dL_told_168 rfl ?_
      refine g_getN C 170 (127 + 0) (zwa rfl) 1 (Nat.le_of_ble_eq_true rfl) rfl (List.mem_of_getElem? (i := 8) rfl) rfl dL_told_170 ?_
      refine g_icmp_ge C 173 236 dL_told_173 (by decide) (fun hq => absurd hq hlt) (fun _ => ?_)
      refine g_aload C 176 1 dL_told_176 rfl ?_
      refine g_getN C 178 (127 + 0) (zwa rfl) 8 (Nat.le_of_ble_eq_true rfl) rfl (List.mem_of_getElem? (i := 15) rfl) rfl dL_told_178 ?_
      refine g_iload C 181 0 dL_told_181 rfl ?_
      refine g_iload_n C 183 5 dL_told_183 rfl ?_
      refine g_iload C 184 0 dL_told_184 rfl ?_
      refine g_ishr C 186 dL_told_186 ?_
      refine g_sipush C 187 dL_told_187 ks_255 ?_
      refine g_iand C 190 dL_told_190 ?_
      refine g_bipush C 191 dL_told_191 kb_12 ?_
      refine g_irem C 193 dL_told_193 (by decide) ?_
      refine g_iast (f' := upd (tdFs q i) (ix (nI i)) (((q >>> (nI i &&& 31)) &&& (255 : Int32)) - ((q >>> (nI i &&& 31)) &&& (255 : Int32)) / (12 : Int32) * (12 : Int32))) (ws' := zW (Zc V) σc ++ ([(q0, .inr (9, [.int (tdCop q), .int (tdCel p), .int (tdFor p q), .int (tdSeed p), .int 0, .int 0, .int (tdPri p q), .int 0, .ref (u 8), .ref (u 9), .ref (u 10), .ref (u 11), .ref (u 12), .ref (u 13), .ref (u 14), .ref (u 15), .ref (u 16), .ref (u 17), .ref (u 18), .ref (u 19), .ref (u 20), .ref (u 21), .ref (u 22), .int 0])), ((u 8), .inl (V.2.2.1 1, 4, .inl (upd (tdFs q i) (ix (nI i)) (((q >>> (nI i &&& 31)) &&& (255 : Int32)) - ((q >>> (nI i &&& 31)) &&& (255 : Int32)) / (12 : Int32) * (12 : Int32))))), ((u 9), .inl (V.2.2.1 7, 4, .inr (.inr (.inr (.inr (fun _ => none)))))), ((u 10), .inl (V.2.2.1 6, 60, .inr (.inr (.inr (.inr (fun _ => none)))))), ((u 11), .inl (V.2.2.1 1, 60, .inl (fun _ => 0))), ((u 12), .inl (V.2.2.1 1, 5, .inl (fun _ => 0))), ((u 13), .inl (V.2.2.1 1, 5, .inl (fun _ => 0))), ((u 14), .inl (V.2.2.1 1, 5, .inl (fun _ => 0))), ((u 15), .inl (V.2.2.1 1, 5, .inl (fun _ => 0))), ((u 16), .inl (V.2.2.1 1, 4, .inl (fun _ => 0))), ((u 17), .inl (V.2.2.1 1, 4, .inl (fun _ => 0))), ((u 18), .inl (V.2.2.1 1, 4, .inl (fun _ => 0))), ((u 19), .inl (V.2.2.1 1, 0, .inl (fun _ => 0))), ((u 20), .inl (V.2.2.1 8, 5, .inr (.inr (.inr (.inr (fun j => some ((u 20) + 1 + j))))))), (((u 20) + 1 + 0), .inl (V.2.2.1 3, 60, .inl (fun _ => 0))), (((u 20) + 1 + 1), .inl (V.2.2.1 3, 60, .inl (fun _ => 0))), (((u 20) + 1 + 2), .inl (V.2.2.1 3, 60, .inl (fun _ => 0))), (((u 20) + 1 + 3), .inl (V.2.2.1 3, 60, .inl (fun _ => 0))), (((u 20) + 1 + 4), .inl (V.2.2.1 3, 60, .inl (fun _ => 0))), ((u 21), .inl (V.2.2.1 6, 4, .inr (.inr (.inr (.inr (fun j => some ((u 21) + 1 + j))))))), (((u 21) + 1 + 0), .inl (V.2.2.1 1, 5, .inl (fun _ => 0))), (((u 21) + 1 + 1), .inl (V.2.2.1 1, 5, .inl (fun _ => 0))), (((u 21) + 1 + 2), .inl (V.2.2.1 1, 5, .inl (fun _ => 0))), (((u 21) + 1 + 3), .inl (V.2.2.1 1, 5, .inl (fun _ => 0))), ((u 22), .inl (V.2.2.1 6, 4, .inr (.inr (.inr (.inr (fun j => some ((u 22) + 1 + j))))))), (((u 22) + 1 + 0), .inl (V.2.2.1 1, 5, .inl (fun _ => 0))), (((u 22) + 1 + 1), .inl (V.2.2.1 1, 5, .inl (fun _ => 0))), (((u 22) + 1 + 2), .inl (V.2.2.1 1, 5, .inl (fun _ => 0))), (((u 22) + 1 + 3), .inl (V.2.2.1 1, 5, .inl (fun _ => 0)))] : va_W)) C 194 (127 + 1) (zwa rfl) hi4 rfl (zws rfl) dL_told_194 ?_
      refine g_aload_n C 195 2 dL_told_195 rfl ?_
      refine g_iconst C 196 dL_told_196 ki_4 ?_
      refine g_ldc C 197 (hw := tw_1285) dL_told_197 ?_
      refine g_iconst C 199 dL_told_199 ki_0 ?_
      refine g_iconst C 200 dL_told_200 ki_0 ?_
      refine g_iconst C 201 dL_told_201 ki_0 ?_
      refine g_iconst C 202 dL_told_202 ki_0 ?_
      obtain ⟨s_203, h203, h⟩ := bnd1_inv h
      refine g_callL C hZ hzA hX 203 [.ref (zA (Zc V) 0), .int (4 : Int32), .int (1667591276 : Int32), .int (0 : Int32), .int (0 : Int32), .int (0 : Int32), .int (0 : Int32)] [] rfl tw_1260 ms_L_put (Nat.le_of_ble_eq_true rfl) (Nat.le_of_ble_eq_true rfl) (Nat.le_of_ble_eq_true rfl) (Nat.le_of_ble_eq_true rfl) (Nat.le_of_ble_eq_true rfl) dL_told_203 (c_L_put V _ _ _ _ _ _ _ _ h203) ?_
      show Gn _ _ _ _ _ _ _ _ []
      refine g_aload_n C 206 2 dL_told_206 rfl ?_
      refine g_iload C 207 0 dL_told_207 rfl ?_
      obtain ⟨s_209, h209, h⟩ := bnd1_inv h
      refine g_callL C hZ hzA hX 209 [.ref (zA (Zc V) 0), .int (nI i)] [] rfl tw_1286 ms_L_cell (Nat.le_of_ble_eq_true rfl) (Nat.le_of_ble_eq_true rfl) (Nat.le_of_ble_eq_true rfl) (Nat.le_of_ble_eq_true rfl) (Nat.le_of_ble_eq_true rfl) dL_told_209 (c_L_cell V _ _ _ h209) ?_
      show Gn _ _ _ _ _ _ _ _ []
      refine g_aload_n C 212 2 dL_told_212 rfl ?_
      refine g_aload C 213 1 dL_told_213 rfl ?_
      refine g_getN C 215 (127 + 0) (zwa rfl) 8 (Nat.le_of_ble_eq_true rfl) rfl (List.mem_of_getElem? (i := 15) rfl) rfl dL_told_215 ?_
      refine g_iload C 218 0 dL_told_218 rfl ?_
      refine g_iald C 220 (127 + 1) (zwa rfl) hi4 dL_told_220 ?_
      rw [show ((upd (tdFs q i) (ix (nI i)) (((q >>> (nI i &&& 31)) &&& (255 : Int32)) - ((q >>> (nI i &&& 31)) &&& (255 : Int32)) / (12 : Int32) * (12 : Int32))) (ix (nI i))) = tdFirst q (nI i) from upd_s]
      obtain ⟨s_221, h221, h⟩ := bnd1_inv h
      refine g_callL C hZ hzA hX 221 [.ref (zA (Zc V) 0), .int (tdFirst q (nI i))] [] rfl tw_1275 ms_L_number (Nat.le_of_ble_eq_true rfl) (Nat.le_of_ble_eq_true rfl) (Nat.le_of_ble_eq_true rfl) (Nat.le_of_ble_eq_true rfl) (Nat.le_of_ble_eq_true rfl) dL_told_221 (c_L_number V _ _ _ h221) ?_
      show Gn _ _ _ _ _ _ _ _ []
      refine g_aload_n C 224 2 dL_told_224 rfl ?_
      refine g_bipush C 225 dL_told_225 kb_59 ?_
      obtain ⟨s_227, h227, h⟩ := bnd1_inv h
      refine g_callL C hZ hzA hX 227 [.ref (zA (Zc V) 0), .int (59 : Int32)] [] rfl tw_1278 ms_L_sign (Nat.le_of_ble_eq_true rfl) (Nat.le_of_ble_eq_true rfl) (Nat.le_of_ble_eq_true rfl) (Nat.le_of_ble_eq_true rfl) (Nat.le_of_ble_eq_true rfl) dL_told_227 (c_L_sign V _ _ _ h227) ?_
      show Gn _ _ _ _ _ _ _ _ []
      refine g_iinc (v := nI (i + 1)) (L' := [(5, .int (nI (i + 1))), (4, .ref q0), (0, .ref (zA (Zc V) 0)), (1, .ref ra), (2, .int p), (3, .int q)]) C 230 0 dL_told_230 rfl (nI_1 _) (hN _ (Nat.le_of_ble_eq_true rfl)) rfl ?_
      refine g_goto C 233 166 dL_told_233 (by decide) ?_
      refine g_sub [0, 1, 2, 3, 4, 5] rfl ?_
      exact ih (i + 1) _ _ (by omega) h hF
  have k88 : Gn K V.1 (fun q => zS (Zc V) q ∨ (Ks K).heap.size ≤ q) (zW (Zc V) σ ++ ([(q0, .inr (9, [.int (tdCop q), .int (tdCel p), .int 0, .int (tdSeed p), .int 0, .int 0, .int (tdPri p q), .int 0, .ref (u 8), .ref (u 9), .ref (u 10), .ref (u 11), .ref (u 12), .ref (u 13), .ref (u 14), .ref (u 15), .ref (u 16), .ref (u 17), .ref (u 18), .ref (u 19), .ref (u 20), .ref (u 21), .ref (u 22), .int 0])), ((u 8), .inl (V.2.2.1 1, 4, .inl (fun _ => 0))), ((u 9), .inl (V.2.2.1 7, 4, .inr (.inr (.inr (.inr (fun _ => none)))))), ((u 10), .inl (V.2.2.1 6, 60, .inr (.inr (.inr (.inr (fun _ => none)))))), ((u 11), .inl (V.2.2.1 1, 60, .inl (fun _ => 0))), ((u 12), .inl (V.2.2.1 1, 5, .inl (fun _ => 0))), ((u 13), .inl (V.2.2.1 1, 5, .inl (fun _ => 0))), ((u 14), .inl (V.2.2.1 1, 5, .inl (fun _ => 0))), ((u 15), .inl (V.2.2.1 1, 5, .inl (fun _ => 0))), ((u 16), .inl (V.2.2.1 1, 4, .inl (fun _ => 0))), ((u 17), .inl (V.2.2.1 1, 4, .inl (fun _ => 0))), ((u 18), .inl (V.2.2.1 1, 4, .inl (fun _ => 0))), ((u 19), .inl (V.2.2.1 1, 0, .inl (fun _ => 0))), ((u 20), .inl (V.2.2.1 8, 5, .inr (.inr (.inr (.inr (fun j => some ((u 20) + 1 + j))))))), (((u 20) + 1 + 0), .inl (V.2.2.1 3, 60, .inl (fun _ => 0))), (((u 20) + 1 + 1), .inl (V.2.2.1 3, 60, .inl (fun _ => 0))), (((u 20) + 1 + 2), .inl (V.2.2.1 3, 60, .inl (fun _ => 0))), (((u 20) + 1 + 3), .inl (V.2.2.1 3, 60, .inl (fun _ => 0))), (((u 20) + 1 + 4), .inl (V.2.2.1 3, 60, .inl (fun _ => 0))), ((u 21), .inl (V.2.2.1 6, 4, .inr (.inr (.inr (.inr (fun j => some ((u 21) + 1 + j))))))), (((u 21) + 1 + 0), .inl (V.2.2.1 1, 5, .inl (fun _ => 0))), (((u 21) + 1 + 1), .inl (V.2.2.1 1, 5, .inl (fun _ => 0))), (((u 21) + 1 + 2), .inl (V.2.2.1 1, 5, .inl (fun _ => 0))), (((u 21) + 1 + 3), .inl (V.2.2.1 1, 5, .inl (fun _ => 0))), ((u 22), .inl (V.2.2.1 6, 4, .inr (.inr (.inr (.inr (fun j => some ((u 22) + 1 + j))))))), (((u 22) + 1 + 0), .inl (V.2.2.1 1, 5, .inl (fun _ => 0))), (((u 22) + 1 + 1), .inl (V.2.2.1 1, 5, .inl (fun _ => 0))), (((u 22) + 1 + 2), .inl (V.2.2.1 1, 5, .inl (fun _ => 0))), (((u 22) + 1 + 3), .inl (V.2.2.1 1, 5, .inl (fun _ => 0)))] : va_W)) (29) (537) 88 [(4, .ref q0), (0, .ref (zA (Zc V) 0)), (1, .ref ra), (2, .int p), (3, .int q)] [.int (tdFor p q), .ref q0] := by
    refine g_putN (ty := .int) (fs' := [.int (tdCop q), .int (tdCel p), .int (tdFor p q), .int (tdSeed p), .int 0, .int 0, .int (tdPri p q), .int 0, .ref (u 8), .ref (u 9), .ref (u 10), .ref (u 11), .ref (u 12), .ref (u 13), .ref (u 14), .ref (u 15), .ref (u 16), .ref (u 17), .ref (u 18), .ref (u 19), .ref (u 20), .ref (u 21), .ref (u 22), .int 0]) (ws' := zW (Zc V) σ ++ ([(q0, .inr (9, [.int (tdCop q), .int (tdCel p), .int (tdFor p q), .int (tdSeed p), .int 0, .int 0, .int (tdPri p q), .int 0, .ref (u 8), .ref (u 9), .ref (u 10), .ref (u 11), .ref (u 12), .ref (u 13), .ref (u 14), .ref (u 15), .ref (u 16), .ref (u 17), .ref (u 18), .ref (u 19), .ref (u 20), .ref (u 21), .ref (u 22), .int 0])), ((u 8), .inl (V.2.2.1 1, 4, .inl (fun _ => 0))), ((u 9), .inl (V.2.2.1 7, 4, .inr (.inr (.inr (.inr (fun _ => none)))))), ((u 10), .inl (V.2.2.1 6, 60, .inr (.inr (.inr (.inr (fun _ => none)))))), ((u 11), .inl (V.2.2.1 1, 60, .inl (fun _ => 0))), ((u 12), .inl (V.2.2.1 1, 5, .inl (fun _ => 0))), ((u 13), .inl (V.2.2.1 1, 5, .inl (fun _ => 0))), ((u 14), .inl (V.2.2.1 1, 5, .inl (fun _ => 0))), ((u 15), .inl (V.2.2.1 1, 5, .inl (fun _ => 0))), ((u 16), .inl (V.2.2.1 1, 4, .inl (fun _ => 0))), ((u 17), .inl (V.2.2.1 1, 4, .inl (fun _ => 0))), ((u 18), .inl (V.2.2.1 1, 4, .inl (fun _ => 0))), ((u 19), .inl (V.2.2.1 1, 0, .inl (fun _ => 0))), ((u 20), .inl (V.2.2.1 8, 5, .inr (.inr (.inr (.inr (fun j => some ((u 20) + 1 + j))))))), (((u 20) + 1 + 0), .inl (V.2.2.1 3, 60, .inl (fun _ => 0))), (((u 20) + 1 + 1), .inl (V.2.2.1 3, 60, .inl (fun _ => 0))), (((u 20) + 1 + 2), .inl (V.2.2.1 3, 60, .inl (fun _ => 0))), (((u 20) + 1 + 3), .inl (V.2.2.1 3, 60, .inl (fun _ => 0))), (((u 20) + 1 + 4), .inl (V.2.2.1 3, 60, .inl (fun _ => 0))), ((u 21), .inl (V.2.2.1 6, 4, .inr (.inr (.inr (.inr (fun j => some ((u 21) + 1 + j))))))), (((u 21) + 1 + 0), .inl (V.2.2.1 1, 5, .inl (fun _ => 0))), (((u 21) + 1 + 1), .inl (V.2.2.1 1, 5, .inl (fun _ => 0))), (((u 21) + 1 + 2), .inl (V.2.2.1 1, 5, .inl (fun _ => 0))), (((u 21) + 1 + 3), .inl (V.2.2.1 1, 5, .inl (fun _ => 0))), ((u 22), .inl (V.2.2.1 6, 4, .inr (.inr (.inr (.inr (fun j => some ((u 22) + 1 + j))))))), (((u 22) + 1 + 0), .inl (V.2.2.1 1, 5, .inl (fun _ => 0))), (((u 22) + 1 + 1), .inl (V.2.2.1 1, 5, .inl (fun _ => 0))), (((u 22) + 1 + 2), .inl (V.2.2.1 1, 5, .inl (fun _ => 0))), (((u 22) + 1 + 3), .inl (V.2.2.1 1, 5, .inl (fun _ => 0)))] : va_W)) C 88 (127 + 0) (zwa rfl) 2 (Nat.le_of_ble_eq_true rfl) rfl (List.mem_of_getElem? (i := 9) rfl) rfl (by decide +kernel) rfl rfl (Nat.le_of_ble_eq_true rfl) rfl (zws rfl) dL_told_88 ?_
    refine g_aload_n C 91 1 dL_told_91 rfl ?_
    refine g_iconst C 92 dL_told_92 ki_5 ?_
    refine g_ldc C 93 (hw := tw_1258) dL_told_93 ?_
    refine g_ldc C 95 (hw := tw_1259) dL_told_95 ?_
    refine g_iconst C 97 dL_told_97 ki_0 ?_
    refine g_iconst C 98 dL_told_98 ki_0 ?_
    refine g_iconst C 99 dL_told_99 ki_0 ?_
    obtain ⟨s_100, h100, h⟩ := bnd1_inv h
    refine g_callL C hZ hzA hX 100 [.ref (zA (Zc V) 0), .int (5 : Int32), .int (1936024932 : Int32), .int (536870912 : Int32), .int (0 : Int32), .int (0 : Int32), .int (0 : Int32)] [] rfl tw_1260 ms_L_put (Nat.le_of_ble_eq_true rfl) (Nat.le_of_ble_eq_true rfl) (Nat.le_of_ble_eq_true rfl) (Nat.le_of_ble_eq_true rfl) (Nat.le_of_ble_eq_true rfl) dL_told_100 (c_L_put V _ _ _ _ _ _ _ _ h100) ?_
    show Gn _ _ _ _ _ _ _ _ []
    refine g_aload_n C 103 1 dL_told_103 rfl ?_
    refine g_aload C 104 0 dL_told_104 rfl ?_
    refine g_getN C 106 (127 + 0) (zwa rfl) 3 (Nat.le_of_ble_eq_true rfl) rfl (List.mem_of_getElem? (i := 10) rfl) rfl dL_told_106 ?_
    obtain ⟨s_109, h109, h⟩ := bnd1_inv h
    refine g_callL C hZ hzA hX 109 [.ref (zA (Zc V) 0), .int (tdSeed p)] [] rfl tw_1275 ms_L_number (Nat.le_of_ble_eq_true rfl) (Nat.le_of_ble_eq_true rfl) (Nat.le_of_ble_eq_true rfl) (Nat.le_of_ble_eq_true rfl) (Nat.le_of_ble_eq_true rfl) dL_told_109 (c_L_number V _ _ _ h109) ?_
    show Gn _ _ _ _ _ _ _ _ []
    refine g_aload_n C 112 1 dL_told_112 rfl ?_
    refine g_bipush C 113 dL_told_113 kb_8 ?_
    refine g_ldc C 115 (hw := tw_1281) dL_told_115 ?_
    refine g_ldc C 117 (hw := tw_1282) dL_told_117 ?_
    refine g_iconst C 119 dL_told_119 ki_0 ?_
    refine g_iconst C 120 dL_told_120 ki_0 ?_
    refine g_iconst C 121 dL_told_121 ki_0 ?_
    obtain ⟨s_122, h122, h⟩ := bnd1_inv h
    refine g_callL C hZ hzA hX 122 [.ref (zA (Zc V) 0), .int (8 : Int32), .int (996372336 : Int32), .int (1768256288 : Int32), .int (0 : Int32), .int (0 : Int32), .int (0 : Int32)] [] rfl tw_1260 ms_L_put (Nat.le_of_ble_eq_true rfl) (Nat.le_of_ble_eq_true rfl) (Nat.le_of_ble_eq_true rfl) (Nat.le_of_ble_eq_true rfl) (Nat.le_of_ble_eq_true rfl) dL_told_122 (c_L_put V _ _ _ _ _ _ _ _ h122) ?_
    show Gn _ _ _ _ _ _ _ _ []
    refine g_aload_n C 125 1 dL_told_125 rfl ?_
    refine g_aload C 126 0 dL_told_126 rfl ?_
    refine g_getN C 128 (127 + 0) (zwa rfl) 0 (Nat.le_of_ble_eq_true rfl) rfl (List.mem_of_getElem? (i := 7) rfl) rfl dL_told_128 ?_
    obtain ⟨s_131, h131, h⟩ := bnd1_inv h
    refine g_callL C hZ hzA hX 131 [.ref (zA (Zc V) 0), .int (tdCop q)] [] rfl tw_1275 ms_L_number (Nat.le_of_ble_eq_true rfl) (Nat.le_of_ble_eq_true rfl) (Nat.le_of_ble_eq_true rfl) (Nat.le_of_ble_eq_true rfl) (Nat.le_of_ble_eq_true rfl) dL_told_131 (c_L_number V _ _ _ h131) ?_
    show Gn _ _ _ _ _ _ _ _ []
    refine g_aload_n C 134 1 dL_told_134 rfl ?_
    refine g_bipush C 135 dL_told_135 kb_9 ?_
    refine g_ldc C 137 (hw := tw_1283) dL_told_137 ?_
    refine g_ldc C 139 (hw := tw_1284) dL_told_139 ?_
    refine g_ldc C 141 (hw := tw_1259) dL_told_141 ?_
    refine g_iconst C 143 dL_told_143 ki_0 ?_
    refine g_iconst C 144 dL_told_144 ki_0 ?_
    obtain ⟨s_145, h145, h⟩ := bnd1_inv h
    refine g_callL C hZ hzA hX 145 [.ref (zA (Zc V) 0), .int (9 : Int32), .int (997225065 : Int32), .int (1835102841 : Int32), .int (536870912 : Int32), .int (0 : Int32), .int (0 : Int32)] [] rfl tw_1260 ms_L_put (Nat.le_of_ble_eq_true rfl) (Nat.le_of_ble_eq_true rfl) (Nat.le_of_ble_eq_true rfl) (Nat.le_of_ble_eq_true rfl) (Nat.le_of_ble_eq_true rfl) dL_told_145 (c_L_put V _ _ _ _ _ _ _ _ h145) ?_
    show Gn _ _ _ _ _ _ _ _ []
    refine g_aload_n C 148 1 dL_told_148 rfl ?_
    refine g_aload C 149 0 dL_told_149 rfl ?_
    refine g_getN C 151 (127 + 0) (zwa rfl) 6 (Nat.le_of_ble_eq_true rfl) rfl (List.mem_of_getElem? (i := 13) rfl) rfl dL_told_151 ?_
    obtain ⟨s_154, h154, h⟩ := bnd1_inv h
    refine g_callL C hZ hzA hX 154 [.ref (zA (Zc V) 0), .int (tdPri p q)] [] rfl tw_1275 ms_L_number (Nat.le_of_ble_eq_true rfl) (Nat.le_of_ble_eq_true rfl) (Nat.le_of_ble_eq_true rfl) (Nat.le_of_ble_eq_true rfl) (Nat.le_of_ble_eq_true rfl) dL_told_154 (c_L_number V _ _ _ h154) ?_
    show Gn _ _ _ _ _ _ _ _ []
    refine g_aload_n C 157 1 dL_told_157 rfl ?_
    refine g_bipush C 158 dL_told_158 kb_59 ?_
    obtain ⟨s_160, h160, h⟩ := bnd1_inv h
    refine g_callL C hZ hzA hX 160 [.ref (zA (Zc V) 0), .int (59 : Int32)] [] rfl tw_1278 ms_L_sign (Nat.le_of_ble_eq_true rfl) (Nat.le_of_ble_eq_true rfl) (Nat.le_of_ble_eq_true rfl) (Nat.le_of_ble_eq_true rfl) (Nat.le_of_ble_eq_true rfl) dL_told_160 (c_L_sign V _ _ _ h160) ?_
    show Gn _ _ _ _ _ _ _ _ []
    refine g_iconst C 163 dL_told_163 ki_0 ?_
    refine g_istore (L' := [(5, .int (0 : Int32)), (4, .ref q0), (0, .ref (zA (Zc V) 0)), (1, .ref ra), (2, .int p), (3, .int q)]) C 164 dL_told_164 (hN _ (Nat.le_of_ble_eq_true rfl)) rfl ?_
    obtain ⟨s3, h3, h⟩ := bnd1_inv h
    rw [hnc5, ix_nI (by omega)] at h3
    rw [hnf5, ix_nI (by omega)] at h
    refine g_sub [0, 1, 2, 3, 4, 5] rfl ?_
    exact loopC nc 0 _ _ (by omega) h3 h
  refine g_if_ne C 72 79 dL_told_72 (by decide) (fun c0 => ?_) (fun c0 => ?_)
  · refine g_iload_n C 79 4 dL_told_79 rfl ?_
    refine g_iconst C 80 dL_told_80 ki_3 ?_
    refine g_ishr C 81 dL_told_81 ?_
    refine g_sipush C 82 dL_told_82 ks_255 ?_
    refine g_iand C 85 dL_told_85 ?_
    refine g_iconst C 86 dL_told_86 ki_5 ?_
    refine g_irem C 87 dL_told_87 (by decide) ?_
    have e : tdFor p q = _ := if_neg c0
    rw [e] at k88
    exact k88
  · refine g_iconst C 75 dL_told_75 ki_0 ?_
    refine g_goto C 76 88 dL_told_76 (by decide) ?_
    have e : tdFor p q = 0 := if_pos (Decidable.not_not.mp c0)
    rw [e] at k88
    exact k88
