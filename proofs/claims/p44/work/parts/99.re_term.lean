/-! term -/
theorem tw_1260 : Cond.methodLink RL 30 yL_put ∈ gw_tbl := gw_mem 1260 (by decide +kernel) (by decide +kernel)
theorem tw_1275 : Cond.methodLink RL 23 yL_number ∈ gw_tbl := gw_mem 1275 (by decide +kernel) (by decide +kernel)
theorem tw_1286 : Cond.methodLink RL 26 yL_cell ∈ gw_tbl := gw_mem 1286 (by decide +kernel) (by decide +kernel)
theorem tw_1295 : Cond.static yL_term ∈ gw_tbl := gw_mem 1295 (by decide +kernel) (by decide +kernel)
theorem tw_1296 : Cond.code yL_term cL_term 5 (some (.array .int)) ∈ gw_tbl := gw_mem 1296 (by decide +kernel) (by decide +kernel)
theorem tw_1297 : Cond.constant RL 29 (729295360 : Int32) ∈ gw_tbl := gw_mem 1297 (by decide +kernel) (by decide +kernel)
theorem tw_1298 : Cond.constant RL 34 (544746867 : Int32) ∈ gw_tbl := gw_mem 1298 (by decide +kernel) (by decide +kernel)
theorem tw_1299 : Cond.constant RL 35 (1952542064 : Int32) ∈ gw_tbl := gw_mem 1299 (by decide +kernel) (by decide +kernel)
theorem tw_1300 : Cond.constant RL 36 (721420288 : Int32) ∈ gw_tbl := gw_mem 1300 (by decide +kernel) (by decide +kernel)
theorem tw_1301 : Cond.constant RL 37 (540160047 : Int32) ∈ gw_tbl := gw_mem 1301 (by decide +kernel) (by decide +kernel)
theorem tw_1302 : Cond.constant RL 38 (671088640 : Int32) ∈ gw_tbl := gw_mem 1302 (by decide +kernel) (by decide +kernel)
theorem tw_1303 : Cond.constant RL 39 (707931503 : Int32) ∈ gw_tbl := gw_mem 1303 (by decide +kernel) (by decide +kernel)
theorem tw_1304 : Cond.constant RL 40 (1919510377 : Int32) ∈ gw_tbl := gw_mem 1304 (by decide +kernel) (by decide +kernel)
theorem tw_1305 : Cond.constant RL 41 (1848442880 : Int32) ∈ gw_tbl := gw_mem 1305 (by decide +kernel) (by decide +kernel)
theorem tw_1306 : Cond.constant RL 42 (544437345 : Int32) ∈ gw_tbl := gw_mem 1306 (by decide +kernel) (by decide +kernel)
theorem tw_1307 : Cond.constant RL 43 (1836067328 : Int32) ∈ gw_tbl := gw_mem 1307 (by decide +kernel) (by decide +kernel)
theorem tw_1308 : Cond.constant RL 44 (791882616 : Int32) ∈ gw_tbl := gw_mem 1308 (by decide +kernel) (by decide +kernel)
theorem dL_term_0 : decode cL_term 0 = .ok (.iconst 3, 1) := by decide +kernel
theorem dL_term_1 : decode cL_term 1 = .ok (.newarray .int, 2) := by decide +kernel
theorem dL_term_3 : decode cL_term 3 = .ok (.dup, 1) := by decide +kernel
theorem dL_term_4 : decode cL_term 4 = .ok (.iconst 0, 1) := by decide +kernel
theorem dL_term_5 : decode cL_term 5 = .ok (.iload_n 1, 1) := by decide +kernel
theorem dL_term_6 : decode cL_term 6 = .ok (.bipush 7, 2) := by decide +kernel
theorem dL_term_8 : decode cL_term 8 = .ok (.iand, 1) := by decide +kernel
theorem dL_term_9 : decode cL_term 9 = .ok (.iastore, 1) := by decide +kernel
theorem dL_term_10 : decode cL_term 10 = .ok (.dup, 1) := by decide +kernel
theorem dL_term_11 : decode cL_term 11 = .ok (.iconst 1, 1) := by decide +kernel
theorem dL_term_12 : decode cL_term 12 = .ok (.iload_n 1, 1) := by decide +kernel
theorem dL_term_13 : decode cL_term 13 = .ok (.iconst 3, 1) := by decide +kernel
theorem dL_term_14 : decode cL_term 14 = .ok (.ishr, 1) := by decide +kernel
theorem dL_term_15 : decode cL_term 15 = .ok (.iconst 3, 1) := by decide +kernel
theorem dL_term_16 : decode cL_term 16 = .ok (.iand, 1) := by decide +kernel
theorem dL_term_17 : decode cL_term 17 = .ok (.iastore, 1) := by decide +kernel
theorem dL_term_18 : decode cL_term 18 = .ok (.dup, 1) := by decide +kernel
theorem dL_term_19 : decode cL_term 19 = .ok (.iconst 2, 1) := by decide +kernel
theorem dL_term_20 : decode cL_term 20 = .ok (.iload_n 1, 1) := by decide +kernel
theorem dL_term_21 : decode cL_term 21 = .ok (.iconst 5, 1) := by decide +kernel
theorem dL_term_22 : decode cL_term 22 = .ok (.ishr, 1) := by decide +kernel
theorem dL_term_23 : decode cL_term 23 = .ok (.sipush 255, 3) := by decide +kernel
theorem dL_term_26 : decode cL_term 26 = .ok (.iand, 1) := by decide +kernel
theorem dL_term_27 : decode cL_term 27 = .ok (.iload_n 2, 1) := by decide +kernel
theorem dL_term_28 : decode cL_term 28 = .ok (.irem, 1) := by decide +kernel
theorem dL_term_29 : decode cL_term 29 = .ok (.iastore, 1) := by decide +kernel
theorem dL_term_30 : decode cL_term 30 = .ok (.astore_n 3, 1) := by decide +kernel
theorem dL_term_31 : decode cL_term 31 = .ok (.aload_n 3, 1) := by decide +kernel
theorem dL_term_32 : decode cL_term 32 = .ok (.iconst 1, 1) := by decide +kernel
theorem dL_term_33 : decode cL_term 33 = .ok (.iaload, 1) := by decide +kernel
theorem dL_term_34 : decode cL_term 34 = .ok (.istore 4, 2) := by decide +kernel
theorem dL_term_36 : decode cL_term 36 = .ok (.aload_n 3, 1) := by decide +kernel
theorem dL_term_37 : decode cL_term 37 = .ok (.iconst 0, 1) := by decide +kernel
theorem dL_term_38 : decode cL_term 38 = .ok (.iaload, 1) := by decide +kernel
theorem dL_term_39 : decode cL_term 39 = .ok (.ifCond .ne 18, 3) := by decide +kernel
theorem dL_term_42 : decode cL_term 42 = .ok (.aload_n 0, 1) := by decide +kernel
theorem dL_term_43 : decode cL_term 43 = .ok (.bipush 32, 2) := by decide +kernel
theorem dL_term_45 : decode cL_term 45 = .ok (.invokestatic 17, 3) := by decide +kernel
theorem dL_term_48 : decode cL_term 48 = .ok (.aload_n 0, 1) := by decide +kernel
theorem dL_term_49 : decode cL_term 49 = .ok (.iload 4, 2) := by decide +kernel
theorem dL_term_51 : decode cL_term 51 = .ok (.invokestatic 23, 3) := by decide +kernel
theorem dL_term_54 : decode cL_term 54 = .ok (.goto 229, 3) := by decide +kernel
theorem dL_term_57 : decode cL_term 57 = .ok (.aload_n 3, 1) := by decide +kernel
theorem dL_term_58 : decode cL_term 58 = .ok (.iconst 0, 1) := by decide +kernel
theorem dL_term_59 : decode cL_term 59 = .ok (.iaload, 1) := by decide +kernel
theorem dL_term_60 : decode cL_term 60 = .ok (.iconst 1, 1) := by decide +kernel
theorem dL_term_61 : decode cL_term 61 = .ok (.if_icmp .ne 13, 3) := by decide +kernel
theorem dL_term_64 : decode cL_term 64 = .ok (.aload_n 0, 1) := by decide +kernel
theorem dL_term_65 : decode cL_term 65 = .ok (.aload_n 3, 1) := by decide +kernel
theorem dL_term_66 : decode cL_term 66 = .ok (.iconst 2, 1) := by decide +kernel
theorem dL_term_67 : decode cL_term 67 = .ok (.iaload, 1) := by decide +kernel
theorem dL_term_68 : decode cL_term 68 = .ok (.invokestatic 26, 3) := by decide +kernel
theorem dL_term_71 : decode cL_term 71 = .ok (.goto 212, 3) := by decide +kernel
theorem dL_term_74 : decode cL_term 74 = .ok (.aload_n 3, 1) := by decide +kernel
theorem dL_term_75 : decode cL_term 75 = .ok (.iconst 0, 1) := by decide +kernel
theorem dL_term_76 : decode cL_term 76 = .ok (.iaload, 1) := by decide +kernel
theorem dL_term_77 : decode cL_term 77 = .ok (.iconst 2, 1) := by decide +kernel
theorem dL_term_78 : decode cL_term 78 = .ok (.if_icmp .ne 30, 3) := by decide +kernel
theorem dL_term_81 : decode cL_term 81 = .ok (.aload_n 0, 1) := by decide +kernel
theorem dL_term_82 : decode cL_term 82 = .ok (.aload_n 3, 1) := by decide +kernel
theorem dL_term_83 : decode cL_term 83 = .ok (.iconst 2, 1) := by decide +kernel
theorem dL_term_84 : decode cL_term 84 = .ok (.iaload, 1) := by decide +kernel
theorem dL_term_85 : decode cL_term 85 = .ok (.invokestatic 26, 3) := by decide +kernel
theorem dL_term_88 : decode cL_term 88 = .ok (.aload_n 0, 1) := by decide +kernel
theorem dL_term_89 : decode cL_term 89 = .ok (.iconst 3, 1) := by decide +kernel
theorem dL_term_90 : decode cL_term 90 = .ok (.ldc 29, 2) := by decide +kernel
theorem dL_term_92 : decode cL_term 92 = .ok (.iconst 0, 1) := by decide +kernel
theorem dL_term_93 : decode cL_term 93 = .ok (.iconst 0, 1) := by decide +kernel
theorem dL_term_94 : decode cL_term 94 = .ok (.iconst 0, 1) := by decide +kernel
theorem dL_term_95 : decode cL_term 95 = .ok (.iconst 0, 1) := by decide +kernel
theorem dL_term_96 : decode cL_term 96 = .ok (.invokestatic 30, 3) := by decide +kernel
theorem dL_term_99 : decode cL_term 99 = .ok (.aload_n 0, 1) := by decide +kernel
theorem dL_term_100 : decode cL_term 100 = .ok (.iload 4, 2) := by decide +kernel
theorem dL_term_102 : decode cL_term 102 = .ok (.invokestatic 23, 3) := by decide +kernel
theorem dL_term_105 : decode cL_term 105 = .ok (.goto 178, 3) := by decide +kernel
theorem dL_term_108 : decode cL_term 108 = .ok (.aload_n 3, 1) := by decide +kernel
theorem dL_term_109 : decode cL_term 109 = .ok (.iconst 0, 1) := by decide +kernel
theorem dL_term_110 : decode cL_term 110 = .ok (.iaload, 1) := by decide +kernel
theorem dL_term_111 : decode cL_term 111 = .ok (.iconst 3, 1) := by decide +kernel
theorem dL_term_112 : decode cL_term 112 = .ok (.if_icmp .ne 26, 3) := by decide +kernel
theorem dL_term_115 : decode cL_term 115 = .ok (.aload_n 0, 1) := by decide +kernel
theorem dL_term_116 : decode cL_term 116 = .ok (.bipush 9, 2) := by decide +kernel
theorem dL_term_118 : decode cL_term 118 = .ok (.ldc 34, 2) := by decide +kernel
theorem dL_term_120 : decode cL_term 120 = .ok (.ldc 35, 2) := by decide +kernel
theorem dL_term_122 : decode cL_term 122 = .ok (.ldc 36, 2) := by decide +kernel
theorem dL_term_124 : decode cL_term 124 = .ok (.iconst 0, 1) := by decide +kernel
theorem dL_term_125 : decode cL_term 125 = .ok (.iconst 0, 1) := by decide +kernel
theorem dL_term_126 : decode cL_term 126 = .ok (.invokestatic 30, 3) := by decide +kernel
theorem dL_term_129 : decode cL_term 129 = .ok (.aload_n 0, 1) := by decide +kernel
theorem dL_term_130 : decode cL_term 130 = .ok (.iload 4, 2) := by decide +kernel
theorem dL_term_132 : decode cL_term 132 = .ok (.invokestatic 23, 3) := by decide +kernel
theorem dL_term_135 : decode cL_term 135 = .ok (.goto 148, 3) := by decide +kernel
theorem dL_term_138 : decode cL_term 138 = .ok (.aload_n 3, 1) := by decide +kernel
theorem dL_term_139 : decode cL_term 139 = .ok (.iconst 0, 1) := by decide +kernel
theorem dL_term_140 : decode cL_term 140 = .ok (.iaload, 1) := by decide +kernel
theorem dL_term_141 : decode cL_term 141 = .ok (.iconst 4, 1) := by decide +kernel
theorem dL_term_142 : decode cL_term 142 = .ok (.if_icmp .ne 43, 3) := by decide +kernel
theorem dL_term_145 : decode cL_term 145 = .ok (.aload_n 0, 1) := by decide +kernel
theorem dL_term_146 : decode cL_term 146 = .ok (.iconst 5, 1) := by decide +kernel
theorem dL_term_147 : decode cL_term 147 = .ok (.ldc 37, 2) := by decide +kernel
theorem dL_term_149 : decode cL_term 149 = .ok (.ldc 38, 2) := by decide +kernel
theorem dL_term_151 : decode cL_term 151 = .ok (.iconst 0, 1) := by decide +kernel
theorem dL_term_152 : decode cL_term 152 = .ok (.iconst 0, 1) := by decide +kernel
theorem dL_term_153 : decode cL_term 153 = .ok (.iconst 0, 1) := by decide +kernel
theorem dL_term_154 : decode cL_term 154 = .ok (.invokestatic 30, 3) := by decide +kernel
theorem dL_term_157 : decode cL_term 157 = .ok (.aload_n 0, 1) := by decide +kernel
theorem dL_term_158 : decode cL_term 158 = .ok (.aload_n 3, 1) := by decide +kernel
theorem dL_term_159 : decode cL_term 159 = .ok (.iconst 2, 1) := by decide +kernel
theorem dL_term_160 : decode cL_term 160 = .ok (.iaload, 1) := by decide +kernel
theorem dL_term_161 : decode cL_term 161 = .ok (.invokestatic 26, 3) := by decide +kernel
theorem dL_term_164 : decode cL_term 164 = .ok (.aload_n 0, 1) := by decide +kernel
theorem dL_term_165 : decode cL_term 165 = .ok (.bipush 45, 2) := by decide +kernel
theorem dL_term_167 : decode cL_term 167 = .ok (.invokestatic 17, 3) := by decide +kernel
theorem dL_term_170 : decode cL_term 170 = .ok (.aload_n 0, 1) := by decide +kernel
theorem dL_term_171 : decode cL_term 171 = .ok (.iload 4, 2) := by decide +kernel
theorem dL_term_173 : decode cL_term 173 = .ok (.invokestatic 23, 3) := by decide +kernel
theorem dL_term_176 : decode cL_term 176 = .ok (.aload_n 0, 1) := by decide +kernel
theorem dL_term_177 : decode cL_term 177 = .ok (.bipush 41, 2) := by decide +kernel
theorem dL_term_179 : decode cL_term 179 = .ok (.invokestatic 17, 3) := by decide +kernel
theorem dL_term_182 : decode cL_term 182 = .ok (.goto 101, 3) := by decide +kernel
theorem dL_term_185 : decode cL_term 185 = .ok (.aload_n 3, 1) := by decide +kernel
theorem dL_term_186 : decode cL_term 186 = .ok (.iconst 0, 1) := by decide +kernel
theorem dL_term_187 : decode cL_term 187 = .ok (.iaload, 1) := by decide +kernel
theorem dL_term_188 : decode cL_term 188 = .ok (.iconst 5, 1) := by decide +kernel
theorem dL_term_189 : decode cL_term 189 = .ok (.if_icmp .ne 33, 3) := by decide +kernel
theorem dL_term_192 : decode cL_term 192 = .ok (.aload_n 0, 1) := by decide +kernel
theorem dL_term_193 : decode cL_term 193 = .ok (.aload_n 3, 1) := by decide +kernel
theorem dL_term_194 : decode cL_term 194 = .ok (.iconst 2, 1) := by decide +kernel
theorem dL_term_195 : decode cL_term 195 = .ok (.iaload, 1) := by decide +kernel
theorem dL_term_196 : decode cL_term 196 = .ok (.invokestatic 26, 3) := by decide +kernel
theorem dL_term_199 : decode cL_term 199 = .ok (.aload_n 0, 1) := by decide +kernel
theorem dL_term_200 : decode cL_term 200 = .ok (.bipush 10, 2) := by decide +kernel
theorem dL_term_202 : decode cL_term 202 = .ok (.ldc 39, 2) := by decide +kernel
theorem dL_term_204 : decode cL_term 204 = .ok (.ldc 40, 2) := by decide +kernel
theorem dL_term_206 : decode cL_term 206 = .ok (.ldc 41, 2) := by decide +kernel
theorem dL_term_208 : decode cL_term 208 = .ok (.iconst 0, 1) := by decide +kernel
theorem dL_term_209 : decode cL_term 209 = .ok (.iconst 0, 1) := by decide +kernel
theorem dL_term_210 : decode cL_term 210 = .ok (.invokestatic 30, 3) := by decide +kernel
theorem dL_term_213 : decode cL_term 213 = .ok (.aload_n 0, 1) := by decide +kernel
theorem dL_term_214 : decode cL_term 214 = .ok (.iload 4, 2) := by decide +kernel
theorem dL_term_216 : decode cL_term 216 = .ok (.invokestatic 23, 3) := by decide +kernel
theorem dL_term_219 : decode cL_term 219 = .ok (.goto 64, 3) := by decide +kernel
theorem dL_term_222 : decode cL_term 222 = .ok (.aload_n 3, 1) := by decide +kernel
theorem dL_term_223 : decode cL_term 223 = .ok (.iconst 0, 1) := by decide +kernel
theorem dL_term_224 : decode cL_term 224 = .ok (.iaload, 1) := by decide +kernel
theorem dL_term_225 : decode cL_term 225 = .ok (.bipush 6, 2) := by decide +kernel
theorem dL_term_227 : decode cL_term 227 = .ok (.if_icmp .ne 38, 3) := by decide +kernel
theorem dL_term_230 : decode cL_term 230 = .ok (.aload_n 0, 1) := by decide +kernel
theorem dL_term_231 : decode cL_term 231 = .ok (.bipush 7, 2) := by decide +kernel
theorem dL_term_233 : decode cL_term 233 = .ok (.ldc 42, 2) := by decide +kernel
theorem dL_term_235 : decode cL_term 235 = .ok (.ldc 43, 2) := by decide +kernel
theorem dL_term_237 : decode cL_term 237 = .ok (.iconst 0, 1) := by decide +kernel
theorem dL_term_238 : decode cL_term 238 = .ok (.iconst 0, 1) := by decide +kernel
theorem dL_term_239 : decode cL_term 239 = .ok (.iconst 0, 1) := by decide +kernel
theorem dL_term_240 : decode cL_term 240 = .ok (.invokestatic 30, 3) := by decide +kernel
theorem dL_term_243 : decode cL_term 243 = .ok (.aload_n 0, 1) := by decide +kernel
theorem dL_term_244 : decode cL_term 244 = .ok (.iload 4, 2) := by decide +kernel
theorem dL_term_246 : decode cL_term 246 = .ok (.invokestatic 23, 3) := by decide +kernel
theorem dL_term_249 : decode cL_term 249 = .ok (.aload_n 0, 1) := by decide +kernel
theorem dL_term_250 : decode cL_term 250 = .ok (.bipush 45, 2) := by decide +kernel
theorem dL_term_252 : decode cL_term 252 = .ok (.invokestatic 17, 3) := by decide +kernel
theorem dL_term_255 : decode cL_term 255 = .ok (.aload_n 0, 1) := by decide +kernel
theorem dL_term_256 : decode cL_term 256 = .ok (.aload_n 3, 1) := by decide +kernel
theorem dL_term_257 : decode cL_term 257 = .ok (.iconst 2, 1) := by decide +kernel
theorem dL_term_258 : decode cL_term 258 = .ok (.iaload, 1) := by decide +kernel
theorem dL_term_259 : decode cL_term 259 = .ok (.invokestatic 26, 3) := by decide +kernel
theorem dL_term_262 : decode cL_term 262 = .ok (.goto 21, 3) := by decide +kernel
theorem dL_term_265 : decode cL_term 265 = .ok (.aload_n 0, 1) := by decide +kernel
theorem dL_term_266 : decode cL_term 266 = .ok (.aload_n 3, 1) := by decide +kernel
theorem dL_term_267 : decode cL_term 267 = .ok (.iconst 2, 1) := by decide +kernel
theorem dL_term_268 : decode cL_term 268 = .ok (.iaload, 1) := by decide +kernel
theorem dL_term_269 : decode cL_term 269 = .ok (.invokestatic 26, 3) := by decide +kernel
theorem dL_term_272 : decode cL_term 272 = .ok (.aload_n 0, 1) := by decide +kernel
theorem dL_term_273 : decode cL_term 273 = .ok (.iconst 4, 1) := by decide +kernel
theorem dL_term_274 : decode cL_term 274 = .ok (.ldc 44, 2) := by decide +kernel
theorem dL_term_276 : decode cL_term 276 = .ok (.iconst 0, 1) := by decide +kernel
theorem dL_term_277 : decode cL_term 277 = .ok (.iconst 0, 1) := by decide +kernel
theorem dL_term_278 : decode cL_term 278 = .ok (.iconst 0, 1) := by decide +kernel
theorem dL_term_279 : decode cL_term 279 = .ok (.iconst 0, 1) := by decide +kernel
theorem dL_term_280 : decode cL_term 280 = .ok (.invokestatic 30, 3) := by decide +kernel
theorem dL_term_283 : decode cL_term 283 = .ok (.aload_n 3, 1) := by decide +kernel
theorem dL_term_284 : decode cL_term 284 = .ok (.areturn, 1) := by decide +kernel
theorem ms_L_term : Ms yL_term cL_term 5 (some (.array .int)) 3 := ⟨⟨by decide +kernel, tw_1296, tw_38, by decide +kernel, by decide +kernel⟩, tw_1295⟩
def M_L_term (σ : Wd) (v1 v2 : Int32) : Option Wd :=
  if (v1 &&& (7 : Int32)) = (0 : Int32) then (bnd1 (M_L_sign σ (32 : Int32)) fun s_45 => bnd1 (M_L_number s_45 ((v1 >>> ((3 : Int32) &&& 31)) &&& (3 : Int32))) fun s_51 => some s_51) else (if (v1 &&& (7 : Int32)) = (1 : Int32) then (bnd1 (M_L_cell σ (((v1 >>> ((5 : Int32) &&& 31)) &&& (255 : Int32)) - ((v1 >>> ((5 : Int32) &&& 31)) &&& (255 : Int32)) / v2 * v2)) fun s_68 => some s_68) else (if (v1 &&& (7 : Int32)) = (2 : Int32) then (bnd1 (M_L_cell σ (((v1 >>> ((5 : Int32) &&& 31)) &&& (255 : Int32)) - ((v1 >>> ((5 : Int32) &&& 31)) &&& (255 : Int32)) / v2 * v2)) fun s_85 => bnd1 (M_L_put s_85 (3 : Int32) (729295360 : Int32) (0 : Int32) (0 : Int32) (0 : Int32) (0 : Int32)) fun s_96 => bnd1 (M_L_number s_96 ((v1 >>> ((3 : Int32) &&& 31)) &&& (3 : Int32))) fun s_102 => some s_102) else (if (v1 &&& (7 : Int32)) = (3 : Int32) then (bnd1 (M_L_put σ (9 : Int32) (544746867 : Int32) (1952542064 : Int32) (721420288 : Int32) (0 : Int32) (0 : Int32)) fun s_126 => bnd1 (M_L_number s_126 ((v1 >>> ((3 : Int32) &&& 31)) &&& (3 : Int32))) fun s_132 => some s_132) else (if (v1 &&& (7 : Int32)) = (4 : Int32) then (bnd1 (M_L_put σ (5 : Int32) (540160047 : Int32) (671088640 : Int32) (0 : Int32) (0 : Int32) (0 : Int32)) fun s_154 => bnd1 (M_L_cell s_154 (((v1 >>> ((5 : Int32) &&& 31)) &&& (255 : Int32)) - ((v1 >>> ((5 : Int32) &&& 31)) &&& (255 : Int32)) / v2 * v2)) fun s_161 => bnd1 (M_L_sign s_161 (45 : Int32)) fun s_167 => bnd1 (M_L_number s_167 ((v1 >>> ((3 : Int32) &&& 31)) &&& (3 : Int32))) fun s_173 => bnd1 (M_L_sign s_173 (41 : Int32)) fun s_179 => some s_179) else (if (v1 &&& (7 : Int32)) = (5 : Int32) then (bnd1 (M_L_cell σ (((v1 >>> ((5 : Int32) &&& 31)) &&& (255 : Int32)) - ((v1 >>> ((5 : Int32) &&& 31)) &&& (255 : Int32)) / v2 * v2)) fun s_196 => bnd1 (M_L_put s_196 (10 : Int32) (707931503 : Int32) (1919510377 : Int32) (1848442880 : Int32) (0 : Int32) (0 : Int32)) fun s_210 => bnd1 (M_L_number s_210 ((v1 >>> ((3 : Int32) &&& 31)) &&& (3 : Int32))) fun s_216 => some s_216) else (if (v1 &&& (7 : Int32)) = (6 : Int32) then (bnd1 (M_L_put σ (7 : Int32) (544437345 : Int32) (1836067328 : Int32) (0 : Int32) (0 : Int32) (0 : Int32)) fun s_240 => bnd1 (M_L_number s_240 ((v1 >>> ((3 : Int32) &&& 31)) &&& (3 : Int32))) fun s_246 => bnd1 (M_L_sign s_246 (45 : Int32)) fun s_252 => bnd1 (M_L_cell s_252 (((v1 >>> ((5 : Int32) &&& 31)) &&& (255 : Int32)) - ((v1 >>> ((5 : Int32) &&& 31)) &&& (255 : Int32)) / v2 * v2)) fun s_259 => some s_259) else (bnd1 (M_L_cell σ (((v1 >>> ((5 : Int32) &&& 31)) &&& (255 : Int32)) - ((v1 >>> ((5 : Int32) &&& 31)) &&& (255 : Int32)) / v2 * v2)) fun s_269 => bnd1 (M_L_put s_269 (4 : Int32) (791882616 : Int32) (0 : Int32) (0 : Int32) (0 : Int32) (0 : Int32)) fun s_280 => some s_280)))))))
set_option maxRecDepth 100000 in
set_option maxHeartbeats 4000000 in
theorem t_term (l : Launch) (V : Ct_V) (σ : Wd) (v1 v2 : Int32) (hv2 : ¬ v2 = 0) {σ2 : Wd} (h : M_L_term σ v1 v2 = some σ2) : Cv l V yL_term cL_term 5 (some (.array .int)) 4 90 1 3 [.ref (zA (Zc V) 0), .int v1, .int v2] [] σ (fun rv σ' nl => σ' = σ2 ∧ ∃ q, rv = some (.ref q) ∧ nl = [(q, .inl (V.2.2.1 1, 3, .inl (tm3 (v1 &&& (7 : Int32)) ((v1 >>> ((3 : Int32) &&& 31)) &&& (3 : Int32)) (((v1 >>> ((5 : Int32) &&& 31)) &&& (255 : Int32)) - ((v1 >>> ((5 : Int32) &&& 31)) &&& (255 : Int32)) / v2 * v2))))]) := by
  refine Cv_intro (own := RL) (by decide +kernel) rfl (Nat.le_of_ble_eq_true rfl) [(0, .ref (zA (Zc V) 0)), (1, .int v1), (2, .int v2)] rfl (fun K hl hn C hcs hc hX hZ R => ?_)
  have hN := nl_of (K := K) hn
  have hzA : ∀ q, zS (Zc V) q → (zS (Zc V) q ∨ (Ks K).heap.size ≤ q) := fun q hq => Or.inl hq
  unfold M_L_term at h
  refine g_iconst C 0 dL_term_0 ki_3 ?_
  refine g_newi C 1 3 (by decide) rfl (Nat.le_of_ble_eq_true rfl) (Nat.le_of_ble_eq_true rfl) (Nat.le_of_ble_eq_true rfl) dL_term_1 (fun q1 => ?_)
  refine g_eq (ws2 := zW (Zc V) σ ++ [(q1, .inl (V.2.2.1 1, 3, .inl (fun _ => 0)))]) (zwp rfl) ?_
  refine g_dup C 3 dL_term_3 rfl ?_
  refine g_iconst C 4 dL_term_4 ki_0 ?_
  refine g_iload_n C 5 1 dL_term_5 rfl ?_
  refine g_bipush C 6 dL_term_6 kb_7 ?_
  refine g_iand C 8 dL_term_8 ?_
  refine g_iast (f' := upd (fun _ => 0) (ix (0 : Int32)) (v1 &&& (7 : Int32))) (ws' := zW (Zc V) σ ++ [(q1, .inl (V.2.2.1 1, 3, .inl (upd (fun _ => 0) (ix (0 : Int32)) (v1 &&& (7 : Int32)))))]) C 9 (127 + 0) (zwa rfl) (by decide) rfl (zws rfl) dL_term_9 ?_
  refine g_dup C 10 dL_term_10 rfl ?_
  refine g_iconst C 11 dL_term_11 ki_1 ?_
  refine g_iload_n C 12 1 dL_term_12 rfl ?_
  refine g_iconst C 13 dL_term_13 ki_3 ?_
  refine g_ishr C 14 dL_term_14 ?_
  refine g_iconst C 15 dL_term_15 ki_3 ?_
  refine g_iand C 16 dL_term_16 ?_
  refine g_iast (f' := upd (upd (fun _ => 0) (ix (0 : Int32)) (v1 &&& (7 : Int32))) (ix (1 : Int32)) ((v1 >>> ((3 : Int32) &&& 31)) &&& (3 : Int32))) (ws' := zW (Zc V) σ ++ [(q1, .inl (V.2.2.1 1, 3, .inl (upd (upd (fun _ => 0) (ix (0 : Int32)) (v1 &&& (7 : Int32))) (ix (1 : Int32)) ((v1 >>> ((3 : Int32) &&& 31)) &&& (3 : Int32)))))]) C 17 (127 + 0) (zwa rfl) (by decide) rfl (zws rfl) dL_term_17 ?_
  refine g_dup C 18 dL_term_18 rfl ?_
  refine g_iconst C 19 dL_term_19 ki_2 ?_
  refine g_iload_n C 20 1 dL_term_20 rfl ?_
  refine g_iconst C 21 dL_term_21 ki_5 ?_
  refine g_ishr C 22 dL_term_22 ?_
  refine g_sipush C 23 dL_term_23 ks_255 ?_
  refine g_iand C 26 dL_term_26 ?_
  refine g_iload_n C 27 2 dL_term_27 rfl ?_
  refine g_irem C 28 dL_term_28 hv2 ?_
  refine g_iast (f' := upd (upd (upd (fun _ => 0) (ix (0 : Int32)) (v1 &&& (7 : Int32))) (ix (1 : Int32)) ((v1 >>> ((3 : Int32) &&& 31)) &&& (3 : Int32))) (ix (2 : Int32)) (((v1 >>> ((5 : Int32) &&& 31)) &&& (255 : Int32)) - ((v1 >>> ((5 : Int32) &&& 31)) &&& (255 : Int32)) / v2 * v2)) (ws' := zW (Zc V) σ ++ [(q1, .inl (V.2.2.1 1, 3, .inl (upd (upd (upd (fun _ => 0) (ix (0 : Int32)) (v1 &&& (7 : Int32))) (ix (1 : Int32)) ((v1 >>> ((3 : Int32) &&& 31)) &&& (3 : Int32))) (ix (2 : Int32)) (((v1 >>> ((5 : Int32) &&& 31)) &&& (255 : Int32)) - ((v1 >>> ((5 : Int32) &&& 31)) &&& (255 : Int32)) / v2 * v2))))]) C 29 (127 + 0) (zwa rfl) (by decide) rfl (zws rfl) dL_term_29 ?_
  refine g_eq (ws2 := zW (Zc V) σ ++ [(q1, .inl (V.2.2.1 1, 3, .inl (tm3 (v1 &&& (7 : Int32)) ((v1 >>> ((3 : Int32) &&& 31)) &&& (3 : Int32)) (((v1 >>> ((5 : Int32) &&& 31)) &&& (255 : Int32)) - ((v1 >>> ((5 : Int32) &&& 31)) &&& (255 : Int32)) / v2 * v2))))]) rfl ?_
  refine g_astore_n (L' := [(3, .ref q1), (0, .ref (zA (Zc V) 0)), (1, .int v1), (2, .int v2)]) C 30 dL_term_30 rfl (hN _ (Nat.le_of_ble_eq_true rfl)) rfl ?_
  refine g_aload_n C 31 0 dL_term_31 rfl ?_
  refine g_iconst C 32 dL_term_32 ki_1 ?_
  refine g_iald C 33 (127 + 0) (zwa rfl) (by decide) dL_term_33 ?_
  rw [show ((tm3 (v1 &&& (7 : Int32)) ((v1 >>> ((3 : Int32) &&& 31)) &&& (3 : Int32)) (((v1 >>> ((5 : Int32) &&& 31)) &&& (255 : Int32)) - ((v1 >>> ((5 : Int32) &&& 31)) &&& (255 : Int32)) / v2 * v2)) (ix (1 : Int32))) = ((v1 >>> ((3 : Int32) &&& 31)) &&& (3 : Int32)) from tm3_1]
  refine g_istore (L' := [(4, .int ((v1 >>> ((3 : Int32) &&& 31)) &&& (3 : Int32))), (3, .ref q1), (0, .ref (zA (Zc V) 0)), (1, .int v1), (2, .int v2)]) C 34 dL_term_34 (hN _ (Nat.le_of_ble_eq_true rfl)) rfl ?_
  refine g_aload_n C 36 1 dL_term_36 rfl ?_
  refine g_iconst C 37 dL_term_37 ki_0 ?_
  refine g_iald C 38 (127 + 0) (zwa rfl) (by decide) dL_term_38 ?_
  rw [show ((tm3 (v1 &&& (7 : Int32)) ((v1 >>> ((3 : Int32) &&& 31)) &&& (3 : Int32)) (((v1 >>> ((5 : Int32) &&& 31)) &&& (255 : Int32)) - ((v1 >>> ((5 : Int32) &&& 31)) &&& (255 : Int32)) / v2 * v2)) (ix (0 : Int32))) = (v1 &&& (7 : Int32)) from tm3_0]
  refine g_if_ne C 39 57 dL_term_39 (by decide) (fun c39 => ?_) (fun c39 => ?_)
  · rw [if_neg (fun z => c39 z)] at h
    refine g_aload_n C 57 1 dL_term_57 rfl ?_
    refine g_iconst C 58 dL_term_58 ki_0 ?_
    refine g_iald C 59 (127 + 0) (zwa rfl) (by decide) dL_term_59 ?_
    rw [show ((tm3 (v1 &&& (7 : Int32)) ((v1 >>> ((3 : Int32) &&& 31)) &&& (3 : Int32)) (((v1 >>> ((5 : Int32) &&& 31)) &&& (255 : Int32)) - ((v1 >>> ((5 : Int32) &&& 31)) &&& (255 : Int32)) / v2 * v2)) (ix (0 : Int32))) = (v1 &&& (7 : Int32)) from tm3_0]
    refine g_iconst C 60 dL_term_60 ki_1 ?_
    refine g_icmp_ne C 61 74 dL_term_61 (by decide) (fun c61 => ?_) (fun c61 => ?_)
    · rw [if_neg (fun z => c61 z)] at h
      refine g_aload_n C 74 1 dL_term_74 rfl ?_
      refine g_iconst C 75 dL_term_75 ki_0 ?_
      refine g_iald C 76 (127 + 0) (zwa rfl) (by decide) dL_term_76 ?_
      rw [show ((tm3 (v1 &&& (7 : Int32)) ((v1 >>> ((3 : Int32) &&& 31)) &&& (3 : Int32)) (((v1 >>> ((5 : Int32) &&& 31)) &&& (255 : Int32)) - ((v1 >>> ((5 : Int32) &&& 31)) &&& (255 : Int32)) / v2 * v2)) (ix (0 : Int32))) = (v1 &&& (7 : Int32)) from tm3_0]
      refine g_iconst C 77 dL_term_77 ki_2 ?_
      refine g_icmp_ne C 78 108 dL_term_78 (by decide) (fun c78 => ?_) (fun c78 => ?_)
      · rw [if_neg (fun z => c78 z)] at h
        refine g_aload_n C 108 1 dL_term_108 rfl ?_
        refine g_iconst C 109 dL_term_109 ki_0 ?_
        refine g_iald C 110 (127 + 0) (zwa rfl) (by decide) dL_term_110 ?_
        rw [show ((tm3 (v1 &&& (7 : Int32)) ((v1 >>> ((3 : Int32) &&& 31)) &&& (3 : Int32)) (((v1 >>> ((5 : Int32) &&& 31)) &&& (255 : Int32)) - ((v1 >>> ((5 : Int32) &&& 31)) &&& (255 : Int32)) / v2 * v2)) (ix (0 : Int32))) = (v1 &&& (7 : Int32)) from tm3_0]
        refine g_iconst C 111 dL_term_111 ki_3 ?_
        refine g_icmp_ne C 112 138 dL_term_112 (by decide) (fun c112 => ?_) (fun c112 => ?_)
        · rw [if_neg (fun z => c112 z)] at h
          refine g_aload_n C 138 1 dL_term_138 rfl ?_
          refine g_iconst C 139 dL_term_139 ki_0 ?_
          refine g_iald C 140 (127 + 0) (zwa rfl) (by decide) dL_term_140 ?_
          rw [show ((tm3 (v1 &&& (7 : Int32)) ((v1 >>> ((3 : Int32) &&& 31)) &&& (3 : Int32)) (((v1 >>> ((5 : Int32) &&& 31)) &&& (255 : Int32)) - ((v1 >>> ((5 : Int32) &&& 31)) &&& (255 : Int32)) / v2 * v2)) (ix (0 : Int32))) = (v1 &&& (7 : Int32)) from tm3_0]
          refine g_iconst C 141 dL_term_141 ki_4 ?_
          refine g_icmp_ne C 142 185 dL_term_142 (by decide) (fun c142 => ?_) (fun c142 => ?_)
          · rw [if_neg (fun z => c142 z)] at h
            refine g_aload_n C 185 1 dL_term_185 rfl ?_
            refine g_iconst C 186 dL_term_186 ki_0 ?_
            refine g_iald C 187 (127 + 0) (zwa rfl) (by decide) dL_term_187 ?_
            rw [show ((tm3 (v1 &&& (7 : Int32)) ((v1 >>> ((3 : Int32) &&& 31)) &&& (3 : Int32)) (((v1 >>> ((5 : Int32) &&& 31)) &&& (255 : Int32)) - ((v1 >>> ((5 : Int32) &&& 31)) &&& (255 : Int32)) / v2 * v2)) (ix (0 : Int32))) = (v1 &&& (7 : Int32)) from tm3_0]
            refine g_iconst C 188 dL_term_188 ki_5 ?_
            refine g_icmp_ne C 189 222 dL_term_189 (by decide) (fun c189 => ?_) (fun c189 => ?_)
            · rw [if_neg (fun z => c189 z)] at h
              refine g_aload_n C 222 1 dL_term_222 rfl ?_
              refine g_iconst C 223 dL_term_223 ki_0 ?_
              refine g_iald C 224 (127 + 0) (zwa rfl) (by decide) dL_term_224 ?_
              rw [show ((tm3 (v1 &&& (7 : Int32)) ((v1 >>> ((3 : Int32) &&& 31)) &&& (3 : Int32)) (((v1 >>> ((5 : Int32) &&& 31)) &&& (255 : Int32)) - ((v1 >>> ((5 : Int32) &&& 31)) &&& (255 : Int32)) / v2 * v2)) (ix (0 : Int32))) = (v1 &&& (7 : Int32)) from tm3_0]
              refine g_bipush C 225 dL_term_225 kb_6 ?_
              refine g_icmp_ne C 227 265 dL_term_227 (by decide) (fun c227 => ?_) (fun c227 => ?_)
              · rw [if_neg (fun z => c227 z)] at h
                refine g_aload_n C 265 2 dL_term_265 rfl ?_
                refine g_aload_n C 266 1 dL_term_266 rfl ?_
                refine g_iconst C 267 dL_term_267 ki_2 ?_
                refine g_iald C 268 (127 + 0) (zwa rfl) (by decide) dL_term_268 ?_
                rw [show ((tm3 (v1 &&& (7 : Int32)) ((v1 >>> ((3 : Int32) &&& 31)) &&& (3 : Int32)) (((v1 >>> ((5 : Int32) &&& 31)) &&& (255 : Int32)) - ((v1 >>> ((5 : Int32) &&& 31)) &&& (255 : Int32)) / v2 * v2)) (ix (2 : Int32))) = (((v1 >>> ((5 : Int32) &&& 31)) &&& (255 : Int32)) - ((v1 >>> ((5 : Int32) &&& 31)) &&& (255 : Int32)) / v2 * v2) from tm3_2]
                obtain ⟨s_269, h269, h⟩ := bnd1_inv h
                refine g_callL C hZ hzA hX 269 [.ref (zA (Zc V) 0), .int (((v1 >>> ((5 : Int32) &&& 31)) &&& (255 : Int32)) - ((v1 >>> ((5 : Int32) &&& 31)) &&& (255 : Int32)) / v2 * v2)] [] rfl tw_1286 ms_L_cell (Nat.le_of_ble_eq_true rfl) (Nat.le_of_ble_eq_true rfl) (Nat.le_of_ble_eq_true rfl) (Nat.le_of_ble_eq_true rfl) (Nat.le_of_ble_eq_true rfl) dL_term_269 (c_L_cell V _ _ _ h269) ?_
                show Gn _ _ _ _ _ _ _ _ []
                refine g_aload_n C 272 2 dL_term_272 rfl ?_
                refine g_iconst C 273 dL_term_273 ki_4 ?_
                refine g_ldc C 274 (hw := tw_1308) dL_term_274 ?_
                refine g_iconst C 276 dL_term_276 ki_0 ?_
                refine g_iconst C 277 dL_term_277 ki_0 ?_
                refine g_iconst C 278 dL_term_278 ki_0 ?_
                refine g_iconst C 279 dL_term_279 ki_0 ?_
                obtain ⟨s_280, h280, h⟩ := bnd1_inv h
                refine g_callL C hZ hzA hX 280 [.ref (zA (Zc V) 0), .int (4 : Int32), .int (791882616 : Int32), .int (0 : Int32), .int (0 : Int32), .int (0 : Int32), .int (0 : Int32)] [] rfl tw_1260 ms_L_put (Nat.le_of_ble_eq_true rfl) (Nat.le_of_ble_eq_true rfl) (Nat.le_of_ble_eq_true rfl) (Nat.le_of_ble_eq_true rfl) (Nat.le_of_ble_eq_true rfl) dL_term_280 (c_L_put V _ _ _ _ _ _ _ _ h280) ?_
                show Gn _ _ _ _ _ _ _ _ []
                refine g_aload_n C 283 1 dL_term_283 rfl ?_
                cases h
                exact g_aret C R (Or.inr ⟨_, rfl⟩) (Nat.le_of_ble_eq_true rfl) (Nat.le_of_ble_eq_true rfl) 284 dL_term_284 (fun H hP hD => ⟨_, _, ⟨rfl, q1, rfl, rfl⟩, (va_P_two hP).1, (va_P_two hP).2, zw_new hD⟩)
              · rw [if_pos (Decidable.not_not.mp c227)] at h
                refine g_aload_n C 230 2 dL_term_230 rfl ?_
                refine g_bipush C 231 dL_term_231 kb_7 ?_
                refine g_ldc C 233 (hw := tw_1306) dL_term_233 ?_
                refine g_ldc C 235 (hw := tw_1307) dL_term_235 ?_
                refine g_iconst C 237 dL_term_237 ki_0 ?_
                refine g_iconst C 238 dL_term_238 ki_0 ?_
                refine g_iconst C 239 dL_term_239 ki_0 ?_
                obtain ⟨s_240, h240, h⟩ := bnd1_inv h
                refine g_callL C hZ hzA hX 240 [.ref (zA (Zc V) 0), .int (7 : Int32), .int (544437345 : Int32), .int (1836067328 : Int32), .int (0 : Int32), .int (0 : Int32), .int (0 : Int32)] [] rfl tw_1260 ms_L_put (Nat.le_of_ble_eq_true rfl) (Nat.le_of_ble_eq_true rfl) (Nat.le_of_ble_eq_true rfl) (Nat.le_of_ble_eq_true rfl) (Nat.le_of_ble_eq_true rfl) dL_term_240 (c_L_put V _ _ _ _ _ _ _ _ h240) ?_
                show Gn _ _ _ _ _ _ _ _ []
                refine g_aload_n C 243 2 dL_term_243 rfl ?_
                refine g_iload C 244 0 dL_term_244 rfl ?_
                obtain ⟨s_246, h246, h⟩ := bnd1_inv h
                refine g_callL C hZ hzA hX 246 [.ref (zA (Zc V) 0), .int ((v1 >>> ((3 : Int32) &&& 31)) &&& (3 : Int32))] [] rfl tw_1275 ms_L_number (Nat.le_of_ble_eq_true rfl) (Nat.le_of_ble_eq_true rfl) (Nat.le_of_ble_eq_true rfl) (Nat.le_of_ble_eq_true rfl) (Nat.le_of_ble_eq_true rfl) dL_term_246 (c_L_number V _ _ _ h246) ?_
                show Gn _ _ _ _ _ _ _ _ []
                refine g_aload_n C 249 2 dL_term_249 rfl ?_
                refine g_bipush C 250 dL_term_250 kb_45 ?_
                obtain ⟨s_252, h252, h⟩ := bnd1_inv h
                refine g_callL C hZ hzA hX 252 [.ref (zA (Zc V) 0), .int (45 : Int32)] [] rfl tw_1278 ms_L_sign (Nat.le_of_ble_eq_true rfl) (Nat.le_of_ble_eq_true rfl) (Nat.le_of_ble_eq_true rfl) (Nat.le_of_ble_eq_true rfl) (Nat.le_of_ble_eq_true rfl) dL_term_252 (c_L_sign V _ _ _ h252) ?_
                show Gn _ _ _ _ _ _ _ _ []
                refine g_aload_n C 255 2 dL_term_255 rfl ?_
                refine g_aload_n C 256 1 dL_term_256 rfl ?_
                refine g_iconst C 257 dL_term_257 ki_2 ?_
                refine g_iald C 258 (127 + 0) (zwa rfl) (by decide) dL_term_258 ?_
                rw [show ((tm3 (v1 &&& (7 : Int32)) ((v1 >>> ((3 : Int32) &&& 31)) &&& (3 : Int32)) (((v1 >>> ((5 : Int32) &&& 31)) &&& (255 : Int32)) - ((v1 >>> ((5 : Int32) &&& 31)) &&& (255 : Int32)) / v2 * v2)) (ix (2 : Int32))) = (((v1 >>> ((5 : Int32) &&& 31)) &&& (255 : Int32)) - ((v1 >>> ((5 : Int32) &&& 31)) &&& (255 : Int32)) / v2 * v2) from tm3_2]
                obtain ⟨s_259, h259, h⟩ := bnd1_inv h
                refine g_callL C hZ hzA hX 259 [.ref (zA (Zc V) 0), .int (((v1 >>> ((5 : Int32) &&& 31)) &&& (255 : Int32)) - ((v1 >>> ((5 : Int32) &&& 31)) &&& (255 : Int32)) / v2 * v2)] [] rfl tw_1286 ms_L_cell (Nat.le_of_ble_eq_true rfl) (Nat.le_of_ble_eq_true rfl) (Nat.le_of_ble_eq_true rfl) (Nat.le_of_ble_eq_true rfl) (Nat.le_of_ble_eq_true rfl) dL_term_259 (c_L_cell V _ _ _ h259) ?_
                show Gn _ _ _ _ _ _ _ _ []
                refine g_goto C 262 283 dL_term_262 (by decide) ?_
                refine g_aload_n C 283 1 dL_term_283 rfl ?_
                cases h
                exact g_aret C R (Or.inr ⟨_, rfl⟩) (Nat.le_of_ble_eq_true rfl) (Nat.le_of_ble_eq_true rfl) 284 dL_term_284 (fun H hP hD => ⟨_, _, ⟨rfl, q1, rfl, rfl⟩, (va_P_two hP).1, (va_P_two hP).2, zw_new hD⟩)
            · rw [if_pos (Decidable.not_not.mp c189)] at h
              refine g_aload_n C 192 2 dL_term_192 rfl ?_
              refine g_aload_n C 193 1 dL_term_193 rfl ?_
              refine g_iconst C 194 dL_term_194 ki_2 ?_
              refine g_iald C 195 (127 + 0) (zwa rfl) (by decide) dL_term_195 ?_
              rw [show ((tm3 (v1 &&& (7 : Int32)) ((v1 >>> ((3 : Int32) &&& 31)) &&& (3 : Int32)) (((v1 >>> ((5 : Int32) &&& 31)) &&& (255 : Int32)) - ((v1 >>> ((5 : Int32) &&& 31)) &&& (255 : Int32)) / v2 * v2)) (ix (2 : Int32))) = (((v1 >>> ((5 : Int32) &&& 31)) &&& (255 : Int32)) - ((v1 >>> ((5 : Int32) &&& 31)) &&& (255 : Int32)) / v2 * v2) from tm3_2]
              obtain ⟨s_196, h196, h⟩ := bnd1_inv h
              refine g_callL C hZ hzA hX 196 [.ref (zA (Zc V) 0), .int (((v1 >>> ((5 : Int32) &&& 31)) &&& (255 : Int32)) - ((v1 >>> ((5 : Int32) &&& 31)) &&& (255 : Int32)) / v2 * v2)] [] rfl tw_1286 ms_L_cell (Nat.le_of_ble_eq_true rfl) (Nat.le_of_ble_eq_true rfl) (Nat.le_of_ble_eq_true rfl) (Nat.le_of_ble_eq_true rfl) (Nat.le_of_ble_eq_true rfl) dL_term_196 (c_L_cell V _ _ _ h196) ?_
              show Gn _ _ _ _ _ _ _ _ []
              refine g_aload_n C 199 2 dL_term_199 rfl ?_
              refine g_bipush C 200 dL_term_200 kb_10 ?_
              refine g_ldc C 202 (hw := tw_1303) dL_term_202 ?_
              refine g_ldc C 204 (hw := tw_1304) dL_term_204 ?_
              refine g_ldc C 206 (hw := tw_1305) dL_term_206 ?_
              refine g_iconst C 208 dL_term_208 ki_0 ?_
              refine g_iconst C 209 dL_term_209 ki_0 ?_
              obtain ⟨s_210, h210, h⟩ := bnd1_inv h
              refine g_callL C hZ hzA hX 210 [.ref (zA (Zc V) 0), .int (10 : Int32), .int (707931503 : Int32), .int (1919510377 : Int32), .int (1848442880 : Int32), .int (0 : Int32), .int (0 : Int32)] [] rfl tw_1260 ms_L_put (Nat.le_of_ble_eq_true rfl) (Nat.le_of_ble_eq_true rfl) (Nat.le_of_ble_eq_true rfl) (Nat.le_of_ble_eq_true rfl) (Nat.le_of_ble_eq_true rfl) dL_term_210 (c_L_put V _ _ _ _ _ _ _ _ h210) ?_
              show Gn _ _ _ _ _ _ _ _ []
              refine g_aload_n C 213 2 dL_term_213 rfl ?_
              refine g_iload C 214 0 dL_term_214 rfl ?_
              obtain ⟨s_216, h216, h⟩ := bnd1_inv h
              refine g_callL C hZ hzA hX 216 [.ref (zA (Zc V) 0), .int ((v1 >>> ((3 : Int32) &&& 31)) &&& (3 : Int32))] [] rfl tw_1275 ms_L_number (Nat.le_of_ble_eq_true rfl) (Nat.le_of_ble_eq_true rfl) (Nat.le_of_ble_eq_true rfl) (Nat.le_of_ble_eq_true rfl) (Nat.le_of_ble_eq_true rfl) dL_term_216 (c_L_number V _ _ _ h216) ?_
              show Gn _ _ _ _ _ _ _ _ []
              refine g_goto C 219 283 dL_term_219 (by decide) ?_
              refine g_aload_n C 283 1 dL_term_283 rfl ?_
              cases h
              exact g_aret C R (Or.inr ⟨_, rfl⟩) (Nat.le_of_ble_eq_true rfl) (Nat.le_of_ble_eq_true rfl) 284 dL_term_284 (fun H hP hD => ⟨_, _, ⟨rfl, q1, rfl, rfl⟩, (va_P_two hP).1, (va_P_two hP).2, zw_new hD⟩)
          · rw [if_pos (Decidable.not_not.mp c142)] at h
            refine g_aload_n C 145 2 dL_term_145 rfl ?_
            refine g_iconst C 146 dL_term_146 ki_5 ?_
            refine g_ldc C 147 (hw := tw_1301) dL_term_147 ?_
            refine g_ldc C 149 (hw := tw_1302) dL_term_149 ?_
            refine g_iconst C 151 dL_term_151 ki_0 ?_
            refine g_iconst C 152 dL_term_152 ki_0 ?_
            refine g_iconst C 153 dL_term_153 ki_0 ?_
            obtain ⟨s_154, h154, h⟩ := bnd1_inv h
            refine g_callL C hZ hzA hX 154 [.ref (zA (Zc V) 0), .int (5 : Int32), .int (540160047 : Int32), .int (671088640 : Int32), .int (0 : Int32), .int (0 : Int32), .int (0 : Int32)] [] rfl tw_1260 ms_L_put (Nat.le_of_ble_eq_true rfl) (Nat.le_of_ble_eq_true rfl) (Nat.le_of_ble_eq_true rfl) (Nat.le_of_ble_eq_true rfl) (Nat.le_of_ble_eq_true rfl) dL_term_154 (c_L_put V _ _ _ _ _ _ _ _ h154) ?_
            show Gn _ _ _ _ _ _ _ _ []
            refine g_aload_n C 157 2 dL_term_157 rfl ?_
            refine g_aload_n C 158 1 dL_term_158 rfl ?_
            refine g_iconst C 159 dL_term_159 ki_2 ?_
            refine g_iald C 160 (127 + 0) (zwa rfl) (by decide) dL_term_160 ?_
            rw [show ((tm3 (v1 &&& (7 : Int32)) ((v1 >>> ((3 : Int32) &&& 31)) &&& (3 : Int32)) (((v1 >>> ((5 : Int32) &&& 31)) &&& (255 : Int32)) - ((v1 >>> ((5 : Int32) &&& 31)) &&& (255 : Int32)) / v2 * v2)) (ix (2 : Int32))) = (((v1 >>> ((5 : Int32) &&& 31)) &&& (255 : Int32)) - ((v1 >>> ((5 : Int32) &&& 31)) &&& (255 : Int32)) / v2 * v2) from tm3_2]
            obtain ⟨s_161, h161, h⟩ := bnd1_inv h
            refine g_callL C hZ hzA hX 161 [.ref (zA (Zc V) 0), .int (((v1 >>> ((5 : Int32) &&& 31)) &&& (255 : Int32)) - ((v1 >>> ((5 : Int32) &&& 31)) &&& (255 : Int32)) / v2 * v2)] [] rfl tw_1286 ms_L_cell (Nat.le_of_ble_eq_true rfl) (Nat.le_of_ble_eq_true rfl) (Nat.le_of_ble_eq_true rfl) (Nat.le_of_ble_eq_true rfl) (Nat.le_of_ble_eq_true rfl) dL_term_161 (c_L_cell V _ _ _ h161) ?_
            show Gn _ _ _ _ _ _ _ _ []
            refine g_aload_n C 164 2 dL_term_164 rfl ?_
            refine g_bipush C 165 dL_term_165 kb_45 ?_
            obtain ⟨s_167, h167, h⟩ := bnd1_inv h
            refine g_callL C hZ hzA hX 167 [.ref (zA (Zc V) 0), .int (45 : Int32)] [] rfl tw_1278 ms_L_sign (Nat.le_of_ble_eq_true rfl) (Nat.le_of_ble_eq_true rfl) (Nat.le_of_ble_eq_true rfl) (Nat.le_of_ble_eq_true rfl) (Nat.le_of_ble_eq_true rfl) dL_term_167 (c_L_sign V _ _ _ h167) ?_
            show Gn _ _ _ _ _ _ _ _ []
            refine g_aload_n C 170 2 dL_term_170 rfl ?_
            refine g_iload C 171 0 dL_term_171 rfl ?_
            obtain ⟨s_173, h173, h⟩ := bnd1_inv h
            refine g_callL C hZ hzA hX 173 [.ref (zA (Zc V) 0), .int ((v1 >>> ((3 : Int32) &&& 31)) &&& (3 : Int32))] [] rfl tw_1275 ms_L_number (Nat.le_of_ble_eq_true rfl) (Nat.le_of_ble_eq_true rfl) (Nat.le_of_ble_eq_true rfl) (Nat.le_of_ble_eq_true rfl) (Nat.le_of_ble_eq_true rfl) dL_term_173 (c_L_number V _ _ _ h173) ?_
            show Gn _ _ _ _ _ _ _ _ []
            refine g_aload_n C 176 2 dL_term_176 rfl ?_
            refine g_bipush C 177 dL_term_177 kb_41 ?_
            obtain ⟨s_179, h179, h⟩ := bnd1_inv h
            refine g_callL C hZ hzA hX 179 [.ref (zA (Zc V) 0), .int (41 : Int32)] [] rfl tw_1278 ms_L_sign (Nat.le_of_ble_eq_true rfl) (Nat.le_of_ble_eq_true rfl) (Nat.le_of_ble_eq_true rfl) (Nat.le_of_ble_eq_true rfl) (Nat.le_of_ble_eq_true rfl) dL_term_179 (c_L_sign V _ _ _ h179) ?_
            show Gn _ _ _ _ _ _ _ _ []
            refine g_goto C 182 283 dL_term_182 (by decide) ?_
            refine g_aload_n C 283 1 dL_term_283 rfl ?_
            cases h
            exact g_aret C R (Or.inr ⟨_, rfl⟩) (Nat.le_of_ble_eq_true rfl) (Nat.le_of_ble_eq_true rfl) 284 dL_term_284 (fun H hP hD => ⟨_, _, ⟨rfl, q1, rfl, rfl⟩, (va_P_two hP).1, (va_P_two hP).2, zw_new hD⟩)
        · rw [if_pos (Decidable.not_not.mp c112)] at h
          refine g_aload_n C 115 2 dL_term_115 rfl ?_
          refine g_bipush C 116 dL_term_116 kb_9 ?_
          refine g_ldc C 118 (hw := tw_1298) dL_term_118 ?_
          refine g_ldc C 120 (hw := tw_1299) dL_term_120 ?_
          refine g_ldc C 122 (hw := tw_1300) dL_term_122 ?_
          refine g_iconst C 124 dL_term_124 ki_0 ?_
          refine g_iconst C 125 dL_term_125 ki_0 ?_
          obtain ⟨s_126, h126, h⟩ := bnd1_inv h
          refine g_callL C hZ hzA hX 126 [.ref (zA (Zc V) 0), .int (9 : Int32), .int (544746867 : Int32), .int (1952542064 : Int32), .int (721420288 : Int32), .int (0 : Int32), .int (0 : Int32)] [] rfl tw_1260 ms_L_put (Nat.le_of_ble_eq_true rfl) (Nat.le_of_ble_eq_true rfl) (Nat.le_of_ble_eq_true rfl) (Nat.le_of_ble_eq_true rfl) (Nat.le_of_ble_eq_true rfl) dL_term_126 (c_L_put V _ _ _ _ _ _ _ _ h126) ?_
          show Gn _ _ _ _ _ _ _ _ []
          refine g_aload_n C 129 2 dL_term_129 rfl ?_
          refine g_iload C 130 0 dL_term_130 rfl ?_
          obtain ⟨s_132, h132, h⟩ := bnd1_inv h
          refine g_callL C hZ hzA hX 132 [.ref (zA (Zc V) 0), .int ((v1 >>> ((3 : Int32) &&& 31)) &&& (3 : Int32))] [] rfl tw_1275 ms_L_number (Nat.le_of_ble_eq_true rfl) (Nat.le_of_ble_eq_true rfl) (Nat.le_of_ble_eq_true rfl) (Nat.le_of_ble_eq_true rfl) (Nat.le_of_ble_eq_true rfl) dL_term_132 (c_L_number V _ _ _ h132) ?_
          show Gn _ _ _ _ _ _ _ _ []
          refine g_goto C 135 283 dL_term_135 (by decide) ?_
          refine g_aload_n C 283 1 dL_term_283 rfl ?_
          cases h
          exact g_aret C R (Or.inr ⟨_, rfl⟩) (Nat.le_of_ble_eq_true rfl) (Nat.le_of_ble_eq_true rfl) 284 dL_term_284 (fun H hP hD => ⟨_, _, ⟨rfl, q1, rfl, rfl⟩, (va_P_two hP).1, (va_P_two hP).2, zw_new hD⟩)
      · rw [if_pos (Decidable.not_not.mp c78)] at h
        refine g_aload_n C 81 2 dL_term_81 rfl ?_
        refine g_aload_n C 82 1 dL_term_82 rfl ?_
        refine g_iconst C 83 dL_term_83 ki_2 ?_
        refine g_iald C 84 (127 + 0) (zwa rfl) (by decide) dL_term_84 ?_
        rw [show ((tm3 (v1 &&& (7 : Int32)) ((v1 >>> ((3 : Int32) &&& 31)) &&& (3 : Int32)) (((v1 >>> ((5 : Int32) &&& 31)) &&& (255 : Int32)) - ((v1 >>> ((5 : Int32) &&& 31)) &&& (255 : Int32)) / v2 * v2)) (ix (2 : Int32))) = (((v1 >>> ((5 : Int32) &&& 31)) &&& (255 : Int32)) - ((v1 >>> ((5 : Int32) &&& 31)) &&& (255 : Int32)) / v2 * v2) from tm3_2]
        obtain ⟨s_85, h85, h⟩ := bnd1_inv h
        refine g_callL C hZ hzA hX 85 [.ref (zA (Zc V) 0), .int (((v1 >>> ((5 : Int32) &&& 31)) &&& (255 : Int32)) - ((v1 >>> ((5 : Int32) &&& 31)) &&& (255 : Int32)) / v2 * v2)] [] rfl tw_1286 ms_L_cell (Nat.le_of_ble_eq_true rfl) (Nat.le_of_ble_eq_true rfl) (Nat.le_of_ble_eq_true rfl) (Nat.le_of_ble_eq_true rfl) (Nat.le_of_ble_eq_true rfl) dL_term_85 (c_L_cell V _ _ _ h85) ?_
        show Gn _ _ _ _ _ _ _ _ []
        refine g_aload_n C 88 2 dL_term_88 rfl ?_
        refine g_iconst C 89 dL_term_89 ki_3 ?_
        refine g_ldc C 90 (hw := tw_1297) dL_term_90 ?_
        refine g_iconst C 92 dL_term_92 ki_0 ?_
        refine g_iconst C 93 dL_term_93 ki_0 ?_
        refine g_iconst C 94 dL_term_94 ki_0 ?_
        refine g_iconst C 95 dL_term_95 ki_0 ?_
        obtain ⟨s_96, h96, h⟩ := bnd1_inv h
        refine g_callL C hZ hzA hX 96 [.ref (zA (Zc V) 0), .int (3 : Int32), .int (729295360 : Int32), .int (0 : Int32), .int (0 : Int32), .int (0 : Int32), .int (0 : Int32)] [] rfl tw_1260 ms_L_put (Nat.le_of_ble_eq_true rfl) (Nat.le_of_ble_eq_true rfl) (Nat.le_of_ble_eq_true rfl) (Nat.le_of_ble_eq_true rfl) (Nat.le_of_ble_eq_true rfl) dL_term_96 (c_L_put V _ _ _ _ _ _ _ _ h96) ?_
        show Gn _ _ _ _ _ _ _ _ []
        refine g_aload_n C 99 2 dL_term_99 rfl ?_
        refine g_iload C 100 0 dL_term_100 rfl ?_
        obtain ⟨s_102, h102, h⟩ := bnd1_inv h
        refine g_callL C hZ hzA hX 102 [.ref (zA (Zc V) 0), .int ((v1 >>> ((3 : Int32) &&& 31)) &&& (3 : Int32))] [] rfl tw_1275 ms_L_number (Nat.le_of_ble_eq_true rfl) (Nat.le_of_ble_eq_true rfl) (Nat.le_of_ble_eq_true rfl) (Nat.le_of_ble_eq_true rfl) (Nat.le_of_ble_eq_true rfl) dL_term_102 (c_L_number V _ _ _ h102) ?_
        show Gn _ _ _ _ _ _ _ _ []
        refine g_goto C 105 283 dL_term_105 (by decide) ?_
        refine g_aload_n C 283 1 dL_term_283 rfl ?_
        cases h
        exact g_aret C R (Or.inr ⟨_, rfl⟩) (Nat.le_of_ble_eq_true rfl) (Nat.le_of_ble_eq_true rfl) 284 dL_term_284 (fun H hP hD => ⟨_, _, ⟨rfl, q1, rfl, rfl⟩, (va_P_two hP).1, (va_P_two hP).2, zw_new hD⟩)
    · rw [if_pos (Decidable.not_not.mp c61)] at h
      refine g_aload_n C 64 2 dL_term_64 rfl ?_
      refine g_aload_n C 65 1 dL_term_65 rfl ?_
      refine g_iconst C 66 dL_term_66 ki_2 ?_
      refine g_iald C 67 (127 + 0) (zwa rfl) (by decide) dL_term_67 ?_
      rw [show ((tm3 (v1 &&& (7 : Int32)) ((v1 >>> ((3 : Int32) &&& 31)) &&& (3 : Int32)) (((v1 >>> ((5 : Int32) &&& 31)) &&& (255 : Int32)) - ((v1 >>> ((5 : Int32) &&& 31)) &&& (255 : Int32)) / v2 * v2)) (ix (2 : Int32))) = (((v1 >>> ((5 : Int32) &&& 31)) &&& (255 : Int32)) - ((v1 >>> ((5 : Int32) &&& 31)) &&& (255 : Int32)) / v2 * v2) from tm3_2]
      obtain ⟨s_68, h68, h⟩ := bnd1_inv h
      refine g_callL C hZ hzA hX 68 [.ref (zA (Zc V) 0), .int (((v1 >>> ((5 : Int32) &&& 31)) &&& (255 : Int32)) - ((v1 >>> ((5 : Int32) &&& 31)) &&& (255 : Int32)) / v2 * v2)] [] rfl tw_1286 ms_L_cell (Nat.le_of_ble_eq_true rfl) (Nat.le_of_ble_eq_true rfl) (Nat.le_of_ble_eq_true rfl) (Nat.le_of_ble_eq_true rfl) (Nat.le_of_ble_eq_true rfl) dL_term_68 (c_L_cell V _ _ _ h68) ?_
      show Gn _ _ _ _ _ _ _ _ []
      refine g_goto C 71 283 dL_term_71 (by decide) ?_
      refine g_aload_n C 283 1 dL_term_283 rfl ?_
      cases h
      exact g_aret C R (Or.inr ⟨_, rfl⟩) (Nat.le_of_ble_eq_true rfl) (Nat.le_of_ble_eq_true rfl) 284 dL_term_284 (fun H hP hD => ⟨_, _, ⟨rfl, q1, rfl, rfl⟩, (va_P_two hP).1, (va_P_two hP).2, zw_new hD⟩)
  · rw [if_pos (Decidable.not_not.mp c39)] at h
    refine g_aload_n C 42 2 dL_term_42 rfl ?_
    refine g_bipush C 43 dL_term_43 kb_32 ?_
    obtain ⟨s_45, h45, h⟩ := bnd1_inv h
    refine g_callL C hZ hzA hX 45 [.ref (zA (Zc V) 0), .int (32 : Int32)] [] rfl tw_1278 ms_L_sign (Nat.le_of_ble_eq_true rfl) (Nat.le_of_ble_eq_true rfl) (Nat.le_of_ble_eq_true rfl) (Nat.le_of_ble_eq_true rfl) (Nat.le_of_ble_eq_true rfl) dL_term_45 (c_L_sign V _ _ _ h45) ?_
    show Gn _ _ _ _ _ _ _ _ []
    refine g_aload_n C 48 2 dL_term_48 rfl ?_
    refine g_iload C 49 0 dL_term_49 rfl ?_
    obtain ⟨s_51, h51, h⟩ := bnd1_inv h
    refine g_callL C hZ hzA hX 51 [.ref (zA (Zc V) 0), .int ((v1 >>> ((3 : Int32) &&& 31)) &&& (3 : Int32))] [] rfl tw_1275 ms_L_number (Nat.le_of_ble_eq_true rfl) (Nat.le_of_ble_eq_true rfl) (Nat.le_of_ble_eq_true rfl) (Nat.le_of_ble_eq_true rfl) (Nat.le_of_ble_eq_true rfl) dL_term_51 (c_L_number V _ _ _ h51) ?_
    show Gn _ _ _ _ _ _ _ _ []
    refine g_goto C 54 283 dL_term_54 (by decide) ?_
    refine g_aload_n C 283 1 dL_term_283 rfl ?_
    cases h
    exact g_aret C R (Or.inr ⟨_, rfl⟩) (Nat.le_of_ble_eq_true rfl) (Nat.le_of_ble_eq_true rfl) 284 dL_term_284 (fun H hP hD => ⟨_, _, ⟨rfl, q1, rfl, rfl⟩, (va_P_two hP).1, (va_P_two hP).2, zw_new hD⟩)
