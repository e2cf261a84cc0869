/-! the law, case by case -/
theorem tw_473 : Cond.methodLink R_law 13 yX8_feed ∈ gw_tbl := gw_mem 473 (by decide +kernel) (by decide +kernel)
theorem tw_481 : Cond.methodLink R_law 18 yX8_back ∈ gw_tbl := gw_mem 481 (by decide +kernel) (by decide +kernel)
theorem tw_485 : Cond.methodLink R_law 23 yX8_read ∈ gw_tbl := gw_mem 485 (by decide +kernel) (by decide +kernel)
theorem tw_718 : Cond.methodLink R_law 28 yX8_place ∈ gw_tbl := gw_mem 718 (by decide +kernel) (by decide +kernel)
theorem tw_722 : Cond.methodLink R_law 32 yX8_make ∈ gw_tbl := gw_mem 722 (by decide +kernel) (by decide +kernel)
theorem tw_824 : Cond.methodLink R_law 37 yX8_ask ∈ gw_tbl := gw_mem 824 (by decide +kernel) (by decide +kernel)
theorem tw_880 : Cond.methodLink R_law 42 yX8_got ∈ gw_tbl := gw_mem 880 (by decide +kernel) (by decide +kernel)
theorem tw_888 : Cond.methodLink R_law 46 yX8_promise ∈ gw_tbl := gw_mem 888 (by decide +kernel) (by decide +kernel)
theorem tw_896 : Cond.methodLink R_law 51 yX8_meet ∈ gw_tbl := gw_mem 896 (by decide +kernel) (by decide +kernel)
theorem tw_917 : Cond.methodLink R_law 56 yX8_lead ∈ gw_tbl := gw_mem 917 (by decide +kernel) (by decide +kernel)
theorem tw_928 : Cond.methodLink R_law 61 yX8_chance ∈ gw_tbl := gw_mem 928 (by decide +kernel) (by decide +kernel)
theorem tw_953 : Cond.methodLink R_law 65 yX8_undo ∈ gw_tbl := gw_mem 953 (by decide +kernel) (by decide +kernel)
theorem tw_961 : Cond.methodLink R_law 70 yX8_cell ∈ gw_tbl := gw_mem 961 (by decide +kernel) (by decide +kernel)
theorem tw_966 : Cond.methodLink R_law 75 yX8_log ∈ gw_tbl := gw_mem 966 (by decide +kernel) (by decide +kernel)
theorem tw_971 : Cond.methodLink R_law 79 yX8_outcome ∈ gw_tbl := gw_mem 971 (by decide +kernel) (by decide +kernel)
theorem tw_988 : Cond.methodLink R_law 83 yX8_write ∈ gw_tbl := gw_mem 988 (by decide +kernel) (by decide +kernel)
theorem tw_1005 : Cond.methodLink R_law 87 yX8_with ∈ gw_tbl := gw_mem 1005 (by decide +kernel) (by decide +kernel)
theorem tw_1009 : Cond.methodLink R_law 91 yX8_copy ∈ gw_tbl := gw_mem 1009 (by decide +kernel) (by decide +kernel)
theorem tw_1037 : Cond.methodLink R_law 95 yX8_vector ∈ gw_tbl := gw_mem 1037 (by decide +kernel) (by decide +kernel)
theorem tw_1042 : Cond.methodLink R_law 99 yX8_session ∈ gw_tbl := gw_mem 1042 (by decide +kernel) (by decide +kernel)
theorem tw_1046 : Cond.methodLink R_law 103 yX8_of ∈ gw_tbl := gw_mem 1046 (by decide +kernel) (by decide +kernel)
theorem tw_1051 : Cond.methodLink R_law 107 yX8_shut ∈ gw_tbl := gw_mem 1051 (by decide +kernel) (by decide +kernel)
theorem tw_1059 : Cond.methodLink R_law 111 yX8_lacks ∈ gw_tbl := gw_mem 1059 (by decide +kernel) (by decide +kernel)
theorem tw_1064 : Cond.methodLink R_law 115 yX8_would ∈ gw_tbl := gw_mem 1064 (by decide +kernel) (by decide +kernel)
theorem tw_1072 : Cond.methodLink R_law 119 yX8_differ ∈ gw_tbl := gw_mem 1072 (by decide +kernel) (by decide +kernel)
theorem tw_1076 : Cond.methodLink R_law 123 yX8_alike ∈ gw_tbl := gw_mem 1076 (by decide +kernel) (by decide +kernel)
theorem tw_1084 : Cond.methodLink R_law 127 yX8_hangs ∈ gw_tbl := gw_mem 1084 (by decide +kernel) (by decide +kernel)
theorem tw_1096 : Cond.methodLink R_law 131 yX8_behind ∈ gw_tbl := gw_mem 1096 (by decide +kernel) (by decide +kernel)
theorem tw_1100 : Cond.methodLink R_law 135 yX8_fork ∈ gw_tbl := gw_mem 1100 (by decide +kernel) (by decide +kernel)
theorem tw_1105 : Cond.methodLink R_law 139 yX8_key ∈ gw_tbl := gw_mem 1105 (by decide +kernel) (by decide +kernel)
theorem tw_1109 : Cond.methodLink R_law 143 yX8_share ∈ gw_tbl := gw_mem 1109 (by decide +kernel) (by decide +kernel)
theorem tw_1114 : Cond.methodLink R_law 147 yX8_setter ∈ gw_tbl := gw_mem 1114 (by decide +kernel) (by decide +kernel)
theorem tw_1122 : Cond.methodLink R_law 151 yX8_ahead ∈ gw_tbl := gw_mem 1122 (by decide +kernel) (by decide +kernel)
theorem tw_1126 : Cond.methodLink R_law 155 yX8_may ∈ gw_tbl := gw_mem 1126 (by decide +kernel) (by decide +kernel)
theorem tw_1130 : Cond.methodLink R_law 160 yX8_plan ∈ gw_tbl := gw_mem 1130 (by decide +kernel) (by decide +kernel)
theorem tw_1157 : Cond.methodLink R_law 164 yX8_clash ∈ gw_tbl := gw_mem 1157 (by decide +kernel) (by decide +kernel)
theorem tw_1161 : Cond.methodLink R_law 168 yX8_soon ∈ gw_tbl := gw_mem 1161 (by decide +kernel) (by decide +kernel)
theorem tw_1188 : Cond.methodLink R_law 172 yX8_year ∈ gw_tbl := gw_mem 1188 (by decide +kernel) (by decide +kernel)
theorem tw_1192 : Cond.methodLink R_law 176 yX8_hold ∈ gw_tbl := gw_mem 1192 (by decide +kernel) (by decide +kernel)
theorem tw_1205 : Cond.methodLink R_law 180 yX8_restore ∈ gw_tbl := gw_mem 1205 (by decide +kernel) (by decide +kernel)
theorem tw_1209 : Cond.methodLink R_law 184 yX8_count ∈ gw_tbl := gw_mem 1209 (by decide +kernel) (by decide +kernel)
theorem tw_1447 : Cond.methodLink R_law 17 yX9_feed ∈ gw_tbl := gw_mem 1447 (by decide +kernel) (by decide +kernel)
theorem tw_1455 : Cond.methodLink R_law 22 yX9_back ∈ gw_tbl := gw_mem 1455 (by decide +kernel) (by decide +kernel)
theorem tw_1459 : Cond.methodLink R_law 27 yX9_read ∈ gw_tbl := gw_mem 1459 (by decide +kernel) (by decide +kernel)
theorem tw_1561 : Cond.methodLink R_law 31 yX9_place ∈ gw_tbl := gw_mem 1561 (by decide +kernel) (by decide +kernel)
theorem tw_1565 : Cond.methodLink R_law 36 yX9_make ∈ gw_tbl := gw_mem 1565 (by decide +kernel) (by decide +kernel)
theorem tw_1655 : Cond.methodLink R_law 41 yX9_ask ∈ gw_tbl := gw_mem 1655 (by decide +kernel) (by decide +kernel)
theorem tw_1695 : Cond.methodLink R_law 45 yX9_got ∈ gw_tbl := gw_mem 1695 (by decide +kernel) (by decide +kernel)
theorem tw_1699 : Cond.methodLink R_law 50 yX9_promise ∈ gw_tbl := gw_mem 1699 (by decide +kernel) (by decide +kernel)
theorem tw_1703 : Cond.methodLink R_law 55 yX9_meet ∈ gw_tbl := gw_mem 1703 (by decide +kernel) (by decide +kernel)
theorem tw_1727 : Cond.methodLink R_law 60 yX9_lead ∈ gw_tbl := gw_mem 1727 (by decide +kernel) (by decide +kernel)
theorem tw_1731 : Cond.methodLink R_law 64 yX9_chance ∈ gw_tbl := gw_mem 1731 (by decide +kernel) (by decide +kernel)
theorem tw_1750 : Cond.methodLink R_law 69 yX9_undo ∈ gw_tbl := gw_mem 1750 (by decide +kernel) (by decide +kernel)
theorem tw_1754 : Cond.methodLink R_law 74 yX9_cell ∈ gw_tbl := gw_mem 1754 (by decide +kernel) (by decide +kernel)
theorem tw_1758 : Cond.methodLink R_law 78 yX9_log ∈ gw_tbl := gw_mem 1758 (by decide +kernel) (by decide +kernel)
theorem tw_1762 : Cond.methodLink R_law 82 yX9_outcome ∈ gw_tbl := gw_mem 1762 (by decide +kernel) (by decide +kernel)
theorem tw_1774 : Cond.methodLink R_law 86 yX9_write ∈ gw_tbl := gw_mem 1774 (by decide +kernel) (by decide +kernel)
theorem tw_1778 : Cond.methodLink R_law 90 yX9_with ∈ gw_tbl := gw_mem 1778 (by decide +kernel) (by decide +kernel)
theorem tw_1782 : Cond.methodLink R_law 94 yX9_copy ∈ gw_tbl := gw_mem 1782 (by decide +kernel) (by decide +kernel)
theorem tw_1790 : Cond.methodLink R_law 98 yX9_vector ∈ gw_tbl := gw_mem 1790 (by decide +kernel) (by decide +kernel)
theorem tw_1794 : Cond.methodLink R_law 102 yX9_session ∈ gw_tbl := gw_mem 1794 (by decide +kernel) (by decide +kernel)
theorem tw_1798 : Cond.methodLink R_law 106 yX9_of ∈ gw_tbl := gw_mem 1798 (by decide +kernel) (by decide +kernel)
theorem tw_1802 : Cond.methodLink R_law 110 yX9_shut ∈ gw_tbl := gw_mem 1802 (by decide +kernel) (by decide +kernel)
theorem tw_1806 : Cond.methodLink R_law 114 yX9_lacks ∈ gw_tbl := gw_mem 1806 (by decide +kernel) (by decide +kernel)
theorem tw_1814 : Cond.methodLink R_law 118 yX9_would ∈ gw_tbl := gw_mem 1814 (by decide +kernel) (by decide +kernel)
theorem tw_1818 : Cond.methodLink R_law 122 yX9_differ ∈ gw_tbl := gw_mem 1818 (by decide +kernel) (by decide +kernel)
theorem tw_1822 : Cond.methodLink R_law 126 yX9_alike ∈ gw_tbl := gw_mem 1822 (by decide +kernel) (by decide +kernel)
theorem tw_1830 : Cond.methodLink R_law 138 yX9_fork ∈ gw_tbl := gw_mem 1830 (by decide +kernel) (by decide +kernel)
theorem tw_1834 : Cond.methodLink R_law 130 yX9_hangs ∈ gw_tbl := gw_mem 1834 (by decide +kernel) (by decide +kernel)
theorem tw_1842 : Cond.methodLink R_law 142 yX9_key ∈ gw_tbl := gw_mem 1842 (by decide +kernel) (by decide +kernel)
theorem tw_1846 : Cond.methodLink R_law 134 yX9_behind ∈ gw_tbl := gw_mem 1846 (by decide +kernel) (by decide +kernel)
theorem tw_1850 : Cond.methodLink R_law 146 yX9_share ∈ gw_tbl := gw_mem 1850 (by decide +kernel) (by decide +kernel)
theorem tw_1854 : Cond.methodLink R_law 150 yX9_setter ∈ gw_tbl := gw_mem 1854 (by decide +kernel) (by decide +kernel)
theorem tw_1858 : Cond.methodLink R_law 154 yX9_ahead ∈ gw_tbl := gw_mem 1858 (by decide +kernel) (by decide +kernel)
theorem tw_1862 : Cond.methodLink R_law 167 yX9_clash ∈ gw_tbl := gw_mem 1862 (by decide +kernel) (by decide +kernel)
theorem tw_1866 : Cond.methodLink R_law 159 yX9_may ∈ gw_tbl := gw_mem 1866 (by decide +kernel) (by decide +kernel)
theorem tw_1870 : Cond.methodLink R_law 163 yX9_plan ∈ gw_tbl := gw_mem 1870 (by decide +kernel) (by decide +kernel)
theorem tw_1885 : Cond.methodLink R_law 171 yX9_soon ∈ gw_tbl := gw_mem 1885 (by decide +kernel) (by decide +kernel)
theorem tw_1897 : Cond.methodLink R_law 175 yX9_year ∈ gw_tbl := gw_mem 1897 (by decide +kernel) (by decide +kernel)
theorem tw_1901 : Cond.methodLink R_law 179 yX9_hold ∈ gw_tbl := gw_mem 1901 (by decide +kernel) (by decide +kernel)
theorem tw_1905 : Cond.methodLink R_law 183 yX9_restore ∈ gw_tbl := gw_mem 1905 (by decide +kernel) (by decide +kernel)
theorem tw_1909 : Cond.methodLink R_law 187 yX9_count ∈ gw_tbl := gw_mem 1909 (by decide +kernel) (by decide +kernel)
theorem dL_law_0 : decode cL_law 0 = .ok (.new 7, 3) := by decide +kernel
theorem dL_law_3 : decode cL_law 3 = .ok (.dup, 1) := by decide +kernel
theorem dL_law_4 : decode cL_law 4 = .ok (.invokespecial 9, 3) := by decide +kernel
theorem dL_law_7 : decode cL_law 7 = .ok (.astore_n 1, 1) := by decide +kernel
theorem dL_law_8 : decode cL_law 8 = .ok (.new 10, 3) := by decide +kernel
theorem dL_law_11 : decode cL_law 11 = .ok (.dup, 1) := by decide +kernel
theorem dL_law_12 : decode cL_law 12 = .ok (.invokespecial 12, 3) := by decide +kernel
theorem dL_law_15 : decode cL_law 15 = .ok (.astore_n 2, 1) := by decide +kernel
theorem dL_law_16 : decode cL_law 16 = .ok (.iconst 0, 1) := by decide +kernel
theorem dL_law_17 : decode cL_law 17 = .ok (.istore_n 3, 1) := by decide +kernel
theorem dL_law_18 : decode cL_law 18 = .ok (.iload_n 3, 1) := by decide +kernel
theorem dL_law_19 : decode cL_law 19 = .ok (.aload_n 0, 1) := by decide +kernel
theorem dL_law_20 : decode cL_law 20 = .ok (.arraylength, 1) := by decide +kernel
theorem dL_law_21 : decode cL_law 21 = .ok (.bipush 6, 2) := by decide +kernel
theorem dL_law_23 : decode cL_law 23 = .ok (.isub, 1) := by decide +kernel
theorem dL_law_24 : decode cL_law 24 = .ok (.if_icmp .gt 1505, 3) := by decide +kernel
theorem dL_law_27 : decode cL_law 27 = .ok (.aload_n 0, 1) := by decide +kernel
theorem dL_law_28 : decode cL_law 28 = .ok (.iload_n 3, 1) := by decide +kernel
theorem dL_law_29 : decode cL_law 29 = .ok (.iaload, 1) := by decide +kernel
theorem dL_law_30 : decode cL_law 30 = .ok (.bipush 63, 2) := by decide +kernel
theorem dL_law_32 : decode cL_law 32 = .ok (.iand, 1) := by decide +kernel
theorem dL_law_33 : decode cL_law 33 = .ok (.tableswitch 1490 0 40 #[179, 242, 265, 278, 291, 344, 387, 410, 443, 476, 499, 522, 535, 594, 627, 660, 693, 716, 749, 782, 815, 874, 897, 930, 963, 996, 1029, 1072, 1115, 1148, 1181, 1204, 1237, 1280, 1329, 1352, 1375, 1388, 1421, 1444, 1467], 179) := by decide +kernel
theorem dL_law_212 : decode cL_law 212 = .ok (.aload_n 1, 1) := by decide +kernel
theorem dL_law_213 : decode cL_law 213 = .ok (.aload_n 0, 1) := by decide +kernel
theorem dL_law_214 : decode cL_law 214 = .ok (.iload_n 3, 1) := by decide +kernel
theorem dL_law_215 : decode cL_law 215 = .ok (.iconst 1, 1) := by decide +kernel
theorem dL_law_216 : decode cL_law 216 = .ok (.iadd, 1) := by decide +kernel
theorem dL_law_217 : decode cL_law 217 = .ok (.iaload, 1) := by decide +kernel
theorem dL_law_218 : decode cL_law 218 = .ok (.aload_n 0, 1) := by decide +kernel
theorem dL_law_219 : decode cL_law 219 = .ok (.iload_n 3, 1) := by decide +kernel
theorem dL_law_220 : decode cL_law 220 = .ok (.iconst 2, 1) := by decide +kernel
theorem dL_law_221 : decode cL_law 221 = .ok (.iadd, 1) := by decide +kernel
theorem dL_law_222 : decode cL_law 222 = .ok (.iaload, 1) := by decide +kernel
theorem dL_law_223 : decode cL_law 223 = .ok (.aload_n 0, 1) := by decide +kernel
theorem dL_law_224 : decode cL_law 224 = .ok (.iload_n 3, 1) := by decide +kernel
theorem dL_law_225 : decode cL_law 225 = .ok (.iconst 3, 1) := by decide +kernel
theorem dL_law_226 : decode cL_law 226 = .ok (.iadd, 1) := by decide +kernel
theorem dL_law_227 : decode cL_law 227 = .ok (.iaload, 1) := by decide +kernel
theorem dL_law_228 : decode cL_law 228 = .ok (.aload_n 0, 1) := by decide +kernel
theorem dL_law_229 : decode cL_law 229 = .ok (.iload_n 3, 1) := by decide +kernel
theorem dL_law_230 : decode cL_law 230 = .ok (.iconst 4, 1) := by decide +kernel
theorem dL_law_231 : decode cL_law 231 = .ok (.iadd, 1) := by decide +kernel
theorem dL_law_232 : decode cL_law 232 = .ok (.iaload, 1) := by decide +kernel
theorem dL_law_233 : decode cL_law 233 = .ok (.aload_n 0, 1) := by decide +kernel
theorem dL_law_234 : decode cL_law 234 = .ok (.iload_n 3, 1) := by decide +kernel
theorem dL_law_235 : decode cL_law 235 = .ok (.iconst 5, 1) := by decide +kernel
theorem dL_law_236 : decode cL_law 236 = .ok (.iadd, 1) := by decide +kernel
theorem dL_law_237 : decode cL_law 237 = .ok (.iaload, 1) := by decide +kernel
theorem dL_law_238 : decode cL_law 238 = .ok (.invokevirtual 13, 3) := by decide +kernel
theorem dL_law_241 : decode cL_law 241 = .ok (.aload_n 2, 1) := by decide +kernel
theorem dL_law_242 : decode cL_law 242 = .ok (.aload_n 0, 1) := by decide +kernel
theorem dL_law_243 : decode cL_law 243 = .ok (.iload_n 3, 1) := by decide +kernel
theorem dL_law_244 : decode cL_law 244 = .ok (.iconst 1, 1) := by decide +kernel
theorem dL_law_245 : decode cL_law 245 = .ok (.iadd, 1) := by decide +kernel
theorem dL_law_246 : decode cL_law 246 = .ok (.iaload, 1) := by decide +kernel
theorem dL_law_247 : decode cL_law 247 = .ok (.aload_n 0, 1) := by decide +kernel
theorem dL_law_248 : decode cL_law 248 = .ok (.iload_n 3, 1) := by decide +kernel
theorem dL_law_249 : decode cL_law 249 = .ok (.iconst 2, 1) := by decide +kernel
theorem dL_law_250 : decode cL_law 250 = .ok (.iadd, 1) := by decide +kernel
theorem dL_law_251 : decode cL_law 251 = .ok (.iaload, 1) := by decide +kernel
theorem dL_law_252 : decode cL_law 252 = .ok (.aload_n 0, 1) := by decide +kernel
theorem dL_law_253 : decode cL_law 253 = .ok (.iload_n 3, 1) := by decide +kernel
theorem dL_law_254 : decode cL_law 254 = .ok (.iconst 3, 1) := by decide +kernel
theorem dL_law_255 : decode cL_law 255 = .ok (.iadd, 1) := by decide +kernel
theorem dL_law_256 : decode cL_law 256 = .ok (.iaload, 1) := by decide +kernel
theorem dL_law_257 : decode cL_law 257 = .ok (.aload_n 0, 1) := by decide +kernel
theorem dL_law_258 : decode cL_law 258 = .ok (.iload_n 3, 1) := by decide +kernel
theorem dL_law_259 : decode cL_law 259 = .ok (.iconst 4, 1) := by decide +kernel
theorem dL_law_260 : decode cL_law 260 = .ok (.iadd, 1) := by decide +kernel
theorem dL_law_261 : decode cL_law 261 = .ok (.iaload, 1) := by decide +kernel
theorem dL_law_262 : decode cL_law 262 = .ok (.aload_n 0, 1) := by decide +kernel
theorem dL_law_263 : decode cL_law 263 = .ok (.iload_n 3, 1) := by decide +kernel
theorem dL_law_264 : decode cL_law 264 = .ok (.iconst 5, 1) := by decide +kernel
theorem dL_law_265 : decode cL_law 265 = .ok (.iadd, 1) := by decide +kernel
theorem dL_law_266 : decode cL_law 266 = .ok (.iaload, 1) := by decide +kernel
theorem dL_law_267 : decode cL_law 267 = .ok (.invokevirtual 17, 3) := by decide +kernel
theorem dL_law_270 : decode cL_law 270 = .ok (.if_icmp .eq 1253, 3) := by decide +kernel
theorem dL_law_273 : decode cL_law 273 = .ok (.iconst 0, 1) := by decide +kernel
theorem dL_law_274 : decode cL_law 274 = .ok (.ireturn, 1) := by decide +kernel
theorem dL_law_275 : decode cL_law 275 = .ok (.aload_n 1, 1) := by decide +kernel
theorem dL_law_276 : decode cL_law 276 = .ok (.aload_n 0, 1) := by decide +kernel
theorem dL_law_277 : decode cL_law 277 = .ok (.iload_n 3, 1) := by decide +kernel
theorem dL_law_278 : decode cL_law 278 = .ok (.iconst 1, 1) := by decide +kernel
theorem dL_law_279 : decode cL_law 279 = .ok (.iadd, 1) := by decide +kernel
theorem dL_law_280 : decode cL_law 280 = .ok (.iaload, 1) := by decide +kernel
theorem dL_law_281 : decode cL_law 281 = .ok (.invokevirtual 18, 3) := by decide +kernel
theorem dL_law_284 : decode cL_law 284 = .ok (.aload_n 2, 1) := by decide +kernel
theorem dL_law_285 : decode cL_law 285 = .ok (.aload_n 0, 1) := by decide +kernel
theorem dL_law_286 : decode cL_law 286 = .ok (.iload_n 3, 1) := by decide +kernel
theorem dL_law_287 : decode cL_law 287 = .ok (.iconst 1, 1) := by decide +kernel
theorem dL_law_288 : decode cL_law 288 = .ok (.iadd, 1) := by decide +kernel
theorem dL_law_289 : decode cL_law 289 = .ok (.iaload, 1) := by decide +kernel
theorem dL_law_290 : decode cL_law 290 = .ok (.invokevirtual 22, 3) := by decide +kernel
theorem dL_law_293 : decode cL_law 293 = .ok (.if_icmp .eq 1230, 3) := by decide +kernel
theorem dL_law_296 : decode cL_law 296 = .ok (.iconst 0, 1) := by decide +kernel
theorem dL_law_297 : decode cL_law 297 = .ok (.ireturn, 1) := by decide +kernel
theorem dL_law_298 : decode cL_law 298 = .ok (.aload_n 1, 1) := by decide +kernel
theorem dL_law_299 : decode cL_law 299 = .ok (.invokevirtual 23, 3) := by decide +kernel
theorem dL_law_302 : decode cL_law 302 = .ok (.aload_n 2, 1) := by decide +kernel
theorem dL_law_303 : decode cL_law 303 = .ok (.invokevirtual 27, 3) := by decide +kernel
theorem dL_law_306 : decode cL_law 306 = .ok (.if_icmp .eq 1217, 3) := by decide +kernel
theorem dL_law_309 : decode cL_law 309 = .ok (.iconst 0, 1) := by decide +kernel
theorem dL_law_310 : decode cL_law 310 = .ok (.ireturn, 1) := by decide +kernel
theorem dL_law_311 : decode cL_law 311 = .ok (.aload_n 1, 1) := by decide +kernel
theorem dL_law_312 : decode cL_law 312 = .ok (.invokevirtual 28, 3) := by decide +kernel
theorem dL_law_315 : decode cL_law 315 = .ok (.aload_n 2, 1) := by decide +kernel
theorem dL_law_316 : decode cL_law 316 = .ok (.invokevirtual 31, 3) := by decide +kernel
theorem dL_law_319 : decode cL_law 319 = .ok (.if_icmp .eq 1204, 3) := by decide +kernel
theorem dL_law_322 : decode cL_law 322 = .ok (.iconst 0, 1) := by decide +kernel
theorem dL_law_323 : decode cL_law 323 = .ok (.ireturn, 1) := by decide +kernel
theorem dL_law_324 : decode cL_law 324 = .ok (.aload_n 1, 1) := by decide +kernel
theorem dL_law_325 : decode cL_law 325 = .ok (.aload_n 0, 1) := by decide +kernel
theorem dL_law_326 : decode cL_law 326 = .ok (.iload_n 3, 1) := by decide +kernel
theorem dL_law_327 : decode cL_law 327 = .ok (.iconst 1, 1) := by decide +kernel
theorem dL_law_328 : decode cL_law 328 = .ok (.iadd, 1) := by decide +kernel
theorem dL_law_329 : decode cL_law 329 = .ok (.iaload, 1) := by decide +kernel
theorem dL_law_330 : decode cL_law 330 = .ok (.aload_n 0, 1) := by decide +kernel
theorem dL_law_331 : decode cL_law 331 = .ok (.iload_n 3, 1) := by decide +kernel
theorem dL_law_332 : decode cL_law 332 = .ok (.iconst 2, 1) := by decide +kernel
theorem dL_law_333 : decode cL_law 333 = .ok (.iadd, 1) := by decide +kernel
theorem dL_law_334 : decode cL_law 334 = .ok (.iaload, 1) := by decide +kernel
theorem dL_law_335 : decode cL_law 335 = .ok (.aload_n 0, 1) := by decide +kernel
theorem dL_law_336 : decode cL_law 336 = .ok (.iload_n 3, 1) := by decide +kernel
theorem dL_law_337 : decode cL_law 337 = .ok (.iconst 3, 1) := by decide +kernel
theorem dL_law_338 : decode cL_law 338 = .ok (.iadd, 1) := by decide +kernel
theorem dL_law_339 : decode cL_law 339 = .ok (.iaload, 1) := by decide +kernel
theorem dL_law_340 : decode cL_law 340 = .ok (.aload_n 0, 1) := by decide +kernel
theorem dL_law_341 : decode cL_law 341 = .ok (.iload_n 3, 1) := by decide +kernel
theorem dL_law_342 : decode cL_law 342 = .ok (.iconst 4, 1) := by decide +kernel
theorem dL_law_343 : decode cL_law 343 = .ok (.iadd, 1) := by decide +kernel
theorem dL_law_344 : decode cL_law 344 = .ok (.iaload, 1) := by decide +kernel
theorem dL_law_345 : decode cL_law 345 = .ok (.invokevirtual 32, 3) := by decide +kernel
theorem dL_law_348 : decode cL_law 348 = .ok (.aload_n 2, 1) := by decide +kernel
theorem dL_law_349 : decode cL_law 349 = .ok (.aload_n 0, 1) := by decide +kernel
theorem dL_law_350 : decode cL_law 350 = .ok (.iload_n 3, 1) := by decide +kernel
theorem dL_law_351 : decode cL_law 351 = .ok (.iconst 1, 1) := by decide +kernel
theorem dL_law_352 : decode cL_law 352 = .ok (.iadd, 1) := by decide +kernel
theorem dL_law_353 : decode cL_law 353 = .ok (.iaload, 1) := by decide +kernel
theorem dL_law_354 : decode cL_law 354 = .ok (.aload_n 0, 1) := by decide +kernel
theorem dL_law_355 : decode cL_law 355 = .ok (.iload_n 3, 1) := by decide +kernel
theorem dL_law_356 : decode cL_law 356 = .ok (.iconst 2, 1) := by decide +kernel
theorem dL_law_357 : decode cL_law 357 = .ok (.iadd, 1) := by decide +kernel
theorem dL_law_358 : decode cL_law 358 = .ok (.iaload, 1) := by decide +kernel
theorem dL_law_359 : decode cL_law 359 = .ok (.aload_n 0, 1) := by decide +kernel
theorem dL_law_360 : decode cL_law 360 = .ok (.iload_n 3, 1) := by decide +kernel
theorem dL_law_361 : decode cL_law 361 = .ok (.iconst 3, 1) := by decide +kernel
theorem dL_law_362 : decode cL_law 362 = .ok (.iadd, 1) := by decide +kernel
theorem dL_law_363 : decode cL_law 363 = .ok (.iaload, 1) := by decide +kernel
theorem dL_law_364 : decode cL_law 364 = .ok (.aload_n 0, 1) := by decide +kernel
theorem dL_law_365 : decode cL_law 365 = .ok (.iload_n 3, 1) := by decide +kernel
theorem dL_law_366 : decode cL_law 366 = .ok (.iconst 4, 1) := by decide +kernel
theorem dL_law_367 : decode cL_law 367 = .ok (.iadd, 1) := by decide +kernel
theorem dL_law_368 : decode cL_law 368 = .ok (.iaload, 1) := by decide +kernel
theorem dL_law_369 : decode cL_law 369 = .ok (.invokevirtual 36, 3) := by decide +kernel
theorem dL_law_372 : decode cL_law 372 = .ok (.if_icmp .eq 1151, 3) := by decide +kernel
theorem dL_law_375 : decode cL_law 375 = .ok (.iconst 0, 1) := by decide +kernel
theorem dL_law_376 : decode cL_law 376 = .ok (.ireturn, 1) := by decide +kernel
theorem dL_law_377 : decode cL_law 377 = .ok (.aload_n 1, 1) := by decide +kernel
theorem dL_law_378 : decode cL_law 378 = .ok (.aload_n 0, 1) := by decide +kernel
theorem dL_law_379 : decode cL_law 379 = .ok (.iload_n 3, 1) := by decide +kernel
theorem dL_law_380 : decode cL_law 380 = .ok (.iconst 1, 1) := by decide +kernel
theorem dL_law_381 : decode cL_law 381 = .ok (.iadd, 1) := by decide +kernel
theorem dL_law_382 : decode cL_law 382 = .ok (.iaload, 1) := by decide +kernel
theorem dL_law_383 : decode cL_law 383 = .ok (.aload_n 0, 1) := by decide +kernel
theorem dL_law_384 : decode cL_law 384 = .ok (.iload_n 3, 1) := by decide +kernel
theorem dL_law_385 : decode cL_law 385 = .ok (.iconst 2, 1) := by decide +kernel
theorem dL_law_386 : decode cL_law 386 = .ok (.iadd, 1) := by decide +kernel
theorem dL_law_387 : decode cL_law 387 = .ok (.iaload, 1) := by decide +kernel
theorem dL_law_388 : decode cL_law 388 = .ok (.aload_n 0, 1) := by decide +kernel
theorem dL_law_389 : decode cL_law 389 = .ok (.iload_n 3, 1) := by decide +kernel
theorem dL_law_390 : decode cL_law 390 = .ok (.iconst 3, 1) := by decide +kernel
theorem dL_law_391 : decode cL_law 391 = .ok (.iadd, 1) := by decide +kernel
theorem dL_law_392 : decode cL_law 392 = .ok (.iaload, 1) := by decide +kernel
theorem dL_law_393 : decode cL_law 393 = .ok (.invokevirtual 37, 3) := by decide +kernel
theorem dL_law_396 : decode cL_law 396 = .ok (.aload_n 2, 1) := by decide +kernel
theorem dL_law_397 : decode cL_law 397 = .ok (.aload_n 0, 1) := by decide +kernel
theorem dL_law_398 : decode cL_law 398 = .ok (.iload_n 3, 1) := by decide +kernel
theorem dL_law_399 : decode cL_law 399 = .ok (.iconst 1, 1) := by decide +kernel
theorem dL_law_400 : decode cL_law 400 = .ok (.iadd, 1) := by decide +kernel
theorem dL_law_401 : decode cL_law 401 = .ok (.iaload, 1) := by decide +kernel
theorem dL_law_402 : decode cL_law 402 = .ok (.aload_n 0, 1) := by decide +kernel
theorem dL_law_403 : decode cL_law 403 = .ok (.iload_n 3, 1) := by decide +kernel
theorem dL_law_404 : decode cL_law 404 = .ok (.iconst 2, 1) := by decide +kernel
theorem dL_law_405 : decode cL_law 405 = .ok (.iadd, 1) := by decide +kernel
theorem dL_law_406 : decode cL_law 406 = .ok (.iaload, 1) := by decide +kernel
theorem dL_law_407 : decode cL_law 407 = .ok (.aload_n 0, 1) := by decide +kernel
theorem dL_law_408 : decode cL_law 408 = .ok (.iload_n 3, 1) := by decide +kernel
theorem dL_law_409 : decode cL_law 409 = .ok (.iconst 3, 1) := by decide +kernel
theorem dL_law_410 : decode cL_law 410 = .ok (.iadd, 1) := by decide +kernel
theorem dL_law_411 : decode cL_law 411 = .ok (.iaload, 1) := by decide +kernel
theorem dL_law_412 : decode cL_law 412 = .ok (.invokevirtual 41, 3) := by decide +kernel
theorem dL_law_415 : decode cL_law 415 = .ok (.if_icmp .eq 1108, 3) := by decide +kernel
theorem dL_law_418 : decode cL_law 418 = .ok (.iconst 0, 1) := by decide +kernel
theorem dL_law_419 : decode cL_law 419 = .ok (.ireturn, 1) := by decide +kernel
theorem dL_law_420 : decode cL_law 420 = .ok (.aload_n 1, 1) := by decide +kernel
theorem dL_law_421 : decode cL_law 421 = .ok (.aload_n 0, 1) := by decide +kernel
theorem dL_law_422 : decode cL_law 422 = .ok (.iload_n 3, 1) := by decide +kernel
theorem dL_law_423 : decode cL_law 423 = .ok (.iconst 1, 1) := by decide +kernel
theorem dL_law_424 : decode cL_law 424 = .ok (.iadd, 1) := by decide +kernel
theorem dL_law_425 : decode cL_law 425 = .ok (.iaload, 1) := by decide +kernel
theorem dL_law_426 : decode cL_law 426 = .ok (.invokevirtual 42, 3) := by decide +kernel
theorem dL_law_429 : decode cL_law 429 = .ok (.aload_n 2, 1) := by decide +kernel
theorem dL_law_430 : decode cL_law 430 = .ok (.aload_n 0, 1) := by decide +kernel
theorem dL_law_431 : decode cL_law 431 = .ok (.iload_n 3, 1) := by decide +kernel
theorem dL_law_432 : decode cL_law 432 = .ok (.iconst 1, 1) := by decide +kernel
theorem dL_law_433 : decode cL_law 433 = .ok (.iadd, 1) := by decide +kernel
theorem dL_law_434 : decode cL_law 434 = .ok (.iaload, 1) := by decide +kernel
theorem dL_law_435 : decode cL_law 435 = .ok (.invokevirtual 45, 3) := by decide +kernel
theorem dL_law_438 : decode cL_law 438 = .ok (.if_icmp .eq 1085, 3) := by decide +kernel
theorem dL_law_441 : decode cL_law 441 = .ok (.iconst 0, 1) := by decide +kernel
theorem dL_law_442 : decode cL_law 442 = .ok (.ireturn, 1) := by decide +kernel
theorem dL_law_443 : decode cL_law 443 = .ok (.aload_n 1, 1) := by decide +kernel
theorem dL_law_444 : decode cL_law 444 = .ok (.aload_n 0, 1) := by decide +kernel
theorem dL_law_445 : decode cL_law 445 = .ok (.iload_n 3, 1) := by decide +kernel
theorem dL_law_446 : decode cL_law 446 = .ok (.iconst 1, 1) := by decide +kernel
theorem dL_law_447 : decode cL_law 447 = .ok (.iadd, 1) := by decide +kernel
theorem dL_law_448 : decode cL_law 448 = .ok (.iaload, 1) := by decide +kernel
theorem dL_law_449 : decode cL_law 449 = .ok (.aload_n 0, 1) := by decide +kernel
theorem dL_law_450 : decode cL_law 450 = .ok (.iload_n 3, 1) := by decide +kernel
theorem dL_law_451 : decode cL_law 451 = .ok (.iconst 2, 1) := by decide +kernel
theorem dL_law_452 : decode cL_law 452 = .ok (.iadd, 1) := by decide +kernel
theorem dL_law_453 : decode cL_law 453 = .ok (.iaload, 1) := by decide +kernel
theorem dL_law_454 : decode cL_law 454 = .ok (.invokevirtual 46, 3) := by decide +kernel
theorem dL_law_457 : decode cL_law 457 = .ok (.aload_n 2, 1) := by decide +kernel
theorem dL_law_458 : decode cL_law 458 = .ok (.aload_n 0, 1) := by decide +kernel
theorem dL_law_459 : decode cL_law 459 = .ok (.iload_n 3, 1) := by decide +kernel
theorem dL_law_460 : decode cL_law 460 = .ok (.iconst 1, 1) := by decide +kernel
theorem dL_law_461 : decode cL_law 461 = .ok (.iadd, 1) := by decide +kernel
theorem dL_law_462 : decode cL_law 462 = .ok (.iaload, 1) := by decide +kernel
theorem dL_law_463 : decode cL_law 463 = .ok (.aload_n 0, 1) := by decide +kernel
theorem dL_law_464 : decode cL_law 464 = .ok (.iload_n 3, 1) := by decide +kernel
theorem dL_law_465 : decode cL_law 465 = .ok (.iconst 2, 1) := by decide +kernel
theorem dL_law_466 : decode cL_law 466 = .ok (.iadd, 1) := by decide +kernel
theorem dL_law_467 : decode cL_law 467 = .ok (.iaload, 1) := by decide +kernel
theorem dL_law_468 : decode cL_law 468 = .ok (.invokevirtual 50, 3) := by decide +kernel
theorem dL_law_471 : decode cL_law 471 = .ok (.if_icmp .eq 1052, 3) := by decide +kernel
theorem dL_law_474 : decode cL_law 474 = .ok (.iconst 0, 1) := by decide +kernel
theorem dL_law_475 : decode cL_law 475 = .ok (.ireturn, 1) := by decide +kernel
theorem dL_law_476 : decode cL_law 476 = .ok (.aload_n 1, 1) := by decide +kernel
theorem dL_law_477 : decode cL_law 477 = .ok (.aload_n 0, 1) := by decide +kernel
theorem dL_law_478 : decode cL_law 478 = .ok (.iload_n 3, 1) := by decide +kernel
theorem dL_law_479 : decode cL_law 479 = .ok (.iconst 1, 1) := by decide +kernel
theorem dL_law_480 : decode cL_law 480 = .ok (.iadd, 1) := by decide +kernel
theorem dL_law_481 : decode cL_law 481 = .ok (.iaload, 1) := by decide +kernel
theorem dL_law_482 : decode cL_law 482 = .ok (.aload_n 0, 1) := by decide +kernel
theorem dL_law_483 : decode cL_law 483 = .ok (.iload_n 3, 1) := by decide +kernel
theorem dL_law_484 : decode cL_law 484 = .ok (.iconst 2, 1) := by decide +kernel
theorem dL_law_485 : decode cL_law 485 = .ok (.iadd, 1) := by decide +kernel
theorem dL_law_486 : decode cL_law 486 = .ok (.iaload, 1) := by decide +kernel
theorem dL_law_487 : decode cL_law 487 = .ok (.invokevirtual 51, 3) := by decide +kernel
theorem dL_law_490 : decode cL_law 490 = .ok (.aload_n 2, 1) := by decide +kernel
theorem dL_law_491 : decode cL_law 491 = .ok (.aload_n 0, 1) := by decide +kernel
theorem dL_law_492 : decode cL_law 492 = .ok (.iload_n 3, 1) := by decide +kernel
theorem dL_law_493 : decode cL_law 493 = .ok (.iconst 1, 1) := by decide +kernel
theorem dL_law_494 : decode cL_law 494 = .ok (.iadd, 1) := by decide +kernel
theorem dL_law_495 : decode cL_law 495 = .ok (.iaload, 1) := by decide +kernel
theorem dL_law_496 : decode cL_law 496 = .ok (.aload_n 0, 1) := by decide +kernel
theorem dL_law_497 : decode cL_law 497 = .ok (.iload_n 3, 1) := by decide +kernel
theorem dL_law_498 : decode cL_law 498 = .ok (.iconst 2, 1) := by decide +kernel
theorem dL_law_499 : decode cL_law 499 = .ok (.iadd, 1) := by decide +kernel
theorem dL_law_500 : decode cL_law 500 = .ok (.iaload, 1) := by decide +kernel
theorem dL_law_501 : decode cL_law 501 = .ok (.invokevirtual 55, 3) := by decide +kernel
theorem dL_law_504 : decode cL_law 504 = .ok (.if_icmp .eq 1019, 3) := by decide +kernel
theorem dL_law_507 : decode cL_law 507 = .ok (.iconst 0, 1) := by decide +kernel
theorem dL_law_508 : decode cL_law 508 = .ok (.ireturn, 1) := by decide +kernel
theorem dL_law_509 : decode cL_law 509 = .ok (.aload_n 1, 1) := by decide +kernel
theorem dL_law_510 : decode cL_law 510 = .ok (.aload_n 0, 1) := by decide +kernel
theorem dL_law_511 : decode cL_law 511 = .ok (.iload_n 3, 1) := by decide +kernel
theorem dL_law_512 : decode cL_law 512 = .ok (.iconst 1, 1) := by decide +kernel
theorem dL_law_513 : decode cL_law 513 = .ok (.iadd, 1) := by decide +kernel
theorem dL_law_514 : decode cL_law 514 = .ok (.iaload, 1) := by decide +kernel
theorem dL_law_515 : decode cL_law 515 = .ok (.invokevirtual 56, 3) := by decide +kernel
theorem dL_law_518 : decode cL_law 518 = .ok (.aload_n 2, 1) := by decide +kernel
theorem dL_law_519 : decode cL_law 519 = .ok (.aload_n 0, 1) := by decide +kernel
theorem dL_law_520 : decode cL_law 520 = .ok (.iload_n 3, 1) := by decide +kernel
theorem dL_law_521 : decode cL_law 521 = .ok (.iconst 1, 1) := by decide +kernel
theorem dL_law_522 : decode cL_law 522 = .ok (.iadd, 1) := by decide +kernel
theorem dL_law_523 : decode cL_law 523 = .ok (.iaload, 1) := by decide +kernel
theorem dL_law_524 : decode cL_law 524 = .ok (.invokevirtual 60, 3) := by decide +kernel
theorem dL_law_527 : decode cL_law 527 = .ok (.if_icmp .eq 996, 3) := by decide +kernel
theorem dL_law_530 : decode cL_law 530 = .ok (.iconst 0, 1) := by decide +kernel
theorem dL_law_531 : decode cL_law 531 = .ok (.ireturn, 1) := by decide +kernel
theorem dL_law_532 : decode cL_law 532 = .ok (.aload_n 1, 1) := by decide +kernel
theorem dL_law_533 : decode cL_law 533 = .ok (.aload_n 0, 1) := by decide +kernel
theorem dL_law_534 : decode cL_law 534 = .ok (.iload_n 3, 1) := by decide +kernel
theorem dL_law_535 : decode cL_law 535 = .ok (.iconst 1, 1) := by decide +kernel
theorem dL_law_536 : decode cL_law 536 = .ok (.iadd, 1) := by decide +kernel
theorem dL_law_537 : decode cL_law 537 = .ok (.iaload, 1) := by decide +kernel
theorem dL_law_538 : decode cL_law 538 = .ok (.invokevirtual 61, 3) := by decide +kernel
theorem dL_law_541 : decode cL_law 541 = .ok (.aload_n 2, 1) := by decide +kernel
theorem dL_law_542 : decode cL_law 542 = .ok (.aload_n 0, 1) := by decide +kernel
theorem dL_law_543 : decode cL_law 543 = .ok (.iload_n 3, 1) := by decide +kernel
theorem dL_law_544 : decode cL_law 544 = .ok (.iconst 1, 1) := by decide +kernel
theorem dL_law_545 : decode cL_law 545 = .ok (.iadd, 1) := by decide +kernel
theorem dL_law_546 : decode cL_law 546 = .ok (.iaload, 1) := by decide +kernel
theorem dL_law_547 : decode cL_law 547 = .ok (.invokevirtual 64, 3) := by decide +kernel
theorem dL_law_550 : decode cL_law 550 = .ok (.if_icmp .eq 973, 3) := by decide +kernel
theorem dL_law_553 : decode cL_law 553 = .ok (.iconst 0, 1) := by decide +kernel
theorem dL_law_554 : decode cL_law 554 = .ok (.ireturn, 1) := by decide +kernel
theorem dL_law_555 : decode cL_law 555 = .ok (.aload_n 1, 1) := by decide +kernel
theorem dL_law_556 : decode cL_law 556 = .ok (.invokevirtual 65, 3) := by decide +kernel
theorem dL_law_559 : decode cL_law 559 = .ok (.aload_n 2, 1) := by decide +kernel
theorem dL_law_560 : decode cL_law 560 = .ok (.invokevirtual 69, 3) := by decide +kernel
theorem dL_law_563 : decode cL_law 563 = .ok (.if_icmp .eq 960, 3) := by decide +kernel
theorem dL_law_566 : decode cL_law 566 = .ok (.iconst 0, 1) := by decide +kernel
theorem dL_law_567 : decode cL_law 567 = .ok (.ireturn, 1) := by decide +kernel
theorem dL_law_568 : decode cL_law 568 = .ok (.aload_n 1, 1) := by decide +kernel
theorem dL_law_569 : decode cL_law 569 = .ok (.aload_n 0, 1) := by decide +kernel
theorem dL_law_570 : decode cL_law 570 = .ok (.iload_n 3, 1) := by decide +kernel
theorem dL_law_571 : decode cL_law 571 = .ok (.iconst 1, 1) := by decide +kernel
theorem dL_law_572 : decode cL_law 572 = .ok (.iadd, 1) := by decide +kernel
theorem dL_law_573 : decode cL_law 573 = .ok (.iaload, 1) := by decide +kernel
theorem dL_law_574 : decode cL_law 574 = .ok (.aload_n 0, 1) := by decide +kernel
theorem dL_law_575 : decode cL_law 575 = .ok (.iload_n 3, 1) := by decide +kernel
theorem dL_law_576 : decode cL_law 576 = .ok (.iconst 2, 1) := by decide +kernel
theorem dL_law_577 : decode cL_law 577 = .ok (.iadd, 1) := by decide +kernel
theorem dL_law_578 : decode cL_law 578 = .ok (.iaload, 1) := by decide +kernel
theorem dL_law_579 : decode cL_law 579 = .ok (.aload_n 0, 1) := by decide +kernel
theorem dL_law_580 : decode cL_law 580 = .ok (.iload_n 3, 1) := by decide +kernel
theorem dL_law_581 : decode cL_law 581 = .ok (.iconst 3, 1) := by decide +kernel
theorem dL_law_582 : decode cL_law 582 = .ok (.iadd, 1) := by decide +kernel
theorem dL_law_583 : decode cL_law 583 = .ok (.iaload, 1) := by decide +kernel
theorem dL_law_584 : decode cL_law 584 = .ok (.ifCond .eq 7, 3) := by decide +kernel
theorem dL_law_587 : decode cL_law 587 = .ok (.iconst 1, 1) := by decide +kernel
theorem dL_law_588 : decode cL_law 588 = .ok (.goto 4, 3) := by decide +kernel
theorem dL_law_591 : decode cL_law 591 = .ok (.iconst 0, 1) := by decide +kernel
theorem dL_law_592 : decode cL_law 592 = .ok (.invokevirtual 70, 3) := by decide +kernel
theorem dL_law_595 : decode cL_law 595 = .ok (.aload_n 2, 1) := by decide +kernel
theorem dL_law_596 : decode cL_law 596 = .ok (.aload_n 0, 1) := by decide +kernel
theorem dL_law_597 : decode cL_law 597 = .ok (.iload_n 3, 1) := by decide +kernel
theorem dL_law_598 : decode cL_law 598 = .ok (.iconst 1, 1) := by decide +kernel
theorem dL_law_599 : decode cL_law 599 = .ok (.iadd, 1) := by decide +kernel
theorem dL_law_600 : decode cL_law 600 = .ok (.iaload, 1) := by decide +kernel
theorem dL_law_601 : decode cL_law 601 = .ok (.aload_n 0, 1) := by decide +kernel
theorem dL_law_602 : decode cL_law 602 = .ok (.iload_n 3, 1) := by decide +kernel
theorem dL_law_603 : decode cL_law 603 = .ok (.iconst 2, 1) := by decide +kernel
theorem dL_law_604 : decode cL_law 604 = .ok (.iadd, 1) := by decide +kernel
theorem dL_law_605 : decode cL_law 605 = .ok (.iaload, 1) := by decide +kernel
theorem dL_law_606 : decode cL_law 606 = .ok (.aload_n 0, 1) := by decide +kernel
theorem dL_law_607 : decode cL_law 607 = .ok (.iload_n 3, 1) := by decide +kernel
theorem dL_law_608 : decode cL_law 608 = .ok (.iconst 3, 1) := by decide +kernel
theorem dL_law_609 : decode cL_law 609 = .ok (.iadd, 1) := by decide +kernel
theorem dL_law_610 : decode cL_law 610 = .ok (.iaload, 1) := by decide +kernel
theorem dL_law_611 : decode cL_law 611 = .ok (.ifCond .eq 7, 3) := by decide +kernel
theorem dL_law_614 : decode cL_law 614 = .ok (.iconst 1, 1) := by decide +kernel
theorem dL_law_615 : decode cL_law 615 = .ok (.goto 4, 3) := by decide +kernel
theorem dL_law_618 : decode cL_law 618 = .ok (.iconst 0, 1) := by decide +kernel
theorem dL_law_619 : decode cL_law 619 = .ok (.invokevirtual 74, 3) := by decide +kernel
theorem dL_law_622 : decode cL_law 622 = .ok (.if_icmp .eq 901, 3) := by decide +kernel
theorem dL_law_625 : decode cL_law 625 = .ok (.iconst 0, 1) := by decide +kernel
theorem dL_law_626 : decode cL_law 626 = .ok (.ireturn, 1) := by decide +kernel
theorem dL_law_627 : decode cL_law 627 = .ok (.aload_n 1, 1) := by decide +kernel
theorem dL_law_628 : decode cL_law 628 = .ok (.aload_n 0, 1) := by decide +kernel
theorem dL_law_629 : decode cL_law 629 = .ok (.iload_n 3, 1) := by decide +kernel
theorem dL_law_630 : decode cL_law 630 = .ok (.iconst 1, 1) := by decide +kernel
theorem dL_law_631 : decode cL_law 631 = .ok (.iadd, 1) := by decide +kernel
theorem dL_law_632 : decode cL_law 632 = .ok (.iaload, 1) := by decide +kernel
theorem dL_law_633 : decode cL_law 633 = .ok (.aload_n 0, 1) := by decide +kernel
theorem dL_law_634 : decode cL_law 634 = .ok (.iload_n 3, 1) := by decide +kernel
theorem dL_law_635 : decode cL_law 635 = .ok (.iconst 2, 1) := by decide +kernel
theorem dL_law_636 : decode cL_law 636 = .ok (.iadd, 1) := by decide +kernel
theorem dL_law_637 : decode cL_law 637 = .ok (.iaload, 1) := by decide +kernel
theorem dL_law_638 : decode cL_law 638 = .ok (.invokevirtual 75, 3) := by decide +kernel
theorem dL_law_641 : decode cL_law 641 = .ok (.aload_n 2, 1) := by decide +kernel
theorem dL_law_642 : decode cL_law 642 = .ok (.aload_n 0, 1) := by decide +kernel
theorem dL_law_643 : decode cL_law 643 = .ok (.iload_n 3, 1) := by decide +kernel
theorem dL_law_644 : decode cL_law 644 = .ok (.iconst 1, 1) := by decide +kernel
theorem dL_law_645 : decode cL_law 645 = .ok (.iadd, 1) := by decide +kernel
theorem dL_law_646 : decode cL_law 646 = .ok (.iaload, 1) := by decide +kernel
theorem dL_law_647 : decode cL_law 647 = .ok (.aload_n 0, 1) := by decide +kernel
theorem dL_law_648 : decode cL_law 648 = .ok (.iload_n 3, 1) := by decide +kernel
theorem dL_law_649 : decode cL_law 649 = .ok (.iconst 2, 1) := by decide +kernel
theorem dL_law_650 : decode cL_law 650 = .ok (.iadd, 1) := by decide +kernel
theorem dL_law_651 : decode cL_law 651 = .ok (.iaload, 1) := by decide +kernel
theorem dL_law_652 : decode cL_law 652 = .ok (.invokevirtual 78, 3) := by decide +kernel
theorem dL_law_655 : decode cL_law 655 = .ok (.if_icmp .eq 868, 3) := by decide +kernel
theorem dL_law_658 : decode cL_law 658 = .ok (.iconst 0, 1) := by decide +kernel
theorem dL_law_659 : decode cL_law 659 = .ok (.ireturn, 1) := by decide +kernel
theorem dL_law_660 : decode cL_law 660 = .ok (.aload_n 1, 1) := by decide +kernel
theorem dL_law_661 : decode cL_law 661 = .ok (.aload_n 0, 1) := by decide +kernel
theorem dL_law_662 : decode cL_law 662 = .ok (.iload_n 3, 1) := by decide +kernel
theorem dL_law_663 : decode cL_law 663 = .ok (.iconst 1, 1) := by decide +kernel
theorem dL_law_664 : decode cL_law 664 = .ok (.iadd, 1) := by decide +kernel
theorem dL_law_665 : decode cL_law 665 = .ok (.iaload, 1) := by decide +kernel
theorem dL_law_666 : decode cL_law 666 = .ok (.aload_n 0, 1) := by decide +kernel
theorem dL_law_667 : decode cL_law 667 = .ok (.iload_n 3, 1) := by decide +kernel
theorem dL_law_668 : decode cL_law 668 = .ok (.iconst 2, 1) := by decide +kernel
theorem dL_law_669 : decode cL_law 669 = .ok (.iadd, 1) := by decide +kernel
theorem dL_law_670 : decode cL_law 670 = .ok (.iaload, 1) := by decide +kernel
theorem dL_law_671 : decode cL_law 671 = .ok (.invokevirtual 79, 3) := by decide +kernel
theorem dL_law_674 : decode cL_law 674 = .ok (.aload_n 2, 1) := by decide +kernel
theorem dL_law_675 : decode cL_law 675 = .ok (.aload_n 0, 1) := by decide +kernel
theorem dL_law_676 : decode cL_law 676 = .ok (.iload_n 3, 1) := by decide +kernel
theorem dL_law_677 : decode cL_law 677 = .ok (.iconst 1, 1) := by decide +kernel
theorem dL_law_678 : decode cL_law 678 = .ok (.iadd, 1) := by decide +kernel
theorem dL_law_679 : decode cL_law 679 = .ok (.iaload, 1) := by decide +kernel
theorem dL_law_680 : decode cL_law 680 = .ok (.aload_n 0, 1) := by decide +kernel
theorem dL_law_681 : decode cL_law 681 = .ok (.iload_n 3, 1) := by decide +kernel
theorem dL_law_682 : decode cL_law 682 = .ok (.iconst 2, 1) := by decide +kernel
theorem dL_law_683 : decode cL_law 683 = .ok (.iadd, 1) := by decide +kernel
theorem dL_law_684 : decode cL_law 684 = .ok (.iaload, 1) := by decide +kernel
theorem dL_law_685 : decode cL_law 685 = .ok (.invokevirtual 82, 3) := by decide +kernel
theorem dL_law_688 : decode cL_law 688 = .ok (.if_icmp .eq 835, 3) := by decide +kernel
theorem dL_law_691 : decode cL_law 691 = .ok (.iconst 0, 1) := by decide +kernel
theorem dL_law_692 : decode cL_law 692 = .ok (.ireturn, 1) := by decide +kernel
theorem dL_law_693 : decode cL_law 693 = .ok (.aload_n 1, 1) := by decide +kernel
theorem dL_law_694 : decode cL_law 694 = .ok (.aload_n 0, 1) := by decide +kernel
theorem dL_law_695 : decode cL_law 695 = .ok (.iload_n 3, 1) := by decide +kernel
theorem dL_law_696 : decode cL_law 696 = .ok (.iconst 1, 1) := by decide +kernel
theorem dL_law_697 : decode cL_law 697 = .ok (.iadd, 1) := by decide +kernel
theorem dL_law_698 : decode cL_law 698 = .ok (.iaload, 1) := by decide +kernel
theorem dL_law_699 : decode cL_law 699 = .ok (.aload_n 0, 1) := by decide +kernel
theorem dL_law_700 : decode cL_law 700 = .ok (.iload_n 3, 1) := by decide +kernel
theorem dL_law_701 : decode cL_law 701 = .ok (.iconst 2, 1) := by decide +kernel
theorem dL_law_702 : decode cL_law 702 = .ok (.iadd, 1) := by decide +kernel
theorem dL_law_703 : decode cL_law 703 = .ok (.iaload, 1) := by decide +kernel
theorem dL_law_704 : decode cL_law 704 = .ok (.invokevirtual 83, 3) := by decide +kernel
theorem dL_law_707 : decode cL_law 707 = .ok (.aload_n 2, 1) := by decide +kernel
theorem dL_law_708 : decode cL_law 708 = .ok (.aload_n 0, 1) := by decide +kernel
theorem dL_law_709 : decode cL_law 709 = .ok (.iload_n 3, 1) := by decide +kernel
theorem dL_law_710 : decode cL_law 710 = .ok (.iconst 1, 1) := by decide +kernel
theorem dL_law_711 : decode cL_law 711 = .ok (.iadd, 1) := by decide +kernel
theorem dL_law_712 : decode cL_law 712 = .ok (.iaload, 1) := by decide +kernel
theorem dL_law_713 : decode cL_law 713 = .ok (.aload_n 0, 1) := by decide +kernel
theorem dL_law_714 : decode cL_law 714 = .ok (.iload_n 3, 1) := by decide +kernel
theorem dL_law_715 : decode cL_law 715 = .ok (.iconst 2, 1) := by decide +kernel
theorem dL_law_716 : decode cL_law 716 = .ok (.iadd, 1) := by decide +kernel
theorem dL_law_717 : decode cL_law 717 = .ok (.iaload, 1) := by decide +kernel
theorem dL_law_718 : decode cL_law 718 = .ok (.invokevirtual 86, 3) := by decide +kernel
theorem dL_law_721 : decode cL_law 721 = .ok (.if_icmp .eq 802, 3) := by decide +kernel
theorem dL_law_724 : decode cL_law 724 = .ok (.iconst 0, 1) := by decide +kernel
theorem dL_law_725 : decode cL_law 725 = .ok (.ireturn, 1) := by decide +kernel
theorem dL_law_726 : decode cL_law 726 = .ok (.aload_n 1, 1) := by decide +kernel
theorem dL_law_727 : decode cL_law 727 = .ok (.aload_n 0, 1) := by decide +kernel
theorem dL_law_728 : decode cL_law 728 = .ok (.iload_n 3, 1) := by decide +kernel
theorem dL_law_729 : decode cL_law 729 = .ok (.iconst 1, 1) := by decide +kernel
theorem dL_law_730 : decode cL_law 730 = .ok (.iadd, 1) := by decide +kernel
theorem dL_law_731 : decode cL_law 731 = .ok (.iaload, 1) := by decide +kernel
theorem dL_law_732 : decode cL_law 732 = .ok (.invokevirtual 87, 3) := by decide +kernel
theorem dL_law_735 : decode cL_law 735 = .ok (.aload_n 2, 1) := by decide +kernel
theorem dL_law_736 : decode cL_law 736 = .ok (.aload_n 0, 1) := by decide +kernel
theorem dL_law_737 : decode cL_law 737 = .ok (.iload_n 3, 1) := by decide +kernel
theorem dL_law_738 : decode cL_law 738 = .ok (.iconst 1, 1) := by decide +kernel
theorem dL_law_739 : decode cL_law 739 = .ok (.iadd, 1) := by decide +kernel
theorem dL_law_740 : decode cL_law 740 = .ok (.iaload, 1) := by decide +kernel
theorem dL_law_741 : decode cL_law 741 = .ok (.invokevirtual 90, 3) := by decide +kernel
theorem dL_law_744 : decode cL_law 744 = .ok (.if_icmp .eq 779, 3) := by decide +kernel
theorem dL_law_747 : decode cL_law 747 = .ok (.iconst 0, 1) := by decide +kernel
theorem dL_law_748 : decode cL_law 748 = .ok (.ireturn, 1) := by decide +kernel
theorem dL_law_749 : decode cL_law 749 = .ok (.aload_n 1, 1) := by decide +kernel
theorem dL_law_750 : decode cL_law 750 = .ok (.aload_n 0, 1) := by decide +kernel
theorem dL_law_751 : decode cL_law 751 = .ok (.iload_n 3, 1) := by decide +kernel
theorem dL_law_752 : decode cL_law 752 = .ok (.iconst 1, 1) := by decide +kernel
theorem dL_law_753 : decode cL_law 753 = .ok (.iadd, 1) := by decide +kernel
theorem dL_law_754 : decode cL_law 754 = .ok (.iaload, 1) := by decide +kernel
theorem dL_law_755 : decode cL_law 755 = .ok (.aload_n 0, 1) := by decide +kernel
theorem dL_law_756 : decode cL_law 756 = .ok (.iload_n 3, 1) := by decide +kernel
theorem dL_law_757 : decode cL_law 757 = .ok (.iconst 2, 1) := by decide +kernel
theorem dL_law_758 : decode cL_law 758 = .ok (.iadd, 1) := by decide +kernel
theorem dL_law_759 : decode cL_law 759 = .ok (.iaload, 1) := by decide +kernel
theorem dL_law_760 : decode cL_law 760 = .ok (.invokevirtual 91, 3) := by decide +kernel
theorem dL_law_763 : decode cL_law 763 = .ok (.aload_n 2, 1) := by decide +kernel
theorem dL_law_764 : decode cL_law 764 = .ok (.aload_n 0, 1) := by decide +kernel
theorem dL_law_765 : decode cL_law 765 = .ok (.iload_n 3, 1) := by decide +kernel
theorem dL_law_766 : decode cL_law 766 = .ok (.iconst 1, 1) := by decide +kernel
theorem dL_law_767 : decode cL_law 767 = .ok (.iadd, 1) := by decide +kernel
theorem dL_law_768 : decode cL_law 768 = .ok (.iaload, 1) := by decide +kernel
theorem dL_law_769 : decode cL_law 769 = .ok (.aload_n 0, 1) := by decide +kernel
theorem dL_law_770 : decode cL_law 770 = .ok (.iload_n 3, 1) := by decide +kernel
theorem dL_law_771 : decode cL_law 771 = .ok (.iconst 2, 1) := by decide +kernel
theorem dL_law_772 : decode cL_law 772 = .ok (.iadd, 1) := by decide +kernel
theorem dL_law_773 : decode cL_law 773 = .ok (.iaload, 1) := by decide +kernel
theorem dL_law_774 : decode cL_law 774 = .ok (.invokevirtual 94, 3) := by decide +kernel
theorem dL_law_777 : decode cL_law 777 = .ok (.if_icmp .eq 746, 3) := by decide +kernel
theorem dL_law_780 : decode cL_law 780 = .ok (.iconst 0, 1) := by decide +kernel
theorem dL_law_781 : decode cL_law 781 = .ok (.ireturn, 1) := by decide +kernel
theorem dL_law_782 : decode cL_law 782 = .ok (.aload_n 1, 1) := by decide +kernel
theorem dL_law_783 : decode cL_law 783 = .ok (.aload_n 0, 1) := by decide +kernel
theorem dL_law_784 : decode cL_law 784 = .ok (.iload_n 3, 1) := by decide +kernel
theorem dL_law_785 : decode cL_law 785 = .ok (.iconst 1, 1) := by decide +kernel
theorem dL_law_786 : decode cL_law 786 = .ok (.iadd, 1) := by decide +kernel
theorem dL_law_787 : decode cL_law 787 = .ok (.iaload, 1) := by decide +kernel
theorem dL_law_788 : decode cL_law 788 = .ok (.aload_n 0, 1) := by decide +kernel
theorem dL_law_789 : decode cL_law 789 = .ok (.iload_n 3, 1) := by decide +kernel
theorem dL_law_790 : decode cL_law 790 = .ok (.iconst 2, 1) := by decide +kernel
theorem dL_law_791 : decode cL_law 791 = .ok (.iadd, 1) := by decide +kernel
theorem dL_law_792 : decode cL_law 792 = .ok (.iaload, 1) := by decide +kernel
theorem dL_law_793 : decode cL_law 793 = .ok (.invokevirtual 95, 3) := by decide +kernel
theorem dL_law_796 : decode cL_law 796 = .ok (.aload_n 2, 1) := by decide +kernel
theorem dL_law_797 : decode cL_law 797 = .ok (.aload_n 0, 1) := by decide +kernel
theorem dL_law_798 : decode cL_law 798 = .ok (.iload_n 3, 1) := by decide +kernel
theorem dL_law_799 : decode cL_law 799 = .ok (.iconst 1, 1) := by decide +kernel
theorem dL_law_800 : decode cL_law 800 = .ok (.iadd, 1) := by decide +kernel
theorem dL_law_801 : decode cL_law 801 = .ok (.iaload, 1) := by decide +kernel
theorem dL_law_802 : decode cL_law 802 = .ok (.aload_n 0, 1) := by decide +kernel
theorem dL_law_803 : decode cL_law 803 = .ok (.iload_n 3, 1) := by decide +kernel
theorem dL_law_804 : decode cL_law 804 = .ok (.iconst 2, 1) := by decide +kernel
theorem dL_law_805 : decode cL_law 805 = .ok (.iadd, 1) := by decide +kernel
theorem dL_law_806 : decode cL_law 806 = .ok (.iaload, 1) := by decide +kernel
theorem dL_law_807 : decode cL_law 807 = .ok (.invokevirtual 98, 3) := by decide +kernel
theorem dL_law_810 : decode cL_law 810 = .ok (.if_icmp .eq 713, 3) := by decide +kernel
theorem dL_law_813 : decode cL_law 813 = .ok (.iconst 0, 1) := by decide +kernel
theorem dL_law_814 : decode cL_law 814 = .ok (.ireturn, 1) := by decide +kernel
theorem dL_law_815 : decode cL_law 815 = .ok (.aload_n 1, 1) := by decide +kernel
theorem dL_law_816 : decode cL_law 816 = .ok (.aload_n 0, 1) := by decide +kernel
theorem dL_law_817 : decode cL_law 817 = .ok (.iload_n 3, 1) := by decide +kernel
theorem dL_law_818 : decode cL_law 818 = .ok (.iconst 1, 1) := by decide +kernel
theorem dL_law_819 : decode cL_law 819 = .ok (.iadd, 1) := by decide +kernel
theorem dL_law_820 : decode cL_law 820 = .ok (.iaload, 1) := by decide +kernel
theorem dL_law_821 : decode cL_law 821 = .ok (.aload_n 0, 1) := by decide +kernel
theorem dL_law_822 : decode cL_law 822 = .ok (.iload_n 3, 1) := by decide +kernel
theorem dL_law_823 : decode cL_law 823 = .ok (.iconst 2, 1) := by decide +kernel
theorem dL_law_824 : decode cL_law 824 = .ok (.iadd, 1) := by decide +kernel
theorem dL_law_825 : decode cL_law 825 = .ok (.iaload, 1) := by decide +kernel
theorem dL_law_826 : decode cL_law 826 = .ok (.invokevirtual 99, 3) := by decide +kernel
theorem dL_law_829 : decode cL_law 829 = .ok (.aload_n 2, 1) := by decide +kernel
theorem dL_law_830 : decode cL_law 830 = .ok (.aload_n 0, 1) := by decide +kernel
theorem dL_law_831 : decode cL_law 831 = .ok (.iload_n 3, 1) := by decide +kernel
theorem dL_law_832 : decode cL_law 832 = .ok (.iconst 1, 1) := by decide +kernel
theorem dL_law_833 : decode cL_law 833 = .ok (.iadd, 1) := by decide +kernel
theorem dL_law_834 : decode cL_law 834 = .ok (.iaload, 1) := by decide +kernel
theorem dL_law_835 : decode cL_law 835 = .ok (.aload_n 0, 1) := by decide +kernel
theorem dL_law_836 : decode cL_law 836 = .ok (.iload_n 3, 1) := by decide +kernel
theorem dL_law_837 : decode cL_law 837 = .ok (.iconst 2, 1) := by decide +kernel
theorem dL_law_838 : decode cL_law 838 = .ok (.iadd, 1) := by decide +kernel
theorem dL_law_839 : decode cL_law 839 = .ok (.iaload, 1) := by decide +kernel
theorem dL_law_840 : decode cL_law 840 = .ok (.invokevirtual 102, 3) := by decide +kernel
theorem dL_law_843 : decode cL_law 843 = .ok (.if_icmp .eq 680, 3) := by decide +kernel
theorem dL_law_846 : decode cL_law 846 = .ok (.iconst 0, 1) := by decide +kernel
theorem dL_law_847 : decode cL_law 847 = .ok (.ireturn, 1) := by decide +kernel
theorem dL_law_848 : decode cL_law 848 = .ok (.aload_n 1, 1) := by decide +kernel
theorem dL_law_849 : decode cL_law 849 = .ok (.aload_n 0, 1) := by decide +kernel
theorem dL_law_850 : decode cL_law 850 = .ok (.iload_n 3, 1) := by decide +kernel
theorem dL_law_851 : decode cL_law 851 = .ok (.iconst 1, 1) := by decide +kernel
theorem dL_law_852 : decode cL_law 852 = .ok (.iadd, 1) := by decide +kernel
theorem dL_law_853 : decode cL_law 853 = .ok (.iaload, 1) := by decide +kernel
theorem dL_law_854 : decode cL_law 854 = .ok (.aload_n 0, 1) := by decide +kernel
theorem dL_law_855 : decode cL_law 855 = .ok (.iload_n 3, 1) := by decide +kernel
theorem dL_law_856 : decode cL_law 856 = .ok (.iconst 2, 1) := by decide +kernel
theorem dL_law_857 : decode cL_law 857 = .ok (.iadd, 1) := by decide +kernel
theorem dL_law_858 : decode cL_law 858 = .ok (.iaload, 1) := by decide +kernel
theorem dL_law_859 : decode cL_law 859 = .ok (.aload_n 0, 1) := by decide +kernel
theorem dL_law_860 : decode cL_law 860 = .ok (.iload_n 3, 1) := by decide +kernel
theorem dL_law_861 : decode cL_law 861 = .ok (.iconst 3, 1) := by decide +kernel
theorem dL_law_862 : decode cL_law 862 = .ok (.iadd, 1) := by decide +kernel
theorem dL_law_863 : decode cL_law 863 = .ok (.iaload, 1) := by decide +kernel
theorem dL_law_864 : decode cL_law 864 = .ok (.ifCond .eq 7, 3) := by decide +kernel
theorem dL_law_867 : decode cL_law 867 = .ok (.iconst 1, 1) := by decide +kernel
theorem dL_law_868 : decode cL_law 868 = .ok (.goto 4, 3) := by decide +kernel
theorem dL_law_871 : decode cL_law 871 = .ok (.iconst 0, 1) := by decide +kernel
theorem dL_law_872 : decode cL_law 872 = .ok (.invokevirtual 103, 3) := by decide +kernel
theorem dL_law_875 : decode cL_law 875 = .ok (.aload_n 2, 1) := by decide +kernel
theorem dL_law_876 : decode cL_law 876 = .ok (.aload_n 0, 1) := by decide +kernel
theorem dL_law_877 : decode cL_law 877 = .ok (.iload_n 3, 1) := by decide +kernel
theorem dL_law_878 : decode cL_law 878 = .ok (.iconst 1, 1) := by decide +kernel
theorem dL_law_879 : decode cL_law 879 = .ok (.iadd, 1) := by decide +kernel
theorem dL_law_880 : decode cL_law 880 = .ok (.iaload, 1) := by decide +kernel
theorem dL_law_881 : decode cL_law 881 = .ok (.aload_n 0, 1) := by decide +kernel
theorem dL_law_882 : decode cL_law 882 = .ok (.iload_n 3, 1) := by decide +kernel
theorem dL_law_883 : decode cL_law 883 = .ok (.iconst 2, 1) := by decide +kernel
theorem dL_law_884 : decode cL_law 884 = .ok (.iadd, 1) := by decide +kernel
theorem dL_law_885 : decode cL_law 885 = .ok (.iaload, 1) := by decide +kernel
theorem dL_law_886 : decode cL_law 886 = .ok (.aload_n 0, 1) := by decide +kernel
theorem dL_law_887 : decode cL_law 887 = .ok (.iload_n 3, 1) := by decide +kernel
theorem dL_law_888 : decode cL_law 888 = .ok (.iconst 3, 1) := by decide +kernel
theorem dL_law_889 : decode cL_law 889 = .ok (.iadd, 1) := by decide +kernel
theorem dL_law_890 : decode cL_law 890 = .ok (.iaload, 1) := by decide +kernel
theorem dL_law_891 : decode cL_law 891 = .ok (.ifCond .eq 7, 3) := by decide +kernel
theorem dL_law_894 : decode cL_law 894 = .ok (.iconst 1, 1) := by decide +kernel
theorem dL_law_895 : decode cL_law 895 = .ok (.goto 4, 3) := by decide +kernel
theorem dL_law_898 : decode cL_law 898 = .ok (.iconst 0, 1) := by decide +kernel
theorem dL_law_899 : decode cL_law 899 = .ok (.invokevirtual 106, 3) := by decide +kernel
theorem dL_law_902 : decode cL_law 902 = .ok (.if_icmp .eq 621, 3) := by decide +kernel
theorem dL_law_905 : decode cL_law 905 = .ok (.iconst 0, 1) := by decide +kernel
theorem dL_law_906 : decode cL_law 906 = .ok (.ireturn, 1) := by decide +kernel
theorem dL_law_907 : decode cL_law 907 = .ok (.aload_n 1, 1) := by decide +kernel
theorem dL_law_908 : decode cL_law 908 = .ok (.aload_n 0, 1) := by decide +kernel
theorem dL_law_909 : decode cL_law 909 = .ok (.iload_n 3, 1) := by decide +kernel
theorem dL_law_910 : decode cL_law 910 = .ok (.iconst 1, 1) := by decide +kernel
theorem dL_law_911 : decode cL_law 911 = .ok (.iadd, 1) := by decide +kernel
theorem dL_law_912 : decode cL_law 912 = .ok (.iaload, 1) := by decide +kernel
theorem dL_law_913 : decode cL_law 913 = .ok (.invokevirtual 107, 3) := by decide +kernel
theorem dL_law_916 : decode cL_law 916 = .ok (.aload_n 2, 1) := by decide +kernel
theorem dL_law_917 : decode cL_law 917 = .ok (.aload_n 0, 1) := by decide +kernel
theorem dL_law_918 : decode cL_law 918 = .ok (.iload_n 3, 1) := by decide +kernel
theorem dL_law_919 : decode cL_law 919 = .ok (.iconst 1, 1) := by decide +kernel
theorem dL_law_920 : decode cL_law 920 = .ok (.iadd, 1) := by decide +kernel
theorem dL_law_921 : decode cL_law 921 = .ok (.iaload, 1) := by decide +kernel
theorem dL_law_922 : decode cL_law 922 = .ok (.invokevirtual 110, 3) := by decide +kernel
theorem dL_law_925 : decode cL_law 925 = .ok (.if_icmp .eq 598, 3) := by decide +kernel
theorem dL_law_928 : decode cL_law 928 = .ok (.iconst 0, 1) := by decide +kernel
theorem dL_law_929 : decode cL_law 929 = .ok (.ireturn, 1) := by decide +kernel
theorem dL_law_930 : decode cL_law 930 = .ok (.aload_n 1, 1) := by decide +kernel
theorem dL_law_931 : decode cL_law 931 = .ok (.aload_n 0, 1) := by decide +kernel
theorem dL_law_932 : decode cL_law 932 = .ok (.iload_n 3, 1) := by decide +kernel
theorem dL_law_933 : decode cL_law 933 = .ok (.iconst 1, 1) := by decide +kernel
theorem dL_law_934 : decode cL_law 934 = .ok (.iadd, 1) := by decide +kernel
theorem dL_law_935 : decode cL_law 935 = .ok (.iaload, 1) := by decide +kernel
theorem dL_law_936 : decode cL_law 936 = .ok (.aload_n 0, 1) := by decide +kernel
theorem dL_law_937 : decode cL_law 937 = .ok (.iload_n 3, 1) := by decide +kernel
theorem dL_law_938 : decode cL_law 938 = .ok (.iconst 2, 1) := by decide +kernel
theorem dL_law_939 : decode cL_law 939 = .ok (.iadd, 1) := by decide +kernel
theorem dL_law_940 : decode cL_law 940 = .ok (.iaload, 1) := by decide +kernel
theorem dL_law_941 : decode cL_law 941 = .ok (.invokevirtual 111, 3) := by decide +kernel
theorem dL_law_944 : decode cL_law 944 = .ok (.aload_n 2, 1) := by decide +kernel
theorem dL_law_945 : decode cL_law 945 = .ok (.aload_n 0, 1) := by decide +kernel
theorem dL_law_946 : decode cL_law 946 = .ok (.iload_n 3, 1) := by decide +kernel
theorem dL_law_947 : decode cL_law 947 = .ok (.iconst 1, 1) := by decide +kernel
theorem dL_law_948 : decode cL_law 948 = .ok (.iadd, 1) := by decide +kernel
theorem dL_law_949 : decode cL_law 949 = .ok (.iaload, 1) := by decide +kernel
theorem dL_law_950 : decode cL_law 950 = .ok (.aload_n 0, 1) := by decide +kernel
theorem dL_law_951 : decode cL_law 951 = .ok (.iload_n 3, 1) := by decide +kernel
theorem dL_law_952 : decode cL_law 952 = .ok (.iconst 2, 1) := by decide +kernel
theorem dL_law_953 : decode cL_law 953 = .ok (.iadd, 1) := by decide +kernel
theorem dL_law_954 : decode cL_law 954 = .ok (.iaload, 1) := by decide +kernel
theorem dL_law_955 : decode cL_law 955 = .ok (.invokevirtual 114, 3) := by decide +kernel
theorem dL_law_958 : decode cL_law 958 = .ok (.if_icmp .eq 565, 3) := by decide +kernel
theorem dL_law_961 : decode cL_law 961 = .ok (.iconst 0, 1) := by decide +kernel
theorem dL_law_962 : decode cL_law 962 = .ok (.ireturn, 1) := by decide +kernel
theorem dL_law_963 : decode cL_law 963 = .ok (.aload_n 1, 1) := by decide +kernel
theorem dL_law_964 : decode cL_law 964 = .ok (.aload_n 0, 1) := by decide +kernel
theorem dL_law_965 : decode cL_law 965 = .ok (.iload_n 3, 1) := by decide +kernel
theorem dL_law_966 : decode cL_law 966 = .ok (.iconst 1, 1) := by decide +kernel
theorem dL_law_967 : decode cL_law 967 = .ok (.iadd, 1) := by decide +kernel
theorem dL_law_968 : decode cL_law 968 = .ok (.iaload, 1) := by decide +kernel
theorem dL_law_969 : decode cL_law 969 = .ok (.aload_n 0, 1) := by decide +kernel
theorem dL_law_970 : decode cL_law 970 = .ok (.iload_n 3, 1) := by decide +kernel
theorem dL_law_971 : decode cL_law 971 = .ok (.iconst 2, 1) := by decide +kernel
theorem dL_law_972 : decode cL_law 972 = .ok (.iadd, 1) := by decide +kernel
theorem dL_law_973 : decode cL_law 973 = .ok (.iaload, 1) := by decide +kernel
theorem dL_law_974 : decode cL_law 974 = .ok (.invokevirtual 115, 3) := by decide +kernel
theorem dL_law_977 : decode cL_law 977 = .ok (.aload_n 2, 1) := by decide +kernel
theorem dL_law_978 : decode cL_law 978 = .ok (.aload_n 0, 1) := by decide +kernel
theorem dL_law_979 : decode cL_law 979 = .ok (.iload_n 3, 1) := by decide +kernel
theorem dL_law_980 : decode cL_law 980 = .ok (.iconst 1, 1) := by decide +kernel
theorem dL_law_981 : decode cL_law 981 = .ok (.iadd, 1) := by decide +kernel
theorem dL_law_982 : decode cL_law 982 = .ok (.iaload, 1) := by decide +kernel
theorem dL_law_983 : decode cL_law 983 = .ok (.aload_n 0, 1) := by decide +kernel
theorem dL_law_984 : decode cL_law 984 = .ok (.iload_n 3, 1) := by decide +kernel
theorem dL_law_985 : decode cL_law 985 = .ok (.iconst 2, 1) := by decide +kernel
theorem dL_law_986 : decode cL_law 986 = .ok (.iadd, 1) := by decide +kernel
theorem dL_law_987 : decode cL_law 987 = .ok (.iaload, 1) := by decide +kernel
theorem dL_law_988 : decode cL_law 988 = .ok (.invokevirtual 118, 3) := by decide +kernel
theorem dL_law_991 : decode cL_law 991 = .ok (.if_icmp .eq 532, 3) := by decide +kernel
theorem dL_law_994 : decode cL_law 994 = .ok (.iconst 0, 1) := by decide +kernel
theorem dL_law_995 : decode cL_law 995 = .ok (.ireturn, 1) := by decide +kernel
theorem dL_law_996 : decode cL_law 996 = .ok (.aload_n 1, 1) := by decide +kernel
theorem dL_law_997 : decode cL_law 997 = .ok (.aload_n 0, 1) := by decide +kernel
theorem dL_law_998 : decode cL_law 998 = .ok (.iload_n 3, 1) := by decide +kernel
theorem dL_law_999 : decode cL_law 999 = .ok (.iconst 1, 1) := by decide +kernel
theorem dL_law_1000 : decode cL_law 1000 = .ok (.iadd, 1) := by decide +kernel
theorem dL_law_1001 : decode cL_law 1001 = .ok (.iaload, 1) := by decide +kernel
theorem dL_law_1002 : decode cL_law 1002 = .ok (.aload_n 0, 1) := by decide +kernel
theorem dL_law_1003 : decode cL_law 1003 = .ok (.iload_n 3, 1) := by decide +kernel
theorem dL_law_1004 : decode cL_law 1004 = .ok (.iconst 2, 1) := by decide +kernel
theorem dL_law_1005 : decode cL_law 1005 = .ok (.iadd, 1) := by decide +kernel
theorem dL_law_1006 : decode cL_law 1006 = .ok (.iaload, 1) := by decide +kernel
theorem dL_law_1007 : decode cL_law 1007 = .ok (.invokevirtual 119, 3) := by decide +kernel
theorem dL_law_1010 : decode cL_law 1010 = .ok (.aload_n 2, 1) := by decide +kernel
theorem dL_law_1011 : decode cL_law 1011 = .ok (.aload_n 0, 1) := by decide +kernel
theorem dL_law_1012 : decode cL_law 1012 = .ok (.iload_n 3, 1) := by decide +kernel
theorem dL_law_1013 : decode cL_law 1013 = .ok (.iconst 1, 1) := by decide +kernel
theorem dL_law_1014 : decode cL_law 1014 = .ok (.iadd, 1) := by decide +kernel
theorem dL_law_1015 : decode cL_law 1015 = .ok (.iaload, 1) := by decide +kernel
theorem dL_law_1016 : decode cL_law 1016 = .ok (.aload_n 0, 1) := by decide +kernel
theorem dL_law_1017 : decode cL_law 1017 = .ok (.iload_n 3, 1) := by decide +kernel
theorem dL_law_1018 : decode cL_law 1018 = .ok (.iconst 2, 1) := by decide +kernel
theorem dL_law_1019 : decode cL_law 1019 = .ok (.iadd, 1) := by decide +kernel
theorem dL_law_1020 : decode cL_law 1020 = .ok (.iaload, 1) := by decide +kernel
theorem dL_law_1021 : decode cL_law 1021 = .ok (.invokevirtual 122, 3) := by decide +kernel
theorem dL_law_1024 : decode cL_law 1024 = .ok (.if_icmp .eq 499, 3) := by decide +kernel
theorem dL_law_1027 : decode cL_law 1027 = .ok (.iconst 0, 1) := by decide +kernel
theorem dL_law_1028 : decode cL_law 1028 = .ok (.ireturn, 1) := by decide +kernel
theorem dL_law_1029 : decode cL_law 1029 = .ok (.aload_n 1, 1) := by decide +kernel
theorem dL_law_1030 : decode cL_law 1030 = .ok (.aload_n 0, 1) := by decide +kernel
theorem dL_law_1031 : decode cL_law 1031 = .ok (.iload_n 3, 1) := by decide +kernel
theorem dL_law_1032 : decode cL_law 1032 = .ok (.iconst 1, 1) := by decide +kernel
theorem dL_law_1033 : decode cL_law 1033 = .ok (.iadd, 1) := by decide +kernel
theorem dL_law_1034 : decode cL_law 1034 = .ok (.iaload, 1) := by decide +kernel
theorem dL_law_1035 : decode cL_law 1035 = .ok (.aload_n 0, 1) := by decide +kernel
theorem dL_law_1036 : decode cL_law 1036 = .ok (.iload_n 3, 1) := by decide +kernel
theorem dL_law_1037 : decode cL_law 1037 = .ok (.iconst 2, 1) := by decide +kernel
theorem dL_law_1038 : decode cL_law 1038 = .ok (.iadd, 1) := by decide +kernel
theorem dL_law_1039 : decode cL_law 1039 = .ok (.iaload, 1) := by decide +kernel
theorem dL_law_1040 : decode cL_law 1040 = .ok (.invokevirtual 123, 3) := by decide +kernel
theorem dL_law_1043 : decode cL_law 1043 = .ok (.aload_n 2, 1) := by decide +kernel
theorem dL_law_1044 : decode cL_law 1044 = .ok (.aload_n 0, 1) := by decide +kernel
theorem dL_law_1045 : decode cL_law 1045 = .ok (.iload_n 3, 1) := by decide +kernel
theorem dL_law_1046 : decode cL_law 1046 = .ok (.iconst 1, 1) := by decide +kernel
theorem dL_law_1047 : decode cL_law 1047 = .ok (.iadd, 1) := by decide +kernel
theorem dL_law_1048 : decode cL_law 1048 = .ok (.iaload, 1) := by decide +kernel
theorem dL_law_1049 : decode cL_law 1049 = .ok (.aload_n 0, 1) := by decide +kernel
theorem dL_law_1050 : decode cL_law 1050 = .ok (.iload_n 3, 1) := by decide +kernel
theorem dL_law_1051 : decode cL_law 1051 = .ok (.iconst 2, 1) := by decide +kernel
theorem dL_law_1052 : decode cL_law 1052 = .ok (.iadd, 1) := by decide +kernel
theorem dL_law_1053 : decode cL_law 1053 = .ok (.iaload, 1) := by decide +kernel
theorem dL_law_1054 : decode cL_law 1054 = .ok (.invokevirtual 126, 3) := by decide +kernel
theorem dL_law_1057 : decode cL_law 1057 = .ok (.if_icmp .eq 466, 3) := by decide +kernel
theorem dL_law_1060 : decode cL_law 1060 = .ok (.iconst 0, 1) := by decide +kernel
theorem dL_law_1061 : decode cL_law 1061 = .ok (.ireturn, 1) := by decide +kernel
theorem dL_law_1062 : decode cL_law 1062 = .ok (.aload_n 1, 1) := by decide +kernel
theorem dL_law_1063 : decode cL_law 1063 = .ok (.aload_n 0, 1) := by decide +kernel
theorem dL_law_1064 : decode cL_law 1064 = .ok (.iload_n 3, 1) := by decide +kernel
theorem dL_law_1065 : decode cL_law 1065 = .ok (.iconst 1, 1) := by decide +kernel
theorem dL_law_1066 : decode cL_law 1066 = .ok (.iadd, 1) := by decide +kernel
theorem dL_law_1067 : decode cL_law 1067 = .ok (.iaload, 1) := by decide +kernel
theorem dL_law_1068 : decode cL_law 1068 = .ok (.aload_n 0, 1) := by decide +kernel
theorem dL_law_1069 : decode cL_law 1069 = .ok (.iload_n 3, 1) := by decide +kernel
theorem dL_law_1070 : decode cL_law 1070 = .ok (.iconst 2, 1) := by decide +kernel
theorem dL_law_1071 : decode cL_law 1071 = .ok (.iadd, 1) := by decide +kernel
theorem dL_law_1072 : decode cL_law 1072 = .ok (.iaload, 1) := by decide +kernel
theorem dL_law_1073 : decode cL_law 1073 = .ok (.aload_n 0, 1) := by decide +kernel
theorem dL_law_1074 : decode cL_law 1074 = .ok (.iload_n 3, 1) := by decide +kernel
theorem dL_law_1075 : decode cL_law 1075 = .ok (.iconst 3, 1) := by decide +kernel
theorem dL_law_1076 : decode cL_law 1076 = .ok (.iadd, 1) := by decide +kernel
theorem dL_law_1077 : decode cL_law 1077 = .ok (.iaload, 1) := by decide +kernel
theorem dL_law_1078 : decode cL_law 1078 = .ok (.invokevirtual 127, 3) := by decide +kernel
theorem dL_law_1081 : decode cL_law 1081 = .ok (.aload_n 2, 1) := by decide +kernel
theorem dL_law_1082 : decode cL_law 1082 = .ok (.aload_n 0, 1) := by decide +kernel
theorem dL_law_1083 : decode cL_law 1083 = .ok (.iload_n 3, 1) := by decide +kernel
theorem dL_law_1084 : decode cL_law 1084 = .ok (.iconst 1, 1) := by decide +kernel
theorem dL_law_1085 : decode cL_law 1085 = .ok (.iadd, 1) := by decide +kernel
theorem dL_law_1086 : decode cL_law 1086 = .ok (.iaload, 1) := by decide +kernel
theorem dL_law_1087 : decode cL_law 1087 = .ok (.aload_n 0, 1) := by decide +kernel
theorem dL_law_1088 : decode cL_law 1088 = .ok (.iload_n 3, 1) := by decide +kernel
theorem dL_law_1089 : decode cL_law 1089 = .ok (.iconst 2, 1) := by decide +kernel
theorem dL_law_1090 : decode cL_law 1090 = .ok (.iadd, 1) := by decide +kernel
theorem dL_law_1091 : decode cL_law 1091 = .ok (.iaload, 1) := by decide +kernel
theorem dL_law_1092 : decode cL_law 1092 = .ok (.aload_n 0, 1) := by decide +kernel
theorem dL_law_1093 : decode cL_law 1093 = .ok (.iload_n 3, 1) := by decide +kernel
theorem dL_law_1094 : decode cL_law 1094 = .ok (.iconst 3, 1) := by decide +kernel
theorem dL_law_1095 : decode cL_law 1095 = .ok (.iadd, 1) := by decide +kernel
theorem dL_law_1096 : decode cL_law 1096 = .ok (.iaload, 1) := by decide +kernel
theorem dL_law_1097 : decode cL_law 1097 = .ok (.invokevirtual 130, 3) := by decide +kernel
theorem dL_law_1100 : decode cL_law 1100 = .ok (.if_icmp .eq 423, 3) := by decide +kernel
theorem dL_law_1103 : decode cL_law 1103 = .ok (.iconst 0, 1) := by decide +kernel
theorem dL_law_1104 : decode cL_law 1104 = .ok (.ireturn, 1) := by decide +kernel
theorem dL_law_1105 : decode cL_law 1105 = .ok (.aload_n 1, 1) := by decide +kernel
theorem dL_law_1106 : decode cL_law 1106 = .ok (.aload_n 0, 1) := by decide +kernel
theorem dL_law_1107 : decode cL_law 1107 = .ok (.iload_n 3, 1) := by decide +kernel
theorem dL_law_1108 : decode cL_law 1108 = .ok (.iconst 1, 1) := by decide +kernel
theorem dL_law_1109 : decode cL_law 1109 = .ok (.iadd, 1) := by decide +kernel
theorem dL_law_1110 : decode cL_law 1110 = .ok (.iaload, 1) := by decide +kernel
theorem dL_law_1111 : decode cL_law 1111 = .ok (.aload_n 0, 1) := by decide +kernel
theorem dL_law_1112 : decode cL_law 1112 = .ok (.iload_n 3, 1) := by decide +kernel
theorem dL_law_1113 : decode cL_law 1113 = .ok (.iconst 2, 1) := by decide +kernel
theorem dL_law_1114 : decode cL_law 1114 = .ok (.iadd, 1) := by decide +kernel
theorem dL_law_1115 : decode cL_law 1115 = .ok (.iaload, 1) := by decide +kernel
theorem dL_law_1116 : decode cL_law 1116 = .ok (.aload_n 0, 1) := by decide +kernel
theorem dL_law_1117 : decode cL_law 1117 = .ok (.iload_n 3, 1) := by decide +kernel
theorem dL_law_1118 : decode cL_law 1118 = .ok (.iconst 3, 1) := by decide +kernel
theorem dL_law_1119 : decode cL_law 1119 = .ok (.iadd, 1) := by decide +kernel
theorem dL_law_1120 : decode cL_law 1120 = .ok (.iaload, 1) := by decide +kernel
theorem dL_law_1121 : decode cL_law 1121 = .ok (.invokevirtual 131, 3) := by decide +kernel
theorem dL_law_1124 : decode cL_law 1124 = .ok (.aload_n 2, 1) := by decide +kernel
theorem dL_law_1125 : decode cL_law 1125 = .ok (.aload_n 0, 1) := by decide +kernel
theorem dL_law_1126 : decode cL_law 1126 = .ok (.iload_n 3, 1) := by decide +kernel
theorem dL_law_1127 : decode cL_law 1127 = .ok (.iconst 1, 1) := by decide +kernel
theorem dL_law_1128 : decode cL_law 1128 = .ok (.iadd, 1) := by decide +kernel
theorem dL_law_1129 : decode cL_law 1129 = .ok (.iaload, 1) := by decide +kernel
theorem dL_law_1130 : decode cL_law 1130 = .ok (.aload_n 0, 1) := by decide +kernel
theorem dL_law_1131 : decode cL_law 1131 = .ok (.iload_n 3, 1) := by decide +kernel
theorem dL_law_1132 : decode cL_law 1132 = .ok (.iconst 2, 1) := by decide +kernel
theorem dL_law_1133 : decode cL_law 1133 = .ok (.iadd, 1) := by decide +kernel
theorem dL_law_1134 : decode cL_law 1134 = .ok (.iaload, 1) := by decide +kernel
theorem dL_law_1135 : decode cL_law 1135 = .ok (.aload_n 0, 1) := by decide +kernel
theorem dL_law_1136 : decode cL_law 1136 = .ok (.iload_n 3, 1) := by decide +kernel
theorem dL_law_1137 : decode cL_law 1137 = .ok (.iconst 3, 1) := by decide +kernel
theorem dL_law_1138 : decode cL_law 1138 = .ok (.iadd, 1) := by decide +kernel
theorem dL_law_1139 : decode cL_law 1139 = .ok (.iaload, 1) := by decide +kernel
theorem dL_law_1140 : decode cL_law 1140 = .ok (.invokevirtual 134, 3) := by decide +kernel
theorem dL_law_1143 : decode cL_law 1143 = .ok (.if_icmp .eq 380, 3) := by decide +kernel
theorem dL_law_1146 : decode cL_law 1146 = .ok (.iconst 0, 1) := by decide +kernel
theorem dL_law_1147 : decode cL_law 1147 = .ok (.ireturn, 1) := by decide +kernel
theorem dL_law_1148 : decode cL_law 1148 = .ok (.aload_n 1, 1) := by decide +kernel
theorem dL_law_1149 : decode cL_law 1149 = .ok (.aload_n 0, 1) := by decide +kernel
theorem dL_law_1150 : decode cL_law 1150 = .ok (.iload_n 3, 1) := by decide +kernel
theorem dL_law_1151 : decode cL_law 1151 = .ok (.iconst 1, 1) := by decide +kernel
theorem dL_law_1152 : decode cL_law 1152 = .ok (.iadd, 1) := by decide +kernel
theorem dL_law_1153 : decode cL_law 1153 = .ok (.iaload, 1) := by decide +kernel
theorem dL_law_1154 : decode cL_law 1154 = .ok (.aload_n 0, 1) := by decide +kernel
theorem dL_law_1155 : decode cL_law 1155 = .ok (.iload_n 3, 1) := by decide +kernel
theorem dL_law_1156 : decode cL_law 1156 = .ok (.iconst 2, 1) := by decide +kernel
theorem dL_law_1157 : decode cL_law 1157 = .ok (.iadd, 1) := by decide +kernel
theorem dL_law_1158 : decode cL_law 1158 = .ok (.iaload, 1) := by decide +kernel
theorem dL_law_1159 : decode cL_law 1159 = .ok (.invokevirtual 135, 3) := by decide +kernel
theorem dL_law_1162 : decode cL_law 1162 = .ok (.aload_n 2, 1) := by decide +kernel
theorem dL_law_1163 : decode cL_law 1163 = .ok (.aload_n 0, 1) := by decide +kernel
theorem dL_law_1164 : decode cL_law 1164 = .ok (.iload_n 3, 1) := by decide +kernel
theorem dL_law_1165 : decode cL_law 1165 = .ok (.iconst 1, 1) := by decide +kernel
theorem dL_law_1166 : decode cL_law 1166 = .ok (.iadd, 1) := by decide +kernel
theorem dL_law_1167 : decode cL_law 1167 = .ok (.iaload, 1) := by decide +kernel
theorem dL_law_1168 : decode cL_law 1168 = .ok (.aload_n 0, 1) := by decide +kernel
theorem dL_law_1169 : decode cL_law 1169 = .ok (.iload_n 3, 1) := by decide +kernel
theorem dL_law_1170 : decode cL_law 1170 = .ok (.iconst 2, 1) := by decide +kernel
theorem dL_law_1171 : decode cL_law 1171 = .ok (.iadd, 1) := by decide +kernel
theorem dL_law_1172 : decode cL_law 1172 = .ok (.iaload, 1) := by decide +kernel
theorem dL_law_1173 : decode cL_law 1173 = .ok (.invokevirtual 138, 3) := by decide +kernel
theorem dL_law_1176 : decode cL_law 1176 = .ok (.if_icmp .eq 347, 3) := by decide +kernel
theorem dL_law_1179 : decode cL_law 1179 = .ok (.iconst 0, 1) := by decide +kernel
theorem dL_law_1180 : decode cL_law 1180 = .ok (.ireturn, 1) := by decide +kernel
theorem dL_law_1181 : decode cL_law 1181 = .ok (.aload_n 1, 1) := by decide +kernel
theorem dL_law_1182 : decode cL_law 1182 = .ok (.aload_n 0, 1) := by decide +kernel
theorem dL_law_1183 : decode cL_law 1183 = .ok (.iload_n 3, 1) := by decide +kernel
theorem dL_law_1184 : decode cL_law 1184 = .ok (.iconst 1, 1) := by decide +kernel
theorem dL_law_1185 : decode cL_law 1185 = .ok (.iadd, 1) := by decide +kernel
theorem dL_law_1186 : decode cL_law 1186 = .ok (.iaload, 1) := by decide +kernel
theorem dL_law_1187 : decode cL_law 1187 = .ok (.aload_n 0, 1) := by decide +kernel
theorem dL_law_1188 : decode cL_law 1188 = .ok (.iload_n 3, 1) := by decide +kernel
theorem dL_law_1189 : decode cL_law 1189 = .ok (.iconst 2, 1) := by decide +kernel
theorem dL_law_1190 : decode cL_law 1190 = .ok (.iadd, 1) := by decide +kernel
theorem dL_law_1191 : decode cL_law 1191 = .ok (.iaload, 1) := by decide +kernel
theorem dL_law_1192 : decode cL_law 1192 = .ok (.invokevirtual 139, 3) := by decide +kernel
theorem dL_law_1195 : decode cL_law 1195 = .ok (.aload_n 2, 1) := by decide +kernel
theorem dL_law_1196 : decode cL_law 1196 = .ok (.aload_n 0, 1) := by decide +kernel
theorem dL_law_1197 : decode cL_law 1197 = .ok (.iload_n 3, 1) := by decide +kernel
theorem dL_law_1198 : decode cL_law 1198 = .ok (.iconst 1, 1) := by decide +kernel
theorem dL_law_1199 : decode cL_law 1199 = .ok (.iadd, 1) := by decide +kernel
theorem dL_law_1200 : decode cL_law 1200 = .ok (.iaload, 1) := by decide +kernel
theorem dL_law_1201 : decode cL_law 1201 = .ok (.aload_n 0, 1) := by decide +kernel
theorem dL_law_1202 : decode cL_law 1202 = .ok (.iload_n 3, 1) := by decide +kernel
theorem dL_law_1203 : decode cL_law 1203 = .ok (.iconst 2, 1) := by decide +kernel
theorem dL_law_1204 : decode cL_law 1204 = .ok (.iadd, 1) := by decide +kernel
theorem dL_law_1205 : decode cL_law 1205 = .ok (.iaload, 1) := by decide +kernel
theorem dL_law_1206 : decode cL_law 1206 = .ok (.invokevirtual 142, 3) := by decide +kernel
theorem dL_law_1209 : decode cL_law 1209 = .ok (.if_icmp .eq 314, 3) := by decide +kernel
theorem dL_law_1212 : decode cL_law 1212 = .ok (.iconst 0, 1) := by decide +kernel
theorem dL_law_1213 : decode cL_law 1213 = .ok (.ireturn, 1) := by decide +kernel
theorem dL_law_1214 : decode cL_law 1214 = .ok (.aload_n 1, 1) := by decide +kernel
theorem dL_law_1215 : decode cL_law 1215 = .ok (.aload_n 0, 1) := by decide +kernel
theorem dL_law_1216 : decode cL_law 1216 = .ok (.iload_n 3, 1) := by decide +kernel
theorem dL_law_1217 : decode cL_law 1217 = .ok (.iconst 1, 1) := by decide +kernel
theorem dL_law_1218 : decode cL_law 1218 = .ok (.iadd, 1) := by decide +kernel
theorem dL_law_1219 : decode cL_law 1219 = .ok (.iaload, 1) := by decide +kernel
theorem dL_law_1220 : decode cL_law 1220 = .ok (.invokevirtual 143, 3) := by decide +kernel
theorem dL_law_1223 : decode cL_law 1223 = .ok (.aload_n 2, 1) := by decide +kernel
theorem dL_law_1224 : decode cL_law 1224 = .ok (.aload_n 0, 1) := by decide +kernel
theorem dL_law_1225 : decode cL_law 1225 = .ok (.iload_n 3, 1) := by decide +kernel
theorem dL_law_1226 : decode cL_law 1226 = .ok (.iconst 1, 1) := by decide +kernel
theorem dL_law_1227 : decode cL_law 1227 = .ok (.iadd, 1) := by decide +kernel
theorem dL_law_1228 : decode cL_law 1228 = .ok (.iaload, 1) := by decide +kernel
theorem dL_law_1229 : decode cL_law 1229 = .ok (.invokevirtual 146, 3) := by decide +kernel
theorem dL_law_1232 : decode cL_law 1232 = .ok (.if_icmp .eq 291, 3) := by decide +kernel
theorem dL_law_1235 : decode cL_law 1235 = .ok (.iconst 0, 1) := by decide +kernel
theorem dL_law_1236 : decode cL_law 1236 = .ok (.ireturn, 1) := by decide +kernel
theorem dL_law_1237 : decode cL_law 1237 = .ok (.aload_n 1, 1) := by decide +kernel
theorem dL_law_1238 : decode cL_law 1238 = .ok (.aload_n 0, 1) := by decide +kernel
theorem dL_law_1239 : decode cL_law 1239 = .ok (.iload_n 3, 1) := by decide +kernel
theorem dL_law_1240 : decode cL_law 1240 = .ok (.iconst 1, 1) := by decide +kernel
theorem dL_law_1241 : decode cL_law 1241 = .ok (.iadd, 1) := by decide +kernel
theorem dL_law_1242 : decode cL_law 1242 = .ok (.iaload, 1) := by decide +kernel
theorem dL_law_1243 : decode cL_law 1243 = .ok (.aload_n 0, 1) := by decide +kernel
theorem dL_law_1244 : decode cL_law 1244 = .ok (.iload_n 3, 1) := by decide +kernel
theorem dL_law_1245 : decode cL_law 1245 = .ok (.iconst 2, 1) := by decide +kernel
theorem dL_law_1246 : decode cL_law 1246 = .ok (.iadd, 1) := by decide +kernel
theorem dL_law_1247 : decode cL_law 1247 = .ok (.iaload, 1) := by decide +kernel
theorem dL_law_1248 : decode cL_law 1248 = .ok (.invokevirtual 147, 3) := by decide +kernel
theorem dL_law_1251 : decode cL_law 1251 = .ok (.aload_n 2, 1) := by decide +kernel
theorem dL_law_1252 : decode cL_law 1252 = .ok (.aload_n 0, 1) := by decide +kernel
theorem dL_law_1253 : decode cL_law 1253 = .ok (.iload_n 3, 1) := by decide +kernel
theorem dL_law_1254 : decode cL_law 1254 = .ok (.iconst 1, 1) := by decide +kernel
theorem dL_law_1255 : decode cL_law 1255 = .ok (.iadd, 1) := by decide +kernel
theorem dL_law_1256 : decode cL_law 1256 = .ok (.iaload, 1) := by decide +kernel
theorem dL_law_1257 : decode cL_law 1257 = .ok (.aload_n 0, 1) := by decide +kernel
theorem dL_law_1258 : decode cL_law 1258 = .ok (.iload_n 3, 1) := by decide +kernel
theorem dL_law_1259 : decode cL_law 1259 = .ok (.iconst 2, 1) := by decide +kernel
theorem dL_law_1260 : decode cL_law 1260 = .ok (.iadd, 1) := by decide +kernel
theorem dL_law_1261 : decode cL_law 1261 = .ok (.iaload, 1) := by decide +kernel
theorem dL_law_1262 : decode cL_law 1262 = .ok (.invokevirtual 150, 3) := by decide +kernel
theorem dL_law_1265 : decode cL_law 1265 = .ok (.if_icmp .eq 258, 3) := by decide +kernel
theorem dL_law_1268 : decode cL_law 1268 = .ok (.iconst 0, 1) := by decide +kernel
theorem dL_law_1269 : decode cL_law 1269 = .ok (.ireturn, 1) := by decide +kernel
theorem dL_law_1270 : decode cL_law 1270 = .ok (.aload_n 1, 1) := by decide +kernel
theorem dL_law_1271 : decode cL_law 1271 = .ok (.aload_n 0, 1) := by decide +kernel
theorem dL_law_1272 : decode cL_law 1272 = .ok (.iload_n 3, 1) := by decide +kernel
theorem dL_law_1273 : decode cL_law 1273 = .ok (.iconst 1, 1) := by decide +kernel
theorem dL_law_1274 : decode cL_law 1274 = .ok (.iadd, 1) := by decide +kernel
theorem dL_law_1275 : decode cL_law 1275 = .ok (.iaload, 1) := by decide +kernel
theorem dL_law_1276 : decode cL_law 1276 = .ok (.aload_n 0, 1) := by decide +kernel
theorem dL_law_1277 : decode cL_law 1277 = .ok (.iload_n 3, 1) := by decide +kernel
theorem dL_law_1278 : decode cL_law 1278 = .ok (.iconst 2, 1) := by decide +kernel
theorem dL_law_1279 : decode cL_law 1279 = .ok (.iadd, 1) := by decide +kernel
theorem dL_law_1280 : decode cL_law 1280 = .ok (.iaload, 1) := by decide +kernel
theorem dL_law_1281 : decode cL_law 1281 = .ok (.aload_n 0, 1) := by decide +kernel
theorem dL_law_1282 : decode cL_law 1282 = .ok (.iload_n 3, 1) := by decide +kernel
theorem dL_law_1283 : decode cL_law 1283 = .ok (.iconst 3, 1) := by decide +kernel
theorem dL_law_1284 : decode cL_law 1284 = .ok (.iadd, 1) := by decide +kernel
theorem dL_law_1285 : decode cL_law 1285 = .ok (.iaload, 1) := by decide +kernel
theorem dL_law_1286 : decode cL_law 1286 = .ok (.invokevirtual 151, 3) := by decide +kernel
theorem dL_law_1289 : decode cL_law 1289 = .ok (.aload_n 2, 1) := by decide +kernel
theorem dL_law_1290 : decode cL_law 1290 = .ok (.aload_n 0, 1) := by decide +kernel
theorem dL_law_1291 : decode cL_law 1291 = .ok (.iload_n 3, 1) := by decide +kernel
theorem dL_law_1292 : decode cL_law 1292 = .ok (.iconst 1, 1) := by decide +kernel
theorem dL_law_1293 : decode cL_law 1293 = .ok (.iadd, 1) := by decide +kernel
theorem dL_law_1294 : decode cL_law 1294 = .ok (.iaload, 1) := by decide +kernel
theorem dL_law_1295 : decode cL_law 1295 = .ok (.aload_n 0, 1) := by decide +kernel
theorem dL_law_1296 : decode cL_law 1296 = .ok (.iload_n 3, 1) := by decide +kernel
theorem dL_law_1297 : decode cL_law 1297 = .ok (.iconst 2, 1) := by decide +kernel
theorem dL_law_1298 : decode cL_law 1298 = .ok (.iadd, 1) := by decide +kernel
theorem dL_law_1299 : decode cL_law 1299 = .ok (.iaload, 1) := by decide +kernel
theorem dL_law_1300 : decode cL_law 1300 = .ok (.aload_n 0, 1) := by decide +kernel
theorem dL_law_1301 : decode cL_law 1301 = .ok (.iload_n 3, 1) := by decide +kernel
theorem dL_law_1302 : decode cL_law 1302 = .ok (.iconst 3, 1) := by decide +kernel
theorem dL_law_1303 : decode cL_law 1303 = .ok (.iadd, 1) := by decide +kernel
theorem dL_law_1304 : decode cL_law 1304 = .ok (.iaload, 1) := by decide +kernel
theorem dL_law_1305 : decode cL_law 1305 = .ok (.invokevirtual 154, 3) := by decide +kernel
theorem dL_law_1308 : decode cL_law 1308 = .ok (.if_icmp .eq 215, 3) := by decide +kernel
theorem dL_law_1311 : decode cL_law 1311 = .ok (.iconst 0, 1) := by decide +kernel
theorem dL_law_1312 : decode cL_law 1312 = .ok (.ireturn, 1) := by decide +kernel
theorem dL_law_1313 : decode cL_law 1313 = .ok (.aload_n 1, 1) := by decide +kernel
theorem dL_law_1314 : decode cL_law 1314 = .ok (.aload_n 0, 1) := by decide +kernel
theorem dL_law_1315 : decode cL_law 1315 = .ok (.iload_n 3, 1) := by decide +kernel
theorem dL_law_1316 : decode cL_law 1316 = .ok (.iconst 1, 1) := by decide +kernel
theorem dL_law_1317 : decode cL_law 1317 = .ok (.iadd, 1) := by decide +kernel
theorem dL_law_1318 : decode cL_law 1318 = .ok (.iaload, 1) := by decide +kernel
theorem dL_law_1319 : decode cL_law 1319 = .ok (.aload_n 0, 1) := by decide +kernel
theorem dL_law_1320 : decode cL_law 1320 = .ok (.iload_n 3, 1) := by decide +kernel
theorem dL_law_1321 : decode cL_law 1321 = .ok (.iconst 2, 1) := by decide +kernel
theorem dL_law_1322 : decode cL_law 1322 = .ok (.iadd, 1) := by decide +kernel
theorem dL_law_1323 : decode cL_law 1323 = .ok (.iaload, 1) := by decide +kernel
theorem dL_law_1324 : decode cL_law 1324 = .ok (.ifCond .eq 7, 3) := by decide +kernel
theorem dL_law_1327 : decode cL_law 1327 = .ok (.iconst 1, 1) := by decide +kernel
theorem dL_law_1328 : decode cL_law 1328 = .ok (.goto 4, 3) := by decide +kernel
theorem dL_law_1331 : decode cL_law 1331 = .ok (.iconst 0, 1) := by decide +kernel
theorem dL_law_1332 : decode cL_law 1332 = .ok (.invokevirtual 155, 3) := by decide +kernel
theorem dL_law_1335 : decode cL_law 1335 = .ok (.aload_n 2, 1) := by decide +kernel
theorem dL_law_1336 : decode cL_law 1336 = .ok (.aload_n 0, 1) := by decide +kernel
theorem dL_law_1337 : decode cL_law 1337 = .ok (.iload_n 3, 1) := by decide +kernel
theorem dL_law_1338 : decode cL_law 1338 = .ok (.iconst 1, 1) := by decide +kernel
theorem dL_law_1339 : decode cL_law 1339 = .ok (.iadd, 1) := by decide +kernel
theorem dL_law_1340 : decode cL_law 1340 = .ok (.iaload, 1) := by decide +kernel
theorem dL_law_1341 : decode cL_law 1341 = .ok (.aload_n 0, 1) := by decide +kernel
theorem dL_law_1342 : decode cL_law 1342 = .ok (.iload_n 3, 1) := by decide +kernel
theorem dL_law_1343 : decode cL_law 1343 = .ok (.iconst 2, 1) := by decide +kernel
theorem dL_law_1344 : decode cL_law 1344 = .ok (.iadd, 1) := by decide +kernel
theorem dL_law_1345 : decode cL_law 1345 = .ok (.iaload, 1) := by decide +kernel
theorem dL_law_1346 : decode cL_law 1346 = .ok (.ifCond .eq 7, 3) := by decide +kernel
theorem dL_law_1349 : decode cL_law 1349 = .ok (.iconst 1, 1) := by decide +kernel
theorem dL_law_1350 : decode cL_law 1350 = .ok (.goto 4, 3) := by decide +kernel
theorem dL_law_1353 : decode cL_law 1353 = .ok (.iconst 0, 1) := by decide +kernel
theorem dL_law_1354 : decode cL_law 1354 = .ok (.invokevirtual 159, 3) := by decide +kernel
theorem dL_law_1357 : decode cL_law 1357 = .ok (.if_icmp .eq 166, 3) := by decide +kernel
theorem dL_law_1360 : decode cL_law 1360 = .ok (.iconst 0, 1) := by decide +kernel
theorem dL_law_1361 : decode cL_law 1361 = .ok (.ireturn, 1) := by decide +kernel
theorem dL_law_1362 : decode cL_law 1362 = .ok (.aload_n 1, 1) := by decide +kernel
theorem dL_law_1363 : decode cL_law 1363 = .ok (.aload_n 0, 1) := by decide +kernel
theorem dL_law_1364 : decode cL_law 1364 = .ok (.iload_n 3, 1) := by decide +kernel
theorem dL_law_1365 : decode cL_law 1365 = .ok (.iconst 1, 1) := by decide +kernel
theorem dL_law_1366 : decode cL_law 1366 = .ok (.iadd, 1) := by decide +kernel
theorem dL_law_1367 : decode cL_law 1367 = .ok (.iaload, 1) := by decide +kernel
theorem dL_law_1368 : decode cL_law 1368 = .ok (.invokevirtual 160, 3) := by decide +kernel
theorem dL_law_1371 : decode cL_law 1371 = .ok (.aload_n 2, 1) := by decide +kernel
theorem dL_law_1372 : decode cL_law 1372 = .ok (.aload_n 0, 1) := by decide +kernel
theorem dL_law_1373 : decode cL_law 1373 = .ok (.iload_n 3, 1) := by decide +kernel
theorem dL_law_1374 : decode cL_law 1374 = .ok (.iconst 1, 1) := by decide +kernel
theorem dL_law_1375 : decode cL_law 1375 = .ok (.iadd, 1) := by decide +kernel
theorem dL_law_1376 : decode cL_law 1376 = .ok (.iaload, 1) := by decide +kernel
theorem dL_law_1377 : decode cL_law 1377 = .ok (.invokevirtual 163, 3) := by decide +kernel
theorem dL_law_1380 : decode cL_law 1380 = .ok (.if_icmp .eq 143, 3) := by decide +kernel
theorem dL_law_1383 : decode cL_law 1383 = .ok (.iconst 0, 1) := by decide +kernel
theorem dL_law_1384 : decode cL_law 1384 = .ok (.ireturn, 1) := by decide +kernel
theorem dL_law_1385 : decode cL_law 1385 = .ok (.aload_n 1, 1) := by decide +kernel
theorem dL_law_1386 : decode cL_law 1386 = .ok (.aload_n 0, 1) := by decide +kernel
theorem dL_law_1387 : decode cL_law 1387 = .ok (.iload_n 3, 1) := by decide +kernel
theorem dL_law_1388 : decode cL_law 1388 = .ok (.iconst 1, 1) := by decide +kernel
theorem dL_law_1389 : decode cL_law 1389 = .ok (.iadd, 1) := by decide +kernel
theorem dL_law_1390 : decode cL_law 1390 = .ok (.iaload, 1) := by decide +kernel
theorem dL_law_1391 : decode cL_law 1391 = .ok (.invokevirtual 164, 3) := by decide +kernel
theorem dL_law_1394 : decode cL_law 1394 = .ok (.aload_n 2, 1) := by decide +kernel
theorem dL_law_1395 : decode cL_law 1395 = .ok (.aload_n 0, 1) := by decide +kernel
theorem dL_law_1396 : decode cL_law 1396 = .ok (.iload_n 3, 1) := by decide +kernel
theorem dL_law_1397 : decode cL_law 1397 = .ok (.iconst 1, 1) := by decide +kernel
theorem dL_law_1398 : decode cL_law 1398 = .ok (.iadd, 1) := by decide +kernel
theorem dL_law_1399 : decode cL_law 1399 = .ok (.iaload, 1) := by decide +kernel
theorem dL_law_1400 : decode cL_law 1400 = .ok (.invokevirtual 167, 3) := by decide +kernel
theorem dL_law_1403 : decode cL_law 1403 = .ok (.if_icmp .eq 120, 3) := by decide +kernel
theorem dL_law_1406 : decode cL_law 1406 = .ok (.iconst 0, 1) := by decide +kernel
theorem dL_law_1407 : decode cL_law 1407 = .ok (.ireturn, 1) := by decide +kernel
theorem dL_law_1408 : decode cL_law 1408 = .ok (.aload_n 1, 1) := by decide +kernel
theorem dL_law_1409 : decode cL_law 1409 = .ok (.invokevirtual 168, 3) := by decide +kernel
theorem dL_law_1412 : decode cL_law 1412 = .ok (.aload_n 2, 1) := by decide +kernel
theorem dL_law_1413 : decode cL_law 1413 = .ok (.invokevirtual 171, 3) := by decide +kernel
theorem dL_law_1416 : decode cL_law 1416 = .ok (.if_icmp .eq 107, 3) := by decide +kernel
theorem dL_law_1419 : decode cL_law 1419 = .ok (.iconst 0, 1) := by decide +kernel
theorem dL_law_1420 : decode cL_law 1420 = .ok (.ireturn, 1) := by decide +kernel
theorem dL_law_1421 : decode cL_law 1421 = .ok (.aload_n 1, 1) := by decide +kernel
theorem dL_law_1422 : decode cL_law 1422 = .ok (.aload_n 0, 1) := by decide +kernel
theorem dL_law_1423 : decode cL_law 1423 = .ok (.iload_n 3, 1) := by decide +kernel
theorem dL_law_1424 : decode cL_law 1424 = .ok (.iconst 1, 1) := by decide +kernel
theorem dL_law_1425 : decode cL_law 1425 = .ok (.iadd, 1) := by decide +kernel
theorem dL_law_1426 : decode cL_law 1426 = .ok (.iaload, 1) := by decide +kernel
theorem dL_law_1427 : decode cL_law 1427 = .ok (.aload_n 0, 1) := by decide +kernel
theorem dL_law_1428 : decode cL_law 1428 = .ok (.iload_n 3, 1) := by decide +kernel
theorem dL_law_1429 : decode cL_law 1429 = .ok (.iconst 2, 1) := by decide +kernel
theorem dL_law_1430 : decode cL_law 1430 = .ok (.iadd, 1) := by decide +kernel
theorem dL_law_1431 : decode cL_law 1431 = .ok (.iaload, 1) := by decide +kernel
theorem dL_law_1432 : decode cL_law 1432 = .ok (.invokevirtual 172, 3) := by decide +kernel
theorem dL_law_1435 : decode cL_law 1435 = .ok (.aload_n 2, 1) := by decide +kernel
theorem dL_law_1436 : decode cL_law 1436 = .ok (.aload_n 0, 1) := by decide +kernel
theorem dL_law_1437 : decode cL_law 1437 = .ok (.iload_n 3, 1) := by decide +kernel
theorem dL_law_1438 : decode cL_law 1438 = .ok (.iconst 1, 1) := by decide +kernel
theorem dL_law_1439 : decode cL_law 1439 = .ok (.iadd, 1) := by decide +kernel
theorem dL_law_1440 : decode cL_law 1440 = .ok (.iaload, 1) := by decide +kernel
theorem dL_law_1441 : decode cL_law 1441 = .ok (.aload_n 0, 1) := by decide +kernel
theorem dL_law_1442 : decode cL_law 1442 = .ok (.iload_n 3, 1) := by decide +kernel
theorem dL_law_1443 : decode cL_law 1443 = .ok (.iconst 2, 1) := by decide +kernel
theorem dL_law_1444 : decode cL_law 1444 = .ok (.iadd, 1) := by decide +kernel
theorem dL_law_1445 : decode cL_law 1445 = .ok (.iaload, 1) := by decide +kernel
theorem dL_law_1446 : decode cL_law 1446 = .ok (.invokevirtual 175, 3) := by decide +kernel
theorem dL_law_1449 : decode cL_law 1449 = .ok (.if_icmp .eq 74, 3) := by decide +kernel
theorem dL_law_1452 : decode cL_law 1452 = .ok (.iconst 0, 1) := by decide +kernel
theorem dL_law_1453 : decode cL_law 1453 = .ok (.ireturn, 1) := by decide +kernel
theorem dL_law_1454 : decode cL_law 1454 = .ok (.aload_n 1, 1) := by decide +kernel
theorem dL_law_1455 : decode cL_law 1455 = .ok (.aload_n 0, 1) := by decide +kernel
theorem dL_law_1456 : decode cL_law 1456 = .ok (.iload_n 3, 1) := by decide +kernel
theorem dL_law_1457 : decode cL_law 1457 = .ok (.iconst 1, 1) := by decide +kernel
theorem dL_law_1458 : decode cL_law 1458 = .ok (.iadd, 1) := by decide +kernel
theorem dL_law_1459 : decode cL_law 1459 = .ok (.iaload, 1) := by decide +kernel
theorem dL_law_1460 : decode cL_law 1460 = .ok (.invokevirtual 176, 3) := by decide +kernel
theorem dL_law_1463 : decode cL_law 1463 = .ok (.aload_n 2, 1) := by decide +kernel
theorem dL_law_1464 : decode cL_law 1464 = .ok (.aload_n 0, 1) := by decide +kernel
theorem dL_law_1465 : decode cL_law 1465 = .ok (.iload_n 3, 1) := by decide +kernel
theorem dL_law_1466 : decode cL_law 1466 = .ok (.iconst 1, 1) := by decide +kernel
theorem dL_law_1467 : decode cL_law 1467 = .ok (.iadd, 1) := by decide +kernel
theorem dL_law_1468 : decode cL_law 1468 = .ok (.iaload, 1) := by decide +kernel
theorem dL_law_1469 : decode cL_law 1469 = .ok (.invokevirtual 179, 3) := by decide +kernel
theorem dL_law_1472 : decode cL_law 1472 = .ok (.if_icmp .eq 51, 3) := by decide +kernel
theorem dL_law_1475 : decode cL_law 1475 = .ok (.iconst 0, 1) := by decide +kernel
theorem dL_law_1476 : decode cL_law 1476 = .ok (.ireturn, 1) := by decide +kernel
theorem dL_law_1477 : decode cL_law 1477 = .ok (.aload_n 1, 1) := by decide +kernel
theorem dL_law_1478 : decode cL_law 1478 = .ok (.aload_n 0, 1) := by decide +kernel
theorem dL_law_1479 : decode cL_law 1479 = .ok (.iload_n 3, 1) := by decide +kernel
theorem dL_law_1480 : decode cL_law 1480 = .ok (.iconst 1, 1) := by decide +kernel
theorem dL_law_1481 : decode cL_law 1481 = .ok (.iadd, 1) := by decide +kernel
theorem dL_law_1482 : decode cL_law 1482 = .ok (.iaload, 1) := by decide +kernel
theorem dL_law_1483 : decode cL_law 1483 = .ok (.invokevirtual 180, 3) := by decide +kernel
theorem dL_law_1486 : decode cL_law 1486 = .ok (.aload_n 2, 1) := by decide +kernel
theorem dL_law_1487 : decode cL_law 1487 = .ok (.aload_n 0, 1) := by decide +kernel
theorem dL_law_1488 : decode cL_law 1488 = .ok (.iload_n 3, 1) := by decide +kernel
theorem dL_law_1489 : decode cL_law 1489 = .ok (.iconst 1, 1) := by decide +kernel
theorem dL_law_1490 : decode cL_law 1490 = .ok (.iadd, 1) := by decide +kernel
theorem dL_law_1491 : decode cL_law 1491 = .ok (.iaload, 1) := by decide +kernel
theorem dL_law_1492 : decode cL_law 1492 = .ok (.invokevirtual 183, 3) := by decide +kernel
theorem dL_law_1495 : decode cL_law 1495 = .ok (.if_icmp .eq 28, 3) := by decide +kernel
theorem dL_law_1498 : decode cL_law 1498 = .ok (.iconst 0, 1) := by decide +kernel
theorem dL_law_1499 : decode cL_law 1499 = .ok (.ireturn, 1) := by decide +kernel
theorem dL_law_1500 : decode cL_law 1500 = .ok (.aload_n 1, 1) := by decide +kernel
theorem dL_law_1501 : decode cL_law 1501 = .ok (.aload_n 0, 1) := by decide +kernel
theorem dL_law_1502 : decode cL_law 1502 = .ok (.iload_n 3, 1) := by decide +kernel
theorem dL_law_1503 : decode cL_law 1503 = .ok (.iconst 1, 1) := by decide +kernel
theorem dL_law_1504 : decode cL_law 1504 = .ok (.iadd, 1) := by decide +kernel
theorem dL_law_1505 : decode cL_law 1505 = .ok (.iaload, 1) := by decide +kernel
theorem dL_law_1506 : decode cL_law 1506 = .ok (.invokevirtual 184, 3) := by decide +kernel
theorem dL_law_1509 : decode cL_law 1509 = .ok (.aload_n 2, 1) := by decide +kernel
theorem dL_law_1510 : decode cL_law 1510 = .ok (.aload_n 0, 1) := by decide +kernel
theorem dL_law_1511 : decode cL_law 1511 = .ok (.iload_n 3, 1) := by decide +kernel
theorem dL_law_1512 : decode cL_law 1512 = .ok (.iconst 1, 1) := by decide +kernel
theorem dL_law_1513 : decode cL_law 1513 = .ok (.iadd, 1) := by decide +kernel
theorem dL_law_1514 : decode cL_law 1514 = .ok (.iaload, 1) := by decide +kernel
theorem dL_law_1515 : decode cL_law 1515 = .ok (.invokevirtual 187, 3) := by decide +kernel
theorem dL_law_1518 : decode cL_law 1518 = .ok (.if_icmp .eq 5, 3) := by decide +kernel
theorem dL_law_1521 : decode cL_law 1521 = .ok (.iconst 0, 1) := by decide +kernel
theorem dL_law_1522 : decode cL_law 1522 = .ok (.ireturn, 1) := by decide +kernel
theorem dL_law_1523 : decode cL_law 1523 = .ok (.iinc 3 6, 3) := by decide +kernel
theorem dL_law_1526 : decode cL_law 1526 = .ok (.goto (-1508), 3) := by decide +kernel
theorem dL_law_1529 : decode cL_law 1529 = .ok (.iconst 1, 1) := by decide +kernel
theorem dL_law_1530 : decode cL_law 1530 = .ok (.ireturn, 1) := by decide +kernel
theorem lc_0 {K : Kt} {V8 : Ct_V} {V9 : Vt} {b LL ce sl i : Nat} {xs : Nat → Int32} {σ τ : Wd} {σ' : Wd} {τ' : Wd} {r : Int32} (C : Lx K V8 V9 b LL xs) (hi : i + 6 ≤ LL) (hL : LL ≤ 3072) (hce : ce ≤ 600000) (hsl : sl ≤ 7302250) (h8 : M_X8_feed σ (xs (i + 1)) (xs (i + 2)) (xs (i + 3)) (xs (i + 4)) (xs (i + 5)) = some (r, σ')) (h9 : M_X9_feed τ (xs (i + 1)) (xs (i + 2)) (xs (i + 3)) (xs (i + 4)) (xs (i + 5)) = some (r, τ')) (hk : Gw K V8 V9 σ' τ' ce sl 1523 [(0, .ref b), (1, .ref (zA (Zc V8) 0)), (2, .ref (zA (Zm V9) 0)), (3, .int (nI i))] []) : Gw K V8 V9 σ τ ce sl 212 [(0, .ref b), (1, .ref (zA (Zc V8) 0)), (2, .ref (zA (Zm V9) 0)), (3, .int (nI i))] [] := by
  refine l_aload_n C 212 1 dL_law_212 rfl ?_
  refine l_arg C 213 i 1 0 3 dL_law_213 dL_law_214 dL_law_215 dL_law_216 dL_law_217 rfl rfl (by decide) (by omega) hL ?_
  refine l_arg C 218 i 2 0 3 dL_law_218 dL_law_219 dL_law_220 dL_law_221 dL_law_222 rfl rfl (by decide) (by omega) hL ?_
  refine l_arg C 223 i 3 0 3 dL_law_223 dL_law_224 dL_law_225 dL_law_226 dL_law_227 rfl rfl (by decide) (by omega) hL ?_
  refine l_arg C 228 i 4 0 3 dL_law_228 dL_law_229 dL_law_230 dL_law_231 dL_law_232 rfl rfl (by decide) (by omega) hL ?_
  refine l_arg C 233 i 5 0 3 dL_law_233 dL_law_234 dL_law_235 dL_law_236 dL_law_237 rfl rfl (by decide) (by omega) hL ?_
  refine l_callX C 238 [.int (xs (i + 1)), .int (xs (i + 2)), .int (xs (i + 3)), .int (xs (i + 4)), .int (xs (i + 5))] [] rfl tw_473 mv_X8_feed rfl (Nat.le_of_ble_eq_true rfl) (Nat.le_of_ble_eq_true rfl) hce hsl (Nat.le_of_ble_eq_true rfl) dL_law_238 (c_X8_feed V8 _ σ (xs (i + 1)) (xs (i + 2)) (xs (i + 3)) (xs (i + 4)) (xs (i + 5)) h8) ?_
  refine l_aload_n C 241 2 dL_law_241 rfl ?_
  refine l_arg C 242 i 1 0 3 dL_law_242 dL_law_243 dL_law_244 dL_law_245 dL_law_246 rfl rfl (by decide) (by omega) hL ?_
  refine l_arg C 247 i 2 0 3 dL_law_247 dL_law_248 dL_law_249 dL_law_250 dL_law_251 rfl rfl (by decide) (by omega) hL ?_
  refine l_arg C 252 i 3 0 3 dL_law_252 dL_law_253 dL_law_254 dL_law_255 dL_law_256 rfl rfl (by decide) (by omega) hL ?_
  refine l_arg C 257 i 4 0 3 dL_law_257 dL_law_258 dL_law_259 dL_law_260 dL_law_261 rfl rfl (by decide) (by omega) hL ?_
  refine l_arg C 262 i 5 0 3 dL_law_262 dL_law_263 dL_law_264 dL_law_265 dL_law_266 rfl rfl (by decide) (by omega) hL ?_
  refine l_callM C 267 [.int (xs (i + 1)), .int (xs (i + 2)), .int (xs (i + 3)), .int (xs (i + 4)), .int (xs (i + 5))] [.int r] rfl tw_1447 mv_X9_feed rfl (Nat.le_of_ble_eq_true rfl) (Nat.le_of_ble_eq_true rfl) hce hsl (Nat.le_of_ble_eq_true rfl) dL_law_267 (c_X9_feed V9 _ τ (xs (i + 1)) (xs (i + 2)) (xs (i + 3)) (xs (i + 4)) (xs (i + 5)) h9) ?_
  refine l_eq C 270 1523 dL_law_270 (by decide) ?_
  exact hk
theorem lc_1 {K : Kt} {V8 : Ct_V} {V9 : Vt} {b LL ce sl i : Nat} {xs : Nat → Int32} {σ τ : Wd} {σ' : Wd} {τ' : Wd} {r : Int32} (C : Lx K V8 V9 b LL xs) (hi : i + 6 ≤ LL) (hL : LL ≤ 3072) (hce : ce ≤ 600000) (hsl : sl ≤ 7302250) (h8 : M_X8_back σ (xs (i + 1)) = some (r, σ')) (h9 : M_X9_back τ (xs (i + 1)) = some (r, τ')) (hk : Gw K V8 V9 σ' τ' ce sl 1523 [(0, .ref b), (1, .ref (zA (Zc V8) 0)), (2, .ref (zA (Zm V9) 0)), (3, .int (nI i))] []) : Gw K V8 V9 σ τ ce sl 275 [(0, .ref b), (1, .ref (zA (Zc V8) 0)), (2, .ref (zA (Zm V9) 0)), (3, .int (nI i))] [] := by
  refine l_aload_n C 275 1 dL_law_275 rfl ?_
  refine l_arg C 276 i 1 0 3 dL_law_276 dL_law_277 dL_law_278 dL_law_279 dL_law_280 rfl rfl (by decide) (by omega) hL ?_
  refine l_callX C 281 [.int (xs (i + 1))] [] rfl tw_481 mv_X8_back rfl (Nat.le_of_ble_eq_true rfl) (Nat.le_of_ble_eq_true rfl) hce hsl (Nat.le_of_ble_eq_true rfl) dL_law_281 (c_X8_back V8 _ σ (xs (i + 1)) h8) ?_
  refine l_aload_n C 284 2 dL_law_284 rfl ?_
  refine l_arg C 285 i 1 0 3 dL_law_285 dL_law_286 dL_law_287 dL_law_288 dL_law_289 rfl rfl (by decide) (by omega) hL ?_
  refine l_callM C 290 [.int (xs (i + 1))] [.int r] rfl tw_1455 mv_X9_back rfl (Nat.le_of_ble_eq_true rfl) (Nat.le_of_ble_eq_true rfl) hce hsl (Nat.le_of_ble_eq_true rfl) dL_law_290 (c_X9_back V9 _ τ (xs (i + 1)) h9) ?_
  refine l_eq C 293 1523 dL_law_293 (by decide) ?_
  exact hk
theorem lc_2 {K : Kt} {V8 : Ct_V} {V9 : Vt} {b LL ce sl i : Nat} {xs : Nat → Int32} {σ τ : Wd} {σ' : Wd} {τ' : Wd} {r : Int32} (C : Lx K V8 V9 b LL xs) (hi : i + 6 ≤ LL) (hL : LL ≤ 3072) (hce : ce ≤ 600000) (hsl : sl ≤ 7302250) (h8 : M_X8_read σ = some (r, σ')) (h9 : M_X9_read τ = some (r, τ')) (hk : Gw K V8 V9 σ' τ' ce sl 1523 [(0, .ref b), (1, .ref (zA (Zc V8) 0)), (2, .ref (zA (Zm V9) 0)), (3, .int (nI i))] []) : Gw K V8 V9 σ τ ce sl 298 [(0, .ref b), (1, .ref (zA (Zc V8) 0)), (2, .ref (zA (Zm V9) 0)), (3, .int (nI i))] [] := by
  refine l_aload_n C 298 1 dL_law_298 rfl ?_
  refine l_callX C 299 [] [] rfl tw_485 mv_X8_read rfl (Nat.le_of_ble_eq_true rfl) (Nat.le_of_ble_eq_true rfl) hce hsl (Nat.le_of_ble_eq_true rfl) dL_law_299 (c_X8_read V8 _ σ h8) ?_
  refine l_aload_n C 302 2 dL_law_302 rfl ?_
  refine l_callM C 303 [] [.int r] rfl tw_1459 mv_X9_read rfl (Nat.le_of_ble_eq_true rfl) (Nat.le_of_ble_eq_true rfl) hce hsl (Nat.le_of_ble_eq_true rfl) dL_law_303 (c_X9_read V9 _ τ h9) ?_
  refine l_eq C 306 1523 dL_law_306 (by decide) ?_
  exact hk
theorem lc_3 {K : Kt} {V8 : Ct_V} {V9 : Vt} {b LL ce sl i : Nat} {xs : Nat → Int32} {σ τ : Wd} {r : Int32} (C : Lx K V8 V9 b LL xs) (hi : i + 6 ≤ LL) (hL : LL ≤ 3072) (hce : ce ≤ 600000) (hsl : sl ≤ 7302250) (h8 : M_X8_place σ = some r) (h9 : M_X9_place τ = some r) (hk : Gw K V8 V9 σ τ ce sl 1523 [(0, .ref b), (1, .ref (zA (Zc V8) 0)), (2, .ref (zA (Zm V9) 0)), (3, .int (nI i))] []) : Gw K V8 V9 σ τ ce sl 311 [(0, .ref b), (1, .ref (zA (Zc V8) 0)), (2, .ref (zA (Zm V9) 0)), (3, .int (nI i))] [] := by
  refine l_aload_n C 311 1 dL_law_311 rfl ?_
  refine l_callX C 312 [] [] rfl tw_718 mv_X8_place rfl (Nat.le_of_ble_eq_true rfl) (Nat.le_of_ble_eq_true rfl) hce hsl (Nat.le_of_ble_eq_true rfl) dL_law_312 (c_X8_place V8 _ σ h8) ?_
  refine l_aload_n C 315 2 dL_law_315 rfl ?_
  refine l_callM C 316 [] [.int r] rfl tw_1561 mv_X9_place rfl (Nat.le_of_ble_eq_true rfl) (Nat.le_of_ble_eq_true rfl) hce hsl (Nat.le_of_ble_eq_true rfl) dL_law_316 (c_X9_place V9 _ τ h9) ?_
  refine l_eq C 319 1523 dL_law_319 (by decide) ?_
  exact hk
theorem lc_4 {K : Kt} {V8 : Ct_V} {V9 : Vt} {b LL ce sl i : Nat} {xs : Nat → Int32} {σ τ : Wd} {σ' : Wd} {τ' : Wd} {r : Int32} (C : Lx K V8 V9 b LL xs) (hi : i + 6 ≤ LL) (hL : LL ≤ 3072) (hce : ce ≤ 600000) (hsl : sl ≤ 7302250) (h8 : M_X8_make σ (xs (i + 1)) (xs (i + 2)) (xs (i + 3)) (xs (i + 4)) = some (r, σ')) (h9 : M_X9_make τ (xs (i + 1)) (xs (i + 2)) (xs (i + 3)) (xs (i + 4)) = some (r, τ')) (hk : Gw K V8 V9 σ' τ' ce sl 1523 [(0, .ref b), (1, .ref (zA (Zc V8) 0)), (2, .ref (zA (Zm V9) 0)), (3, .int (nI i))] []) : Gw K V8 V9 σ τ ce sl 324 [(0, .ref b), (1, .ref (zA (Zc V8) 0)), (2, .ref (zA (Zm V9) 0)), (3, .int (nI i))] [] := by
  refine l_aload_n C 324 1 dL_law_324 rfl ?_
  refine l_arg C 325 i 1 0 3 dL_law_325 dL_law_326 dL_law_327 dL_law_328 dL_law_329 rfl rfl (by decide) (by omega) hL ?_
  refine l_arg C 330 i 2 0 3 dL_law_330 dL_law_331 dL_law_332 dL_law_333 dL_law_334 rfl rfl (by decide) (by omega) hL ?_
  refine l_arg C 335 i 3 0 3 dL_law_335 dL_law_336 dL_law_337 dL_law_338 dL_law_339 rfl rfl (by decide) (by omega) hL ?_
  refine l_arg C 340 i 4 0 3 dL_law_340 dL_law_341 dL_law_342 dL_law_343 dL_law_344 rfl rfl (by decide) (by omega) hL ?_
  refine l_callX C 345 [.int (xs (i + 1)), .int (xs (i + 2)), .int (xs (i + 3)), .int (xs (i + 4))] [] rfl tw_722 mv_X8_make rfl (Nat.le_of_ble_eq_true rfl) (Nat.le_of_ble_eq_true rfl) hce hsl (Nat.le_of_ble_eq_true rfl) dL_law_345 (c_X8_make V8 _ σ (xs (i + 1)) (xs (i + 2)) (xs (i + 3)) (xs (i + 4)) h8) ?_
  refine l_aload_n C 348 2 dL_law_348 rfl ?_
  refine l_arg C 349 i 1 0 3 dL_law_349 dL_law_350 dL_law_351 dL_law_352 dL_law_353 rfl rfl (by decide) (by omega) hL ?_
  refine l_arg C 354 i 2 0 3 dL_law_354 dL_law_355 dL_law_356 dL_law_357 dL_law_358 rfl rfl (by decide) (by omega) hL ?_
  refine l_arg C 359 i 3 0 3 dL_law_359 dL_law_360 dL_law_361 dL_law_362 dL_law_363 rfl rfl (by decide) (by omega) hL ?_
  refine l_arg C 364 i 4 0 3 dL_law_364 dL_law_365 dL_law_366 dL_law_367 dL_law_368 rfl rfl (by decide) (by omega) hL ?_
  refine l_callM C 369 [.int (xs (i + 1)), .int (xs (i + 2)), .int (xs (i + 3)), .int (xs (i + 4))] [.int r] rfl tw_1565 mv_X9_make rfl (Nat.le_of_ble_eq_true rfl) (Nat.le_of_ble_eq_true rfl) hce hsl (Nat.le_of_ble_eq_true rfl) dL_law_369 (c_X9_make V9 _ τ (xs (i + 1)) (xs (i + 2)) (xs (i + 3)) (xs (i + 4)) h9) ?_
  refine l_eq C 372 1523 dL_law_372 (by decide) ?_
  exact hk
theorem lc_5 {K : Kt} {V8 : Ct_V} {V9 : Vt} {b LL ce sl i : Nat} {xs : Nat → Int32} {σ τ : Wd} {σ' : Wd} {τ' : Wd} {r : Int32} (C : Lx K V8 V9 b LL xs) (hi : i + 6 ≤ LL) (hL : LL ≤ 3072) (hce : ce ≤ 600000) (hsl : sl ≤ 7302250) (h8 : M_X8_ask σ (xs (i + 1)) (xs (i + 2)) (xs (i + 3)) = some (r, σ')) (h9 : M_X9_ask τ (xs (i + 1)) (xs (i + 2)) (xs (i + 3)) = some (r, τ')) (hk : Gw K V8 V9 σ' τ' ce sl 1523 [(0, .ref b), (1, .ref (zA (Zc V8) 0)), (2, .ref (zA (Zm V9) 0)), (3, .int (nI i))] []) : Gw K V8 V9 σ τ ce sl 377 [(0, .ref b), (1, .ref (zA (Zc V8) 0)), (2, .ref (zA (Zm V9) 0)), (3, .int (nI i))] [] := by
  refine l_aload_n C 377 1 dL_law_377 rfl ?_
  refine l_arg C 378 i 1 0 3 dL_law_378 dL_law_379 dL_law_380 dL_law_381 dL_law_382 rfl rfl (by decide) (by omega) hL ?_
  refine l_arg C 383 i 2 0 3 dL_law_383 dL_law_384 dL_law_385 dL_law_386 dL_law_387 rfl rfl (by decide) (by omega) hL ?_
  refine l_arg C 388 i 3 0 3 dL_law_388 dL_law_389 dL_law_390 dL_law_391 dL_law_392 rfl rfl (by decide) (by omega) hL ?_
  refine l_callX C 393 [.int (xs (i + 1)), .int (xs (i + 2)), .int (xs (i + 3))] [] rfl tw_824 mv_X8_ask rfl (Nat.le_of_ble_eq_true rfl) (Nat.le_of_ble_eq_true rfl) hce hsl (Nat.le_of_ble_eq_true rfl) dL_law_393 (c_X8_ask V8 _ σ (xs (i + 1)) (xs (i + 2)) (xs (i + 3)) h8) ?_
  refine l_aload_n C 396 2 dL_law_396 rfl ?_
  refine l_arg C 397 i 1 0 3 dL_law_397 dL_law_398 dL_law_399 dL_law_400 dL_law_401 rfl rfl (by decide) (by omega) hL ?_
  refine l_arg C 402 i 2 0 3 dL_law_402 dL_law_403 dL_law_404 dL_law_405 dL_law_406 rfl rfl (by decide) (by omega) hL ?_
  refine l_arg C 407 i 3 0 3 dL_law_407 dL_law_408 dL_law_409 dL_law_410 dL_law_411 rfl rfl (by decide) (by omega) hL ?_
  refine l_callM C 412 [.int (xs (i + 1)), .int (xs (i + 2)), .int (xs (i + 3))] [.int r] rfl tw_1655 mv_X9_ask rfl (Nat.le_of_ble_eq_true rfl) (Nat.le_of_ble_eq_true rfl) hce hsl (Nat.le_of_ble_eq_true rfl) dL_law_412 (c_X9_ask V9 _ τ (xs (i + 1)) (xs (i + 2)) (xs (i + 3)) h9) ?_
  refine l_eq C 415 1523 dL_law_415 (by decide) ?_
  exact hk
theorem lc_6 {K : Kt} {V8 : Ct_V} {V9 : Vt} {b LL ce sl i : Nat} {xs : Nat → Int32} {σ τ : Wd} {r : Int32} (C : Lx K V8 V9 b LL xs) (hi : i + 6 ≤ LL) (hL : LL ≤ 3072) (hce : ce ≤ 600000) (hsl : sl ≤ 7302250) (h8 : M_X8_got σ (xs (i + 1)) = some r) (h9 : M_X9_got τ (xs (i + 1)) = some r) (hk : Gw K V8 V9 σ τ ce sl 1523 [(0, .ref b), (1, .ref (zA (Zc V8) 0)), (2, .ref (zA (Zm V9) 0)), (3, .int (nI i))] []) : Gw K V8 V9 σ τ ce sl 420 [(0, .ref b), (1, .ref (zA (Zc V8) 0)), (2, .ref (zA (Zm V9) 0)), (3, .int (nI i))] [] := by
  refine l_aload_n C 420 1 dL_law_420 rfl ?_
  refine l_arg C 421 i 1 0 3 dL_law_421 dL_law_422 dL_law_423 dL_law_424 dL_law_425 rfl rfl (by decide) (by omega) hL ?_
  refine l_callX C 426 [.int (xs (i + 1))] [] rfl tw_880 mv_X8_got rfl (Nat.le_of_ble_eq_true rfl) (Nat.le_of_ble_eq_true rfl) hce hsl (Nat.le_of_ble_eq_true rfl) dL_law_426 (c_X8_got V8 _ σ (xs (i + 1)) h8) ?_
  refine l_aload_n C 429 2 dL_law_429 rfl ?_
  refine l_arg C 430 i 1 0 3 dL_law_430 dL_law_431 dL_law_432 dL_law_433 dL_law_434 rfl rfl (by decide) (by omega) hL ?_
  refine l_callM C 435 [.int (xs (i + 1))] [.int r] rfl tw_1695 mv_X9_got rfl (Nat.le_of_ble_eq_true rfl) (Nat.le_of_ble_eq_true rfl) hce hsl (Nat.le_of_ble_eq_true rfl) dL_law_435 (c_X9_got V9 _ τ (xs (i + 1)) h9) ?_
  refine l_eq C 438 1523 dL_law_438 (by decide) ?_
  exact hk
theorem lc_7 {K : Kt} {V8 : Ct_V} {V9 : Vt} {b LL ce sl i : Nat} {xs : Nat → Int32} {σ τ : Wd} {σ' : Wd} {τ' : Wd} {r : Int32} (C : Lx K V8 V9 b LL xs) (hi : i + 6 ≤ LL) (hL : LL ≤ 3072) (hce : ce ≤ 600000) (hsl : sl ≤ 7302250) (h8 : M_X8_promise σ (xs (i + 1)) (xs (i + 2)) = some (r, σ')) (h9 : M_X9_promise τ (xs (i + 1)) (xs (i + 2)) = some (r, τ')) (hk : Gw K V8 V9 σ' τ' ce sl 1523 [(0, .ref b), (1, .ref (zA (Zc V8) 0)), (2, .ref (zA (Zm V9) 0)), (3, .int (nI i))] []) : Gw K V8 V9 σ τ ce sl 443 [(0, .ref b), (1, .ref (zA (Zc V8) 0)), (2, .ref (zA (Zm V9) 0)), (3, .int (nI i))] [] := by
  refine l_aload_n C 443 1 dL_law_443 rfl ?_
  refine l_arg C 444 i 1 0 3 dL_law_444 dL_law_445 dL_law_446 dL_law_447 dL_law_448 rfl rfl (by decide) (by omega) hL ?_
  refine l_arg C 449 i 2 0 3 dL_law_449 dL_law_450 dL_law_451 dL_law_452 dL_law_453 rfl rfl (by decide) (by omega) hL ?_
  refine l_callX C 454 [.int (xs (i + 1)), .int (xs (i + 2))] [] rfl tw_888 mv_X8_promise rfl (Nat.le_of_ble_eq_true rfl) (Nat.le_of_ble_eq_true rfl) hce hsl (Nat.le_of_ble_eq_true rfl) dL_law_454 (c_X8_promise V8 _ σ (xs (i + 1)) (xs (i + 2)) h8) ?_
  refine l_aload_n C 457 2 dL_law_457 rfl ?_
  refine l_arg C 458 i 1 0 3 dL_law_458 dL_law_459 dL_law_460 dL_law_461 dL_law_462 rfl rfl (by decide) (by omega) hL ?_
  refine l_arg C 463 i 2 0 3 dL_law_463 dL_law_464 dL_law_465 dL_law_466 dL_law_467 rfl rfl (by decide) (by omega) hL ?_
  refine l_callM C 468 [.int (xs (i + 1)), .int (xs (i + 2))] [.int r] rfl tw_1699 mv_X9_promise rfl (Nat.le_of_ble_eq_true rfl) (Nat.le_of_ble_eq_true rfl) hce hsl (Nat.le_of_ble_eq_true rfl) dL_law_468 (c_X9_promise V9 _ τ (xs (i + 1)) (xs (i + 2)) h9) ?_
  refine l_eq C 471 1523 dL_law_471 (by decide) ?_
  exact hk
theorem lc_8 {K : Kt} {V8 : Ct_V} {V9 : Vt} {b LL ce sl i : Nat} {xs : Nat → Int32} {σ τ : Wd} {σ' : Wd} {τ' : Wd} {r : Int32} (C : Lx K V8 V9 b LL xs) (hi : i + 6 ≤ LL) (hL : LL ≤ 3072) (hce : ce ≤ 600000) (hsl : sl ≤ 7302250) (h8 : M_X8_meet σ (xs (i + 1)) (xs (i + 2)) = some (r, σ')) (h9 : M_X9_meet τ (xs (i + 1)) (xs (i + 2)) = some (r, τ')) (hk : Gw K V8 V9 σ' τ' ce sl 1523 [(0, .ref b), (1, .ref (zA (Zc V8) 0)), (2, .ref (zA (Zm V9) 0)), (3, .int (nI i))] []) : Gw K V8 V9 σ τ ce sl 476 [(0, .ref b), (1, .ref (zA (Zc V8) 0)), (2, .ref (zA (Zm V9) 0)), (3, .int (nI i))] [] := by
  refine l_aload_n C 476 1 dL_law_476 rfl ?_
  refine l_arg C 477 i 1 0 3 dL_law_477 dL_law_478 dL_law_479 dL_law_480 dL_law_481 rfl rfl (by decide) (by omega) hL ?_
  refine l_arg C 482 i 2 0 3 dL_law_482 dL_law_483 dL_law_484 dL_law_485 dL_law_486 rfl rfl (by decide) (by omega) hL ?_
  refine l_callX C 487 [.int (xs (i + 1)), .int (xs (i + 2))] [] rfl tw_896 mv_X8_meet rfl (Nat.le_of_ble_eq_true rfl) (Nat.le_of_ble_eq_true rfl) hce hsl (Nat.le_of_ble_eq_true rfl) dL_law_487 (c_X8_meet V8 _ σ (xs (i + 1)) (xs (i + 2)) h8) ?_
  refine l_aload_n C 490 2 dL_law_490 rfl ?_
  refine l_arg C 491 i 1 0 3 dL_law_491 dL_law_492 dL_law_493 dL_law_494 dL_law_495 rfl rfl (by decide) (by omega) hL ?_
  refine l_arg C 496 i 2 0 3 dL_law_496 dL_law_497 dL_law_498 dL_law_499 dL_law_500 rfl rfl (by decide) (by omega) hL ?_
  refine l_callM C 501 [.int (xs (i + 1)), .int (xs (i + 2))] [.int r] rfl tw_1703 mv_X9_meet rfl (Nat.le_of_ble_eq_true rfl) (Nat.le_of_ble_eq_true rfl) hce hsl (Nat.le_of_ble_eq_true rfl) dL_law_501 (c_X9_meet V9 _ τ (xs (i + 1)) (xs (i + 2)) h9) ?_
  refine l_eq C 504 1523 dL_law_504 (by decide) ?_
  exact hk
theorem lc_9 {K : Kt} {V8 : Ct_V} {V9 : Vt} {b LL ce sl i : Nat} {xs : Nat → Int32} {σ τ : Wd} {σ' : Wd} {τ' : Wd} {r : Int32} (C : Lx K V8 V9 b LL xs) (hi : i + 6 ≤ LL) (hL : LL ≤ 3072) (hce : ce ≤ 600000) (hsl : sl ≤ 7302250) (h8 : M_X8_lead σ (xs (i + 1)) = some (r, σ')) (h9 : M_X9_lead τ (xs (i + 1)) = some (r, τ')) (hk : Gw K V8 V9 σ' τ' ce sl 1523 [(0, .ref b), (1, .ref (zA (Zc V8) 0)), (2, .ref (zA (Zm V9) 0)), (3, .int (nI i))] []) : Gw K V8 V9 σ τ ce sl 509 [(0, .ref b), (1, .ref (zA (Zc V8) 0)), (2, .ref (zA (Zm V9) 0)), (3, .int (nI i))] [] := by
  refine l_aload_n C 509 1 dL_law_509 rfl ?_
  refine l_arg C 510 i 1 0 3 dL_law_510 dL_law_511 dL_law_512 dL_law_513 dL_law_514 rfl rfl (by decide) (by omega) hL ?_
  refine l_callX C 515 [.int (xs (i + 1))] [] rfl tw_917 mv_X8_lead rfl (Nat.le_of_ble_eq_true rfl) (Nat.le_of_ble_eq_true rfl) hce hsl (Nat.le_of_ble_eq_true rfl) dL_law_515 (c_X8_lead V8 _ σ (xs (i + 1)) h8) ?_
  refine l_aload_n C 518 2 dL_law_518 rfl ?_
  refine l_arg C 519 i 1 0 3 dL_law_519 dL_law_520 dL_law_521 dL_law_522 dL_law_523 rfl rfl (by decide) (by omega) hL ?_
  refine l_callM C 524 [.int (xs (i + 1))] [.int r] rfl tw_1727 mv_X9_lead rfl (Nat.le_of_ble_eq_true rfl) (Nat.le_of_ble_eq_true rfl) hce hsl (Nat.le_of_ble_eq_true rfl) dL_law_524 (c_X9_lead V9 _ τ (xs (i + 1)) h9) ?_
  refine l_eq C 527 1523 dL_law_527 (by decide) ?_
  exact hk
theorem lc_10 {K : Kt} {V8 : Ct_V} {V9 : Vt} {b LL ce sl i : Nat} {xs : Nat → Int32} {σ τ : Wd} {σ' : Wd} {τ' : Wd} {r : Int32} (C : Lx K V8 V9 b LL xs) (hi : i + 6 ≤ LL) (hL : LL ≤ 3072) (hce : ce ≤ 600000) (hsl : sl ≤ 7302250) (h8 : M_X8_chance σ (xs (i + 1)) = some (r, σ')) (h9 : M_X9_chance τ (xs (i + 1)) = some (r, τ')) (hk : Gw K V8 V9 σ' τ' ce sl 1523 [(0, .ref b), (1, .ref (zA (Zc V8) 0)), (2, .ref (zA (Zm V9) 0)), (3, .int (nI i))] []) : Gw K V8 V9 σ τ ce sl 532 [(0, .ref b), (1, .ref (zA (Zc V8) 0)), (2, .ref (zA (Zm V9) 0)), (3, .int (nI i))] [] := by
  refine l_aload_n C 532 1 dL_law_532 rfl ?_
  refine l_arg C 533 i 1 0 3 dL_law_533 dL_law_534 dL_law_535 dL_law_536 dL_law_537 rfl rfl (by decide) (by omega) hL ?_
  refine l_callX C 538 [.int (xs (i + 1))] [] rfl tw_928 mv_X8_chance rfl (Nat.le_of_ble_eq_true rfl) (Nat.le_of_ble_eq_true rfl) hce hsl (Nat.le_of_ble_eq_true rfl) dL_law_538 (c_X8_chance V8 _ σ (xs (i + 1)) h8) ?_
  refine l_aload_n C 541 2 dL_law_541 rfl ?_
  refine l_arg C 542 i 1 0 3 dL_law_542 dL_law_543 dL_law_544 dL_law_545 dL_law_546 rfl rfl (by decide) (by omega) hL ?_
  refine l_callM C 547 [.int (xs (i + 1))] [.int r] rfl tw_1731 mv_X9_chance rfl (Nat.le_of_ble_eq_true rfl) (Nat.le_of_ble_eq_true rfl) hce hsl (Nat.le_of_ble_eq_true rfl) dL_law_547 (c_X9_chance V9 _ τ (xs (i + 1)) h9) ?_
  refine l_eq C 550 1523 dL_law_550 (by decide) ?_
  exact hk
theorem lc_11 {K : Kt} {V8 : Ct_V} {V9 : Vt} {b LL ce sl i : Nat} {xs : Nat → Int32} {σ τ : Wd} {σ' : Wd} {τ' : Wd} {r : Int32} (C : Lx K V8 V9 b LL xs) (hi : i + 6 ≤ LL) (hL : LL ≤ 3072) (hce : ce ≤ 600000) (hsl : sl ≤ 7302250) (h8 : M_X8_undo σ = some (r, σ')) (h9 : M_X9_undo τ = some (r, τ')) (hk : Gw K V8 V9 σ' τ' ce sl 1523 [(0, .ref b), (1, .ref (zA (Zc V8) 0)), (2, .ref (zA (Zm V9) 0)), (3, .int (nI i))] []) : Gw K V8 V9 σ τ ce sl 555 [(0, .ref b), (1, .ref (zA (Zc V8) 0)), (2, .ref (zA (Zm V9) 0)), (3, .int (nI i))] [] := by
  refine l_aload_n C 555 1 dL_law_555 rfl ?_
  refine l_callX C 556 [] [] rfl tw_953 mv_X8_undo rfl (Nat.le_of_ble_eq_true rfl) (Nat.le_of_ble_eq_true rfl) hce hsl (Nat.le_of_ble_eq_true rfl) dL_law_556 (c_X8_undo V8 _ σ h8) ?_
  refine l_aload_n C 559 2 dL_law_559 rfl ?_
  refine l_callM C 560 [] [.int r] rfl tw_1750 mv_X9_undo rfl (Nat.le_of_ble_eq_true rfl) (Nat.le_of_ble_eq_true rfl) hce hsl (Nat.le_of_ble_eq_true rfl) dL_law_560 (c_X9_undo V9 _ τ h9) ?_
  refine l_eq C 563 1523 dL_law_563 (by decide) ?_
  exact hk
theorem lc_12 {K : Kt} {V8 : Ct_V} {V9 : Vt} {b LL ce sl i : Nat} {xs : Nat → Int32} {σ τ : Wd} {σ' : Wd} {τ' : Wd} {r : Int32} (C : Lx K V8 V9 b LL xs) (hi : i + 6 ≤ LL) (hL : LL ≤ 3072) (hce : ce ≤ 600000) (hsl : sl ≤ 7302250) (h8 : M_X8_cell σ (xs (i + 1)) (xs (i + 2)) (bI (xs (i + 3))) = some (r, σ')) (h9 : M_X9_cell τ (xs (i + 1)) (xs (i + 2)) (bI (xs (i + 3))) = some (r, τ')) (hk : Gw K V8 V9 σ' τ' ce sl 1523 [(0, .ref b), (1, .ref (zA (Zc V8) 0)), (2, .ref (zA (Zm V9) 0)), (3, .int (nI i))] []) : Gw K V8 V9 σ τ ce sl 568 [(0, .ref b), (1, .ref (zA (Zc V8) 0)), (2, .ref (zA (Zm V9) 0)), (3, .int (nI i))] [] := by
  refine l_aload_n C 568 1 dL_law_568 rfl ?_
  refine l_arg C 569 i 1 0 3 dL_law_569 dL_law_570 dL_law_571 dL_law_572 dL_law_573 rfl rfl (by decide) (by omega) hL ?_
  refine l_arg C 574 i 2 0 3 dL_law_574 dL_law_575 dL_law_576 dL_law_577 dL_law_578 rfl rfl (by decide) (by omega) hL ?_
  refine l_arg C 579 i 3 0 3 dL_law_579 dL_law_580 dL_law_581 dL_law_582 dL_law_583 rfl rfl (by decide) (by omega) hL ?_
  refine l_bool C 584 dL_law_584 dL_law_587 dL_law_588 dL_law_591 ?_
  refine l_callX C 592 [.int (xs (i + 1)), .int (xs (i + 2)), .int (bI (xs (i + 3)))] [] rfl tw_961 mv_X8_cell rfl (Nat.le_of_ble_eq_true rfl) (Nat.le_of_ble_eq_true rfl) hce hsl (Nat.le_of_ble_eq_true rfl) dL_law_592 (c_X8_cell V8 _ σ (xs (i + 1)) (xs (i + 2)) (bI (xs (i + 3))) h8) ?_
  refine l_aload_n C 595 2 dL_law_595 rfl ?_
  refine l_arg C 596 i 1 0 3 dL_law_596 dL_law_597 dL_law_598 dL_law_599 dL_law_600 rfl rfl (by decide) (by omega) hL ?_
  refine l_arg C 601 i 2 0 3 dL_law_601 dL_law_602 dL_law_603 dL_law_604 dL_law_605 rfl rfl (by decide) (by omega) hL ?_
  refine l_arg C 606 i 3 0 3 dL_law_606 dL_law_607 dL_law_608 dL_law_609 dL_law_610 rfl rfl (by decide) (by omega) hL ?_
  refine l_bool C 611 dL_law_611 dL_law_614 dL_law_615 dL_law_618 ?_
  refine l_callM C 619 [.int (xs (i + 1)), .int (xs (i + 2)), .int (bI (xs (i + 3)))] [.int r] rfl tw_1754 mv_X9_cell rfl (Nat.le_of_ble_eq_true rfl) (Nat.le_of_ble_eq_true rfl) hce hsl (Nat.le_of_ble_eq_true rfl) dL_law_619 (c_X9_cell V9 _ τ (xs (i + 1)) (xs (i + 2)) (bI (xs (i + 3))) h9) ?_
  refine l_eq C 622 1523 dL_law_622 (by decide) ?_
  exact hk
theorem lc_13 {K : Kt} {V8 : Ct_V} {V9 : Vt} {b LL ce sl i : Nat} {xs : Nat → Int32} {σ τ : Wd} {σ' : Wd} {τ' : Wd} {r : Int32} (C : Lx K V8 V9 b LL xs) (hi : i + 6 ≤ LL) (hL : LL ≤ 3072) (hce : ce ≤ 600000) (hsl : sl ≤ 7302250) (h8 : M_X8_log σ (xs (i + 1)) (xs (i + 2)) = some (r, σ')) (h9 : M_X9_log τ (xs (i + 1)) (xs (i + 2)) = some (r, τ')) (hk : Gw K V8 V9 σ' τ' ce sl 1523 [(0, .ref b), (1, .ref (zA (Zc V8) 0)), (2, .ref (zA (Zm V9) 0)), (3, .int (nI i))] []) : Gw K V8 V9 σ τ ce sl 627 [(0, .ref b), (1, .ref (zA (Zc V8) 0)), (2, .ref (zA (Zm V9) 0)), (3, .int (nI i))] [] := by
  refine l_aload_n C 627 1 dL_law_627 rfl ?_
  refine l_arg C 628 i 1 0 3 dL_law_628 dL_law_629 dL_law_630 dL_law_631 dL_law_632 rfl rfl (by decide) (by omega) hL ?_
  refine l_arg C 633 i 2 0 3 dL_law_633 dL_law_634 dL_law_635 dL_law_636 dL_law_637 rfl rfl (by decide) (by omega) hL ?_
  refine l_callX C 638 [.int (xs (i + 1)), .int (xs (i + 2))] [] rfl tw_966 mv_X8_log rfl (Nat.le_of_ble_eq_true rfl) (Nat.le_of_ble_eq_true rfl) hce hsl (Nat.le_of_ble_eq_true rfl) dL_law_638 (c_X8_log V8 _ σ (xs (i + 1)) (xs (i + 2)) h8) ?_
  refine l_aload_n C 641 2 dL_law_641 rfl ?_
  refine l_arg C 642 i 1 0 3 dL_law_642 dL_law_643 dL_law_644 dL_law_645 dL_law_646 rfl rfl (by decide) (by omega) hL ?_
  refine l_arg C 647 i 2 0 3 dL_law_647 dL_law_648 dL_law_649 dL_law_650 dL_law_651 rfl rfl (by decide) (by omega) hL ?_
  refine l_callM C 652 [.int (xs (i + 1)), .int (xs (i + 2))] [.int r] rfl tw_1758 mv_X9_log rfl (Nat.le_of_ble_eq_true rfl) (Nat.le_of_ble_eq_true rfl) hce hsl (Nat.le_of_ble_eq_true rfl) dL_law_652 (c_X9_log V9 _ τ (xs (i + 1)) (xs (i + 2)) h9) ?_
  refine l_eq C 655 1523 dL_law_655 (by decide) ?_
  exact hk
theorem lc_14 {K : Kt} {V8 : Ct_V} {V9 : Vt} {b LL ce sl i : Nat} {xs : Nat → Int32} {σ τ : Wd} {σ' : Wd} {τ' : Wd} {r : Int32} (C : Lx K V8 V9 b LL xs) (hi : i + 6 ≤ LL) (hL : LL ≤ 3072) (hce : ce ≤ 600000) (hsl : sl ≤ 7302250) (h8 : M_X8_outcome σ (xs (i + 1)) (xs (i + 2)) = some (r, σ')) (h9 : M_X9_outcome τ (xs (i + 1)) (xs (i + 2)) = some (r, τ')) (hk : Gw K V8 V9 σ' τ' ce sl 1523 [(0, .ref b), (1, .ref (zA (Zc V8) 0)), (2, .ref (zA (Zm V9) 0)), (3, .int (nI i))] []) : Gw K V8 V9 σ τ ce sl 660 [(0, .ref b), (1, .ref (zA (Zc V8) 0)), (2, .ref (zA (Zm V9) 0)), (3, .int (nI i))] [] := by
  refine l_aload_n C 660 1 dL_law_660 rfl ?_
  refine l_arg C 661 i 1 0 3 dL_law_661 dL_law_662 dL_law_663 dL_law_664 dL_law_665 rfl rfl (by decide) (by omega) hL ?_
  refine l_arg C 666 i 2 0 3 dL_law_666 dL_law_667 dL_law_668 dL_law_669 dL_law_670 rfl rfl (by decide) (by omega) hL ?_
  refine l_callX C 671 [.int (xs (i + 1)), .int (xs (i + 2))] [] rfl tw_971 mv_X8_outcome rfl (Nat.le_of_ble_eq_true rfl) (Nat.le_of_ble_eq_true rfl) hce hsl (Nat.le_of_ble_eq_true rfl) dL_law_671 (c_X8_outcome V8 _ σ (xs (i + 1)) (xs (i + 2)) h8) ?_
  refine l_aload_n C 674 2 dL_law_674 rfl ?_
  refine l_arg C 675 i 1 0 3 dL_law_675 dL_law_676 dL_law_677 dL_law_678 dL_law_679 rfl rfl (by decide) (by omega) hL ?_
  refine l_arg C 680 i 2 0 3 dL_law_680 dL_law_681 dL_law_682 dL_law_683 dL_law_684 rfl rfl (by decide) (by omega) hL ?_
  refine l_callM C 685 [.int (xs (i + 1)), .int (xs (i + 2))] [.int r] rfl tw_1762 mv_X9_outcome rfl (Nat.le_of_ble_eq_true rfl) (Nat.le_of_ble_eq_true rfl) hce hsl (Nat.le_of_ble_eq_true rfl) dL_law_685 (c_X9_outcome V9 _ τ (xs (i + 1)) (xs (i + 2)) h9) ?_
  refine l_eq C 688 1523 dL_law_688 (by decide) ?_
  exact hk
theorem lc_15 {K : Kt} {V8 : Ct_V} {V9 : Vt} {b LL ce sl i : Nat} {xs : Nat → Int32} {σ τ : Wd} {τ' : Wd} {r : Int32} (C : Lx K V8 V9 b LL xs) (hi : i + 6 ≤ LL) (hL : LL ≤ 3072) (hce : ce ≤ 600000) (hsl : sl ≤ 7302250) (h8 : M_X8_write σ (xs (i + 1)) (xs (i + 2)) = some r) (h9 : M_X9_write τ (xs (i + 1)) (xs (i + 2)) = some (r, τ')) (hk : Gw K V8 V9 σ τ' ce sl 1523 [(0, .ref b), (1, .ref (zA (Zc V8) 0)), (2, .ref (zA (Zm V9) 0)), (3, .int (nI i))] []) : Gw K V8 V9 σ τ ce sl 693 [(0, .ref b), (1, .ref (zA (Zc V8) 0)), (2, .ref (zA (Zm V9) 0)), (3, .int (nI i))] [] := by
  refine l_aload_n C 693 1 dL_law_693 rfl ?_
  refine l_arg C 694 i 1 0 3 dL_law_694 dL_law_695 dL_law_696 dL_law_697 dL_law_698 rfl rfl (by decide) (by omega) hL ?_
  refine l_arg C 699 i 2 0 3 dL_law_699 dL_law_700 dL_law_701 dL_law_702 dL_law_703 rfl rfl (by decide) (by omega) hL ?_
  refine l_callX C 704 [.int (xs (i + 1)), .int (xs (i + 2))] [] rfl tw_988 mv_X8_write rfl (Nat.le_of_ble_eq_true rfl) (Nat.le_of_ble_eq_true rfl) hce hsl (Nat.le_of_ble_eq_true rfl) dL_law_704 (c_X8_write V8 _ σ (xs (i + 1)) (xs (i + 2)) h8) ?_
  refine l_aload_n C 707 2 dL_law_707 rfl ?_
  refine l_arg C 708 i 1 0 3 dL_law_708 dL_law_709 dL_law_710 dL_law_711 dL_law_712 rfl rfl (by decide) (by omega) hL ?_
  refine l_arg C 713 i 2 0 3 dL_law_713 dL_law_714 dL_law_715 dL_law_716 dL_law_717 rfl rfl (by decide) (by omega) hL ?_
  refine l_callM C 718 [.int (xs (i + 1)), .int (xs (i + 2))] [.int r] rfl tw_1774 mv_X9_write rfl (Nat.le_of_ble_eq_true rfl) (Nat.le_of_ble_eq_true rfl) hce hsl (Nat.le_of_ble_eq_true rfl) dL_law_718 (c_X9_write V9 _ τ (xs (i + 1)) (xs (i + 2)) h9) ?_
  refine l_eq C 721 1523 dL_law_721 (by decide) ?_
  exact hk
theorem lc_16 {K : Kt} {V8 : Ct_V} {V9 : Vt} {b LL ce sl i : Nat} {xs : Nat → Int32} {σ τ : Wd} {r : Int32} (C : Lx K V8 V9 b LL xs) (hi : i + 6 ≤ LL) (hL : LL ≤ 3072) (hce : ce ≤ 600000) (hsl : sl ≤ 7302250) (h8 : M_X8_with σ (xs (i + 1)) = some r) (h9 : M_X9_with τ (xs (i + 1)) = some r) (hk : Gw K V8 V9 σ τ ce sl 1523 [(0, .ref b), (1, .ref (zA (Zc V8) 0)), (2, .ref (zA (Zm V9) 0)), (3, .int (nI i))] []) : Gw K V8 V9 σ τ ce sl 726 [(0, .ref b), (1, .ref (zA (Zc V8) 0)), (2, .ref (zA (Zm V9) 0)), (3, .int (nI i))] [] := by
  refine l_aload_n C 726 1 dL_law_726 rfl ?_
  refine l_arg C 727 i 1 0 3 dL_law_727 dL_law_728 dL_law_729 dL_law_730 dL_law_731 rfl rfl (by decide) (by omega) hL ?_
  refine l_callX C 732 [.int (xs (i + 1))] [] rfl tw_1005 mv_X8_with rfl (Nat.le_of_ble_eq_true rfl) (Nat.le_of_ble_eq_true rfl) hce hsl (Nat.le_of_ble_eq_true rfl) dL_law_732 (c_X8_with V8 _ σ (xs (i + 1)) h8) ?_
  refine l_aload_n C 735 2 dL_law_735 rfl ?_
  refine l_arg C 736 i 1 0 3 dL_law_736 dL_law_737 dL_law_738 dL_law_739 dL_law_740 rfl rfl (by decide) (by omega) hL ?_
  refine l_callM C 741 [.int (xs (i + 1))] [.int r] rfl tw_1778 mv_X9_with rfl (Nat.le_of_ble_eq_true rfl) (Nat.le_of_ble_eq_true rfl) hce hsl (Nat.le_of_ble_eq_true rfl) dL_law_741 (c_X9_with V9 _ τ (xs (i + 1)) h9) ?_
  refine l_eq C 744 1523 dL_law_744 (by decide) ?_
  exact hk
theorem lc_17 {K : Kt} {V8 : Ct_V} {V9 : Vt} {b LL ce sl i : Nat} {xs : Nat → Int32} {σ τ : Wd} {σ' : Wd} {τ' : Wd} {r : Int32} (C : Lx K V8 V9 b LL xs) (hi : i + 6 ≤ LL) (hL : LL ≤ 3072) (hce : ce ≤ 600000) (hsl : sl ≤ 7302250) (h8 : M_X8_copy σ (xs (i + 1)) (xs (i + 2)) = some (r, σ')) (h9 : M_X9_copy τ (xs (i + 1)) (xs (i + 2)) = some (r, τ')) (hk : Gw K V8 V9 σ' τ' ce sl 1523 [(0, .ref b), (1, .ref (zA (Zc V8) 0)), (2, .ref (zA (Zm V9) 0)), (3, .int (nI i))] []) : Gw K V8 V9 σ τ ce sl 749 [(0, .ref b), (1, .ref (zA (Zc V8) 0)), (2, .ref (zA (Zm V9) 0)), (3, .int (nI i))] [] := by
  refine l_aload_n C 749 1 dL_law_749 rfl ?_
  refine l_arg C 750 i 1 0 3 dL_law_750 dL_law_751 dL_law_752 dL_law_753 dL_law_754 rfl rfl (by decide) (by omega) hL ?_
  refine l_arg C 755 i 2 0 3 dL_law_755 dL_law_756 dL_law_757 dL_law_758 dL_law_759 rfl rfl (by decide) (by omega) hL ?_
  refine l_callX C 760 [.int (xs (i + 1)), .int (xs (i + 2))] [] rfl tw_1009 mv_X8_copy rfl (Nat.le_of_ble_eq_true rfl) (Nat.le_of_ble_eq_true rfl) hce hsl (Nat.le_of_ble_eq_true rfl) dL_law_760 (c_X8_copy V8 _ σ (xs (i + 1)) (xs (i + 2)) h8) ?_
  refine l_aload_n C 763 2 dL_law_763 rfl ?_
  refine l_arg C 764 i 1 0 3 dL_law_764 dL_law_765 dL_law_766 dL_law_767 dL_law_768 rfl rfl (by decide) (by omega) hL ?_
  refine l_arg C 769 i 2 0 3 dL_law_769 dL_law_770 dL_law_771 dL_law_772 dL_law_773 rfl rfl (by decide) (by omega) hL ?_
  refine l_callM C 774 [.int (xs (i + 1)), .int (xs (i + 2))] [.int r] rfl tw_1782 mv_X9_copy rfl (Nat.le_of_ble_eq_true rfl) (Nat.le_of_ble_eq_true rfl) hce hsl (Nat.le_of_ble_eq_true rfl) dL_law_774 (c_X9_copy V9 _ τ (xs (i + 1)) (xs (i + 2)) h9) ?_
  refine l_eq C 777 1523 dL_law_777 (by decide) ?_
  exact hk
theorem lc_18 {K : Kt} {V8 : Ct_V} {V9 : Vt} {b LL ce sl i : Nat} {xs : Nat → Int32} {σ τ : Wd} {τ' : Wd} {r : Int32} (C : Lx K V8 V9 b LL xs) (hi : i + 6 ≤ LL) (hL : LL ≤ 3072) (hce : ce ≤ 600000) (hsl : sl ≤ 7302250) (h8 : M_X8_vector σ (xs (i + 1)) (xs (i + 2)) = some r) (h9 : M_X9_vector τ (xs (i + 1)) (xs (i + 2)) = some (r, τ')) (hk : Gw K V8 V9 σ τ' ce sl 1523 [(0, .ref b), (1, .ref (zA (Zc V8) 0)), (2, .ref (zA (Zm V9) 0)), (3, .int (nI i))] []) : Gw K V8 V9 σ τ ce sl 782 [(0, .ref b), (1, .ref (zA (Zc V8) 0)), (2, .ref (zA (Zm V9) 0)), (3, .int (nI i))] [] := by
  refine l_aload_n C 782 1 dL_law_782 rfl ?_
  refine l_arg C 783 i 1 0 3 dL_law_783 dL_law_784 dL_law_785 dL_law_786 dL_law_787 rfl rfl (by decide) (by omega) hL ?_
  refine l_arg C 788 i 2 0 3 dL_law_788 dL_law_789 dL_law_790 dL_law_791 dL_law_792 rfl rfl (by decide) (by omega) hL ?_
  refine l_callX C 793 [.int (xs (i + 1)), .int (xs (i + 2))] [] rfl tw_1037 mv_X8_vector rfl (Nat.le_of_ble_eq_true rfl) (Nat.le_of_ble_eq_true rfl) hce hsl (Nat.le_of_ble_eq_true rfl) dL_law_793 (c_X8_vector V8 _ σ (xs (i + 1)) (xs (i + 2)) h8) ?_
  refine l_aload_n C 796 2 dL_law_796 rfl ?_
  refine l_arg C 797 i 1 0 3 dL_law_797 dL_law_798 dL_law_799 dL_law_800 dL_law_801 rfl rfl (by decide) (by omega) hL ?_
  refine l_arg C 802 i 2 0 3 dL_law_802 dL_law_803 dL_law_804 dL_law_805 dL_law_806 rfl rfl (by decide) (by omega) hL ?_
  refine l_callM C 807 [.int (xs (i + 1)), .int (xs (i + 2))] [.int r] rfl tw_1790 mv_X9_vector rfl (Nat.le_of_ble_eq_true rfl) (Nat.le_of_ble_eq_true rfl) hce hsl (Nat.le_of_ble_eq_true rfl) dL_law_807 (c_X9_vector V9 _ τ (xs (i + 1)) (xs (i + 2)) h9) ?_
  refine l_eq C 810 1523 dL_law_810 (by decide) ?_
  exact hk
theorem lc_19 {K : Kt} {V8 : Ct_V} {V9 : Vt} {b LL ce sl i : Nat} {xs : Nat → Int32} {σ τ : Wd} {r : Int32} (C : Lx K V8 V9 b LL xs) (hi : i + 6 ≤ LL) (hL : LL ≤ 3072) (hce : ce ≤ 600000) (hsl : sl ≤ 7302250) (h8 : M_X8_session σ (xs (i + 1)) (xs (i + 2)) = some r) (h9 : M_X9_session τ (xs (i + 1)) (xs (i + 2)) = some r) (hk : Gw K V8 V9 σ τ ce sl 1523 [(0, .ref b), (1, .ref (zA (Zc V8) 0)), (2, .ref (zA (Zm V9) 0)), (3, .int (nI i))] []) : Gw K V8 V9 σ τ ce sl 815 [(0, .ref b), (1, .ref (zA (Zc V8) 0)), (2, .ref (zA (Zm V9) 0)), (3, .int (nI i))] [] := by
  refine l_aload_n C 815 1 dL_law_815 rfl ?_
  refine l_arg C 816 i 1 0 3 dL_law_816 dL_law_817 dL_law_818 dL_law_819 dL_law_820 rfl rfl (by decide) (by omega) hL ?_
  refine l_arg C 821 i 2 0 3 dL_law_821 dL_law_822 dL_law_823 dL_law_824 dL_law_825 rfl rfl (by decide) (by omega) hL ?_
  refine l_callX C 826 [.int (xs (i + 1)), .int (xs (i + 2))] [] rfl tw_1042 mv_X8_session rfl (Nat.le_of_ble_eq_true rfl) (Nat.le_of_ble_eq_true rfl) hce hsl (Nat.le_of_ble_eq_true rfl) dL_law_826 (c_X8_session V8 _ σ (xs (i + 1)) (xs (i + 2)) h8) ?_
  refine l_aload_n C 829 2 dL_law_829 rfl ?_
  refine l_arg C 830 i 1 0 3 dL_law_830 dL_law_831 dL_law_832 dL_law_833 dL_law_834 rfl rfl (by decide) (by omega) hL ?_
  refine l_arg C 835 i 2 0 3 dL_law_835 dL_law_836 dL_law_837 dL_law_838 dL_law_839 rfl rfl (by decide) (by omega) hL ?_
  refine l_callM C 840 [.int (xs (i + 1)), .int (xs (i + 2))] [.int r] rfl tw_1794 mv_X9_session rfl (Nat.le_of_ble_eq_true rfl) (Nat.le_of_ble_eq_true rfl) hce hsl (Nat.le_of_ble_eq_true rfl) dL_law_840 (c_X9_session V9 _ τ (xs (i + 1)) (xs (i + 2)) h9) ?_
  refine l_eq C 843 1523 dL_law_843 (by decide) ?_
  exact hk
theorem lc_20 {K : Kt} {V8 : Ct_V} {V9 : Vt} {b LL ce sl i : Nat} {xs : Nat → Int32} {σ τ : Wd} {r : Int32} (C : Lx K V8 V9 b LL xs) (hi : i + 6 ≤ LL) (hL : LL ≤ 3072) (hce : ce ≤ 600000) (hsl : sl ≤ 7302250) (h8 : M_X8_of σ (xs (i + 1)) (xs (i + 2)) (bI (xs (i + 3))) = some r) (h9 : M_X9_of τ (xs (i + 1)) (xs (i + 2)) (bI (xs (i + 3))) = some r) (hk : Gw K V8 V9 σ τ ce sl 1523 [(0, .ref b), (1, .ref (zA (Zc V8) 0)), (2, .ref (zA (Zm V9) 0)), (3, .int (nI i))] []) : Gw K V8 V9 σ τ ce sl 848 [(0, .ref b), (1, .ref (zA (Zc V8) 0)), (2, .ref (zA (Zm V9) 0)), (3, .int (nI i))] [] := by
  refine l_aload_n C 848 1 dL_law_848 rfl ?_
  refine l_arg C 849 i 1 0 3 dL_law_849 dL_law_850 dL_law_851 dL_law_852 dL_law_853 rfl rfl (by decide) (by omega) hL ?_
  refine l_arg C 854 i 2 0 3 dL_law_854 dL_law_855 dL_law_856 dL_law_857 dL_law_858 rfl rfl (by decide) (by omega) hL ?_
  refine l_arg C 859 i 3 0 3 dL_law_859 dL_law_860 dL_law_861 dL_law_862 dL_law_863 rfl rfl (by decide) (by omega) hL ?_
  refine l_bool C 864 dL_law_864 dL_law_867 dL_law_868 dL_law_871 ?_
  refine l_callX C 872 [.int (xs (i + 1)), .int (xs (i + 2)), .int (bI (xs (i + 3)))] [] rfl tw_1046 mv_X8_of rfl (Nat.le_of_ble_eq_true rfl) (Nat.le_of_ble_eq_true rfl) hce hsl (Nat.le_of_ble_eq_true rfl) dL_law_872 (c_X8_of V8 _ σ (xs (i + 1)) (xs (i + 2)) (bI (xs (i + 3))) h8) ?_
  refine l_aload_n C 875 2 dL_law_875 rfl ?_
  refine l_arg C 876 i 1 0 3 dL_law_876 dL_law_877 dL_law_878 dL_law_879 dL_law_880 rfl rfl (by decide) (by omega) hL ?_
  refine l_arg C 881 i 2 0 3 dL_law_881 dL_law_882 dL_law_883 dL_law_884 dL_law_885 rfl rfl (by decide) (by omega) hL ?_
  refine l_arg C 886 i 3 0 3 dL_law_886 dL_law_887 dL_law_888 dL_law_889 dL_law_890 rfl rfl (by decide) (by omega) hL ?_
  refine l_bool C 891 dL_law_891 dL_law_894 dL_law_895 dL_law_898 ?_
  refine l_callM C 899 [.int (xs (i + 1)), .int (xs (i + 2)), .int (bI (xs (i + 3)))] [.int r] rfl tw_1798 mv_X9_of rfl (Nat.le_of_ble_eq_true rfl) (Nat.le_of_ble_eq_true rfl) hce hsl (Nat.le_of_ble_eq_true rfl) dL_law_899 (c_X9_of V9 _ τ (xs (i + 1)) (xs (i + 2)) (bI (xs (i + 3))) h9) ?_
  refine l_eq C 902 1523 dL_law_902 (by decide) ?_
  exact hk
theorem lc_21 {K : Kt} {V8 : Ct_V} {V9 : Vt} {b LL ce sl i : Nat} {xs : Nat → Int32} {σ τ : Wd} {r : Int32} (C : Lx K V8 V9 b LL xs) (hi : i + 6 ≤ LL) (hL : LL ≤ 3072) (hce : ce ≤ 600000) (hsl : sl ≤ 7302250) (h8 : M_X8_shut σ (xs (i + 1)) = some r) (h9 : M_X9_shut τ (xs (i + 1)) = some r) (hk : Gw K V8 V9 σ τ ce sl 1523 [(0, .ref b), (1, .ref (zA (Zc V8) 0)), (2, .ref (zA (Zm V9) 0)), (3, .int (nI i))] []) : Gw K V8 V9 σ τ ce sl 907 [(0, .ref b), (1, .ref (zA (Zc V8) 0)), (2, .ref (zA (Zm V9) 0)), (3, .int (nI i))] [] := by
  refine l_aload_n C 907 1 dL_law_907 rfl ?_
  refine l_arg C 908 i 1 0 3 dL_law_908 dL_law_909 dL_law_910 dL_law_911 dL_law_912 rfl rfl (by decide) (by omega) hL ?_
  refine l_callX C 913 [.int (xs (i + 1))] [] rfl tw_1051 mv_X8_shut rfl (Nat.le_of_ble_eq_true rfl) (Nat.le_of_ble_eq_true rfl) hce hsl (Nat.le_of_ble_eq_true rfl) dL_law_913 (c_X8_shut V8 _ σ (xs (i + 1)) h8) ?_
  refine l_aload_n C 916 2 dL_law_916 rfl ?_
  refine l_arg C 917 i 1 0 3 dL_law_917 dL_law_918 dL_law_919 dL_law_920 dL_law_921 rfl rfl (by decide) (by omega) hL ?_
  refine l_callM C 922 [.int (xs (i + 1))] [.int r] rfl tw_1802 mv_X9_shut rfl (Nat.le_of_ble_eq_true rfl) (Nat.le_of_ble_eq_true rfl) hce hsl (Nat.le_of_ble_eq_true rfl) dL_law_922 (c_X9_shut V9 _ τ (xs (i + 1)) h9) ?_
  refine l_eq C 925 1523 dL_law_925 (by decide) ?_
  exact hk
theorem lc_22 {K : Kt} {V8 : Ct_V} {V9 : Vt} {b LL ce sl i : Nat} {xs : Nat → Int32} {σ τ : Wd} {τ' : Wd} {r : Int32} (C : Lx K V8 V9 b LL xs) (hi : i + 6 ≤ LL) (hL : LL ≤ 3072) (hce : ce ≤ 600000) (hsl : sl ≤ 7302250) (h8 : M_X8_lacks σ (xs (i + 1)) (xs (i + 2)) = some r) (h9 : M_X9_lacks τ (xs (i + 1)) (xs (i + 2)) = some (r, τ')) (hk : Gw K V8 V9 σ τ' ce sl 1523 [(0, .ref b), (1, .ref (zA (Zc V8) 0)), (2, .ref (zA (Zm V9) 0)), (3, .int (nI i))] []) : Gw K V8 V9 σ τ ce sl 930 [(0, .ref b), (1, .ref (zA (Zc V8) 0)), (2, .ref (zA (Zm V9) 0)), (3, .int (nI i))] [] := by
  refine l_aload_n C 930 1 dL_law_930 rfl ?_
  refine l_arg C 931 i 1 0 3 dL_law_931 dL_law_932 dL_law_933 dL_law_934 dL_law_935 rfl rfl (by decide) (by omega) hL ?_
  refine l_arg C 936 i 2 0 3 dL_law_936 dL_law_937 dL_law_938 dL_law_939 dL_law_940 rfl rfl (by decide) (by omega) hL ?_
  refine l_callX C 941 [.int (xs (i + 1)), .int (xs (i + 2))] [] rfl tw_1059 mv_X8_lacks rfl (Nat.le_of_ble_eq_true rfl) (Nat.le_of_ble_eq_true rfl) hce hsl (Nat.le_of_ble_eq_true rfl) dL_law_941 (c_X8_lacks V8 _ σ (xs (i + 1)) (xs (i + 2)) h8) ?_
  refine l_aload_n C 944 2 dL_law_944 rfl ?_
  refine l_arg C 945 i 1 0 3 dL_law_945 dL_law_946 dL_law_947 dL_law_948 dL_law_949 rfl rfl (by decide) (by omega) hL ?_
  refine l_arg C 950 i 2 0 3 dL_law_950 dL_law_951 dL_law_952 dL_law_953 dL_law_954 rfl rfl (by decide) (by omega) hL ?_
  refine l_callM C 955 [.int (xs (i + 1)), .int (xs (i + 2))] [.int r] rfl tw_1806 mv_X9_lacks rfl (Nat.le_of_ble_eq_true rfl) (Nat.le_of_ble_eq_true rfl) hce hsl (Nat.le_of_ble_eq_true rfl) dL_law_955 (c_X9_lacks V9 _ τ (xs (i + 1)) (xs (i + 2)) h9) ?_
  refine l_eq C 958 1523 dL_law_958 (by decide) ?_
  exact hk
theorem lc_23 {K : Kt} {V8 : Ct_V} {V9 : Vt} {b LL ce sl i : Nat} {xs : Nat → Int32} {σ τ : Wd} {σ' : Wd} {τ' : Wd} {r : Int32} (C : Lx K V8 V9 b LL xs) (hi : i + 6 ≤ LL) (hL : LL ≤ 3072) (hce : ce ≤ 600000) (hsl : sl ≤ 7302250) (h8 : M_X8_would σ (xs (i + 1)) (xs (i + 2)) = some (r, σ')) (h9 : M_X9_would τ (xs (i + 1)) (xs (i + 2)) = some (r, τ')) (hk : Gw K V8 V9 σ' τ' ce sl 1523 [(0, .ref b), (1, .ref (zA (Zc V8) 0)), (2, .ref (zA (Zm V9) 0)), (3, .int (nI i))] []) : Gw K V8 V9 σ τ ce sl 963 [(0, .ref b), (1, .ref (zA (Zc V8) 0)), (2, .ref (zA (Zm V9) 0)), (3, .int (nI i))] [] := by
  refine l_aload_n C 963 1 dL_law_963 rfl ?_
  refine l_arg C 964 i 1 0 3 dL_law_964 dL_law_965 dL_law_966 dL_law_967 dL_law_968 rfl rfl (by decide) (by omega) hL ?_
  refine l_arg C 969 i 2 0 3 dL_law_969 dL_law_970 dL_law_971 dL_law_972 dL_law_973 rfl rfl (by decide) (by omega) hL ?_
  refine l_callX C 974 [.int (xs (i + 1)), .int (xs (i + 2))] [] rfl tw_1064 mv_X8_would rfl (Nat.le_of_ble_eq_true rfl) (Nat.le_of_ble_eq_true rfl) hce hsl (Nat.le_of_ble_eq_true rfl) dL_law_974 (c_X8_would V8 _ σ (xs (i + 1)) (xs (i + 2)) h8) ?_
  refine l_aload_n C 977 2 dL_law_977 rfl ?_
  refine l_arg C 978 i 1 0 3 dL_law_978 dL_law_979 dL_law_980 dL_law_981 dL_law_982 rfl rfl (by decide) (by omega) hL ?_
  refine l_arg C 983 i 2 0 3 dL_law_983 dL_law_984 dL_law_985 dL_law_986 dL_law_987 rfl rfl (by decide) (by omega) hL ?_
  refine l_callM C 988 [.int (xs (i + 1)), .int (xs (i + 2))] [.int r] rfl tw_1814 mv_X9_would rfl (Nat.le_of_ble_eq_true rfl) (Nat.le_of_ble_eq_true rfl) hce hsl (Nat.le_of_ble_eq_true rfl) dL_law_988 (c_X9_would V9 _ τ (xs (i + 1)) (xs (i + 2)) h9) ?_
  refine l_eq C 991 1523 dL_law_991 (by decide) ?_
  exact hk
theorem lc_24 {K : Kt} {V8 : Ct_V} {V9 : Vt} {b LL ce sl i : Nat} {xs : Nat → Int32} {σ τ : Wd} {σ' : Wd} {τ' : Wd} {r : Int32} (C : Lx K V8 V9 b LL xs) (hi : i + 6 ≤ LL) (hL : LL ≤ 3072) (hce : ce ≤ 600000) (hsl : sl ≤ 7302250) (h8 : M_X8_differ σ (xs (i + 1)) (xs (i + 2)) = some (r, σ')) (h9 : M_X9_differ τ (xs (i + 1)) (xs (i + 2)) = some (r, τ')) (hk : Gw K V8 V9 σ' τ' ce sl 1523 [(0, .ref b), (1, .ref (zA (Zc V8) 0)), (2, .ref (zA (Zm V9) 0)), (3, .int (nI i))] []) : Gw K V8 V9 σ τ ce sl 996 [(0, .ref b), (1, .ref (zA (Zc V8) 0)), (2, .ref (zA (Zm V9) 0)), (3, .int (nI i))] [] := by
  refine l_aload_n C 996 1 dL_law_996 rfl ?_
  refine l_arg C 997 i 1 0 3 dL_law_997 dL_law_998 dL_law_999 dL_law_1000 dL_law_1001 rfl rfl (by decide) (by omega) hL ?_
  refine l_arg C 1002 i 2 0 3 dL_law_1002 dL_law_1003 dL_law_1004 dL_law_1005 dL_law_1006 rfl rfl (by decide) (by omega) hL ?_
  refine l_callX C 1007 [.int (xs (i + 1)), .int (xs (i + 2))] [] rfl tw_1072 mv_X8_differ rfl (Nat.le_of_ble_eq_true rfl) (Nat.le_of_ble_eq_true rfl) hce hsl (Nat.le_of_ble_eq_true rfl) dL_law_1007 (c_X8_differ V8 _ σ (xs (i + 1)) (xs (i + 2)) h8) ?_
  refine l_aload_n C 1010 2 dL_law_1010 rfl ?_
  refine l_arg C 1011 i 1 0 3 dL_law_1011 dL_law_1012 dL_law_1013 dL_law_1014 dL_law_1015 rfl rfl (by decide) (by omega) hL ?_
  refine l_arg C 1016 i 2 0 3 dL_law_1016 dL_law_1017 dL_law_1018 dL_law_1019 dL_law_1020 rfl rfl (by decide) (by omega) hL ?_
  refine l_callM C 1021 [.int (xs (i + 1)), .int (xs (i + 2))] [.int r] rfl tw_1818 mv_X9_differ rfl (Nat.le_of_ble_eq_true rfl) (Nat.le_of_ble_eq_true rfl) hce hsl (Nat.le_of_ble_eq_true rfl) dL_law_1021 (c_X9_differ V9 _ τ (xs (i + 1)) (xs (i + 2)) h9) ?_
  refine l_eq C 1024 1523 dL_law_1024 (by decide) ?_
  exact hk
theorem lc_25 {K : Kt} {V8 : Ct_V} {V9 : Vt} {b LL ce sl i : Nat} {xs : Nat → Int32} {σ τ : Wd} {τ' : Wd} {r : Int32} (C : Lx K V8 V9 b LL xs) (hi : i + 6 ≤ LL) (hL : LL ≤ 3072) (hce : ce ≤ 600000) (hsl : sl ≤ 7302250) (h8 : M_X8_alike σ (xs (i + 1)) (xs (i + 2)) = some r) (h9 : M_X9_alike τ (xs (i + 1)) (xs (i + 2)) = some (r, τ')) (hk : Gw K V8 V9 σ τ' ce sl 1523 [(0, .ref b), (1, .ref (zA (Zc V8) 0)), (2, .ref (zA (Zm V9) 0)), (3, .int (nI i))] []) : Gw K V8 V9 σ τ ce sl 1029 [(0, .ref b), (1, .ref (zA (Zc V8) 0)), (2, .ref (zA (Zm V9) 0)), (3, .int (nI i))] [] := by
  refine l_aload_n C 1029 1 dL_law_1029 rfl ?_
  refine l_arg C 1030 i 1 0 3 dL_law_1030 dL_law_1031 dL_law_1032 dL_law_1033 dL_law_1034 rfl rfl (by decide) (by omega) hL ?_
  refine l_arg C 1035 i 2 0 3 dL_law_1035 dL_law_1036 dL_law_1037 dL_law_1038 dL_law_1039 rfl rfl (by decide) (by omega) hL ?_
  refine l_callX C 1040 [.int (xs (i + 1)), .int (xs (i + 2))] [] rfl tw_1076 mv_X8_alike rfl (Nat.le_of_ble_eq_true rfl) (Nat.le_of_ble_eq_true rfl) hce hsl (Nat.le_of_ble_eq_true rfl) dL_law_1040 (c_X8_alike V8 _ σ (xs (i + 1)) (xs (i + 2)) h8) ?_
  refine l_aload_n C 1043 2 dL_law_1043 rfl ?_
  refine l_arg C 1044 i 1 0 3 dL_law_1044 dL_law_1045 dL_law_1046 dL_law_1047 dL_law_1048 rfl rfl (by decide) (by omega) hL ?_
  refine l_arg C 1049 i 2 0 3 dL_law_1049 dL_law_1050 dL_law_1051 dL_law_1052 dL_law_1053 rfl rfl (by decide) (by omega) hL ?_
  refine l_callM C 1054 [.int (xs (i + 1)), .int (xs (i + 2))] [.int r] rfl tw_1822 mv_X9_alike rfl (Nat.le_of_ble_eq_true rfl) (Nat.le_of_ble_eq_true rfl) hce hsl (Nat.le_of_ble_eq_true rfl) dL_law_1054 (c_X9_alike V9 _ τ (xs (i + 1)) (xs (i + 2)) h9) ?_
  refine l_eq C 1057 1523 dL_law_1057 (by decide) ?_
  exact hk
theorem lc_26 {K : Kt} {V8 : Ct_V} {V9 : Vt} {b LL ce sl i : Nat} {xs : Nat → Int32} {σ τ : Wd} {σ' : Wd} {τ' : Wd} {r : Int32} (C : Lx K V8 V9 b LL xs) (hi : i + 6 ≤ LL) (hL : LL ≤ 3072) (hce : ce ≤ 600000) (hsl : sl ≤ 7302250) (h8 : M_X8_hangs σ (xs (i + 1)) (xs (i + 2)) (xs (i + 3)) = some (r, σ')) (h9 : M_X9_hangs τ (xs (i + 1)) (xs (i + 2)) (xs (i + 3)) = some (r, τ')) (hk : Gw K V8 V9 σ' τ' ce sl 1523 [(0, .ref b), (1, .ref (zA (Zc V8) 0)), (2, .ref (zA (Zm V9) 0)), (3, .int (nI i))] []) : Gw K V8 V9 σ τ ce sl 1062 [(0, .ref b), (1, .ref (zA (Zc V8) 0)), (2, .ref (zA (Zm V9) 0)), (3, .int (nI i))] [] := by
  refine l_aload_n C 1062 1 dL_law_1062 rfl ?_
  refine l_arg C 1063 i 1 0 3 dL_law_1063 dL_law_1064 dL_law_1065 dL_law_1066 dL_law_1067 rfl rfl (by decide) (by omega) hL ?_
  refine l_arg C 1068 i 2 0 3 dL_law_1068 dL_law_1069 dL_law_1070 dL_law_1071 dL_law_1072 rfl rfl (by decide) (by omega) hL ?_
  refine l_arg C 1073 i 3 0 3 dL_law_1073 dL_law_1074 dL_law_1075 dL_law_1076 dL_law_1077 rfl rfl (by decide) (by omega) hL ?_
  refine l_callX C 1078 [.int (xs (i + 1)), .int (xs (i + 2)), .int (xs (i + 3))] [] rfl tw_1084 mv_X8_hangs rfl (Nat.le_of_ble_eq_true rfl) (Nat.le_of_ble_eq_true rfl) hce hsl (Nat.le_of_ble_eq_true rfl) dL_law_1078 (c_X8_hangs V8 _ σ (xs (i + 1)) (xs (i + 2)) (xs (i + 3)) h8) ?_
  refine l_aload_n C 1081 2 dL_law_1081 rfl ?_
  refine l_arg C 1082 i 1 0 3 dL_law_1082 dL_law_1083 dL_law_1084 dL_law_1085 dL_law_1086 rfl rfl (by decide) (by omega) hL ?_
  refine l_arg C 1087 i 2 0 3 dL_law_1087 dL_law_1088 dL_law_1089 dL_law_1090 dL_law_1091 rfl rfl (by decide) (by omega) hL ?_
  refine l_arg C 1092 i 3 0 3 dL_law_1092 dL_law_1093 dL_law_1094 dL_law_1095 dL_law_1096 rfl rfl (by decide) (by omega) hL ?_
  refine l_callM C 1097 [.int (xs (i + 1)), .int (xs (i + 2)), .int (xs (i + 3))] [.int r] rfl tw_1834 mv_X9_hangs rfl (Nat.le_of_ble_eq_true rfl) (Nat.le_of_ble_eq_true rfl) hce hsl (Nat.le_of_ble_eq_true rfl) dL_law_1097 (c_X9_hangs V9 _ τ (xs (i + 1)) (xs (i + 2)) (xs (i + 3)) h9) ?_
  refine l_eq C 1100 1523 dL_law_1100 (by decide) ?_
  exact hk
theorem lc_27 {K : Kt} {V8 : Ct_V} {V9 : Vt} {b LL ce sl i : Nat} {xs : Nat → Int32} {σ τ : Wd} {σ' : Wd} {τ' : Wd} {r : Int32} (C : Lx K V8 V9 b LL xs) (hi : i + 6 ≤ LL) (hL : LL ≤ 3072) (hce : ce ≤ 600000) (hsl : sl ≤ 7302250) (h8 : M_X8_behind σ (xs (i + 1)) (xs (i + 2)) (xs (i + 3)) = some (r, σ')) (h9 : M_X9_behind τ (xs (i + 1)) (xs (i + 2)) (xs (i + 3)) = some (r, τ')) (hk : Gw K V8 V9 σ' τ' ce sl 1523 [(0, .ref b), (1, .ref (zA (Zc V8) 0)), (2, .ref (zA (Zm V9) 0)), (3, .int (nI i))] []) : Gw K V8 V9 σ τ ce sl 1105 [(0, .ref b), (1, .ref (zA (Zc V8) 0)), (2, .ref (zA (Zm V9) 0)), (3, .int (nI i))] [] := by
  refine l_aload_n C 1105 1 dL_law_1105 rfl ?_
  refine l_arg C 1106 i 1 0 3 dL_law_1106 dL_law_1107 dL_law_1108 dL_law_1109 dL_law_1110 rfl rfl (by decide) (by omega) hL ?_
  refine l_arg C 1111 i 2 0 3 dL_law_1111 dL_law_1112 dL_law_1113 dL_law_1114 dL_law_1115 rfl rfl (by decide) (by omega) hL ?_
  refine l_arg C 1116 i 3 0 3 dL_law_1116 dL_law_1117 dL_law_1118 dL_law_1119 dL_law_1120 rfl rfl (by decide) (by omega) hL ?_
  refine l_callX C 1121 [.int (xs (i + 1)), .int (xs (i + 2)), .int (xs (i + 3))] [] rfl tw_1096 mv_X8_behind rfl (Nat.le_of_ble_eq_true rfl) (Nat.le_of_ble_eq_true rfl) hce hsl (Nat.le_of_ble_eq_true rfl) dL_law_1121 (c_X8_behind V8 _ σ (xs (i + 1)) (xs (i + 2)) (xs (i + 3)) h8) ?_
  refine l_aload_n C 1124 2 dL_law_1124 rfl ?_
  refine l_arg C 1125 i 1 0 3 dL_law_1125 dL_law_1126 dL_law_1127 dL_law_1128 dL_law_1129 rfl rfl (by decide) (by omega) hL ?_
  refine l_arg C 1130 i 2 0 3 dL_law_1130 dL_law_1131 dL_law_1132 dL_law_1133 dL_law_1134 rfl rfl (by decide) (by omega) hL ?_
  refine l_arg C 1135 i 3 0 3 dL_law_1135 dL_law_1136 dL_law_1137 dL_law_1138 dL_law_1139 rfl rfl (by decide) (by omega) hL ?_
  refine l_callM C 1140 [.int (xs (i + 1)), .int (xs (i + 2)), .int (xs (i + 3))] [.int r] rfl tw_1846 mv_X9_behind rfl (Nat.le_of_ble_eq_true rfl) (Nat.le_of_ble_eq_true rfl) hce hsl (Nat.le_of_ble_eq_true rfl) dL_law_1140 (c_X9_behind V9 _ τ (xs (i + 1)) (xs (i + 2)) (xs (i + 3)) h9) ?_
  refine l_eq C 1143 1523 dL_law_1143 (by decide) ?_
  exact hk
theorem lc_28 {K : Kt} {V8 : Ct_V} {V9 : Vt} {b LL ce sl i : Nat} {xs : Nat → Int32} {σ τ : Wd} {σ' : Wd} {τ' : Wd} {r : Int32} (C : Lx K V8 V9 b LL xs) (hi : i + 6 ≤ LL) (hL : LL ≤ 3072) (hce : ce ≤ 600000) (hsl : sl ≤ 7302250) (h8 : M_X8_fork σ (xs (i + 1)) (xs (i + 2)) = some (r, σ')) (h9 : M_X9_fork τ (xs (i + 1)) (xs (i + 2)) = some (r, τ')) (hk : Gw K V8 V9 σ' τ' ce sl 1523 [(0, .ref b), (1, .ref (zA (Zc V8) 0)), (2, .ref (zA (Zm V9) 0)), (3, .int (nI i))] []) : Gw K V8 V9 σ τ ce sl 1148 [(0, .ref b), (1, .ref (zA (Zc V8) 0)), (2, .ref (zA (Zm V9) 0)), (3, .int (nI i))] [] := by
  refine l_aload_n C 1148 1 dL_law_1148 rfl ?_
  refine l_arg C 1149 i 1 0 3 dL_law_1149 dL_law_1150 dL_law_1151 dL_law_1152 dL_law_1153 rfl rfl (by decide) (by omega) hL ?_
  refine l_arg C 1154 i 2 0 3 dL_law_1154 dL_law_1155 dL_law_1156 dL_law_1157 dL_law_1158 rfl rfl (by decide) (by omega) hL ?_
  refine l_callX C 1159 [.int (xs (i + 1)), .int (xs (i + 2))] [] rfl tw_1100 mv_X8_fork rfl (Nat.le_of_ble_eq_true rfl) (Nat.le_of_ble_eq_true rfl) hce hsl (Nat.le_of_ble_eq_true rfl) dL_law_1159 (c_X8_fork V8 _ σ (xs (i + 1)) (xs (i + 2)) h8) ?_
  refine l_aload_n C 1162 2 dL_law_1162 rfl ?_
  refine l_arg C 1163 i 1 0 3 dL_law_1163 dL_law_1164 dL_law_1165 dL_law_1166 dL_law_1167 rfl rfl (by decide) (by omega) hL ?_
  refine l_arg C 1168 i 2 0 3 dL_law_1168 dL_law_1169 dL_law_1170 dL_law_1171 dL_law_1172 rfl rfl (by decide) (by omega) hL ?_
  refine l_callM C 1173 [.int (xs (i + 1)), .int (xs (i + 2))] [.int r] rfl tw_1830 mv_X9_fork rfl (Nat.le_of_ble_eq_true rfl) (Nat.le_of_ble_eq_true rfl) hce hsl (Nat.le_of_ble_eq_true rfl) dL_law_1173 (c_X9_fork V9 _ τ (xs (i + 1)) (xs (i + 2)) h9) ?_
  refine l_eq C 1176 1523 dL_law_1176 (by decide) ?_
  exact hk
theorem lc_29 {K : Kt} {V8 : Ct_V} {V9 : Vt} {b LL ce sl i : Nat} {xs : Nat → Int32} {σ τ : Wd} {σ' : Wd} {τ' : Wd} {r : Int32} (C : Lx K V8 V9 b LL xs) (hi : i + 6 ≤ LL) (hL : LL ≤ 3072) (hce : ce ≤ 600000) (hsl : sl ≤ 7302250) (h8 : M_X8_key σ (xs (i + 1)) (xs (i + 2)) = some (r, σ')) (h9 : M_X9_key τ (xs (i + 1)) (xs (i + 2)) = some (r, τ')) (hk : Gw K V8 V9 σ' τ' ce sl 1523 [(0, .ref b), (1, .ref (zA (Zc V8) 0)), (2, .ref (zA (Zm V9) 0)), (3, .int (nI i))] []) : Gw K V8 V9 σ τ ce sl 1181 [(0, .ref b), (1, .ref (zA (Zc V8) 0)), (2, .ref (zA (Zm V9) 0)), (3, .int (nI i))] [] := by
  refine l_aload_n C 1181 1 dL_law_1181 rfl ?_
  refine l_arg C 1182 i 1 0 3 dL_law_1182 dL_law_1183 dL_law_1184 dL_law_1185 dL_law_1186 rfl rfl (by decide) (by omega) hL ?_
  refine l_arg C 1187 i 2 0 3 dL_law_1187 dL_law_1188 dL_law_1189 dL_law_1190 dL_law_1191 rfl rfl (by decide) (by omega) hL ?_
  refine l_callX C 1192 [.int (xs (i + 1)), .int (xs (i + 2))] [] rfl tw_1105 mv_X8_key rfl (Nat.le_of_ble_eq_true rfl) (Nat.le_of_ble_eq_true rfl) hce hsl (Nat.le_of_ble_eq_true rfl) dL_law_1192 (c_X8_key V8 _ σ (xs (i + 1)) (xs (i + 2)) h8) ?_
  refine l_aload_n C 1195 2 dL_law_1195 rfl ?_
  refine l_arg C 1196 i 1 0 3 dL_law_1196 dL_law_1197 dL_law_1198 dL_law_1199 dL_law_1200 rfl rfl (by decide) (by omega) hL ?_
  refine l_arg C 1201 i 2 0 3 dL_law_1201 dL_law_1202 dL_law_1203 dL_law_1204 dL_law_1205 rfl rfl (by decide) (by omega) hL ?_
  refine l_callM C 1206 [.int (xs (i + 1)), .int (xs (i + 2))] [.int r] rfl tw_1842 mv_X9_key rfl (Nat.le_of_ble_eq_true rfl) (Nat.le_of_ble_eq_true rfl) hce hsl (Nat.le_of_ble_eq_true rfl) dL_law_1206 (c_X9_key V9 _ τ (xs (i + 1)) (xs (i + 2)) h9) ?_
  refine l_eq C 1209 1523 dL_law_1209 (by decide) ?_
  exact hk
theorem lc_30 {K : Kt} {V8 : Ct_V} {V9 : Vt} {b LL ce sl i : Nat} {xs : Nat → Int32} {σ τ : Wd} {τ' : Wd} {r : Int32} (C : Lx K V8 V9 b LL xs) (hi : i + 6 ≤ LL) (hL : LL ≤ 3072) (hce : ce ≤ 600000) (hsl : sl ≤ 7302250) (h8 : M_X8_share σ (xs (i + 1)) = some r) (h9 : M_X9_share τ (xs (i + 1)) = some (r, τ')) (hk : Gw K V8 V9 σ τ' ce sl 1523 [(0, .ref b), (1, .ref (zA (Zc V8) 0)), (2, .ref (zA (Zm V9) 0)), (3, .int (nI i))] []) : Gw K V8 V9 σ τ ce sl 1214 [(0, .ref b), (1, .ref (zA (Zc V8) 0)), (2, .ref (zA (Zm V9) 0)), (3, .int (nI i))] [] := by
  refine l_aload_n C 1214 1 dL_law_1214 rfl ?_
  refine l_arg C 1215 i 1 0 3 dL_law_1215 dL_law_1216 dL_law_1217 dL_law_1218 dL_law_1219 rfl rfl (by decide) (by omega) hL ?_
  refine l_callX C 1220 [.int (xs (i + 1))] [] rfl tw_1109 mv_X8_share rfl (Nat.le_of_ble_eq_true rfl) (Nat.le_of_ble_eq_true rfl) hce hsl (Nat.le_of_ble_eq_true rfl) dL_law_1220 (c_X8_share V8 _ σ (xs (i + 1)) h8) ?_
  refine l_aload_n C 1223 2 dL_law_1223 rfl ?_
  refine l_arg C 1224 i 1 0 3 dL_law_1224 dL_law_1225 dL_law_1226 dL_law_1227 dL_law_1228 rfl rfl (by decide) (by omega) hL ?_
  refine l_callM C 1229 [.int (xs (i + 1))] [.int r] rfl tw_1850 mv_X9_share rfl (Nat.le_of_ble_eq_true rfl) (Nat.le_of_ble_eq_true rfl) hce hsl (Nat.le_of_ble_eq_true rfl) dL_law_1229 (c_X9_share V9 _ τ (xs (i + 1)) h9) ?_
  refine l_eq C 1232 1523 dL_law_1232 (by decide) ?_
  exact hk
theorem lc_31 {K : Kt} {V8 : Ct_V} {V9 : Vt} {b LL ce sl i : Nat} {xs : Nat → Int32} {σ τ : Wd} {σ' : Wd} {τ' : Wd} {r : Int32} (C : Lx K V8 V9 b LL xs) (hi : i + 6 ≤ LL) (hL : LL ≤ 3072) (hce : ce ≤ 600000) (hsl : sl ≤ 7302250) (h8 : M_X8_setter σ (xs (i + 1)) (xs (i + 2)) = some (r, σ')) (h9 : M_X9_setter τ (xs (i + 1)) (xs (i + 2)) = some (r, τ')) (hk : Gw K V8 V9 σ' τ' ce sl 1523 [(0, .ref b), (1, .ref (zA (Zc V8) 0)), (2, .ref (zA (Zm V9) 0)), (3, .int (nI i))] []) : Gw K V8 V9 σ τ ce sl 1237 [(0, .ref b), (1, .ref (zA (Zc V8) 0)), (2, .ref (zA (Zm V9) 0)), (3, .int (nI i))] [] := by
  refine l_aload_n C 1237 1 dL_law_1237 rfl ?_
  refine l_arg C 1238 i 1 0 3 dL_law_1238 dL_law_1239 dL_law_1240 dL_law_1241 dL_law_1242 rfl rfl (by decide) (by omega) hL ?_
  refine l_arg C 1243 i 2 0 3 dL_law_1243 dL_law_1244 dL_law_1245 dL_law_1246 dL_law_1247 rfl rfl (by decide) (by omega) hL ?_
  refine l_callX C 1248 [.int (xs (i + 1)), .int (xs (i + 2))] [] rfl tw_1114 mv_X8_setter rfl (Nat.le_of_ble_eq_true rfl) (Nat.le_of_ble_eq_true rfl) hce hsl (Nat.le_of_ble_eq_true rfl) dL_law_1248 (c_X8_setter V8 _ σ (xs (i + 1)) (xs (i + 2)) h8) ?_
  refine l_aload_n C 1251 2 dL_law_1251 rfl ?_
  refine l_arg C 1252 i 1 0 3 dL_law_1252 dL_law_1253 dL_law_1254 dL_law_1255 dL_law_1256 rfl rfl (by decide) (by omega) hL ?_
  refine l_arg C 1257 i 2 0 3 dL_law_1257 dL_law_1258 dL_law_1259 dL_law_1260 dL_law_1261 rfl rfl (by decide) (by omega) hL ?_
  refine l_callM C 1262 [.int (xs (i + 1)), .int (xs (i + 2))] [.int r] rfl tw_1854 mv_X9_setter rfl (Nat.le_of_ble_eq_true rfl) (Nat.le_of_ble_eq_true rfl) hce hsl (Nat.le_of_ble_eq_true rfl) dL_law_1262 (c_X9_setter V9 _ τ (xs (i + 1)) (xs (i + 2)) h9) ?_
  refine l_eq C 1265 1523 dL_law_1265 (by decide) ?_
  exact hk
theorem lc_32 {K : Kt} {V8 : Ct_V} {V9 : Vt} {b LL ce sl i : Nat} {xs : Nat → Int32} {σ τ : Wd} {σ' : Wd} {τ' : Wd} {r : Int32} (C : Lx K V8 V9 b LL xs) (hi : i + 6 ≤ LL) (hL : LL ≤ 3072) (hce : ce ≤ 600000) (hsl : sl ≤ 7302250) (h8 : M_X8_ahead σ (xs (i + 1)) (xs (i + 2)) (xs (i + 3)) = some (r, σ')) (h9 : M_X9_ahead τ (xs (i + 1)) (xs (i + 2)) (xs (i + 3)) = some (r, τ')) (hk : Gw K V8 V9 σ' τ' ce sl 1523 [(0, .ref b), (1, .ref (zA (Zc V8) 0)), (2, .ref (zA (Zm V9) 0)), (3, .int (nI i))] []) : Gw K V8 V9 σ τ ce sl 1270 [(0, .ref b), (1, .ref (zA (Zc V8) 0)), (2, .ref (zA (Zm V9) 0)), (3, .int (nI i))] [] := by
  refine l_aload_n C 1270 1 dL_law_1270 rfl ?_
  refine l_arg C 1271 i 1 0 3 dL_law_1271 dL_law_1272 dL_law_1273 dL_law_1274 dL_law_1275 rfl rfl (by decide) (by omega) hL ?_
  refine l_arg C 1276 i 2 0 3 dL_law_1276 dL_law_1277 dL_law_1278 dL_law_1279 dL_law_1280 rfl rfl (by decide) (by omega) hL ?_
  refine l_arg C 1281 i 3 0 3 dL_law_1281 dL_law_1282 dL_law_1283 dL_law_1284 dL_law_1285 rfl rfl (by decide) (by omega) hL ?_
  refine l_callX C 1286 [.int (xs (i + 1)), .int (xs (i + 2)), .int (xs (i + 3))] [] rfl tw_1122 mv_X8_ahead rfl (Nat.le_of_ble_eq_true rfl) (Nat.le_of_ble_eq_true rfl) hce hsl (Nat.le_of_ble_eq_true rfl) dL_law_1286 (c_X8_ahead V8 _ σ (xs (i + 1)) (xs (i + 2)) (xs (i + 3)) h8) ?_
  refine l_aload_n C 1289 2 dL_law_1289 rfl ?_
  refine l_arg C 1290 i 1 0 3 dL_law_1290 dL_law_1291 dL_law_1292 dL_law_1293 dL_law_1294 rfl rfl (by decide) (by omega) hL ?_
  refine l_arg C 1295 i 2 0 3 dL_law_1295 dL_law_1296 dL_law_1297 dL_law_1298 dL_law_1299 rfl rfl (by decide) (by omega) hL ?_
  refine l_arg C 1300 i 3 0 3 dL_law_1300 dL_law_1301 dL_law_1302 dL_law_1303 dL_law_1304 rfl rfl (by decide) (by omega) hL ?_
  refine l_callM C 1305 [.int (xs (i + 1)), .int (xs (i + 2)), .int (xs (i + 3))] [.int r] rfl tw_1858 mv_X9_ahead rfl (Nat.le_of_ble_eq_true rfl) (Nat.le_of_ble_eq_true rfl) hce hsl (Nat.le_of_ble_eq_true rfl) dL_law_1305 (c_X9_ahead V9 _ τ (xs (i + 1)) (xs (i + 2)) (xs (i + 3)) h9) ?_
  refine l_eq C 1308 1523 dL_law_1308 (by decide) ?_
  exact hk
theorem lc_33 {K : Kt} {V8 : Ct_V} {V9 : Vt} {b LL ce sl i : Nat} {xs : Nat → Int32} {σ τ : Wd} {τ' : Wd} {r : Int32} (C : Lx K V8 V9 b LL xs) (hi : i + 6 ≤ LL) (hL : LL ≤ 3072) (hce : ce ≤ 600000) (hsl : sl ≤ 7302250) (h8 : M_X8_may σ (xs (i + 1)) (bI (xs (i + 2))) = some r) (h9 : M_X9_may τ (xs (i + 1)) (bI (xs (i + 2))) = some (r, τ')) (hk : Gw K V8 V9 σ τ' ce sl 1523 [(0, .ref b), (1, .ref (zA (Zc V8) 0)), (2, .ref (zA (Zm V9) 0)), (3, .int (nI i))] []) : Gw K V8 V9 σ τ ce sl 1313 [(0, .ref b), (1, .ref (zA (Zc V8) 0)), (2, .ref (zA (Zm V9) 0)), (3, .int (nI i))] [] := by
  refine l_aload_n C 1313 1 dL_law_1313 rfl ?_
  refine l_arg C 1314 i 1 0 3 dL_law_1314 dL_law_1315 dL_law_1316 dL_law_1317 dL_law_1318 rfl rfl (by decide) (by omega) hL ?_
  refine l_arg C 1319 i 2 0 3 dL_law_1319 dL_law_1320 dL_law_1321 dL_law_1322 dL_law_1323 rfl rfl (by decide) (by omega) hL ?_
  refine l_bool C 1324 dL_law_1324 dL_law_1327 dL_law_1328 dL_law_1331 ?_
  refine l_callX C 1332 [.int (xs (i + 1)), .int (bI (xs (i + 2)))] [] rfl tw_1126 mv_X8_may rfl (Nat.le_of_ble_eq_true rfl) (Nat.le_of_ble_eq_true rfl) hce hsl (Nat.le_of_ble_eq_true rfl) dL_law_1332 (c_X8_may V8 _ σ (xs (i + 1)) (bI (xs (i + 2))) h8) ?_
  refine l_aload_n C 1335 2 dL_law_1335 rfl ?_
  refine l_arg C 1336 i 1 0 3 dL_law_1336 dL_law_1337 dL_law_1338 dL_law_1339 dL_law_1340 rfl rfl (by decide) (by omega) hL ?_
  refine l_arg C 1341 i 2 0 3 dL_law_1341 dL_law_1342 dL_law_1343 dL_law_1344 dL_law_1345 rfl rfl (by decide) (by omega) hL ?_
  refine l_bool C 1346 dL_law_1346 dL_law_1349 dL_law_1350 dL_law_1353 ?_
  refine l_callM C 1354 [.int (xs (i + 1)), .int (bI (xs (i + 2)))] [.int r] rfl tw_1866 mv_X9_may rfl (Nat.le_of_ble_eq_true rfl) (Nat.le_of_ble_eq_true rfl) hce hsl (Nat.le_of_ble_eq_true rfl) dL_law_1354 (c_X9_may V9 _ τ (xs (i + 1)) (bI (xs (i + 2))) h9) ?_
  refine l_eq C 1357 1523 dL_law_1357 (by decide) ?_
  exact hk
theorem lc_34 {K : Kt} {V8 : Ct_V} {V9 : Vt} {b LL ce sl i : Nat} {xs : Nat → Int32} {σ τ : Wd} {τ' : Wd} {r : Int32} (C : Lx K V8 V9 b LL xs) (hi : i + 6 ≤ LL) (hL : LL ≤ 3072) (hce : ce ≤ 600000) (hsl : sl ≤ 7302250) (h8 : M_X8_plan σ (xs (i + 1)) = some r) (h9 : M_X9_plan τ (xs (i + 1)) = some (r, τ')) (hk : Gw K V8 V9 σ τ' ce sl 1523 [(0, .ref b), (1, .ref (zA (Zc V8) 0)), (2, .ref (zA (Zm V9) 0)), (3, .int (nI i))] []) : Gw K V8 V9 σ τ ce sl 1362 [(0, .ref b), (1, .ref (zA (Zc V8) 0)), (2, .ref (zA (Zm V9) 0)), (3, .int (nI i))] [] := by
  refine l_aload_n C 1362 1 dL_law_1362 rfl ?_
  refine l_arg C 1363 i 1 0 3 dL_law_1363 dL_law_1364 dL_law_1365 dL_law_1366 dL_law_1367 rfl rfl (by decide) (by omega) hL ?_
  refine l_callX C 1368 [.int (xs (i + 1))] [] rfl tw_1130 mv_X8_plan rfl (Nat.le_of_ble_eq_true rfl) (Nat.le_of_ble_eq_true rfl) hce hsl (Nat.le_of_ble_eq_true rfl) dL_law_1368 (c_X8_plan V8 _ σ (xs (i + 1)) h8) ?_
  refine l_aload_n C 1371 2 dL_law_1371 rfl ?_
  refine l_arg C 1372 i 1 0 3 dL_law_1372 dL_law_1373 dL_law_1374 dL_law_1375 dL_law_1376 rfl rfl (by decide) (by omega) hL ?_
  refine l_callM C 1377 [.int (xs (i + 1))] [.int r] rfl tw_1870 mv_X9_plan rfl (Nat.le_of_ble_eq_true rfl) (Nat.le_of_ble_eq_true rfl) hce hsl (Nat.le_of_ble_eq_true rfl) dL_law_1377 (c_X9_plan V9 _ τ (xs (i + 1)) h9) ?_
  refine l_eq C 1380 1523 dL_law_1380 (by decide) ?_
  exact hk
theorem lc_35 {K : Kt} {V8 : Ct_V} {V9 : Vt} {b LL ce sl i : Nat} {xs : Nat → Int32} {σ τ : Wd} {σ' : Wd} {τ' : Wd} {r : Int32} (C : Lx K V8 V9 b LL xs) (hi : i + 6 ≤ LL) (hL : LL ≤ 3072) (hce : ce ≤ 600000) (hsl : sl ≤ 7302250) (h8 : M_X8_clash σ (xs (i + 1)) = some (r, σ')) (h9 : M_X9_clash τ (xs (i + 1)) = some (r, τ')) (hk : Gw K V8 V9 σ' τ' ce sl 1523 [(0, .ref b), (1, .ref (zA (Zc V8) 0)), (2, .ref (zA (Zm V9) 0)), (3, .int (nI i))] []) : Gw K V8 V9 σ τ ce sl 1385 [(0, .ref b), (1, .ref (zA (Zc V8) 0)), (2, .ref (zA (Zm V9) 0)), (3, .int (nI i))] [] := by
  refine l_aload_n C 1385 1 dL_law_1385 rfl ?_
  refine l_arg C 1386 i 1 0 3 dL_law_1386 dL_law_1387 dL_law_1388 dL_law_1389 dL_law_1390 rfl rfl (by decide) (by omega) hL ?_
  refine l_callX C 1391 [.int (xs (i + 1))] [] rfl tw_1157 mv_X8_clash rfl (Nat.le_of_ble_eq_true rfl) (Nat.le_of_ble_eq_true rfl) hce hsl (Nat.le_of_ble_eq_true rfl) dL_law_1391 (c_X8_clash V8 _ σ (xs (i + 1)) h8) ?_
  refine l_aload_n C 1394 2 dL_law_1394 rfl ?_
  refine l_arg C 1395 i 1 0 3 dL_law_1395 dL_law_1396 dL_law_1397 dL_law_1398 dL_law_1399 rfl rfl (by decide) (by omega) hL ?_
  refine l_callM C 1400 [.int (xs (i + 1))] [.int r] rfl tw_1862 mv_X9_clash rfl (Nat.le_of_ble_eq_true rfl) (Nat.le_of_ble_eq_true rfl) hce hsl (Nat.le_of_ble_eq_true rfl) dL_law_1400 (c_X9_clash V9 _ τ (xs (i + 1)) h9) ?_
  refine l_eq C 1403 1523 dL_law_1403 (by decide) ?_
  exact hk
theorem lc_36 {K : Kt} {V8 : Ct_V} {V9 : Vt} {b LL ce sl i : Nat} {xs : Nat → Int32} {σ τ : Wd} {σ' : Wd} {τ' : Wd} {r : Int32} (C : Lx K V8 V9 b LL xs) (hi : i + 6 ≤ LL) (hL : LL ≤ 3072) (hce : ce ≤ 600000) (hsl : sl ≤ 7302250) (h8 : M_X8_soon σ = some (r, σ')) (h9 : M_X9_soon τ = some (r, τ')) (hk : Gw K V8 V9 σ' τ' ce sl 1523 [(0, .ref b), (1, .ref (zA (Zc V8) 0)), (2, .ref (zA (Zm V9) 0)), (3, .int (nI i))] []) : Gw K V8 V9 σ τ ce sl 1408 [(0, .ref b), (1, .ref (zA (Zc V8) 0)), (2, .ref (zA (Zm V9) 0)), (3, .int (nI i))] [] := by
  refine l_aload_n C 1408 1 dL_law_1408 rfl ?_
  refine l_callX C 1409 [] [] rfl tw_1161 mv_X8_soon rfl (Nat.le_of_ble_eq_true rfl) (Nat.le_of_ble_eq_true rfl) hce hsl (Nat.le_of_ble_eq_true rfl) dL_law_1409 (c_X8_soon V8 _ σ h8) ?_
  refine l_aload_n C 1412 2 dL_law_1412 rfl ?_
  refine l_callM C 1413 [] [.int r] rfl tw_1885 mv_X9_soon rfl (Nat.le_of_ble_eq_true rfl) (Nat.le_of_ble_eq_true rfl) hce hsl (Nat.le_of_ble_eq_true rfl) dL_law_1413 (c_X9_soon V9 _ τ h9) ?_
  refine l_eq C 1416 1523 dL_law_1416 (by decide) ?_
  exact hk
theorem lc_37 {K : Kt} {V8 : Ct_V} {V9 : Vt} {b LL ce sl i : Nat} {xs : Nat → Int32} {σ τ : Wd} {σ' : Wd} {τ' : Wd} {r : Int32} (C : Lx K V8 V9 b LL xs) (hi : i + 6 ≤ LL) (hL : LL ≤ 3072) (hce : ce ≤ 600000) (hsl : sl ≤ 7302250) (h8 : M_X8_year σ (xs (i + 1)) (xs (i + 2)) = some (r, σ')) (h9 : M_X9_year τ (xs (i + 1)) (xs (i + 2)) = some (r, τ')) (hk : Gw K V8 V9 σ' τ' ce sl 1523 [(0, .ref b), (1, .ref (zA (Zc V8) 0)), (2, .ref (zA (Zm V9) 0)), (3, .int (nI i))] []) : Gw K V8 V9 σ τ ce sl 1421 [(0, .ref b), (1, .ref (zA (Zc V8) 0)), (2, .ref (zA (Zm V9) 0)), (3, .int (nI i))] [] := by
  refine l_aload_n C 1421 1 dL_law_1421 rfl ?_
  refine l_arg C 1422 i 1 0 3 dL_law_1422 dL_law_1423 dL_law_1424 dL_law_1425 dL_law_1426 rfl rfl (by decide) (by omega) hL ?_
  refine l_arg C 1427 i 2 0 3 dL_law_1427 dL_law_1428 dL_law_1429 dL_law_1430 dL_law_1431 rfl rfl (by decide) (by omega) hL ?_
  refine l_callX C 1432 [.int (xs (i + 1)), .int (xs (i + 2))] [] rfl tw_1188 mv_X8_year rfl (Nat.le_of_ble_eq_true rfl) (Nat.le_of_ble_eq_true rfl) hce hsl (Nat.le_of_ble_eq_true rfl) dL_law_1432 (c_X8_year V8 _ σ (xs (i + 1)) (xs (i + 2)) h8) ?_
  refine l_aload_n C 1435 2 dL_law_1435 rfl ?_
  refine l_arg C 1436 i 1 0 3 dL_law_1436 dL_law_1437 dL_law_1438 dL_law_1439 dL_law_1440 rfl rfl (by decide) (by omega) hL ?_
  refine l_arg C 1441 i 2 0 3 dL_law_1441 dL_law_1442 dL_law_1443 dL_law_1444 dL_law_1445 rfl rfl (by decide) (by omega) hL ?_
  refine l_callM C 1446 [.int (xs (i + 1)), .int (xs (i + 2))] [.int r] rfl tw_1897 mv_X9_year rfl (Nat.le_of_ble_eq_true rfl) (Nat.le_of_ble_eq_true rfl) hce hsl (Nat.le_of_ble_eq_true rfl) dL_law_1446 (c_X9_year V9 _ τ (xs (i + 1)) (xs (i + 2)) h9) ?_
  refine l_eq C 1449 1523 dL_law_1449 (by decide) ?_
  exact hk
theorem lc_38 {K : Kt} {V8 : Ct_V} {V9 : Vt} {b LL ce sl i : Nat} {xs : Nat → Int32} {σ τ : Wd} {σ' : Wd} {τ' : Wd} {r : Int32} (C : Lx K V8 V9 b LL xs) (hi : i + 6 ≤ LL) (hL : LL ≤ 3072) (hce : ce ≤ 600000) (hsl : sl ≤ 7302250) (h8 : M_X8_hold σ (xs (i + 1)) = some (r, σ')) (h9 : M_X9_hold τ (xs (i + 1)) = some (r, τ')) (hk : Gw K V8 V9 σ' τ' ce sl 1523 [(0, .ref b), (1, .ref (zA (Zc V8) 0)), (2, .ref (zA (Zm V9) 0)), (3, .int (nI i))] []) : Gw K V8 V9 σ τ ce sl 1454 [(0, .ref b), (1, .ref (zA (Zc V8) 0)), (2, .ref (zA (Zm V9) 0)), (3, .int (nI i))] [] := by
  refine l_aload_n C 1454 1 dL_law_1454 rfl ?_
  refine l_arg C 1455 i 1 0 3 dL_law_1455 dL_law_1456 dL_law_1457 dL_law_1458 dL_law_1459 rfl rfl (by decide) (by omega) hL ?_
  refine l_callX C 1460 [.int (xs (i + 1))] [] rfl tw_1192 mv_X8_hold rfl (Nat.le_of_ble_eq_true rfl) (Nat.le_of_ble_eq_true rfl) hce hsl (Nat.le_of_ble_eq_true rfl) dL_law_1460 (c_X8_hold V8 _ σ (xs (i + 1)) h8) ?_
  refine l_aload_n C 1463 2 dL_law_1463 rfl ?_
  refine l_arg C 1464 i 1 0 3 dL_law_1464 dL_law_1465 dL_law_1466 dL_law_1467 dL_law_1468 rfl rfl (by decide) (by omega) hL ?_
  refine l_callM C 1469 [.int (xs (i + 1))] [.int r] rfl tw_1901 mv_X9_hold rfl (Nat.le_of_ble_eq_true rfl) (Nat.le_of_ble_eq_true rfl) hce hsl (Nat.le_of_ble_eq_true rfl) dL_law_1469 (c_X9_hold V9 _ τ (xs (i + 1)) h9) ?_
  refine l_eq C 1472 1523 dL_law_1472 (by decide) ?_
  exact hk
theorem lc_39 {K : Kt} {V8 : Ct_V} {V9 : Vt} {b LL ce sl i : Nat} {xs : Nat → Int32} {σ τ : Wd} {σ' : Wd} {τ' : Wd} {r : Int32} (C : Lx K V8 V9 b LL xs) (hi : i + 6 ≤ LL) (hL : LL ≤ 3072) (hce : ce ≤ 600000) (hsl : sl ≤ 7302250) (h8 : M_X8_restore σ (xs (i + 1)) = some (r, σ')) (h9 : M_X9_restore τ (xs (i + 1)) = some (r, τ')) (hk : Gw K V8 V9 σ' τ' ce sl 1523 [(0, .ref b), (1, .ref (zA (Zc V8) 0)), (2, .ref (zA (Zm V9) 0)), (3, .int (nI i))] []) : Gw K V8 V9 σ τ ce sl 1477 [(0, .ref b), (1, .ref (zA (Zc V8) 0)), (2, .ref (zA (Zm V9) 0)), (3, .int (nI i))] [] := by
  refine l_aload_n C 1477 1 dL_law_1477 rfl ?_
  refine l_arg C 1478 i 1 0 3 dL_law_1478 dL_law_1479 dL_law_1480 dL_law_1481 dL_law_1482 rfl rfl (by decide) (by omega) hL ?_
  refine l_callX C 1483 [.int (xs (i + 1))] [] rfl tw_1205 mv_X8_restore rfl (Nat.le_of_ble_eq_true rfl) (Nat.le_of_ble_eq_true rfl) hce hsl (Nat.le_of_ble_eq_true rfl) dL_law_1483 (c_X8_restore V8 _ σ (xs (i + 1)) h8) ?_
  refine l_aload_n C 1486 2 dL_law_1486 rfl ?_
  refine l_arg C 1487 i 1 0 3 dL_law_1487 dL_law_1488 dL_law_1489 dL_law_1490 dL_law_1491 rfl rfl (by decide) (by omega) hL ?_
  refine l_callM C 1492 [.int (xs (i + 1))] [.int r] rfl tw_1905 mv_X9_restore rfl (Nat.le_of_ble_eq_true rfl) (Nat.le_of_ble_eq_true rfl) hce hsl (Nat.le_of_ble_eq_true rfl) dL_law_1492 (c_X9_restore V9 _ τ (xs (i + 1)) h9) ?_
  refine l_eq C 1495 1523 dL_law_1495 (by decide) ?_
  exact hk
theorem lc_40 {K : Kt} {V8 : Ct_V} {V9 : Vt} {b LL ce sl i : Nat} {xs : Nat → Int32} {σ τ : Wd} {σ' : Wd} {τ' : Wd} {r : Int32} (C : Lx K V8 V9 b LL xs) (hi : i + 6 ≤ LL) (hL : LL ≤ 3072) (hce : ce ≤ 600000) (hsl : sl ≤ 7302250) (h8 : M_X8_count σ (xs (i + 1)) = some (r, σ')) (h9 : M_X9_count τ (xs (i + 1)) = some (r, τ')) (hk : Gw K V8 V9 σ' τ' ce sl 1523 [(0, .ref b), (1, .ref (zA (Zc V8) 0)), (2, .ref (zA (Zm V9) 0)), (3, .int (nI i))] []) : Gw K V8 V9 σ τ ce sl 1500 [(0, .ref b), (1, .ref (zA (Zc V8) 0)), (2, .ref (zA (Zm V9) 0)), (3, .int (nI i))] [] := by
  refine l_aload_n C 1500 1 dL_law_1500 rfl ?_
  refine l_arg C 1501 i 1 0 3 dL_law_1501 dL_law_1502 dL_law_1503 dL_law_1504 dL_law_1505 rfl rfl (by decide) (by omega) hL ?_
  refine l_callX C 1506 [.int (xs (i + 1))] [] rfl tw_1209 mv_X8_count rfl (Nat.le_of_ble_eq_true rfl) (Nat.le_of_ble_eq_true rfl) hce hsl (Nat.le_of_ble_eq_true rfl) dL_law_1506 (c_X8_count V8 _ σ (xs (i + 1)) h8) ?_
  refine l_aload_n C 1509 2 dL_law_1509 rfl ?_
  refine l_arg C 1510 i 1 0 3 dL_law_1510 dL_law_1511 dL_law_1512 dL_law_1513 dL_law_1514 rfl rfl (by decide) (by omega) hL ?_
  refine l_callM C 1515 [.int (xs (i + 1))] [.int r] rfl tw_1909 mv_X9_count rfl (Nat.le_of_ble_eq_true rfl) (Nat.le_of_ble_eq_true rfl) hce hsl (Nat.le_of_ble_eq_true rfl) dL_law_1515 (c_X9_count V9 _ τ (xs (i + 1)) h9) ?_
  refine l_eq C 1518 1523 dL_law_1518 (by decide) ?_
  exact hk
