/-! words -/
theorem tw_139 : Cond.methodLink RX8 1 Lib.objectInit ∈ gw_tbl := gw_mem 139 (by decide +kernel) (by decide +kernel)
theorem tw_142 : Cond.classLink RX8 20 RX7 ∈ gw_tbl := gw_mem 142 (by decide +kernel) (by decide +kernel)
theorem tw_143 : Cond.instantiable RX7 14 ∈ gw_tbl := gw_mem 143 (by decide +kernel) (by decide +kernel)
theorem tw_144 : Cond.methodLink RX8 22 yX7_init ∈ gw_tbl := gw_mem 144 (by decide +kernel) (by decide +kernel)
theorem tw_145 : Cond.instanceMethod yX7_init ∈ gw_tbl := gw_mem 145 (by decide +kernel) (by decide +kernel)
theorem tw_217 : Cond.arrayClass .byte ∈ gw_tbl := gw_mem 217 (by decide +kernel) (by decide +kernel)
theorem tw_220 : Cond.classLink RX8 30 RX3 ∈ gw_tbl := gw_mem 220 (by decide +kernel) (by decide +kernel)
theorem tw_221 : Cond.instantiable RX3 11 ∈ gw_tbl := gw_mem 221 (by decide +kernel) (by decide +kernel)
theorem tw_222 : Cond.methodLink RX8 32 yX3_init ∈ gw_tbl := gw_mem 222 (by decide +kernel) (by decide +kernel)
theorem tw_223 : Cond.instanceMethod yX3_init ∈ gw_tbl := gw_mem 223 (by decide +kernel) (by decide +kernel)
theorem tw_286 : Cond.classLink RX8 39 RX1 ∈ gw_tbl := gw_mem 286 (by decide +kernel) (by decide +kernel)
theorem tw_287 : Cond.instantiable RX1 8 ∈ gw_tbl := gw_mem 287 (by decide +kernel) (by decide +kernel)
theorem tw_289 : Cond.instanceMethod yX1_init ∈ gw_tbl := gw_mem 289 (by decide +kernel) (by decide +kernel)
theorem tw_326 : Cond.classLink RX8 46 RX2 ∈ gw_tbl := gw_mem 326 (by decide +kernel) (by decide +kernel)
theorem tw_327 : Cond.instantiable RX2 3 ∈ gw_tbl := gw_mem 327 (by decide +kernel) (by decide +kernel)
theorem tw_329 : Cond.instanceMethod yX2_init ∈ gw_tbl := gw_mem 329 (by decide +kernel) (by decide +kernel)
theorem tw_346 : Cond.classLink RX8 61 RX4 ∈ gw_tbl := gw_mem 346 (by decide +kernel) (by decide +kernel)
theorem tw_347 : Cond.instantiable RX4 9 ∈ gw_tbl := gw_mem 347 (by decide +kernel) (by decide +kernel)
theorem tw_349 : Cond.instanceMethod yX4_init ∈ gw_tbl := gw_mem 349 (by decide +kernel) (by decide +kernel)
theorem tw_404 : Cond.classLink RX8 71 RX5 ∈ gw_tbl := gw_mem 404 (by decide +kernel) (by decide +kernel)
theorem tw_405 : Cond.instantiable RX5 6 ∈ gw_tbl := gw_mem 405 (by decide +kernel) (by decide +kernel)
theorem tw_407 : Cond.instanceMethod yX5_init ∈ gw_tbl := gw_mem 407 (by decide +kernel) (by decide +kernel)
theorem tw_1250 : Cond.methodLink RX9 7 Lib.objectInit ∈ gw_tbl := gw_mem 1250 (by decide +kernel) (by decide +kernel)
theorem tw_1255 : Cond.methodLink RX9 132 yX9_letters ∈ gw_tbl := gw_mem 1255 (by decide +kernel) (by decide +kernel)
theorem kb_111 : (Int8.ofInt (111)).toInt32 = (111 : Int32) := by decide
theorem kb_112 : (Int8.ofInt (112)).toInt32 = (112 : Int32) := by decide
theorem kb_114 : (Int8.ofInt (114)).toInt32 = (114 : Int32) := by decide
theorem kb_115 : (Int8.ofInt (115)).toInt32 = (115 : Int32) := by decide
theorem kb_116 : (Int8.ofInt (116)).toInt32 = (116 : Int32) := by decide
theorem kb_120 : (Int8.ofInt (120)).toInt32 = (120 : Int32) := by decide
theorem kb_121 : (Int8.ofInt (121)).toInt32 = (121 : Int32) := by decide
theorem kb_64 : (Int8.ofInt (64)).toInt32 = (64 : Int32) := by decide
theorem kb_99 : (Int8.ofInt (99)).toInt32 = (99 : Int32) := by decide
theorem ks_2310 : (Int16.ofInt (2310)).toInt32 = (2310 : Int32) := by decide
theorem ks_30800 : (Int16.ofInt (30800)).toInt32 = (30800 : Int32) := by decide
theorem ks_403 : (Int16.ofInt (403)).toInt32 = (403 : Int32) := by decide
theorem ks_840 : (Int16.ofInt (840)).toInt32 = (840 : Int32) := by decide
