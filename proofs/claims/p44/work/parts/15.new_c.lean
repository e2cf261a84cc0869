/-! constructors of the class's own classes -/
theorem tw_48 : Cond.initialized RN9 ∈ gw_tbl := gw_mem 48 (by decide +kernel) (by decide +kernel)
theorem tw_62 : Cond.code yX8_init cX8_init 2 none ∈ gw_tbl := gw_mem 62 (by decide +kernel) (by decide +kernel)
theorem tw_64 : Cond.instanceMethod Lib.objectInit ∈ gw_tbl := gw_mem 64 (by decide +kernel) (by decide +kernel)
theorem tw_65 : Cond.code Lib.objectInit ⟨#[0xb1]⟩ 1 none ∈ gw_tbl := gw_mem 65 (by decide +kernel) (by decide +kernel)
theorem tw_70 : Cond.code yX7_init cX7_init 1 none ∈ gw_tbl := gw_mem 70 (by decide +kernel) (by decide +kernel)
theorem tw_71 : Cond.methodLink RX7 3 Lib.objectInit ∈ gw_tbl := gw_mem 71 (by decide +kernel) (by decide +kernel)
theorem tw_88 : Cond.fieldLink RX7 9 "TentativeDesk$Told" (TX7 5).2.1 (TX7 5).2.2.1 ∈ gw_tbl := gw_mem 88 (by decide +kernel) (by decide +kernel)
theorem tw_91 : Cond.fieldLink RX7 15 "TentativeDesk$Told" (TX7 6).2.1 (TX7 6).2.2.1 ∈ gw_tbl := gw_mem 91 (by decide +kernel) (by decide +kernel)
theorem tw_94 : Cond.fieldLink RX7 19 "TentativeDesk$Told" (TX7 7).2.1 (TX7 7).2.2.1 ∈ gw_tbl := gw_mem 94 (by decide +kernel) (by decide +kernel)
theorem tw_97 : Cond.fieldLink RX7 22 "TentativeDesk$Told" (TX7 8).2.1 (TX7 8).2.2.1 ∈ gw_tbl := gw_mem 97 (by decide +kernel) (by decide +kernel)
theorem tw_100 : Cond.fieldLink RX7 25 "TentativeDesk$Told" (TX7 9).2.1 (TX7 9).2.2.1 ∈ gw_tbl := gw_mem 100 (by decide +kernel) (by decide +kernel)
theorem tw_103 : Cond.fieldLink RX7 28 "TentativeDesk$Told" (TX7 10).2.1 (TX7 10).2.2.1 ∈ gw_tbl := gw_mem 103 (by decide +kernel) (by decide +kernel)
theorem tw_142 : Cond.arrayClass .int ∈ gw_tbl := gw_mem 142 (by decide +kernel) (by decide +kernel)
theorem tw_143 : Cond.arrayClass .boolean ∈ gw_tbl := gw_mem 143 (by decide +kernel) (by decide +kernel)
theorem tw_148 : Cond.code yX3_init cX3_init 2 none ∈ gw_tbl := gw_mem 148 (by decide +kernel) (by decide +kernel)
theorem tw_149 : Cond.methodLink RX3 3 Lib.objectInit ∈ gw_tbl := gw_mem 149 (by decide +kernel) (by decide +kernel)
theorem tw_150 : Cond.classLink RX3 9 RX6 ∈ gw_tbl := gw_mem 150 (by decide +kernel) (by decide +kernel)
theorem tw_151 : Cond.instantiable RX6 6 ∈ gw_tbl := gw_mem 151 (by decide +kernel) (by decide +kernel)
theorem tw_153 : Cond.instanceMethod yX6_init ∈ gw_tbl := gw_mem 153 (by decide +kernel) (by decide +kernel)
theorem tw_154 : Cond.code yX6_init cX6_init 1 none ∈ gw_tbl := gw_mem 154 (by decide +kernel) (by decide +kernel)
theorem tw_155 : Cond.methodLink RX6 3 Lib.objectInit ∈ gw_tbl := gw_mem 155 (by decide +kernel) (by decide +kernel)
theorem tw_175 : Cond.arrayClass .long ∈ gw_tbl := gw_mem 175 (by decide +kernel) (by decide +kernel)
theorem tw_214 : Cond.code yX1_init cX1_init 1 none ∈ gw_tbl := gw_mem 214 (by decide +kernel) (by decide +kernel)
theorem tw_215 : Cond.methodLink RX1 5 Lib.objectInit ∈ gw_tbl := gw_mem 215 (by decide +kernel) (by decide +kernel)
theorem tw_254 : Cond.code yX2_init cX2_init 1 none ∈ gw_tbl := gw_mem 254 (by decide +kernel) (by decide +kernel)
theorem tw_255 : Cond.methodLink RX2 3 Lib.objectInit ∈ gw_tbl := gw_mem 255 (by decide +kernel) (by decide +kernel)
theorem tw_256 : Cond.classLink RX2 11 "[[J" ∈ gw_tbl := gw_mem 256 (by decide +kernel) (by decide +kernel)
theorem tw_274 : Cond.code yX4_init cX4_init 1 none ∈ gw_tbl := gw_mem 274 (by decide +kernel) (by decide +kernel)
theorem tw_275 : Cond.methodLink RX4 3 Lib.objectInit ∈ gw_tbl := gw_mem 275 (by decide +kernel) (by decide +kernel)
theorem tw_276 : Cond.classLink RX4 9 RX0 ∈ gw_tbl := gw_mem 276 (by decide +kernel) (by decide +kernel)
theorem tw_277 : Cond.instantiable RX0 4 ∈ gw_tbl := gw_mem 277 (by decide +kernel) (by decide +kernel)
theorem tw_279 : Cond.instanceMethod yX0_init ∈ gw_tbl := gw_mem 279 (by decide +kernel) (by decide +kernel)
theorem tw_280 : Cond.code yX0_init cX0_init 1 none ∈ gw_tbl := gw_mem 280 (by decide +kernel) (by decide +kernel)
theorem tw_281 : Cond.methodLink RX0 3 Lib.objectInit ∈ gw_tbl := gw_mem 281 (by decide +kernel) (by decide +kernel)
theorem tw_332 : Cond.code yX5_init cX5_init 1 none ∈ gw_tbl := gw_mem 332 (by decide +kernel) (by decide +kernel)
theorem tw_333 : Cond.methodLink RX5 3 Lib.objectInit ∈ gw_tbl := gw_mem 333 (by decide +kernel) (by decide +kernel)
theorem tw_1160 : Cond.code yN9_init cN9_init 1 none ∈ gw_tbl := gw_mem 1160 (by decide +kernel) (by decide +kernel)
theorem ks_366 : (Int16.ofInt (366)).toInt32 = (366 : Int32) := by decide
theorem ks_402 : (Int16.ofInt (402)).toInt32 = (402 : Int32) := by decide
theorem dX0_init_0 : decode cX0_init 0 = .ok (.aload_n 0, 1) := by decide +kernel
theorem dX0_init_1 : decode cX0_init 1 = .ok (.invokespecial 3, 3) := by decide +kernel
theorem dX0_init_4 : decode cX0_init 4 = .ok (.aload_n 0, 1) := by decide +kernel
theorem dX0_init_5 : decode cX0_init 5 = .ok (.bipush 32, 2) := by decide +kernel
theorem dX0_init_7 : decode cX0_init 7 = .ok (.newarray .int, 2) := by decide +kernel
theorem dX0_init_9 : decode cX0_init 9 = .ok (.putfield 11, 3) := by decide +kernel
theorem dX0_init_12 : decode cX0_init 12 = .ok (.return_, 1) := by decide +kernel
theorem dX1_init_0 : decode cX1_init 0 = .ok (.aload_n 0, 1) := by decide +kernel
theorem dX1_init_1 : decode cX1_init 1 = .ok (.invokespecial 5, 3) := by decide +kernel
theorem dX1_init_4 : decode cX1_init 4 = .ok (.aload_n 0, 1) := by decide +kernel
theorem dX1_init_5 : decode cX1_init 5 = .ok (.bipush 96, 2) := by decide +kernel
theorem dX1_init_7 : decode cX1_init 7 = .ok (.newarray .long, 2) := by decide +kernel
theorem dX1_init_9 : decode cX1_init 9 = .ok (.putfield 11, 3) := by decide +kernel
theorem dX1_init_12 : decode cX1_init 12 = .ok (.aload_n 0, 1) := by decide +kernel
theorem dX1_init_13 : decode cX1_init 13 = .ok (.bipush 60, 2) := by decide +kernel
theorem dX1_init_15 : decode cX1_init 15 = .ok (.newarray .int, 2) := by decide +kernel
theorem dX1_init_17 : decode cX1_init 17 = .ok (.putfield 15, 3) := by decide +kernel
theorem dX1_init_20 : decode cX1_init 20 = .ok (.aload_n 0, 1) := by decide +kernel
theorem dX1_init_21 : decode cX1_init 21 = .ok (.bipush 60, 2) := by decide +kernel
theorem dX1_init_23 : decode cX1_init 23 = .ok (.newarray .int, 2) := by decide +kernel
theorem dX1_init_25 : decode cX1_init 25 = .ok (.putfield 19, 3) := by decide +kernel
theorem dX1_init_28 : decode cX1_init 28 = .ok (.aload_n 0, 1) := by decide +kernel
theorem dX1_init_29 : decode cX1_init 29 = .ok (.bipush 60, 2) := by decide +kernel
theorem dX1_init_31 : decode cX1_init 31 = .ok (.newarray .int, 2) := by decide +kernel
theorem dX1_init_33 : decode cX1_init 33 = .ok (.putfield 22, 3) := by decide +kernel
theorem dX1_init_36 : decode cX1_init 36 = .ok (.aload_n 0, 1) := by decide +kernel
theorem dX1_init_37 : decode cX1_init 37 = .ok (.bipush 60, 2) := by decide +kernel
theorem dX1_init_39 : decode cX1_init 39 = .ok (.newarray .int, 2) := by decide +kernel
theorem dX1_init_41 : decode cX1_init 41 = .ok (.putfield 25, 3) := by decide +kernel
theorem dX1_init_44 : decode cX1_init 44 = .ok (.aload_n 0, 1) := by decide +kernel
theorem dX1_init_45 : decode cX1_init 45 = .ok (.bipush 60, 2) := by decide +kernel
theorem dX1_init_47 : decode cX1_init 47 = .ok (.newarray .int, 2) := by decide +kernel
theorem dX1_init_49 : decode cX1_init 49 = .ok (.putfield 28, 3) := by decide +kernel
theorem dX1_init_52 : decode cX1_init 52 = .ok (.aload_n 0, 1) := by decide +kernel
theorem dX1_init_53 : decode cX1_init 53 = .ok (.bipush 60, 2) := by decide +kernel
theorem dX1_init_55 : decode cX1_init 55 = .ok (.newarray .int, 2) := by decide +kernel
theorem dX1_init_57 : decode cX1_init 57 = .ok (.putfield 31, 3) := by decide +kernel
theorem dX1_init_60 : decode cX1_init 60 = .ok (.aload_n 0, 1) := by decide +kernel
theorem dX1_init_61 : decode cX1_init 61 = .ok (.bipush 60, 2) := by decide +kernel
theorem dX1_init_63 : decode cX1_init 63 = .ok (.newarray .int, 2) := by decide +kernel
theorem dX1_init_65 : decode cX1_init 65 = .ok (.putfield 34, 3) := by decide +kernel
theorem dX1_init_68 : decode cX1_init 68 = .ok (.return_, 1) := by decide +kernel
theorem dX2_init_0 : decode cX2_init 0 = .ok (.aload_n 0, 1) := by decide +kernel
theorem dX2_init_1 : decode cX2_init 1 = .ok (.invokespecial 3, 3) := by decide +kernel
theorem dX2_init_4 : decode cX2_init 4 = .ok (.aload_n 0, 1) := by decide +kernel
theorem dX2_init_5 : decode cX2_init 5 = .ok (.bipush 40, 2) := by decide +kernel
theorem dX2_init_7 : decode cX2_init 7 = .ok (.bipush 96, 2) := by decide +kernel
theorem dX2_init_9 : decode cX2_init 9 = .ok (.multianewarray 11 2, 4) := by decide +kernel
theorem dX2_init_13 : decode cX2_init 13 = .ok (.putfield 13, 3) := by decide +kernel
theorem dX2_init_16 : decode cX2_init 16 = .ok (.return_, 1) := by decide +kernel
theorem dX3_init_0 : decode cX3_init 0 = .ok (.aload_n 0, 1) := by decide +kernel
theorem dX3_init_1 : decode cX3_init 1 = .ok (.invokespecial 3, 3) := by decide +kernel
theorem dX3_init_4 : decode cX3_init 4 = .ok (.aload_n 0, 1) := by decide +kernel
theorem dX3_init_5 : decode cX3_init 5 = .ok (.new 9, 3) := by decide +kernel
theorem dX3_init_8 : decode cX3_init 8 = .ok (.dup, 1) := by decide +kernel
theorem dX3_init_9 : decode cX3_init 9 = .ok (.invokespecial 11, 3) := by decide +kernel
theorem dX3_init_12 : decode cX3_init 12 = .ok (.putfield 12, 3) := by decide +kernel
theorem dX3_init_15 : decode cX3_init 15 = .ok (.aload_n 0, 1) := by decide +kernel
theorem dX3_init_16 : decode cX3_init 16 = .ok (.bipush 12, 2) := by decide +kernel
theorem dX3_init_18 : decode cX3_init 18 = .ok (.newarray .long, 2) := by decide +kernel
theorem dX3_init_20 : decode cX3_init 20 = .ok (.putfield 18, 3) := by decide +kernel
theorem dX3_init_23 : decode cX3_init 23 = .ok (.aload_n 0, 1) := by decide +kernel
theorem dX3_init_24 : decode cX3_init 24 = .ok (.bipush 12, 2) := by decide +kernel
theorem dX3_init_26 : decode cX3_init 26 = .ok (.newarray .int, 2) := by decide +kernel
theorem dX3_init_28 : decode cX3_init 28 = .ok (.putfield 22, 3) := by decide +kernel
theorem dX3_init_31 : decode cX3_init 31 = .ok (.aload_n 0, 1) := by decide +kernel
theorem dX3_init_32 : decode cX3_init 32 = .ok (.bipush 32, 2) := by decide +kernel
theorem dX3_init_34 : decode cX3_init 34 = .ok (.newarray .int, 2) := by decide +kernel
theorem dX3_init_36 : decode cX3_init 36 = .ok (.putfield 26, 3) := by decide +kernel
theorem dX3_init_39 : decode cX3_init 39 = .ok (.aload_n 0, 1) := by decide +kernel
theorem dX3_init_40 : decode cX3_init 40 = .ok (.aload_n 1, 1) := by decide +kernel
theorem dX3_init_41 : decode cX3_init 41 = .ok (.putfield 29, 3) := by decide +kernel
theorem dX3_init_44 : decode cX3_init 44 = .ok (.aload_n 0, 1) := by decide +kernel
theorem dX3_init_45 : decode cX3_init 45 = .ok (.iconst (-1), 1) := by decide +kernel
theorem dX3_init_46 : decode cX3_init 46 = .ok (.putfield 33, 3) := by decide +kernel
theorem dX3_init_49 : decode cX3_init 49 = .ok (.return_, 1) := by decide +kernel
theorem dX4_init_0 : decode cX4_init 0 = .ok (.aload_n 0, 1) := by decide +kernel
theorem dX4_init_1 : decode cX4_init 1 = .ok (.invokespecial 3, 3) := by decide +kernel
theorem dX4_init_4 : decode cX4_init 4 = .ok (.aload_n 0, 1) := by decide +kernel
theorem dX4_init_5 : decode cX4_init 5 = .ok (.new 9, 3) := by decide +kernel
theorem dX4_init_8 : decode cX4_init 8 = .ok (.dup, 1) := by decide +kernel
theorem dX4_init_9 : decode cX4_init 9 = .ok (.invokespecial 11, 3) := by decide +kernel
theorem dX4_init_12 : decode cX4_init 12 = .ok (.putfield 12, 3) := by decide +kernel
theorem dX4_init_15 : decode cX4_init 15 = .ok (.aload_n 0, 1) := by decide +kernel
theorem dX4_init_16 : decode cX4_init 16 = .ok (.bipush 60, 2) := by decide +kernel
theorem dX4_init_18 : decode cX4_init 18 = .ok (.newarray .int, 2) := by decide +kernel
theorem dX4_init_20 : decode cX4_init 20 = .ok (.putfield 18, 3) := by decide +kernel
theorem dX4_init_23 : decode cX4_init 23 = .ok (.aload_n 0, 1) := by decide +kernel
theorem dX4_init_24 : decode cX4_init 24 = .ok (.bipush 60, 2) := by decide +kernel
theorem dX4_init_26 : decode cX4_init 26 = .ok (.newarray .int, 2) := by decide +kernel
theorem dX4_init_28 : decode cX4_init 28 = .ok (.putfield 22, 3) := by decide +kernel
theorem dX4_init_31 : decode cX4_init 31 = .ok (.aload_n 0, 1) := by decide +kernel
theorem dX4_init_32 : decode cX4_init 32 = .ok (.bipush 60, 2) := by decide +kernel
theorem dX4_init_34 : decode cX4_init 34 = .ok (.newarray .int, 2) := by decide +kernel
theorem dX4_init_36 : decode cX4_init 36 = .ok (.putfield 25, 3) := by decide +kernel
theorem dX4_init_39 : decode cX4_init 39 = .ok (.aload_n 0, 1) := by decide +kernel
theorem dX4_init_40 : decode cX4_init 40 = .ok (.sipush 366, 3) := by decide +kernel
theorem dX4_init_43 : decode cX4_init 43 = .ok (.newarray .int, 2) := by decide +kernel
theorem dX4_init_45 : decode cX4_init 45 = .ok (.putfield 28, 3) := by decide +kernel
theorem dX4_init_48 : decode cX4_init 48 = .ok (.aload_n 0, 1) := by decide +kernel
theorem dX4_init_49 : decode cX4_init 49 = .ok (.bipush 6, 2) := by decide +kernel
theorem dX4_init_51 : decode cX4_init 51 = .ok (.newarray .int, 2) := by decide +kernel
theorem dX4_init_53 : decode cX4_init 53 = .ok (.putfield 31, 3) := by decide +kernel
theorem dX4_init_56 : decode cX4_init 56 = .ok (.return_, 1) := by decide +kernel
theorem dX5_init_0 : decode cX5_init 0 = .ok (.aload_n 0, 1) := by decide +kernel
theorem dX5_init_1 : decode cX5_init 1 = .ok (.invokespecial 3, 3) := by decide +kernel
theorem dX5_init_4 : decode cX5_init 4 = .ok (.aload_n 0, 1) := by decide +kernel
theorem dX5_init_5 : decode cX5_init 5 = .ok (.iconst 5, 1) := by decide +kernel
theorem dX5_init_6 : decode cX5_init 6 = .ok (.newarray .long, 2) := by decide +kernel
theorem dX5_init_8 : decode cX5_init 8 = .ok (.putfield 9, 3) := by decide +kernel
theorem dX5_init_11 : decode cX5_init 11 = .ok (.aload_n 0, 1) := by decide +kernel
theorem dX5_init_12 : decode cX5_init 12 = .ok (.iconst 5, 1) := by decide +kernel
theorem dX5_init_13 : decode cX5_init 13 = .ok (.newarray .int, 2) := by decide +kernel
theorem dX5_init_15 : decode cX5_init 15 = .ok (.putfield 15, 3) := by decide +kernel
theorem dX5_init_18 : decode cX5_init 18 = .ok (.return_, 1) := by decide +kernel
theorem dX6_init_0 : decode cX6_init 0 = .ok (.aload_n 0, 1) := by decide +kernel
theorem dX6_init_1 : decode cX6_init 1 = .ok (.invokespecial 3, 3) := by decide +kernel
theorem dX6_init_4 : decode cX6_init 4 = .ok (.aload_n 0, 1) := by decide +kernel
theorem dX6_init_5 : decode cX6_init 5 = .ok (.sipush 402, 3) := by decide +kernel
theorem dX6_init_8 : decode cX6_init 8 = .ok (.newarray .int, 2) := by decide +kernel
theorem dX6_init_10 : decode cX6_init 10 = .ok (.putfield 9, 3) := by decide +kernel
theorem dX6_init_13 : decode cX6_init 13 = .ok (.aload_n 0, 1) := by decide +kernel
theorem dX6_init_14 : decode cX6_init 14 = .ok (.sipush 402, 3) := by decide +kernel
theorem dX6_init_17 : decode cX6_init 17 = .ok (.newarray .int, 2) := by decide +kernel
theorem dX6_init_19 : decode cX6_init 19 = .ok (.putfield 13, 3) := by decide +kernel
theorem dX6_init_22 : decode cX6_init 22 = .ok (.aload_n 0, 1) := by decide +kernel
theorem dX6_init_23 : decode cX6_init 23 = .ok (.sipush 402, 3) := by decide +kernel
theorem dX6_init_26 : decode cX6_init 26 = .ok (.newarray .long, 2) := by decide +kernel
theorem dX6_init_28 : decode cX6_init 28 = .ok (.putfield 16, 3) := by decide +kernel
theorem dX6_init_31 : decode cX6_init 31 = .ok (.return_, 1) := by decide +kernel
theorem dX7_init_0 : decode cX7_init 0 = .ok (.aload_n 0, 1) := by decide +kernel
theorem dX7_init_1 : decode cX7_init 1 = .ok (.invokespecial 3, 3) := by decide +kernel
theorem dX7_init_4 : decode cX7_init 4 = .ok (.aload_n 0, 1) := by decide +kernel
theorem dX7_init_5 : decode cX7_init 5 = .ok (.bipush 6, 2) := by decide +kernel
theorem dX7_init_7 : decode cX7_init 7 = .ok (.newarray .int, 2) := by decide +kernel
theorem dX7_init_9 : decode cX7_init 9 = .ok (.putfield 9, 3) := by decide +kernel
theorem dX7_init_12 : decode cX7_init 12 = .ok (.aload_n 0, 1) := by decide +kernel
theorem dX7_init_13 : decode cX7_init 13 = .ok (.bipush 6, 2) := by decide +kernel
theorem dX7_init_15 : decode cX7_init 15 = .ok (.newarray .boolean, 2) := by decide +kernel
theorem dX7_init_17 : decode cX7_init 17 = .ok (.putfield 15, 3) := by decide +kernel
theorem dX7_init_20 : decode cX7_init 20 = .ok (.aload_n 0, 1) := by decide +kernel
theorem dX7_init_21 : decode cX7_init 21 = .ok (.bipush 6, 2) := by decide +kernel
theorem dX7_init_23 : decode cX7_init 23 = .ok (.newarray .int, 2) := by decide +kernel
theorem dX7_init_25 : decode cX7_init 25 = .ok (.putfield 19, 3) := by decide +kernel
theorem dX7_init_28 : decode cX7_init 28 = .ok (.aload_n 0, 1) := by decide +kernel
theorem dX7_init_29 : decode cX7_init 29 = .ok (.bipush 6, 2) := by decide +kernel
theorem dX7_init_31 : decode cX7_init 31 = .ok (.newarray .int, 2) := by decide +kernel
theorem dX7_init_33 : decode cX7_init 33 = .ok (.putfield 22, 3) := by decide +kernel
theorem dX7_init_36 : decode cX7_init 36 = .ok (.aload_n 0, 1) := by decide +kernel
theorem dX7_init_37 : decode cX7_init 37 = .ok (.bipush 24, 2) := by decide +kernel
theorem dX7_init_39 : decode cX7_init 39 = .ok (.newarray .int, 2) := by decide +kernel
theorem dX7_init_41 : decode cX7_init 41 = .ok (.putfield 25, 3) := by decide +kernel
theorem dX7_init_44 : decode cX7_init 44 = .ok (.aload_n 0, 1) := by decide +kernel
theorem dX7_init_45 : decode cX7_init 45 = .ok (.bipush 24, 2) := by decide +kernel
theorem dX7_init_47 : decode cX7_init 47 = .ok (.newarray .int, 2) := by decide +kernel
theorem dX7_init_49 : decode cX7_init 49 = .ok (.putfield 28, 3) := by decide +kernel
theorem dX7_init_52 : decode cX7_init 52 = .ok (.aload_n 0, 1) := by decide +kernel
theorem dX7_init_53 : decode cX7_init 53 = .ok (.sipush 400, 3) := by decide +kernel
theorem dX7_init_56 : decode cX7_init 56 = .ok (.newarray .int, 2) := by decide +kernel
theorem dX7_init_58 : decode cX7_init 58 = .ok (.putfield 31, 3) := by decide +kernel
theorem dX7_init_61 : decode cX7_init 61 = .ok (.aload_n 0, 1) := by decide +kernel
theorem dX7_init_62 : decode cX7_init 62 = .ok (.sipush 400, 3) := by decide +kernel
theorem dX7_init_65 : decode cX7_init 65 = .ok (.newarray .int, 2) := by decide +kernel
theorem dX7_init_67 : decode cX7_init 67 = .ok (.putfield 34, 3) := by decide +kernel
theorem dX7_init_70 : decode cX7_init 70 = .ok (.aload_n 0, 1) := by decide +kernel
theorem dX7_init_71 : decode cX7_init 71 = .ok (.iconst 3, 1) := by decide +kernel
theorem dX7_init_72 : decode cX7_init 72 = .ok (.putfield 37, 3) := by decide +kernel
theorem dX7_init_75 : decode cX7_init 75 = .ok (.return_, 1) := by decide +kernel
theorem dX8_init_0 : decode cX8_init 0 = .ok (.aload_n 0, 1) := by decide +kernel
theorem dX8_init_1 : decode cX8_init 1 = .ok (.invokespecial 1, 3) := by decide +kernel
theorem dX8_init_4 : decode cX8_init 4 = .ok (.aload_n 0, 1) := by decide +kernel
theorem dX8_init_5 : decode cX8_init 5 = .ok (.sipush 2000, 3) := by decide +kernel
theorem dX8_init_8 : decode cX8_init 8 = .ok (.newarray .byte, 2) := by decide +kernel
theorem dX8_init_10 : decode cX8_init 10 = .ok (.putfield 9, 3) := by decide +kernel
theorem dX8_init_13 : decode cX8_init 13 = .ok (.aload_n 0, 1) := by decide +kernel
theorem dX8_init_14 : decode cX8_init 14 = .ok (.iconst 0, 1) := by decide +kernel
theorem dX8_init_15 : decode cX8_init 15 = .ok (.putfield 13, 3) := by decide +kernel
theorem dX8_init_18 : decode cX8_init 18 = .ok (.aload_n 0, 1) := by decide +kernel
theorem dX8_init_19 : decode cX8_init 19 = .ok (.iconst (-1), 1) := by decide +kernel
theorem dX8_init_20 : decode cX8_init 20 = .ok (.putfield 17, 3) := by decide +kernel
theorem dX8_init_23 : decode cX8_init 23 = .ok (.aload_n 0, 1) := by decide +kernel
theorem dX8_init_24 : decode cX8_init 24 = .ok (.new 20, 3) := by decide +kernel
theorem dX8_init_27 : decode cX8_init 27 = .ok (.dup, 1) := by decide +kernel
theorem dX8_init_28 : decode cX8_init 28 = .ok (.invokespecial 22, 3) := by decide +kernel
theorem dX8_init_31 : decode cX8_init 31 = .ok (.putfield 23, 3) := by decide +kernel
theorem dX8_init_34 : decode cX8_init 34 = .ok (.aload_n 0, 1) := by decide +kernel
theorem dX8_init_35 : decode cX8_init 35 = .ok (.new 20, 3) := by decide +kernel
theorem dX8_init_38 : decode cX8_init 38 = .ok (.dup, 1) := by decide +kernel
theorem dX8_init_39 : decode cX8_init 39 = .ok (.invokespecial 22, 3) := by decide +kernel
theorem dX8_init_42 : decode cX8_init 42 = .ok (.putfield 27, 3) := by decide +kernel
theorem dX8_init_45 : decode cX8_init 45 = .ok (.aload_n 0, 1) := by decide +kernel
theorem dX8_init_46 : decode cX8_init 46 = .ok (.new 30, 3) := by decide +kernel
theorem dX8_init_49 : decode cX8_init 49 = .ok (.dup, 1) := by decide +kernel
theorem dX8_init_50 : decode cX8_init 50 = .ok (.aload_n 0, 1) := by decide +kernel
theorem dX8_init_51 : decode cX8_init 51 = .ok (.getfield 27, 3) := by decide +kernel
theorem dX8_init_54 : decode cX8_init 54 = .ok (.invokespecial 32, 3) := by decide +kernel
theorem dX8_init_57 : decode cX8_init 57 = .ok (.putfield 35, 3) := by decide +kernel
theorem dX8_init_60 : decode cX8_init 60 = .ok (.aload_n 0, 1) := by decide +kernel
theorem dX8_init_61 : decode cX8_init 61 = .ok (.new 39, 3) := by decide +kernel
theorem dX8_init_64 : decode cX8_init 64 = .ok (.dup, 1) := by decide +kernel
theorem dX8_init_65 : decode cX8_init 65 = .ok (.invokespecial 41, 3) := by decide +kernel
theorem dX8_init_68 : decode cX8_init 68 = .ok (.putfield 42, 3) := by decide +kernel
theorem dX8_init_71 : decode cX8_init 71 = .ok (.aload_n 0, 1) := by decide +kernel
theorem dX8_init_72 : decode cX8_init 72 = .ok (.new 46, 3) := by decide +kernel
theorem dX8_init_75 : decode cX8_init 75 = .ok (.dup, 1) := by decide +kernel
theorem dX8_init_76 : decode cX8_init 76 = .ok (.invokespecial 48, 3) := by decide +kernel
theorem dX8_init_79 : decode cX8_init 79 = .ok (.putfield 49, 3) := by decide +kernel
theorem dX8_init_82 : decode cX8_init 82 = .ok (.aload_n 0, 1) := by decide +kernel
theorem dX8_init_83 : decode cX8_init 83 = .ok (.iconst 3, 1) := by decide +kernel
theorem dX8_init_84 : decode cX8_init 84 = .ok (.anewarray 39, 3) := by decide +kernel
theorem dX8_init_87 : decode cX8_init 87 = .ok (.putfield 53, 3) := by decide +kernel
theorem dX8_init_90 : decode cX8_init 90 = .ok (.aload_n 0, 1) := by decide +kernel
theorem dX8_init_91 : decode cX8_init 91 = .ok (.iconst 3, 1) := by decide +kernel
theorem dX8_init_92 : decode cX8_init 92 = .ok (.newarray .boolean, 2) := by decide +kernel
theorem dX8_init_94 : decode cX8_init 94 = .ok (.putfield 57, 3) := by decide +kernel
theorem dX8_init_97 : decode cX8_init 97 = .ok (.iconst 0, 1) := by decide +kernel
theorem dX8_init_98 : decode cX8_init 98 = .ok (.istore_n 1, 1) := by decide +kernel
theorem dX8_init_99 : decode cX8_init 99 = .ok (.iload_n 1, 1) := by decide +kernel
theorem dX8_init_100 : decode cX8_init 100 = .ok (.iconst 3, 1) := by decide +kernel
theorem dX8_init_101 : decode cX8_init 101 = .ok (.if_icmp .ge 22, 3) := by decide +kernel
theorem dX8_init_104 : decode cX8_init 104 = .ok (.aload_n 0, 1) := by decide +kernel
theorem dX8_init_105 : decode cX8_init 105 = .ok (.getfield 53, 3) := by decide +kernel
theorem dX8_init_108 : decode cX8_init 108 = .ok (.iload_n 1, 1) := by decide +kernel
theorem dX8_init_109 : decode cX8_init 109 = .ok (.new 39, 3) := by decide +kernel
theorem dX8_init_112 : decode cX8_init 112 = .ok (.dup, 1) := by decide +kernel
theorem dX8_init_113 : decode cX8_init 113 = .ok (.invokespecial 41, 3) := by decide +kernel
theorem dX8_init_116 : decode cX8_init 116 = .ok (.aastore, 1) := by decide +kernel
theorem dX8_init_117 : decode cX8_init 117 = .ok (.iinc 1 1, 3) := by decide +kernel
theorem dX8_init_120 : decode cX8_init 120 = .ok (.goto (-21), 3) := by decide +kernel
theorem dX8_init_123 : decode cX8_init 123 = .ok (.aload_n 0, 1) := by decide +kernel
theorem dX8_init_124 : decode cX8_init 124 = .ok (.new 61, 3) := by decide +kernel
theorem dX8_init_127 : decode cX8_init 127 = .ok (.dup, 1) := by decide +kernel
theorem dX8_init_128 : decode cX8_init 128 = .ok (.invokespecial 63, 3) := by decide +kernel
theorem dX8_init_131 : decode cX8_init 131 = .ok (.putfield 64, 3) := by decide +kernel
theorem dX8_init_134 : decode cX8_init 134 = .ok (.aload_n 0, 1) := by decide +kernel
theorem dX8_init_135 : decode cX8_init 135 = .ok (.new 61, 3) := by decide +kernel
theorem dX8_init_138 : decode cX8_init 138 = .ok (.dup, 1) := by decide +kernel
theorem dX8_init_139 : decode cX8_init 139 = .ok (.invokespecial 63, 3) := by decide +kernel
theorem dX8_init_142 : decode cX8_init 142 = .ok (.putfield 68, 3) := by decide +kernel
theorem dX8_init_145 : decode cX8_init 145 = .ok (.aload_n 0, 1) := by decide +kernel
theorem dX8_init_146 : decode cX8_init 146 = .ok (.new 71, 3) := by decide +kernel
theorem dX8_init_149 : decode cX8_init 149 = .ok (.dup, 1) := by decide +kernel
theorem dX8_init_150 : decode cX8_init 150 = .ok (.invokespecial 73, 3) := by decide +kernel
theorem dX8_init_153 : decode cX8_init 153 = .ok (.putfield 74, 3) := by decide +kernel
theorem dX8_init_156 : decode cX8_init 156 = .ok (.aload_n 0, 1) := by decide +kernel
theorem dX8_init_157 : decode cX8_init 157 = .ok (.getfield 42, 3) := by decide +kernel
theorem dX8_init_160 : decode cX8_init 160 = .ok (.aload_n 0, 1) := by decide +kernel
theorem dX8_init_161 : decode cX8_init 161 = .ok (.getfield 23, 3) := by decide +kernel
theorem dX8_init_164 : decode cX8_init 164 = .ok (.getfield 78, 3) := by decide +kernel
theorem dX8_init_167 : decode cX8_init 167 = .ok (.aload_n 0, 1) := by decide +kernel
theorem dX8_init_168 : decode cX8_init 168 = .ok (.getfield 23, 3) := by decide +kernel
theorem dX8_init_171 : decode cX8_init 171 = .ok (.getfield 81, 3) := by decide +kernel
theorem dX8_init_174 : decode cX8_init 174 = .ok (.invokevirtual 84, 3) := by decide +kernel
theorem dX8_init_177 : decode cX8_init 177 = .ok (.return_, 1) := by decide +kernel
theorem dN9_init_0 : decode cN9_init 0 = .ok (.aload_n 0, 1) := by decide +kernel
theorem dN9_init_1 : decode cN9_init 1 = .ok (.invokespecial 1, 3) := by decide +kernel
theorem dN9_init_4 : decode cN9_init 4 = .ok (.aload_n 0, 1) := by decide +kernel
theorem dN9_init_5 : decode cN9_init 5 = .ok (.iconst 3, 1) := by decide +kernel
theorem dN9_init_6 : decode cN9_init 6 = .ok (.putfield 7, 3) := by decide +kernel
theorem dN9_init_9 : decode cN9_init 9 = .ok (.aload_n 0, 1) := by decide +kernel
theorem dN9_init_10 : decode cN9_init 10 = .ok (.iconst 4, 1) := by decide +kernel
theorem dN9_init_11 : decode cN9_init 11 = .ok (.newarray .int, 2) := by decide +kernel
theorem dN9_init_13 : decode cN9_init 13 = .ok (.putfield 13, 3) := by decide +kernel
theorem dN9_init_16 : decode cN9_init 16 = .ok (.aload_n 0, 1) := by decide +kernel
theorem dN9_init_17 : decode cN9_init 17 = .ok (.iconst 4, 1) := by decide +kernel
theorem dN9_init_18 : decode cN9_init 18 = .ok (.anewarray 17, 3) := by decide +kernel
theorem dN9_init_21 : decode cN9_init 21 = .ok (.putfield 19, 3) := by decide +kernel
theorem dN9_init_24 : decode cN9_init 24 = .ok (.aload_n 0, 1) := by decide +kernel
theorem dN9_init_25 : decode cN9_init 25 = .ok (.bipush 60, 2) := by decide +kernel
theorem dN9_init_27 : decode cN9_init 27 = .ok (.anewarray 23, 3) := by decide +kernel
theorem dN9_init_30 : decode cN9_init 30 = .ok (.putfield 24, 3) := by decide +kernel
theorem dN9_init_33 : decode cN9_init 33 = .ok (.aload_n 0, 1) := by decide +kernel
theorem dN9_init_34 : decode cN9_init 34 = .ok (.bipush 60, 2) := by decide +kernel
theorem dN9_init_36 : decode cN9_init 36 = .ok (.newarray .int, 2) := by decide +kernel
theorem dN9_init_38 : decode cN9_init 38 = .ok (.putfield 27, 3) := by decide +kernel
theorem dN9_init_41 : decode cN9_init 41 = .ok (.aload_n 0, 1) := by decide +kernel
theorem dN9_init_42 : decode cN9_init 42 = .ok (.iconst 5, 1) := by decide +kernel
theorem dN9_init_43 : decode cN9_init 43 = .ok (.newarray .int, 2) := by decide +kernel
theorem dN9_init_45 : decode cN9_init 45 = .ok (.putfield 30, 3) := by decide +kernel
theorem dN9_init_48 : decode cN9_init 48 = .ok (.aload_n 0, 1) := by decide +kernel
theorem dN9_init_49 : decode cN9_init 49 = .ok (.iconst 5, 1) := by decide +kernel
theorem dN9_init_50 : decode cN9_init 50 = .ok (.newarray .int, 2) := by decide +kernel
theorem dN9_init_52 : decode cN9_init 52 = .ok (.putfield 33, 3) := by decide +kernel
theorem dN9_init_55 : decode cN9_init 55 = .ok (.aload_n 0, 1) := by decide +kernel
theorem dN9_init_56 : decode cN9_init 56 = .ok (.iconst 5, 1) := by decide +kernel
theorem dN9_init_57 : decode cN9_init 57 = .ok (.newarray .int, 2) := by decide +kernel
theorem dN9_init_59 : decode cN9_init 59 = .ok (.putfield 36, 3) := by decide +kernel
theorem dN9_init_62 : decode cN9_init 62 = .ok (.aload_n 0, 1) := by decide +kernel
theorem dN9_init_63 : decode cN9_init 63 = .ok (.iconst 5, 1) := by decide +kernel
theorem dN9_init_64 : decode cN9_init 64 = .ok (.newarray .int, 2) := by decide +kernel
theorem dN9_init_66 : decode cN9_init 66 = .ok (.putfield 39, 3) := by decide +kernel
theorem dN9_init_69 : decode cN9_init 69 = .ok (.aload_n 0, 1) := by decide +kernel
theorem dN9_init_70 : decode cN9_init 70 = .ok (.iconst 4, 1) := by decide +kernel
theorem dN9_init_71 : decode cN9_init 71 = .ok (.newarray .int, 2) := by decide +kernel
theorem dN9_init_73 : decode cN9_init 73 = .ok (.putfield 42, 3) := by decide +kernel
theorem dN9_init_76 : decode cN9_init 76 = .ok (.aload_n 0, 1) := by decide +kernel
theorem dN9_init_77 : decode cN9_init 77 = .ok (.iconst 4, 1) := by decide +kernel
theorem dN9_init_78 : decode cN9_init 78 = .ok (.newarray .int, 2) := by decide +kernel
theorem dN9_init_80 : decode cN9_init 80 = .ok (.putfield 45, 3) := by decide +kernel
theorem dN9_init_83 : decode cN9_init 83 = .ok (.aload_n 0, 1) := by decide +kernel
theorem dN9_init_84 : decode cN9_init 84 = .ok (.iconst 4, 1) := by decide +kernel
theorem dN9_init_85 : decode cN9_init 85 = .ok (.newarray .int, 2) := by decide +kernel
theorem dN9_init_87 : decode cN9_init 87 = .ok (.putfield 48, 3) := by decide +kernel
theorem dN9_init_90 : decode cN9_init 90 = .ok (.aload_n 0, 1) := by decide +kernel
theorem dN9_init_91 : decode cN9_init 91 = .ok (.iconst 0, 1) := by decide +kernel
theorem dN9_init_92 : decode cN9_init 92 = .ok (.newarray .int, 2) := by decide +kernel
theorem dN9_init_94 : decode cN9_init 94 = .ok (.putfield 51, 3) := by decide +kernel
theorem dN9_init_97 : decode cN9_init 97 = .ok (.aload_n 0, 1) := by decide +kernel
theorem dN9_init_98 : decode cN9_init 98 = .ok (.iconst 5, 1) := by decide +kernel
theorem dN9_init_99 : decode cN9_init 99 = .ok (.bipush 60, 2) := by decide +kernel
theorem dN9_init_101 : decode cN9_init 101 = .ok (.multianewarray 54 2, 4) := by decide +kernel
theorem dN9_init_105 : decode cN9_init 105 = .ok (.putfield 56, 3) := by decide +kernel
theorem dN9_init_108 : decode cN9_init 108 = .ok (.aload_n 0, 1) := by decide +kernel
theorem dN9_init_109 : decode cN9_init 109 = .ok (.iconst 4, 1) := by decide +kernel
theorem dN9_init_110 : decode cN9_init 110 = .ok (.iconst 5, 1) := by decide +kernel
theorem dN9_init_111 : decode cN9_init 111 = .ok (.multianewarray 17 2, 4) := by decide +kernel
theorem dN9_init_115 : decode cN9_init 115 = .ok (.putfield 59, 3) := by decide +kernel
theorem dN9_init_118 : decode cN9_init 118 = .ok (.aload_n 0, 1) := by decide +kernel
theorem dN9_init_119 : decode cN9_init 119 = .ok (.iconst 4, 1) := by decide +kernel
theorem dN9_init_120 : decode cN9_init 120 = .ok (.iconst 5, 1) := by decide +kernel
theorem dN9_init_121 : decode cN9_init 121 = .ok (.multianewarray 17 2, 4) := by decide +kernel
theorem dN9_init_125 : decode cN9_init 125 = .ok (.putfield 62, 3) := by decide +kernel
theorem dN9_init_128 : decode cN9_init 128 = .ok (.return_, 1) := by decide +kernel
theorem df_X0 : ∀ j, j < 4 → defaultValue (tyX0 j) = vp_V [.null, .int 0, .int 0, .int 0] j := by decide +kernel
theorem df_X1 : ∀ j, j < 8 → defaultValue (tyX1 j) = vp_V [.null, .null, .null, .null, .null, .null, .null, .null] j := by decide +kernel
theorem df_X2 : ∀ j, j < 3 → defaultValue (tyX2 j) = vp_V [.null, .int 0, .int 0] j := by decide +kernel
theorem df_X3 : ∀ j, j < 11 → defaultValue (tyX3 j) = vp_V [.null, .null, .null, .int 0, .null, .int 0, .null, .int 0, .int 0, .int 0, .int 0] j := by decide +kernel
theorem df_X4 : ∀ j, j < 9 → defaultValue (tyX4 j) = vp_V [.null, .null, .int 0, .null, .null, .null, .null, .int 0, .int 0] j := by decide +kernel
theorem df_X5 : ∀ j, j < 6 → defaultValue (tyX5 j) = vp_V [.null, .null, .int 0, .int 0, .int 0, .int 0] j := by decide +kernel
theorem df_X6 : ∀ j, j < 6 → defaultValue (tyX6 j) = vp_V [.null, .null, .null, .int 0, .int 0, .int 0] j := by decide +kernel
theorem df_X7 : ∀ j, j < 14 → defaultValue (tyX7 j) = vp_V [.int 0, .int 0, .int 0, .int 0, .int 0, .null, .null, .null, .null, .null, .null, .null, .null, .int 0] j := by decide +kernel
theorem df_X8 : ∀ j, j < 13 → defaultValue (tyX8 j) = vp_V [.null, .int 0, .int 0, .null, .null, .null, .null, .null, .null, .null, .null, .null, .null] j := by decide +kernel
theorem df_N9 : ∀ j, j < 24 → defaultValue (tyN9 j) = vp_V [.int 0, .int 0, .int 0, .int 0, .int 0, .int 0, .int 0, .int 0, .null, .null, .null, .null, .null, .null, .null, .null, .null, .null, .null, .null, .null, .null, .null, .int 0] j := by decide +kernel
theorem mw_X0 : Mw yX0_init cX0_init 1 none 0 := ⟨by decide +kernel, tw_280, tw_46, by decide +kernel, by decide +kernel⟩
theorem mw_X1 : Mw yX1_init cX1_init 1 none 0 := ⟨by decide +kernel, tw_214, tw_43, by decide +kernel, by decide +kernel⟩
theorem mw_X2 : Mw yX2_init cX2_init 1 none 0 := ⟨by decide +kernel, tw_254, tw_44, by decide +kernel, by decide +kernel⟩
theorem mw_X3 : Mw yX3_init cX3_init 2 none 1 := ⟨by decide +kernel, tw_148, tw_41, by decide +kernel, by decide +kernel⟩
theorem mw_X4 : Mw yX4_init cX4_init 1 none 0 := ⟨by decide +kernel, tw_274, tw_45, by decide +kernel, by decide +kernel⟩
theorem mw_X5 : Mw yX5_init cX5_init 1 none 0 := ⟨by decide +kernel, tw_332, tw_47, by decide +kernel, by decide +kernel⟩
theorem mw_X6 : Mw yX6_init cX6_init 1 none 0 := ⟨by decide +kernel, tw_154, tw_42, by decide +kernel, by decide +kernel⟩
theorem mw_X7 : Mw yX7_init cX7_init 1 none 0 := ⟨by decide +kernel, tw_70, tw_40, by decide +kernel, by decide +kernel⟩
theorem mw_X8 : Mw yX8_init cX8_init 2 none 0 := ⟨by decide +kernel, tw_62, tw_39, by decide +kernel, by decide +kernel⟩
theorem mw_N9 : Mw yN9_init cN9_init 1 none 0 := ⟨by decide +kernel, tw_1160, tw_48, by decide +kernel, by decide +kernel⟩
def nw_X0 (cy : Nat → ClassId) (h0 : Nat) (u : Nat → Nat) : va_W := (h0, .inr (0, [.ref (u 0), .int 0, .int 0, .int 0])) :: ((u 0, .inl (cy 1, 32, .inl (fun _ => 0))) :: ([] : va_W))
set_option maxRecDepth 100000 in
set_option maxHeartbeats 4000000 in
theorem i_X0 (l : Launch) (D : va_G) (cy : Nat → ClassId) (h0 : Nat) : Cn l D cy yX0_init cX0_init 1 1 12 1 32 h0 [] (.inr (0, [.null, .int 0, .int 0, .int 0])) (fun _ _ => True) (fun u => nw_X0 cy h0 u) := by
  refine Cn_intro (own := RX0) (by decide +kernel) rfl rfl (Nat.le_of_ble_eq_true rfl) [(0, .ref h0)] rfl (fun p e R s m args below meth c C hi hX hh => ?_)
  refine n_aload_n C 0 0 dX0_init_0 rfl ?_
  refine n_objInit C 1 tw_281 tw_64 tw_65 (Nat.le_of_ble_eq_true rfl) (Nat.le_of_ble_eq_true rfl) dX0_init_1 ?_
  refine n_aload_n C 4 0 dX0_init_4 rfl ?_
  refine n_bipush C 5 dX0_init_5 kb_32 ?_
  refine m_newa (ty := .int) (N := 32) (a0 := (32, .inl (fun _ => 0))) C 7 1 rfl tw_142 rfl (fun _ h => h) (fun _ => rfl) (by decide) rfl (Nat.le_of_ble_eq_true rfl) (Nat.le_of_ble_eq_true rfl) (Nat.le_of_ble_eq_true rfl) dX0_init_7 (fun q7 => ?_)
  refine m_putF (ty := .array .int) (fs' := [.ref q7, .int 0, .int 0, .int 0]) C hi 9 (show vwCl[0]? = some (RX0, TX0, 4) from rfl) in_X0 tyX0 tyX0_ok nmX0 0 (Nat.le_of_ble_eq_true rfl) tw_282 rfl rfl rfl (by decide +kernel) rfl rfl (Nat.le_of_ble_eq_true rfl) rfl dX0_init_9 ?_
  exact n_ret (fun j => if j = 0 then q7 else 0) C hi.2 (fun _ h => h) (fun h => h) (Nat.le_of_ble_eq_true rfl) (Nat.le_of_ble_eq_true rfl) 12 dX0_init_12
def nw_X1 (cy : Nat → ClassId) (h0 : Nat) (u : Nat → Nat) : va_W := (h0, .inr (1, [.ref (u 0), .ref (u 1), .ref (u 2), .ref (u 3), .ref (u 4), .ref (u 5), .ref (u 6), .ref (u 7)])) :: ((u 7, .inl (cy 1, 60, .inl (fun _ => 0))) :: ((u 6, .inl (cy 1, 60, .inl (fun _ => 0))) :: ((u 5, .inl (cy 1, 60, .inl (fun _ => 0))) :: ((u 4, .inl (cy 1, 60, .inl (fun _ => 0))) :: ((u 3, .inl (cy 1, 60, .inl (fun _ => 0))) :: ((u 2, .inl (cy 1, 60, .inl (fun _ => 0))) :: ((u 1, .inl (cy 1, 60, .inl (fun _ => 0))) :: ((u 0, .inl (cy 2, 96, .inr (.inl (fun _ => 0)))) :: ([] : va_W)))))))))
set_option maxRecDepth 100000 in
set_option maxHeartbeats 4000000 in
theorem i_X1 (l : Launch) (D : va_G) (cy : Nat → ClassId) (h0 : Nat) : Cn l D cy yX1_init cX1_init 1 1 12 8 516 h0 [] (.inr (1, [.null, .null, .null, .null, .null, .null, .null, .null])) (fun _ _ => True) (fun u => nw_X1 cy h0 u) := by
  refine Cn_intro (own := RX1) (by decide +kernel) rfl rfl (Nat.le_of_ble_eq_true rfl) [(0, .ref h0)] rfl (fun p e R s m args below meth c C hi hX hh => ?_)
  refine n_aload_n C 0 0 dX1_init_0 rfl ?_
  refine n_objInit C 1 tw_215 tw_64 tw_65 (Nat.le_of_ble_eq_true rfl) (Nat.le_of_ble_eq_true rfl) dX1_init_1 ?_
  refine n_aload_n C 4 0 dX1_init_4 rfl ?_
  refine n_bipush C 5 dX1_init_5 kb_96 ?_
  refine m_newa (ty := .long) (N := 96) (a0 := (96, .inr (.inl (fun _ => 0)))) C 7 2 rfl tw_175 rfl (fun _ h => h) (fun _ => rfl) (by decide) rfl (Nat.le_of_ble_eq_true rfl) (Nat.le_of_ble_eq_true rfl) (Nat.le_of_ble_eq_true rfl) dX1_init_7 (fun q7 => ?_)
  refine m_putF (ty := .array .long) (fs' := [.ref q7, .null, .null, .null, .null, .null, .null, .null]) C hi 9 (show vwCl[1]? = some (RX1, TX1, 8) from rfl) in_X1 tyX1 tyX1_ok nmX1 0 (Nat.le_of_ble_eq_true rfl) tw_216 rfl rfl rfl (by decide +kernel) rfl rfl (Nat.le_of_ble_eq_true rfl) rfl dX1_init_9 ?_
  refine n_aload_n C 12 0 dX1_init_12 rfl ?_
  refine n_bipush C 13 dX1_init_13 kb_60 ?_
  refine m_newa (ty := .int) (N := 60) (a0 := (60, .inl (fun _ => 0))) C 15 1 rfl tw_142 rfl (fun _ h => h) (fun _ => rfl) (by decide) rfl (Nat.le_of_ble_eq_true rfl) (Nat.le_of_ble_eq_true rfl) (Nat.le_of_ble_eq_true rfl) dX1_init_15 (fun q15 => ?_)
  refine m_putF (ty := .array .int) (fs' := [.ref q7, .ref q15, .null, .null, .null, .null, .null, .null]) C hi 17 (show vwCl[1]? = some (RX1, TX1, 8) from rfl) in_X1 tyX1 tyX1_ok nmX1 1 (Nat.le_of_ble_eq_true rfl) tw_218 rfl rfl rfl (by decide +kernel) rfl rfl (Nat.le_of_ble_eq_true rfl) rfl dX1_init_17 ?_
  refine n_aload_n C 20 0 dX1_init_20 rfl ?_
  refine n_bipush C 21 dX1_init_21 kb_60 ?_
  refine m_newa (ty := .int) (N := 60) (a0 := (60, .inl (fun _ => 0))) C 23 1 rfl tw_142 rfl (fun _ h => h) (fun _ => rfl) (by decide) rfl (Nat.le_of_ble_eq_true rfl) (Nat.le_of_ble_eq_true rfl) (Nat.le_of_ble_eq_true rfl) dX1_init_23 (fun q23 => ?_)
  refine m_putF (ty := .array .int) (fs' := [.ref q7, .ref q15, .ref q23, .null, .null, .null, .null, .null]) C hi 25 (show vwCl[1]? = some (RX1, TX1, 8) from rfl) in_X1 tyX1 tyX1_ok nmX1 2 (Nat.le_of_ble_eq_true rfl) tw_221 rfl rfl rfl (by decide +kernel) rfl rfl (Nat.le_of_ble_eq_true rfl) rfl dX1_init_25 ?_
  refine n_aload_n C 28 0 dX1_init_28 rfl ?_
  refine n_bipush C 29 dX1_init_29 kb_60 ?_
  refine m_newa (ty := .int) (N := 60) (a0 := (60, .inl (fun _ => 0))) C 31 1 rfl tw_142 rfl (fun _ h => h) (fun _ => rfl) (by decide) rfl (Nat.le_of_ble_eq_true rfl) (Nat.le_of_ble_eq_true rfl) (Nat.le_of_ble_eq_true rfl) dX1_init_31 (fun q31 => ?_)
  refine m_putF (ty := .array .int) (fs' := [.ref q7, .ref q15, .ref q23, .ref q31, .null, .null, .null, .null]) C hi 33 (show vwCl[1]? = some (RX1, TX1, 8) from rfl) in_X1 tyX1 tyX1_ok nmX1 3 (Nat.le_of_ble_eq_true rfl) tw_224 rfl rfl rfl (by decide +kernel) rfl rfl (Nat.le_of_ble_eq_true rfl) rfl dX1_init_33 ?_
  refine n_aload_n C 36 0 dX1_init_36 rfl ?_
  refine n_bipush C 37 dX1_init_37 kb_60 ?_
  refine m_newa (ty := .int) (N := 60) (a0 := (60, .inl (fun _ => 0))) C 39 1 rfl tw_142 rfl (fun _ h => h) (fun _ => rfl) (by decide) rfl (Nat.le_of_ble_eq_true rfl) (Nat.le_of_ble_eq_true rfl) (Nat.le_of_ble_eq_true rfl) dX1_init_39 (fun q39 => ?_)
  refine m_putF (ty := .array .int) (fs' := [.ref q7, .ref q15, .ref q23, .ref q31, .ref q39, .null, .null, .null]) C hi 41 (show vwCl[1]? = some (RX1, TX1, 8) from rfl) in_X1 tyX1 tyX1_ok nmX1 4 (Nat.le_of_ble_eq_true rfl) tw_227 rfl rfl rfl (by decide +kernel) rfl rfl (Nat.le_of_ble_eq_true rfl) rfl dX1_init_41 ?_
  refine n_aload_n C 44 0 dX1_init_44 rfl ?_
  refine n_bipush C 45 dX1_init_45 kb_60 ?_
  refine m_newa (ty := .int) (N := 60) (a0 := (60, .inl (fun _ => 0))) C 47 1 rfl tw_142 rfl (fun _ h => h) (fun _ => rfl) (by decide) rfl (Nat.le_of_ble_eq_true rfl) (Nat.le_of_ble_eq_true rfl) (Nat.le_of_ble_eq_true rfl) dX1_init_47 (fun q47 => ?_)
  refine m_putF (ty := .array .int) (fs' := [.ref q7, .ref q15, .ref q23, .ref q31, .ref q39, .ref q47, .null, .null]) C hi 49 (show vwCl[1]? = some (RX1, TX1, 8) from rfl) in_X1 tyX1 tyX1_ok nmX1 5 (Nat.le_of_ble_eq_true rfl) tw_230 rfl rfl rfl (by decide +kernel) rfl rfl (Nat.le_of_ble_eq_true rfl) rfl dX1_init_49 ?_
  refine n_aload_n C 52 0 dX1_init_52 rfl ?_
  refine n_bipush C 53 dX1_init_53 kb_60 ?_
  refine m_newa (ty := .int) (N := 60) (a0 := (60, .inl (fun _ => 0))) C 55 1 rfl tw_142 rfl (fun _ h => h) (fun _ => rfl) (by decide) rfl (Nat.le_of_ble_eq_true rfl) (Nat.le_of_ble_eq_true rfl) (Nat.le_of_ble_eq_true rfl) dX1_init_55 (fun q55 => ?_)
  refine m_putF (ty := .array .int) (fs' := [.ref q7, .ref q15, .ref q23, .ref q31, .ref q39, .ref q47, .ref q55, .null]) C hi 57 (show vwCl[1]? = some (RX1, TX1, 8) from rfl) in_X1 tyX1 tyX1_ok nmX1 6 (Nat.le_of_ble_eq_true rfl) tw_231 rfl rfl rfl (by decide +kernel) rfl rfl (Nat.le_of_ble_eq_true rfl) rfl dX1_init_57 ?_
  refine n_aload_n C 60 0 dX1_init_60 rfl ?_
  refine n_bipush C 61 dX1_init_61 kb_60 ?_
  refine m_newa (ty := .int) (N := 60) (a0 := (60, .inl (fun _ => 0))) C 63 1 rfl tw_142 rfl (fun _ h => h) (fun _ => rfl) (by decide) rfl (Nat.le_of_ble_eq_true rfl) (Nat.le_of_ble_eq_true rfl) (Nat.le_of_ble_eq_true rfl) dX1_init_63 (fun q63 => ?_)
  refine m_putF (ty := .array .int) (fs' := [.ref q7, .ref q15, .ref q23, .ref q31, .ref q39, .ref q47, .ref q55, .ref q63]) C hi 65 (show vwCl[1]? = some (RX1, TX1, 8) from rfl) in_X1 tyX1 tyX1_ok nmX1 7 (Nat.le_of_ble_eq_true rfl) tw_232 rfl rfl rfl (by decide +kernel) rfl rfl (Nat.le_of_ble_eq_true rfl) rfl dX1_init_65 ?_
  exact n_ret (fun j => if j = 0 then q7 else if j = 1 then q15 else if j = 2 then q23 else if j = 3 then q31 else if j = 4 then q39 else if j = 5 then q47 else if j = 6 then q55 else if j = 7 then q63 else 0) C hi.2 (fun _ h => h) (fun h => h) (Nat.le_of_ble_eq_true rfl) (Nat.le_of_ble_eq_true rfl) 68 dX1_init_68
def nw_X2 (cy : Nat → ClassId) (h0 : Nat) (u : Nat → Nat) : va_W := (h0, .inr (2, [.ref (u 0), .int 0, .int 0])) :: (mu_ws cy (u 0) 40 96 ++ ([] : va_W))
set_option maxRecDepth 100000 in
set_option maxHeartbeats 4000000 in
theorem i_X2 (l : Launch) (D : va_G) (cy : Nat → ClassId) (h0 : Nat) : Cn l D cy yX2_init cX2_init 1 1 12 41 3880 h0 [] (.inr (2, [.null, .int 0, .int 0])) (fun _ _ => True) (fun u => nw_X2 cy h0 u) := by
  refine Cn_intro (own := RX2) (by decide +kernel) rfl rfl (Nat.le_of_ble_eq_true rfl) [(0, .ref h0)] rfl (fun p e R s m args below meth c C hi hX hh => ?_)
  refine n_aload_n C 0 0 dX2_init_0 rfl ?_
  refine n_objInit C 1 tw_255 tw_64 tw_65 (Nat.le_of_ble_eq_true rfl) (Nat.le_of_ble_eq_true rfl) dX2_init_1 ?_
  refine n_aload_n C 4 0 dX2_init_4 rfl ?_
  refine n_bipush C 5 dX2_init_5 kb_40 ?_
  refine n_bipush C 7 dX2_init_7 kb_96 ?_
  refine m_multi (N := 40) (M := 96) C 9 tw_256 tw_175 (by decide) (by decide) rfl rfl (Nat.le_of_ble_eq_true rfl) (Nat.le_of_ble_eq_true rfl) (Nat.le_of_ble_eq_true rfl) (Nat.le_of_ble_eq_true rfl) dX2_init_9 (fun q9 => ?_)
  refine m_putF (ty := .array (.array .long)) (fs' := [.ref q9, .int 0, .int 0]) C hi 13 (show vwCl[2]? = some (RX2, TX2, 3) from rfl) in_X2 tyX2 tyX2_ok nmX2 0 (Nat.le_of_ble_eq_true rfl) tw_258 rfl rfl rfl (by decide +kernel) rfl rfl (Nat.le_of_ble_eq_true rfl) rfl dX2_init_13 ?_
  exact n_ret (fun j => if j = 0 then q9 else if j < 41 then q9 + 1 + (j - 1) else 0) C hi.2 (fun _ h => h) (fun h => h) (Nat.le_of_ble_eq_true rfl) (Nat.le_of_ble_eq_true rfl) 16 dX2_init_16
def nw_X5 (cy : Nat → ClassId) (h0 : Nat) (u : Nat → Nat) : va_W := (h0, .inr (5, [.ref (u 0), .ref (u 1), .int 0, .int 0, .int 0, .int 0])) :: ((u 1, .inl (cy 1, 5, .inl (fun _ => 0))) :: ((u 0, .inl (cy 2, 5, .inr (.inl (fun _ => 0)))) :: ([] : va_W)))
set_option maxRecDepth 100000 in
set_option maxHeartbeats 4000000 in
theorem i_X5 (l : Launch) (D : va_G) (cy : Nat → ClassId) (h0 : Nat) : Cn l D cy yX5_init cX5_init 1 1 12 2 10 h0 [] (.inr (5, [.null, .null, .int 0, .int 0, .int 0, .int 0])) (fun _ _ => True) (fun u => nw_X5 cy h0 u) := by
  refine Cn_intro (own := RX5) (by decide +kernel) rfl rfl (Nat.le_of_ble_eq_true rfl) [(0, .ref h0)] rfl (fun p e R s m args below meth c C hi hX hh => ?_)
  refine n_aload_n C 0 0 dX5_init_0 rfl ?_
  refine n_objInit C 1 tw_333 tw_64 tw_65 (Nat.le_of_ble_eq_true rfl) (Nat.le_of_ble_eq_true rfl) dX5_init_1 ?_
  refine n_aload_n C 4 0 dX5_init_4 rfl ?_
  refine n_iconst C 5 dX5_init_5 ki_5 ?_
  refine m_newa (ty := .long) (N := 5) (a0 := (5, .inr (.inl (fun _ => 0)))) C 6 2 rfl tw_175 rfl (fun _ h => h) (fun _ => rfl) (by decide) rfl (Nat.le_of_ble_eq_true rfl) (Nat.le_of_ble_eq_true rfl) (Nat.le_of_ble_eq_true rfl) dX5_init_6 (fun q6 => ?_)
  refine m_putF (ty := .array .long) (fs' := [.ref q6, .null, .int 0, .int 0, .int 0, .int 0]) C hi 8 (show vwCl[5]? = some (RX5, TX5, 6) from rfl) in_X5 tyX5 tyX5_ok nmX5 0 (Nat.le_of_ble_eq_true rfl) tw_334 rfl rfl rfl (by decide +kernel) rfl rfl (Nat.le_of_ble_eq_true rfl) rfl dX5_init_8 ?_
  refine n_aload_n C 11 0 dX5_init_11 rfl ?_
  refine n_iconst C 12 dX5_init_12 ki_5 ?_
  refine m_newa (ty := .int) (N := 5) (a0 := (5, .inl (fun _ => 0))) C 13 1 rfl tw_142 rfl (fun _ h => h) (fun _ => rfl) (by decide) rfl (Nat.le_of_ble_eq_true rfl) (Nat.le_of_ble_eq_true rfl) (Nat.le_of_ble_eq_true rfl) dX5_init_13 (fun q13 => ?_)
  refine m_putF (ty := .array .int) (fs' := [.ref q6, .ref q13, .int 0, .int 0, .int 0, .int 0]) C hi 15 (show vwCl[5]? = some (RX5, TX5, 6) from rfl) in_X5 tyX5 tyX5_ok nmX5 1 (Nat.le_of_ble_eq_true rfl) tw_335 rfl rfl rfl (by decide +kernel) rfl rfl (Nat.le_of_ble_eq_true rfl) rfl dX5_init_15 ?_
  exact n_ret (fun j => if j = 0 then q6 else if j = 1 then q13 else 0) C hi.2 (fun _ h => h) (fun h => h) (Nat.le_of_ble_eq_true rfl) (Nat.le_of_ble_eq_true rfl) 18 dX5_init_18
def nw_X6 (cy : Nat → ClassId) (h0 : Nat) (u : Nat → Nat) : va_W := (h0, .inr (6, [.ref (u 0), .ref (u 1), .ref (u 2), .int 0, .int 0, .int 0])) :: ((u 2, .inl (cy 2, 402, .inr (.inl (fun _ => 0)))) :: ((u 1, .inl (cy 1, 402, .inl (fun _ => 0))) :: ((u 0, .inl (cy 1, 402, .inl (fun _ => 0))) :: ([] : va_W))))
set_option maxRecDepth 100000 in
set_option maxHeartbeats 4000000 in
theorem i_X6 (l : Launch) (D : va_G) (cy : Nat → ClassId) (h0 : Nat) : Cn l D cy yX6_init cX6_init 1 1 12 3 1206 h0 [] (.inr (6, [.null, .null, .null, .int 0, .int 0, .int 0])) (fun _ _ => True) (fun u => nw_X6 cy h0 u) := by
  refine Cn_intro (own := RX6) (by decide +kernel) rfl rfl (Nat.le_of_ble_eq_true rfl) [(0, .ref h0)] rfl (fun p e R s m args below meth c C hi hX hh => ?_)
  refine n_aload_n C 0 0 dX6_init_0 rfl ?_
  refine n_objInit C 1 tw_155 tw_64 tw_65 (Nat.le_of_ble_eq_true rfl) (Nat.le_of_ble_eq_true rfl) dX6_init_1 ?_
  refine n_aload_n C 4 0 dX6_init_4 rfl ?_
  refine n_sipush C 5 dX6_init_5 ks_402 ?_
  refine m_newa (ty := .int) (N := 402) (a0 := (402, .inl (fun _ => 0))) C 8 1 rfl tw_142 rfl (fun _ h => h) (fun _ => rfl) (by decide) rfl (Nat.le_of_ble_eq_true rfl) (Nat.le_of_ble_eq_true rfl) (Nat.le_of_ble_eq_true rfl) dX6_init_8 (fun q8 => ?_)
  refine m_putF (ty := .array .int) (fs' := [.ref q8, .null, .null, .int 0, .int 0, .int 0]) C hi 10 (show vwCl[6]? = some (RX6, TX6, 6) from rfl) in_X6 tyX6 tyX6_ok nmX6 0 (Nat.le_of_ble_eq_true rfl) tw_156 rfl rfl rfl (by decide +kernel) rfl rfl (Nat.le_of_ble_eq_true rfl) rfl dX6_init_10 ?_
  refine n_aload_n C 13 0 dX6_init_13 rfl ?_
  refine n_sipush C 14 dX6_init_14 ks_402 ?_
  refine m_newa (ty := .int) (N := 402) (a0 := (402, .inl (fun _ => 0))) C 17 1 rfl tw_142 rfl (fun _ h => h) (fun _ => rfl) (by decide) rfl (Nat.le_of_ble_eq_true rfl) (Nat.le_of_ble_eq_true rfl) (Nat.le_of_ble_eq_true rfl) dX6_init_17 (fun q17 => ?_)
  refine m_putF (ty := .array .int) (fs' := [.ref q8, .ref q17, .null, .int 0, .int 0, .int 0]) C hi 19 (show vwCl[6]? = some (RX6, TX6, 6) from rfl) in_X6 tyX6 tyX6_ok nmX6 1 (Nat.le_of_ble_eq_true rfl) tw_157 rfl rfl rfl (by decide +kernel) rfl rfl (Nat.le_of_ble_eq_true rfl) rfl dX6_init_19 ?_
  refine n_aload_n C 22 0 dX6_init_22 rfl ?_
  refine n_sipush C 23 dX6_init_23 ks_402 ?_
  refine m_newa (ty := .long) (N := 402) (a0 := (402, .inr (.inl (fun _ => 0)))) C 26 2 rfl tw_175 rfl (fun _ h => h) (fun _ => rfl) (by decide) rfl (Nat.le_of_ble_eq_true rfl) (Nat.le_of_ble_eq_true rfl) (Nat.le_of_ble_eq_true rfl) dX6_init_26 (fun q26 => ?_)
  refine m_putF (ty := .array .long) (fs' := [.ref q8, .ref q17, .ref q26, .int 0, .int 0, .int 0]) C hi 28 (show vwCl[6]? = some (RX6, TX6, 6) from rfl) in_X6 tyX6 tyX6_ok nmX6 2 (Nat.le_of_ble_eq_true rfl) tw_158 rfl rfl rfl (by decide +kernel) rfl rfl (Nat.le_of_ble_eq_true rfl) rfl dX6_init_28 ?_
  exact n_ret (fun j => if j = 0 then q8 else if j = 1 then q17 else if j = 2 then q26 else 0) C hi.2 (fun _ h => h) (fun h => h) (Nat.le_of_ble_eq_true rfl) (Nat.le_of_ble_eq_true rfl) 31 dX6_init_31
def nw_X7 (cy : Nat → ClassId) (h0 : Nat) (u : Nat → Nat) : va_W := (h0, .inr (7, [.int (3 : Int32), .int 0, .int 0, .int 0, .int 0, .ref (u 0), .ref (u 1), .ref (u 2), .ref (u 3), .ref (u 4), .ref (u 5), .ref (u 6), .ref (u 7), .int 0])) :: ((u 7, .inl (cy 1, 400, .inl (fun _ => 0))) :: ((u 6, .inl (cy 1, 400, .inl (fun _ => 0))) :: ((u 5, .inl (cy 1, 24, .inl (fun _ => 0))) :: ((u 4, .inl (cy 1, 24, .inl (fun _ => 0))) :: ((u 3, .inl (cy 1, 6, .inl (fun _ => 0))) :: ((u 2, .inl (cy 1, 6, .inl (fun _ => 0))) :: ((u 1, .inl (cy 3, 6, .inl (fun _ => 0))) :: ((u 0, .inl (cy 1, 6, .inl (fun _ => 0))) :: ([] : va_W)))))))))
set_option maxRecDepth 100000 in
set_option maxHeartbeats 4000000 in
theorem i_X7 (l : Launch) (D : va_G) (cy : Nat → ClassId) (h0 : Nat) : Cn l D cy yX7_init cX7_init 1 1 12 8 872 h0 [] (.inr (7, [.int 0, .int 0, .int 0, .int 0, .int 0, .null, .null, .null, .null, .null, .null, .null, .null, .int 0])) (fun _ _ => True) (fun u => nw_X7 cy h0 u) := by
  refine Cn_intro (own := RX7) (by decide +kernel) rfl rfl (Nat.le_of_ble_eq_true rfl) [(0, .ref h0)] rfl (fun p e R s m args below meth c C hi hX hh => ?_)
  refine n_aload_n C 0 0 dX7_init_0 rfl ?_
  refine n_objInit C 1 tw_71 tw_64 tw_65 (Nat.le_of_ble_eq_true rfl) (Nat.le_of_ble_eq_true rfl) dX7_init_1 ?_
  refine n_aload_n C 4 0 dX7_init_4 rfl ?_
  refine n_bipush C 5 dX7_init_5 kb_6 ?_
  refine m_newa (ty := .int) (N := 6) (a0 := (6, .inl (fun _ => 0))) C 7 1 rfl tw_142 rfl (fun _ h => h) (fun _ => rfl) (by decide) rfl (Nat.le_of_ble_eq_true rfl) (Nat.le_of_ble_eq_true rfl) (Nat.le_of_ble_eq_true rfl) dX7_init_7 (fun q7 => ?_)
  refine m_putF (ty := .array .int) (fs' := [.int 0, .int 0, .int 0, .int 0, .int 0, .ref q7, .null, .null, .null, .null, .null, .null, .null, .int 0]) C hi 9 (show vwCl[7]? = some (RX7, TX7, 14) from rfl) in_X7 tyX7 tyX7_ok nmX7 5 (Nat.le_of_ble_eq_true rfl) tw_88 rfl rfl rfl (by decide +kernel) rfl rfl (Nat.le_of_ble_eq_true rfl) rfl dX7_init_9 ?_
  refine n_aload_n C 12 0 dX7_init_12 rfl ?_
  refine n_bipush C 13 dX7_init_13 kb_6 ?_
  refine m_newa (ty := .boolean) (N := 6) (a0 := (6, .inl (fun _ => 0))) C 15 3 rfl tw_143 rfl (fun _ h => h) (fun _ => rfl) (by decide) rfl (Nat.le_of_ble_eq_true rfl) (Nat.le_of_ble_eq_true rfl) (Nat.le_of_ble_eq_true rfl) dX7_init_15 (fun q15 => ?_)
  refine m_putF (ty := .array .boolean) (fs' := [.int 0, .int 0, .int 0, .int 0, .int 0, .ref q7, .ref q15, .null, .null, .null, .null, .null, .null, .int 0]) C hi 17 (show vwCl[7]? = some (RX7, TX7, 14) from rfl) in_X7 tyX7 tyX7_ok nmX7 6 (Nat.le_of_ble_eq_true rfl) tw_91 rfl rfl rfl (by decide +kernel) rfl rfl (Nat.le_of_ble_eq_true rfl) rfl dX7_init_17 ?_
  refine n_aload_n C 20 0 dX7_init_20 rfl ?_
  refine n_bipush C 21 dX7_init_21 kb_6 ?_
  refine m_newa (ty := .int) (N := 6) (a0 := (6, .inl (fun _ => 0))) C 23 1 rfl tw_142 rfl (fun _ h => h) (fun _ => rfl) (by decide) rfl (Nat.le_of_ble_eq_true rfl) (Nat.le_of_ble_eq_true rfl) (Nat.le_of_ble_eq_true rfl) dX7_init_23 (fun q23 => ?_)
  refine m_putF (ty := .array .int) (fs' := [.int 0, .int 0, .int 0, .int 0, .int 0, .ref q7, .ref q15, .ref q23, .null, .null, .null, .null, .null, .int 0]) C hi 25 (show vwCl[7]? = some (RX7, TX7, 14) from rfl) in_X7 tyX7 tyX7_ok nmX7 7 (Nat.le_of_ble_eq_true rfl) tw_94 rfl rfl rfl (by decide +kernel) rfl rfl (Nat.le_of_ble_eq_true rfl) rfl dX7_init_25 ?_
  refine n_aload_n C 28 0 dX7_init_28 rfl ?_
  refine n_bipush C 29 dX7_init_29 kb_6 ?_
  refine m_newa (ty := .int) (N := 6) (a0 := (6, .inl (fun _ => 0))) C 31 1 rfl tw_142 rfl (fun _ h => h) (fun _ => rfl) (by decide) rfl (Nat.le_of_ble_eq_true rfl) (Nat.le_of_ble_eq_true rfl) (Nat.le_of_ble_eq_true rfl) dX7_init_31 (fun q31 => ?_)
  refine m_putF (ty := .array .int) (fs' := [.int 0, .int 0, .int 0, .int 0, .int 0, .ref q7, .ref q15, .ref q23, .ref q31, .null, .null, .null, .null, .int 0]) C hi 33 (show vwCl[7]? = some (RX7, TX7, 14) from rfl) in_X7 tyX7 tyX7_ok nmX7 8 (Nat.le_of_ble_eq_true rfl) tw_97 rfl rfl rfl (by decide +kernel) rfl rfl (Nat.le_of_ble_eq_true rfl) rfl dX7_init_33 ?_
  refine n_aload_n C 36 0 dX7_init_36 rfl ?_
  refine n_bipush C 37 dX7_init_37 kb_24 ?_
  refine m_newa (ty := .int) (N := 24) (a0 := (24, .inl (fun _ => 0))) C 39 1 rfl tw_142 rfl (fun _ h => h) (fun _ => rfl) (by decide) rfl (Nat.le_of_ble_eq_true rfl) (Nat.le_of_ble_eq_true rfl) (Nat.le_of_ble_eq_true rfl) dX7_init_39 (fun q39 => ?_)
  refine m_putF (ty := .array .int) (fs' := [.int 0, .int 0, .int 0, .int 0, .int 0, .ref q7, .ref q15, .ref q23, .ref q31, .ref q39, .null, .null, .null, .int 0]) C hi 41 (show vwCl[7]? = some (RX7, TX7, 14) from rfl) in_X7 tyX7 tyX7_ok nmX7 9 (Nat.le_of_ble_eq_true rfl) tw_100 rfl rfl rfl (by decide +kernel) rfl rfl (Nat.le_of_ble_eq_true rfl) rfl dX7_init_41 ?_
  refine n_aload_n C 44 0 dX7_init_44 rfl ?_
  refine n_bipush C 45 dX7_init_45 kb_24 ?_
  refine m_newa (ty := .int) (N := 24) (a0 := (24, .inl (fun _ => 0))) C 47 1 rfl tw_142 rfl (fun _ h => h) (fun _ => rfl) (by decide) rfl (Nat.le_of_ble_eq_true rfl) (Nat.le_of_ble_eq_true rfl) (Nat.le_of_ble_eq_true rfl) dX7_init_47 (fun q47 => ?_)
  refine m_putF (ty := .array .int) (fs' := [.int 0, .int 0, .int 0, .int 0, .int 0, .ref q7, .ref q15, .ref q23, .ref q31, .ref q39, .ref q47, .null, .null, .int 0]) C hi 49 (show vwCl[7]? = some (RX7, TX7, 14) from rfl) in_X7 tyX7 tyX7_ok nmX7 10 (Nat.le_of_ble_eq_true rfl) tw_103 rfl rfl rfl (by decide +kernel) rfl rfl (Nat.le_of_ble_eq_true rfl) rfl dX7_init_49 ?_
  refine n_aload_n C 52 0 dX7_init_52 rfl ?_
  refine n_sipush C 53 dX7_init_53 ks_400 ?_
  refine m_newa (ty := .int) (N := 400) (a0 := (400, .inl (fun _ => 0))) C 56 1 rfl tw_142 rfl (fun _ h => h) (fun _ => rfl) (by decide) rfl (Nat.le_of_ble_eq_true rfl) (Nat.le_of_ble_eq_true rfl) (Nat.le_of_ble_eq_true rfl) dX7_init_56 (fun q56 => ?_)
  refine m_putF (ty := .array .int) (fs' := [.int 0, .int 0, .int 0, .int 0, .int 0, .ref q7, .ref q15, .ref q23, .ref q31, .ref q39, .ref q47, .ref q56, .null, .int 0]) C hi 58 (show vwCl[7]? = some (RX7, TX7, 14) from rfl) in_X7 tyX7 tyX7_ok nmX7 11 (Nat.le_of_ble_eq_true rfl) tw_106 rfl rfl rfl (by decide +kernel) rfl rfl (Nat.le_of_ble_eq_true rfl) rfl dX7_init_58 ?_
  refine n_aload_n C 61 0 dX7_init_61 rfl ?_
  refine n_sipush C 62 dX7_init_62 ks_400 ?_
  refine m_newa (ty := .int) (N := 400) (a0 := (400, .inl (fun _ => 0))) C 65 1 rfl tw_142 rfl (fun _ h => h) (fun _ => rfl) (by decide) rfl (Nat.le_of_ble_eq_true rfl) (Nat.le_of_ble_eq_true rfl) (Nat.le_of_ble_eq_true rfl) dX7_init_65 (fun q65 => ?_)
  refine m_putF (ty := .array .int) (fs' := [.int 0, .int 0, .int 0, .int 0, .int 0, .ref q7, .ref q15, .ref q23, .ref q31, .ref q39, .ref q47, .ref q56, .ref q65, .int 0]) C hi 67 (show vwCl[7]? = some (RX7, TX7, 14) from rfl) in_X7 tyX7 tyX7_ok nmX7 12 (Nat.le_of_ble_eq_true rfl) tw_108 rfl rfl rfl (by decide +kernel) rfl rfl (Nat.le_of_ble_eq_true rfl) rfl dX7_init_67 ?_
  refine n_aload_n C 70 0 dX7_init_70 rfl ?_
  refine n_iconst C 71 dX7_init_71 ki_3 ?_
  refine m_put (ty := .int) (fs' := [.int (3 : Int32), .int 0, .int 0, .int 0, .int 0, .ref q7, .ref q15, .ref q23, .ref q31, .ref q39, .ref q47, .ref q56, .ref q65, .int 0]) C 72 (show vwCl[7]? = some (RX7, TX7, 14) from rfl) in_X7 tyX7 tyX7_ok nmX7 0 (Nat.le_of_ble_eq_true rfl) tw_72 rfl rfl (by decide +kernel) rfl rfl (Nat.le_of_ble_eq_true rfl) rfl dX7_init_72 ?_
  exact n_ret (fun j => if j = 0 then q7 else if j = 1 then q15 else if j = 2 then q23 else if j = 3 then q31 else if j = 4 then q39 else if j = 5 then q47 else if j = 6 then q56 else if j = 7 then q65 else 0) C hi.2 (fun _ h => h) (fun h => h) (Nat.le_of_ble_eq_true rfl) (Nat.le_of_ble_eq_true rfl) 75 dX7_init_75
def nw_X3 (cy : Nat → ClassId) (h0 : Nat) (t1 : Nat) (u : Nat → Nat) : va_W := (h0, .inr (3, [.ref (u 0), .ref (u 4), .ref (u 5), .int 0, .ref (u 6), .int 0, .ref t1, .int 0, .int (-1 : Int32), .int 0, .int 0])) :: ((u 6, .inl (cy 1, 32, .inl (fun _ => 0))) :: ((u 5, .inl (cy 1, 12, .inl (fun _ => 0))) :: ((u 4, .inl (cy 2, 12, .inr (.inl (fun _ => 0)))) :: (nw_X6 cy (u 0) (fun j => u (j + 1)) ++ ([] : va_W)))))
set_option maxRecDepth 100000 in
set_option maxHeartbeats 4000000 in
theorem i_X3 (l : Launch) (D : va_G) (cy : Nat → ClassId) (h0 : Nat) (t1 : Nat) : Cn l D cy yX3_init cX3_init 2 2 32 7 1268 h0 [.ref t1] (.inr (3, [.null, .null, .null, .int 0, .null, .int 0, .null, .int 0, .int 0, .int 0, .int 0])) (fun _ _ => True) (fun u => nw_X3 cy h0 t1 u) := by
  refine Cn_intro (own := RX3) (by decide +kernel) rfl rfl (Nat.le_of_ble_eq_true rfl) [(0, .ref h0), (1, .ref t1)] rfl (fun p e R s m args below meth c C hi hX hh => ?_)
  refine n_aload_n C 0 0 dX3_init_0 rfl ?_
  refine n_objInit C 1 tw_149 tw_64 tw_65 (Nat.le_of_ble_eq_true rfl) (Nat.le_of_ble_eq_true rfl) dX3_init_1 ?_
  refine n_aload_n C 4 0 dX3_init_4 rfl ?_
  refine m_new (ci := 6) (fs := [.null, .null, .null, .int 0, .int 0, .int 0]) C 5 in_X6 tyX6 tyX6_ok tw_150 tw_151 tw_42 rfl df_X6 (Nat.le_of_ble_eq_true rfl) (Nat.le_of_ble_eq_true rfl) dX3_init_5 (fun q5 => ?_)
  refine n_dup C 8 dX3_init_8 rfl ?_
  refine m_initN (rest := [.ref q5, .ref h0]) C 9 [] (host := RX8) (by simp [NWl]) mw_X6 tw_153 rfl (i_X6 (Kl _) D cy q5 ) (Nat.le_of_ble_eq_true rfl) (Nat.le_of_ble_eq_true rfl) (Nat.le_of_ble_eq_true rfl) (Nat.le_of_ble_eq_true rfl) (Nat.le_of_ble_eq_true rfl) rfl dX3_init_9 (fun u5 => ?_)
  refine m_putF (ty := .object "TentativeDesk$Tokens") (fs' := [.ref q5, .null, .null, .int 0, .null, .int 0, .null, .int 0, .int 0, .int 0, .int 0]) C hi 12 (show vwCl[3]? = some (RX3, TX3, 11) from rfl) in_X3 tyX3 tyX3_ok nmX3 0 (Nat.le_of_ble_eq_true rfl) tw_176 rfl rfl rfl (by decide +kernel) rfl rfl (Nat.le_of_ble_eq_true rfl) rfl dX3_init_12 ?_
  refine n_aload_n C 15 0 dX3_init_15 rfl ?_
  refine n_bipush C 16 dX3_init_16 kb_12 ?_
  refine m_newa (ty := .long) (N := 12) (a0 := (12, .inr (.inl (fun _ => 0)))) C 18 2 rfl tw_175 rfl (fun _ h => h) (fun _ => rfl) (by decide) rfl (Nat.le_of_ble_eq_true rfl) (Nat.le_of_ble_eq_true rfl) (Nat.le_of_ble_eq_true rfl) dX3_init_18 (fun q18 => ?_)
  refine m_putF (ty := .array .long) (fs' := [.ref q5, .ref q18, .null, .int 0, .null, .int 0, .null, .int 0, .int 0, .int 0, .int 0]) C hi 20 (show vwCl[3]? = some (RX3, TX3, 11) from rfl) in_X3 tyX3 tyX3_ok nmX3 1 (Nat.le_of_ble_eq_true rfl) tw_177 rfl rfl rfl (by decide +kernel) rfl rfl (Nat.le_of_ble_eq_true rfl) rfl dX3_init_20 ?_
  refine n_aload_n C 23 0 dX3_init_23 rfl ?_
  refine n_bipush C 24 dX3_init_24 kb_12 ?_
  refine m_newa (ty := .int) (N := 12) (a0 := (12, .inl (fun _ => 0))) C 26 1 rfl tw_142 rfl (fun _ h => h) (fun _ => rfl) (by decide) rfl (Nat.le_of_ble_eq_true rfl) (Nat.le_of_ble_eq_true rfl) (Nat.le_of_ble_eq_true rfl) dX3_init_26 (fun q26 => ?_)
  refine m_putF (ty := .array .int) (fs' := [.ref q5, .ref q18, .ref q26, .int 0, .null, .int 0, .null, .int 0, .int 0, .int 0, .int 0]) C hi 28 (show vwCl[3]? = some (RX3, TX3, 11) from rfl) in_X3 tyX3 tyX3_ok nmX3 2 (Nat.le_of_ble_eq_true rfl) tw_178 rfl rfl rfl (by decide +kernel) rfl rfl (Nat.le_of_ble_eq_true rfl) rfl dX3_init_28 ?_
  refine n_aload_n C 31 0 dX3_init_31 rfl ?_
  refine n_bipush C 32 dX3_init_32 kb_32 ?_
  refine m_newa (ty := .int) (N := 32) (a0 := (32, .inl (fun _ => 0))) C 34 1 rfl tw_142 rfl (fun _ h => h) (fun _ => rfl) (by decide) rfl (Nat.le_of_ble_eq_true rfl) (Nat.le_of_ble_eq_true rfl) (Nat.le_of_ble_eq_true rfl) dX3_init_34 (fun q34 => ?_)
  refine m_putF (ty := .array .int) (fs' := [.ref q5, .ref q18, .ref q26, .int 0, .ref q34, .int 0, .null, .int 0, .int 0, .int 0, .int 0]) C hi 36 (show vwCl[3]? = some (RX3, TX3, 11) from rfl) in_X3 tyX3 tyX3_ok nmX3 4 (Nat.le_of_ble_eq_true rfl) tw_180 rfl rfl rfl (by decide +kernel) rfl rfl (Nat.le_of_ble_eq_true rfl) rfl dX3_init_36 ?_
  refine n_aload_n C 39 0 dX3_init_39 rfl ?_
  refine n_aload_n C 40 1 dX3_init_40 rfl ?_
  refine m_put (ty := .object "TentativeDesk$Told") (fs' := [.ref q5, .ref q18, .ref q26, .int 0, .ref q34, .int 0, .ref t1, .int 0, .int 0, .int 0, .int 0]) C 41 (show vwCl[3]? = some (RX3, TX3, 11) from rfl) in_X3 tyX3 tyX3_ok nmX3 6 (Nat.le_of_ble_eq_true rfl) tw_182 rfl rfl (by decide +kernel) rfl rfl (Nat.le_of_ble_eq_true rfl) rfl dX3_init_41 ?_
  refine n_aload_n C 44 0 dX3_init_44 rfl ?_
  refine n_iconst C 45 dX3_init_45 ki_m1 ?_
  refine m_put (ty := .int) (fs' := [.ref q5, .ref q18, .ref q26, .int 0, .ref q34, .int 0, .ref t1, .int 0, .int (-1 : Int32), .int 0, .int 0]) C 46 (show vwCl[3]? = some (RX3, TX3, 11) from rfl) in_X3 tyX3 tyX3_ok nmX3 8 (Nat.le_of_ble_eq_true rfl) tw_184 rfl rfl (by decide +kernel) rfl rfl (Nat.le_of_ble_eq_true rfl) rfl dX3_init_46 ?_
  exact n_ret (fun j => if j = 0 then q5 else if j < 4 then u5 (j - 1) else if j = 4 then q18 else if j = 5 then q26 else if j = 6 then q34 else 0) C hi.2 (fun _ h => h) (fun h => h) (Nat.le_of_ble_eq_true rfl) (Nat.le_of_ble_eq_true rfl) 49 dX3_init_49
def nw_X4 (cy : Nat → ClassId) (h0 : Nat) (u : Nat → Nat) : va_W := (h0, .inr (4, [.ref (u 0), .ref (u 2), .int 0, .ref (u 3), .ref (u 4), .ref (u 5), .ref (u 6), .int 0, .int 0])) :: ((u 6, .inl (cy 1, 6, .inl (fun _ => 0))) :: ((u 5, .inl (cy 1, 366, .inl (fun _ => 0))) :: ((u 4, .inl (cy 1, 60, .inl (fun _ => 0))) :: ((u 3, .inl (cy 1, 60, .inl (fun _ => 0))) :: ((u 2, .inl (cy 1, 60, .inl (fun _ => 0))) :: (nw_X0 cy (u 0) (fun j => u (j + 1)) ++ ([] : va_W)))))))
set_option maxRecDepth 100000 in
set_option maxHeartbeats 4000000 in
theorem i_X4 (l : Launch) (D : va_G) (cy : Nat → ClassId) (h0 : Nat) : Cn l D cy yX4_init cX4_init 1 2 32 7 588 h0 [] (.inr (4, [.null, .null, .int 0, .null, .null, .null, .null, .int 0, .int 0])) (fun _ _ => True) (fun u => nw_X4 cy h0 u) := by
  refine Cn_intro (own := RX4) (by decide +kernel) rfl rfl (Nat.le_of_ble_eq_true rfl) [(0, .ref h0)] rfl (fun p e R s m args below meth c C hi hX hh => ?_)
  refine n_aload_n C 0 0 dX4_init_0 rfl ?_
  refine n_objInit C 1 tw_275 tw_64 tw_65 (Nat.le_of_ble_eq_true rfl) (Nat.le_of_ble_eq_true rfl) dX4_init_1 ?_
  refine n_aload_n C 4 0 dX4_init_4 rfl ?_
  refine m_new (ci := 0) (fs := [.null, .int 0, .int 0, .int 0]) C 5 in_X0 tyX0 tyX0_ok tw_276 tw_277 tw_46 rfl df_X0 (Nat.le_of_ble_eq_true rfl) (Nat.le_of_ble_eq_true rfl) dX4_init_5 (fun q5 => ?_)
  refine n_dup C 8 dX4_init_8 rfl ?_
  refine m_initN (rest := [.ref q5, .ref h0]) C 9 [] (host := RX8) (by simp [NWl]) mw_X0 tw_279 rfl (i_X0 (Kl _) D cy q5 ) (Nat.le_of_ble_eq_true rfl) (Nat.le_of_ble_eq_true rfl) (Nat.le_of_ble_eq_true rfl) (Nat.le_of_ble_eq_true rfl) (Nat.le_of_ble_eq_true rfl) rfl dX4_init_9 (fun u5 => ?_)
  refine m_putF (ty := .object "TentativeDesk$Doer") (fs' := [.ref q5, .null, .int 0, .null, .null, .null, .null, .int 0, .int 0]) C hi 12 (show vwCl[4]? = some (RX4, TX4, 9) from rfl) in_X4 tyX4 tyX4_ok nmX4 0 (Nat.le_of_ble_eq_true rfl) tw_296 rfl rfl rfl (by decide +kernel) rfl rfl (Nat.le_of_ble_eq_true rfl) rfl dX4_init_12 ?_
  refine n_aload_n C 15 0 dX4_init_15 rfl ?_
  refine n_bipush C 16 dX4_init_16 kb_60 ?_
  refine m_newa (ty := .int) (N := 60) (a0 := (60, .inl (fun _ => 0))) C 18 1 rfl tw_142 rfl (fun _ h => h) (fun _ => rfl) (by decide) rfl (Nat.le_of_ble_eq_true rfl) (Nat.le_of_ble_eq_true rfl) (Nat.le_of_ble_eq_true rfl) dX4_init_18 (fun q18 => ?_)
  refine m_putF (ty := .array .int) (fs' := [.ref q5, .ref q18, .int 0, .null, .null, .null, .null, .int 0, .int 0]) C hi 20 (show vwCl[4]? = some (RX4, TX4, 9) from rfl) in_X4 tyX4 tyX4_ok nmX4 1 (Nat.le_of_ble_eq_true rfl) tw_297 rfl rfl rfl (by decide +kernel) rfl rfl (Nat.le_of_ble_eq_true rfl) rfl dX4_init_20 ?_
  refine n_aload_n C 23 0 dX4_init_23 rfl ?_
  refine n_bipush C 24 dX4_init_24 kb_60 ?_
  refine m_newa (ty := .int) (N := 60) (a0 := (60, .inl (fun _ => 0))) C 26 1 rfl tw_142 rfl (fun _ h => h) (fun _ => rfl) (by decide) rfl (Nat.le_of_ble_eq_true rfl) (Nat.le_of_ble_eq_true rfl) (Nat.le_of_ble_eq_true rfl) dX4_init_26 (fun q26 => ?_)
  refine m_putF (ty := .array .int) (fs' := [.ref q5, .ref q18, .int 0, .ref q26, .null, .null, .null, .int 0, .int 0]) C hi 28 (show vwCl[4]? = some (RX4, TX4, 9) from rfl) in_X4 tyX4 tyX4_ok nmX4 3 (Nat.le_of_ble_eq_true rfl) tw_301 rfl rfl rfl (by decide +kernel) rfl rfl (Nat.le_of_ble_eq_true rfl) rfl dX4_init_28 ?_
  refine n_aload_n C 31 0 dX4_init_31 rfl ?_
  refine n_bipush C 32 dX4_init_32 kb_60 ?_
  refine m_newa (ty := .int) (N := 60) (a0 := (60, .inl (fun _ => 0))) C 34 1 rfl tw_142 rfl (fun _ h => h) (fun _ => rfl) (by decide) rfl (Nat.le_of_ble_eq_true rfl) (Nat.le_of_ble_eq_true rfl) (Nat.le_of_ble_eq_true rfl) dX4_init_34 (fun q34 => ?_)
  refine m_putF (ty := .array .int) (fs' := [.ref q5, .ref q18, .int 0, .ref q26, .ref q34, .null, .null, .int 0, .int 0]) C hi 36 (show vwCl[4]? = some (RX4, TX4, 9) from rfl) in_X4 tyX4 tyX4_ok nmX4 4 (Nat.le_of_ble_eq_true rfl) tw_302 rfl rfl rfl (by decide +kernel) rfl rfl (Nat.le_of_ble_eq_true rfl) rfl dX4_init_36 ?_
  refine n_aload_n C 39 0 dX4_init_39 rfl ?_
  refine n_sipush C 40 dX4_init_40 ks_366 ?_
  refine m_newa (ty := .int) (N := 366) (a0 := (366, .inl (fun _ => 0))) C 43 1 rfl tw_142 rfl (fun _ h => h) (fun _ => rfl) (by decide) rfl (Nat.le_of_ble_eq_true rfl) (Nat.le_of_ble_eq_true rfl) (Nat.le_of_ble_eq_true rfl) dX4_init_43 (fun q43 => ?_)
  refine m_putF (ty := .array .int) (fs' := [.ref q5, .ref q18, .int 0, .ref q26, .ref q34, .ref q43, .null, .int 0, .int 0]) C hi 45 (show vwCl[4]? = some (RX4, TX4, 9) from rfl) in_X4 tyX4 tyX4_ok nmX4 5 (Nat.le_of_ble_eq_true rfl) tw_303 rfl rfl rfl (by decide +kernel) rfl rfl (Nat.le_of_ble_eq_true rfl) rfl dX4_init_45 ?_
  refine n_aload_n C 48 0 dX4_init_48 rfl ?_
  refine n_bipush C 49 dX4_init_49 kb_6 ?_
  refine m_newa (ty := .int) (N := 6) (a0 := (6, .inl (fun _ => 0))) C 51 1 rfl tw_142 rfl (fun _ h => h) (fun _ => rfl) (by decide) rfl (Nat.le_of_ble_eq_true rfl) (Nat.le_of_ble_eq_true rfl) (Nat.le_of_ble_eq_true rfl) dX4_init_51 (fun q51 => ?_)
  refine m_putF (ty := .array .int) (fs' := [.ref q5, .ref q18, .int 0, .ref q26, .ref q34, .ref q43, .ref q51, .int 0, .int 0]) C hi 53 (show vwCl[4]? = some (RX4, TX4, 9) from rfl) in_X4 tyX4 tyX4_ok nmX4 6 (Nat.le_of_ble_eq_true rfl) tw_304 rfl rfl rfl (by decide +kernel) rfl rfl (Nat.le_of_ble_eq_true rfl) rfl dX4_init_53 ?_
  exact n_ret (fun j => if j = 0 then q5 else if j < 2 then u5 (j - 1) else if j = 2 then q18 else if j = 3 then q26 else if j = 4 then q34 else if j = 5 then q43 else if j = 6 then q51 else 0) C hi.2 (fun _ h => h) (fun h => h) (Nat.le_of_ble_eq_true rfl) (Nat.le_of_ble_eq_true rfl) 56 dX4_init_56
