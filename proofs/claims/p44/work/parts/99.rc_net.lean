/-! the Net's methods, as it is at first -/
theorem tw_1164 : Cond.classLink RN9 23 "[I" ∈ gw_tbl := gw_mem 1164 (by decide +kernel) (by decide +kernel)
theorem tw_1168 : Cond.fieldLink RN9 7 "TentativeDeskLaw$Net" (TN9 0).2.1 (TN9 0).2.2.1 ∈ gw_tbl := gw_mem 1168 (by decide +kernel) (by decide +kernel)
theorem tw_1174 : Cond.fieldLink RN9 79 "TentativeDeskLaw$Net" (TN9 4).2.1 (TN9 4).2.2.1 ∈ gw_tbl := gw_mem 1174 (by decide +kernel) (by decide +kernel)
theorem tw_1179 : Cond.fieldLink RN9 13 "TentativeDeskLaw$Net" (TN9 8).2.1 (TN9 8).2.2.1 ∈ gw_tbl := gw_mem 1179 (by decide +kernel) (by decide +kernel)
theorem tw_1186 : Cond.fieldLink RN9 30 "TentativeDeskLaw$Net" (TN9 12).2.1 (TN9 12).2.2.1 ∈ gw_tbl := gw_mem 1186 (by decide +kernel) (by decide +kernel)
theorem tw_1317 : Cond.instanceMethod yN9_log ∈ gw_tbl := gw_mem 1317 (by decide +kernel) (by decide +kernel)
theorem tw_1318 : Cond.selects RN9 yN9_log yN9_log ∈ gw_tbl := gw_mem 1318 (by decide +kernel) (by decide +kernel)
theorem tw_1319 : Cond.code yN9_log cN9_log 6 (some (.array .int)) ∈ gw_tbl := gw_mem 1319 (by decide +kernel) (by decide +kernel)
theorem tw_1320 : Cond.methodLink RN9 109 yN9_many ∈ gw_tbl := gw_mem 1320 (by decide +kernel) (by decide +kernel)
theorem tw_1321 : Cond.instanceMethod yN9_many ∈ gw_tbl := gw_mem 1321 (by decide +kernel) (by decide +kernel)
theorem tw_1322 : Cond.selects RN9 yN9_many yN9_many ∈ gw_tbl := gw_mem 1322 (by decide +kernel) (by decide +kernel)
theorem tw_1323 : Cond.code yN9_many cN9_many 4 (some .int) ∈ gw_tbl := gw_mem 1323 (by decide +kernel) (by decide +kernel)
theorem tw_1329 : Cond.instanceMethod yN9_done_ ∈ gw_tbl := gw_mem 1329 (by decide +kernel) (by decide +kernel)
theorem tw_1330 : Cond.selects RN9 yN9_done_ yN9_done_ ∈ gw_tbl := gw_mem 1330 (by decide +kernel) (by decide +kernel)
theorem tw_1331 : Cond.code yN9_done_ cN9_done_ 3 (some (.array (.array .int))) ∈ gw_tbl := gw_mem 1331 (by decide +kernel) (by decide +kernel)
theorem tw_1332 : Cond.methodLink RN9 125 yN9_log ∈ gw_tbl := gw_mem 1332 (by decide +kernel) (by decide +kernel)
theorem tw_1333 : Cond.methodLink RN9 128 yN9_done ∈ gw_tbl := gw_mem 1333 (by decide +kernel) (by decide +kernel)
theorem tw_1334 : Cond.instanceMethod yN9_done ∈ gw_tbl := gw_mem 1334 (by decide +kernel) (by decide +kernel)
theorem tw_1335 : Cond.selects RN9 yN9_done yN9_done ∈ gw_tbl := gw_mem 1335 (by decide +kernel) (by decide +kernel)
theorem tw_1336 : Cond.code yN9_done cN9_done 14 (some (.array (.array .int))) ∈ gw_tbl := gw_mem 1336 (by decide +kernel) (by decide +kernel)
theorem tw_1337 : Cond.methodLink RN9 91 ⟨"[I", "clone", "()Ljava/lang/Object;"⟩ ∈ gw_tbl := gw_mem 1337 (by decide +kernel) (by decide +kernel)
theorem tw_1338 : Cond.sameMethod "[I" "java/lang/Object" "clone" "()Ljava/lang/Object;" ∈ gw_tbl := gw_mem 1338 (by decide +kernel) (by decide +kernel)
theorem tw_1339 : Cond.native ⟨"java/lang/Object", "clone", "()Ljava/lang/Object;"⟩ ∈ gw_tbl := gw_mem 1339 (by decide +kernel) (by decide +kernel)
theorem tw_1340 : Cond.instanceMethod ⟨"java/lang/Object", "clone", "()Ljava/lang/Object;"⟩ ∈ gw_tbl := gw_mem 1340 (by decide +kernel) (by decide +kernel)
theorem tw_1341 : Cond.selects "[I" ⟨"[I", "clone", "()Ljava/lang/Object;"⟩ ⟨"java/lang/Object", "clone", "()Ljava/lang/Object;"⟩ ∈ gw_tbl := gw_mem 1341 (by decide +kernel) (by decide +kernel)
theorem tw_1348 : Cond.instanceMethod yN9_clock ∈ gw_tbl := gw_mem 1348 (by decide +kernel) (by decide +kernel)
theorem tw_1349 : Cond.selects RN9 yN9_clock yN9_clock ∈ gw_tbl := gw_mem 1349 (by decide +kernel) (by decide +kernel)
theorem tw_1350 : Cond.code yN9_clock cN9_clock 7 (some .int) ∈ gw_tbl := gw_mem 1350 (by decide +kernel) (by decide +kernel)
theorem tw_1351 : Cond.methodLink RN9 105 yN9_vector ∈ gw_tbl := gw_mem 1351 (by decide +kernel) (by decide +kernel)
theorem tw_1352 : Cond.instanceMethod yN9_vector ∈ gw_tbl := gw_mem 1352 (by decide +kernel) (by decide +kernel)
theorem tw_1353 : Cond.selects RN9 yN9_vector yN9_vector ∈ gw_tbl := gw_mem 1353 (by decide +kernel) (by decide +kernel)
theorem tw_1354 : Cond.code yN9_vector cN9_vector 4 (some (.array .int)) ∈ gw_tbl := gw_mem 1354 (by decide +kernel) (by decide +kernel)
theorem tw_1355 : Cond.methodLink RN9 99 Lib.Math.max.name ∈ gw_tbl := gw_mem 1355 (by decide +kernel) (by decide +kernel)
theorem tw_1361 : Cond.instanceMethod yN9_sum ∈ gw_tbl := gw_mem 1361 (by decide +kernel) (by decide +kernel)
theorem tw_1362 : Cond.selects RN9 yN9_sum yN9_sum ∈ gw_tbl := gw_mem 1362 (by decide +kernel) (by decide +kernel)
theorem tw_1363 : Cond.code yN9_sum cN9_sum 7 (some .int) ∈ gw_tbl := gw_mem 1363 (by decide +kernel) (by decide +kernel)
theorem tw_1365 : Cond.instanceMethod yN9_same_ ∈ gw_tbl := gw_mem 1365 (by decide +kernel) (by decide +kernel)
theorem tw_1366 : Cond.selects RN9 yN9_same_ yN9_same_ ∈ gw_tbl := gw_mem 1366 (by decide +kernel) (by decide +kernel)
theorem tw_1367 : Cond.code yN9_same_ cN9_same_ 2 (some .boolean) ∈ gw_tbl := gw_mem 1367 (by decide +kernel) (by decide +kernel)
theorem tw_1368 : Cond.methodLink RN9 173 yN9_same ∈ gw_tbl := gw_mem 1368 (by decide +kernel) (by decide +kernel)
theorem tw_1369 : Cond.instanceMethod yN9_same ∈ gw_tbl := gw_mem 1369 (by decide +kernel) (by decide +kernel)
theorem tw_1370 : Cond.selects RN9 yN9_same yN9_same ∈ gw_tbl := gw_mem 1370 (by decide +kernel) (by decide +kernel)
theorem tw_1371 : Cond.code yN9_same cN9_same 3 (some .boolean) ∈ gw_tbl := gw_mem 1371 (by decide +kernel) (by decide +kernel)
theorem tw_1372 : Cond.methodLink RN9 170 yN9_lacks ∈ gw_tbl := gw_mem 1372 (by decide +kernel) (by decide +kernel)
theorem tw_1373 : Cond.instanceMethod yN9_lacks ∈ gw_tbl := gw_mem 1373 (by decide +kernel) (by decide +kernel)
theorem tw_1374 : Cond.selects RN9 yN9_lacks yN9_lacks ∈ gw_tbl := gw_mem 1374 (by decide +kernel) (by decide +kernel)
theorem tw_1375 : Cond.code yN9_lacks cN9_lacks 5 (some .int) ∈ gw_tbl := gw_mem 1375 (by decide +kernel) (by decide +kernel)
theorem dN9_vector_0 : decode cN9_vector 0 = .ok (.iconst 5, 1) := by decide +kernel
theorem dN9_vector_1 : decode cN9_vector 1 = .ok (.newarray .int, 2) := by decide +kernel
theorem dN9_vector_3 : decode cN9_vector 3 = .ok (.astore_n 2, 1) := by decide +kernel
theorem dN9_vector_4 : decode cN9_vector 4 = .ok (.iconst 0, 1) := by decide +kernel
theorem dN9_vector_5 : decode cN9_vector 5 = .ok (.istore_n 3, 1) := by decide +kernel
theorem dN9_vector_6 : decode cN9_vector 6 = .ok (.iload_n 3, 1) := by decide +kernel
theorem dN9_vector_7 : decode cN9_vector 7 = .ok (.aload_n 0, 1) := by decide +kernel
theorem dN9_vector_8 : decode cN9_vector 8 = .ok (.getfield 79, 3) := by decide +kernel
theorem dN9_vector_11 : decode cN9_vector 11 = .ok (.if_icmp .ge 51, 3) := by decide +kernel
theorem dN9_vector_14 : decode cN9_vector 14 = .ok (.aload_n 0, 1) := by decide +kernel
theorem dN9_vector_15 : decode cN9_vector 15 = .ok (.getfield 56, 3) := by decide +kernel
theorem dN9_vector_18 : decode cN9_vector 18 = .ok (.iload_n 1, 1) := by decide +kernel
theorem dN9_vector_19 : decode cN9_vector 19 = .ok (.aaload, 1) := by decide +kernel
theorem dN9_vector_20 : decode cN9_vector 20 = .ok (.iload_n 3, 1) := by decide +kernel
theorem dN9_vector_21 : decode cN9_vector 21 = .ok (.baload, 1) := by decide +kernel
theorem dN9_vector_22 : decode cN9_vector 22 = .ok (.ifCond .eq 34, 3) := by decide +kernel
theorem dN9_vector_25 : decode cN9_vector 25 = .ok (.aload_n 2, 1) := by decide +kernel
theorem dN9_vector_26 : decode cN9_vector 26 = .ok (.aload_n 0, 1) := by decide +kernel
theorem dN9_vector_27 : decode cN9_vector 27 = .ok (.getfield 24, 3) := by decide +kernel
theorem dN9_vector_30 : decode cN9_vector 30 = .ok (.iload_n 3, 1) := by decide +kernel
theorem dN9_vector_31 : decode cN9_vector 31 = .ok (.aaload, 1) := by decide +kernel
theorem dN9_vector_32 : decode cN9_vector 32 = .ok (.iconst 2, 1) := by decide +kernel
theorem dN9_vector_33 : decode cN9_vector 33 = .ok (.iaload, 1) := by decide +kernel
theorem dN9_vector_34 : decode cN9_vector 34 = .ok (.aload_n 2, 1) := by decide +kernel
theorem dN9_vector_35 : decode cN9_vector 35 = .ok (.aload_n 0, 1) := by decide +kernel
theorem dN9_vector_36 : decode cN9_vector 36 = .ok (.getfield 24, 3) := by decide +kernel
theorem dN9_vector_39 : decode cN9_vector 39 = .ok (.iload_n 3, 1) := by decide +kernel
theorem dN9_vector_40 : decode cN9_vector 40 = .ok (.aaload, 1) := by decide +kernel
theorem dN9_vector_41 : decode cN9_vector 41 = .ok (.iconst 2, 1) := by decide +kernel
theorem dN9_vector_42 : decode cN9_vector 42 = .ok (.iaload, 1) := by decide +kernel
theorem dN9_vector_43 : decode cN9_vector 43 = .ok (.iaload, 1) := by decide +kernel
theorem dN9_vector_44 : decode cN9_vector 44 = .ok (.aload_n 0, 1) := by decide +kernel
theorem dN9_vector_45 : decode cN9_vector 45 = .ok (.getfield 24, 3) := by decide +kernel
theorem dN9_vector_48 : decode cN9_vector 48 = .ok (.iload_n 3, 1) := by decide +kernel
theorem dN9_vector_49 : decode cN9_vector 49 = .ok (.aaload, 1) := by decide +kernel
theorem dN9_vector_50 : decode cN9_vector 50 = .ok (.iconst 3, 1) := by decide +kernel
theorem dN9_vector_51 : decode cN9_vector 51 = .ok (.iaload, 1) := by decide +kernel
theorem dN9_vector_52 : decode cN9_vector 52 = .ok (.invokestatic 99, 3) := by decide +kernel
theorem dN9_vector_55 : decode cN9_vector 55 = .ok (.iastore, 1) := by decide +kernel
theorem dN9_vector_56 : decode cN9_vector 56 = .ok (.iinc 3 1, 3) := by decide +kernel
theorem dN9_vector_59 : decode cN9_vector 59 = .ok (.goto (-53), 3) := by decide +kernel
theorem dN9_vector_62 : decode cN9_vector 62 = .ok (.aload_n 2, 1) := by decide +kernel
theorem dN9_vector_63 : decode cN9_vector 63 = .ok (.areturn, 1) := by decide +kernel
theorem dN9_clock_0 : decode cN9_clock 0 = .ok (.iconst 0, 1) := by decide +kernel
theorem dN9_clock_1 : decode cN9_clock 1 = .ok (.istore_n 2, 1) := by decide +kernel
theorem dN9_clock_2 : decode cN9_clock 2 = .ok (.aload_n 0, 1) := by decide +kernel
theorem dN9_clock_3 : decode cN9_clock 3 = .ok (.iload_n 1, 1) := by decide +kernel
theorem dN9_clock_4 : decode cN9_clock 4 = .ok (.invokevirtual 105, 3) := by decide +kernel
theorem dN9_clock_7 : decode cN9_clock 7 = .ok (.astore_n 3, 1) := by decide +kernel
theorem dN9_clock_8 : decode cN9_clock 8 = .ok (.aload_n 3, 1) := by decide +kernel
theorem dN9_clock_9 : decode cN9_clock 9 = .ok (.arraylength, 1) := by decide +kernel
theorem dN9_clock_10 : decode cN9_clock 10 = .ok (.istore 4, 2) := by decide +kernel
theorem dN9_clock_12 : decode cN9_clock 12 = .ok (.iconst 0, 1) := by decide +kernel
theorem dN9_clock_13 : decode cN9_clock 13 = .ok (.istore 5, 2) := by decide +kernel
theorem dN9_clock_15 : decode cN9_clock 15 = .ok (.iload 5, 2) := by decide +kernel
theorem dN9_clock_17 : decode cN9_clock 17 = .ok (.iload 4, 2) := by decide +kernel
theorem dN9_clock_19 : decode cN9_clock 19 = .ok (.if_icmp .ge 22, 3) := by decide +kernel
theorem dN9_clock_22 : decode cN9_clock 22 = .ok (.aload_n 3, 1) := by decide +kernel
theorem dN9_clock_23 : decode cN9_clock 23 = .ok (.iload 5, 2) := by decide +kernel
theorem dN9_clock_25 : decode cN9_clock 25 = .ok (.iaload, 1) := by decide +kernel
theorem dN9_clock_26 : decode cN9_clock 26 = .ok (.istore 6, 2) := by decide +kernel
theorem dN9_clock_28 : decode cN9_clock 28 = .ok (.iload_n 2, 1) := by decide +kernel
theorem dN9_clock_29 : decode cN9_clock 29 = .ok (.iload 6, 2) := by decide +kernel
theorem dN9_clock_31 : decode cN9_clock 31 = .ok (.invokestatic 99, 3) := by decide +kernel
theorem dN9_clock_34 : decode cN9_clock 34 = .ok (.istore_n 2, 1) := by decide +kernel
theorem dN9_clock_35 : decode cN9_clock 35 = .ok (.iinc 5 1, 3) := by decide +kernel
theorem dN9_clock_38 : decode cN9_clock 38 = .ok (.goto (-23), 3) := by decide +kernel
theorem dN9_clock_41 : decode cN9_clock 41 = .ok (.iload_n 2, 1) := by decide +kernel
theorem dN9_clock_42 : decode cN9_clock 42 = .ok (.ireturn, 1) := by decide +kernel
theorem dN9_many_0 : decode cN9_many 0 = .ok (.iconst 0, 1) := by decide +kernel
theorem dN9_many_1 : decode cN9_many 1 = .ok (.istore_n 2, 1) := by decide +kernel
theorem dN9_many_2 : decode cN9_many 2 = .ok (.iconst 0, 1) := by decide +kernel
theorem dN9_many_3 : decode cN9_many 3 = .ok (.istore_n 3, 1) := by decide +kernel
theorem dN9_many_4 : decode cN9_many 4 = .ok (.iload_n 3, 1) := by decide +kernel
theorem dN9_many_5 : decode cN9_many 5 = .ok (.aload_n 0, 1) := by decide +kernel
theorem dN9_many_6 : decode cN9_many 6 = .ok (.getfield 79, 3) := by decide +kernel
theorem dN9_many_9 : decode cN9_many 9 = .ok (.if_icmp .ge 23, 3) := by decide +kernel
theorem dN9_many_12 : decode cN9_many 12 = .ok (.aload_n 0, 1) := by decide +kernel
theorem dN9_many_13 : decode cN9_many 13 = .ok (.getfield 56, 3) := by decide +kernel
theorem dN9_many_16 : decode cN9_many 16 = .ok (.iload_n 1, 1) := by decide +kernel
theorem dN9_many_17 : decode cN9_many 17 = .ok (.aaload, 1) := by decide +kernel
theorem dN9_many_18 : decode cN9_many 18 = .ok (.iload_n 3, 1) := by decide +kernel
theorem dN9_many_19 : decode cN9_many 19 = .ok (.baload, 1) := by decide +kernel
theorem dN9_many_20 : decode cN9_many 20 = .ok (.ifCond .eq 6, 3) := by decide +kernel
theorem dN9_many_23 : decode cN9_many 23 = .ok (.iinc 2 1, 3) := by decide +kernel
theorem dN9_many_26 : decode cN9_many 26 = .ok (.iinc 3 1, 3) := by decide +kernel
theorem dN9_many_29 : decode cN9_many 29 = .ok (.goto (-25), 3) := by decide +kernel
theorem dN9_many_32 : decode cN9_many 32 = .ok (.iload_n 2, 1) := by decide +kernel
theorem dN9_many_33 : decode cN9_many 33 = .ok (.ireturn, 1) := by decide +kernel
theorem dN9_log_0 : decode cN9_log 0 = .ok (.aload_n 0, 1) := by decide +kernel
theorem dN9_log_1 : decode cN9_log 1 = .ok (.iload_n 1, 1) := by decide +kernel
theorem dN9_log_2 : decode cN9_log 2 = .ok (.invokevirtual 109, 3) := by decide +kernel
theorem dN9_log_5 : decode cN9_log 5 = .ok (.newarray .int, 2) := by decide +kernel
theorem dN9_log_7 : decode cN9_log 7 = .ok (.astore_n 2, 1) := by decide +kernel
theorem dN9_log_8 : decode cN9_log 8 = .ok (.iconst 0, 1) := by decide +kernel
theorem dN9_log_9 : decode cN9_log 9 = .ok (.istore_n 3, 1) := by decide +kernel
theorem dN9_log_10 : decode cN9_log 10 = .ok (.iload_n 3, 1) := by decide +kernel
theorem dN9_log_11 : decode cN9_log 11 = .ok (.aload_n 0, 1) := by decide +kernel
theorem dN9_log_12 : decode cN9_log 12 = .ok (.getfield 30, 3) := by decide +kernel
theorem dN9_log_15 : decode cN9_log 15 = .ok (.iload_n 1, 1) := by decide +kernel
theorem dN9_log_16 : decode cN9_log 16 = .ok (.iaload, 1) := by decide +kernel
theorem dN9_log_17 : decode cN9_log 17 = .ok (.if_icmp .ge 18, 3) := by decide +kernel
theorem dN9_log_20 : decode cN9_log 20 = .ok (.aload_n 2, 1) := by decide +kernel
theorem dN9_log_21 : decode cN9_log 21 = .ok (.iload_n 3, 1) := by decide +kernel
theorem dN9_log_22 : decode cN9_log 22 = .ok (.aload_n 0, 1) := by decide +kernel
theorem dN9_log_23 : decode cN9_log 23 = .ok (.getfield 27, 3) := by decide +kernel
theorem dN9_log_26 : decode cN9_log 26 = .ok (.iload_n 3, 1) := by decide +kernel
theorem dN9_log_27 : decode cN9_log 27 = .ok (.iaload, 1) := by decide +kernel
theorem dN9_log_28 : decode cN9_log 28 = .ok (.iastore, 1) := by decide +kernel
theorem dN9_log_29 : decode cN9_log 29 = .ok (.iinc 3 1, 3) := by decide +kernel
theorem dN9_log_32 : decode cN9_log 32 = .ok (.goto (-22), 3) := by decide +kernel
theorem dN9_log_35 : decode cN9_log 35 = .ok (.iconst 0, 1) := by decide +kernel
theorem dN9_log_36 : decode cN9_log 36 = .ok (.istore_n 3, 1) := by decide +kernel
theorem dN9_log_37 : decode cN9_log 37 = .ok (.iload_n 3, 1) := by decide +kernel
theorem dN9_log_38 : decode cN9_log 38 = .ok (.aload_n 0, 1) := by decide +kernel
theorem dN9_log_39 : decode cN9_log 39 = .ok (.getfield 79, 3) := by decide +kernel
theorem dN9_log_42 : decode cN9_log 42 = .ok (.if_icmp .ge 133, 3) := by decide +kernel
theorem dN9_log_45 : decode cN9_log 45 = .ok (.aload_n 0, 1) := by decide +kernel
theorem dN9_log_46 : decode cN9_log 46 = .ok (.getfield 56, 3) := by decide +kernel
theorem dN9_log_49 : decode cN9_log 49 = .ok (.iload_n 1, 1) := by decide +kernel
theorem dN9_log_50 : decode cN9_log 50 = .ok (.aaload, 1) := by decide +kernel
theorem dN9_log_51 : decode cN9_log 51 = .ok (.iload_n 3, 1) := by decide +kernel
theorem dN9_log_52 : decode cN9_log 52 = .ok (.baload, 1) := by decide +kernel
theorem dN9_log_53 : decode cN9_log 53 = .ok (.ifCond .eq 116, 3) := by decide +kernel
theorem dN9_log_56 : decode cN9_log 56 = .ok (.aload_n 0, 1) := by decide +kernel
theorem dN9_log_57 : decode cN9_log 57 = .ok (.iload_n 1, 1) := by decide +kernel
theorem dN9_log_58 : decode cN9_log 58 = .ok (.iload_n 3, 1) := by decide +kernel
theorem dN9_log_59 : decode cN9_log 59 = .ok (.invokevirtual 113, 3) := by decide +kernel
theorem dN9_log_62 : decode cN9_log 62 = .ok (.ifCond .eq 6, 3) := by decide +kernel
theorem dN9_log_65 : decode cN9_log 65 = .ok (.goto 104, 3) := by decide +kernel
theorem dN9_log_68 : decode cN9_log 68 = .ok (.aload_n 0, 1) := by decide +kernel
theorem dN9_log_69 : decode cN9_log 69 = .ok (.getfield 30, 3) := by decide +kernel
theorem dN9_log_72 : decode cN9_log 72 = .ok (.iload_n 1, 1) := by decide +kernel
theorem dN9_log_73 : decode cN9_log 73 = .ok (.iaload, 1) := by decide +kernel
theorem dN9_log_74 : decode cN9_log 74 = .ok (.istore 4, 2) := by decide +kernel
theorem dN9_log_76 : decode cN9_log 76 = .ok (.iconst 0, 1) := by decide +kernel
theorem dN9_log_77 : decode cN9_log 77 = .ok (.istore 5, 2) := by decide +kernel
theorem dN9_log_79 : decode cN9_log 79 = .ok (.iload 5, 2) := by decide +kernel
theorem dN9_log_81 : decode cN9_log 81 = .ok (.aload_n 0, 1) := by decide +kernel
theorem dN9_log_82 : decode cN9_log 82 = .ok (.getfield 79, 3) := by decide +kernel
theorem dN9_log_85 : decode cN9_log 85 = .ok (.if_icmp .ge 79, 3) := by decide +kernel
theorem dN9_log_88 : decode cN9_log 88 = .ok (.aload_n 0, 1) := by decide +kernel
theorem dN9_log_89 : decode cN9_log 89 = .ok (.getfield 56, 3) := by decide +kernel
theorem dN9_log_92 : decode cN9_log 92 = .ok (.iload_n 1, 1) := by decide +kernel
theorem dN9_log_93 : decode cN9_log 93 = .ok (.aaload, 1) := by decide +kernel
theorem dN9_log_94 : decode cN9_log 94 = .ok (.iload 5, 2) := by decide +kernel
theorem dN9_log_96 : decode cN9_log 96 = .ok (.baload, 1) := by decide +kernel
theorem dN9_log_97 : decode cN9_log 97 = .ok (.ifCond .eq 61, 3) := by decide +kernel
theorem dN9_log_100 : decode cN9_log 100 = .ok (.aload_n 0, 1) := by decide +kernel
theorem dN9_log_101 : decode cN9_log 101 = .ok (.iload_n 1, 1) := by decide +kernel
theorem dN9_log_102 : decode cN9_log 102 = .ok (.iload 5, 2) := by decide +kernel
theorem dN9_log_104 : decode cN9_log 104 = .ok (.invokevirtual 113, 3) := by decide +kernel
theorem dN9_log_107 : decode cN9_log 107 = .ok (.ifCond .ne 51, 3) := by decide +kernel
theorem dN9_log_110 : decode cN9_log 110 = .ok (.bipush 10, 2) := by decide +kernel
theorem dN9_log_112 : decode cN9_log 112 = .ok (.aload_n 0, 1) := by decide +kernel
theorem dN9_log_113 : decode cN9_log 113 = .ok (.getfield 24, 3) := by decide +kernel
theorem dN9_log_116 : decode cN9_log 116 = .ok (.iload 5, 2) := by decide +kernel
theorem dN9_log_118 : decode cN9_log 118 = .ok (.aaload, 1) := by decide +kernel
theorem dN9_log_119 : decode cN9_log 119 = .ok (.iconst 3, 1) := by decide +kernel
theorem dN9_log_120 : decode cN9_log 120 = .ok (.iaload, 1) := by decide +kernel
theorem dN9_log_121 : decode cN9_log 121 = .ok (.imul, 1) := by decide +kernel
theorem dN9_log_122 : decode cN9_log 122 = .ok (.aload_n 0, 1) := by decide +kernel
theorem dN9_log_123 : decode cN9_log 123 = .ok (.getfield 24, 3) := by decide +kernel
theorem dN9_log_126 : decode cN9_log 126 = .ok (.iload 5, 2) := by decide +kernel
theorem dN9_log_128 : decode cN9_log 128 = .ok (.aaload, 1) := by decide +kernel
theorem dN9_log_129 : decode cN9_log 129 = .ok (.iconst 2, 1) := by decide +kernel
theorem dN9_log_130 : decode cN9_log 130 = .ok (.iaload, 1) := by decide +kernel
theorem dN9_log_131 : decode cN9_log 131 = .ok (.iadd, 1) := by decide +kernel
theorem dN9_log_132 : decode cN9_log 132 = .ok (.bipush 10, 2) := by decide +kernel
theorem dN9_log_134 : decode cN9_log 134 = .ok (.aload_n 0, 1) := by decide +kernel
theorem dN9_log_135 : decode cN9_log 135 = .ok (.getfield 24, 3) := by decide +kernel
theorem dN9_log_138 : decode cN9_log 138 = .ok (.iload_n 3, 1) := by decide +kernel
theorem dN9_log_139 : decode cN9_log 139 = .ok (.aaload, 1) := by decide +kernel
theorem dN9_log_140 : decode cN9_log 140 = .ok (.iconst 3, 1) := by decide +kernel
theorem dN9_log_141 : decode cN9_log 141 = .ok (.iaload, 1) := by decide +kernel
theorem dN9_log_142 : decode cN9_log 142 = .ok (.imul, 1) := by decide +kernel
theorem dN9_log_143 : decode cN9_log 143 = .ok (.aload_n 0, 1) := by decide +kernel
theorem dN9_log_144 : decode cN9_log 144 = .ok (.getfield 24, 3) := by decide +kernel
theorem dN9_log_147 : decode cN9_log 147 = .ok (.iload_n 3, 1) := by decide +kernel
theorem dN9_log_148 : decode cN9_log 148 = .ok (.aaload, 1) := by decide +kernel
theorem dN9_log_149 : decode cN9_log 149 = .ok (.iconst 2, 1) := by decide +kernel
theorem dN9_log_150 : decode cN9_log 150 = .ok (.iaload, 1) := by decide +kernel
theorem dN9_log_151 : decode cN9_log 151 = .ok (.iadd, 1) := by decide +kernel
theorem dN9_log_152 : decode cN9_log 152 = .ok (.if_icmp .ge 6, 3) := by decide +kernel
theorem dN9_log_155 : decode cN9_log 155 = .ok (.iinc 4 1, 3) := by decide +kernel
theorem dN9_log_158 : decode cN9_log 158 = .ok (.iinc 5 1, 3) := by decide +kernel
theorem dN9_log_161 : decode cN9_log 161 = .ok (.goto (-82), 3) := by decide +kernel
theorem dN9_log_164 : decode cN9_log 164 = .ok (.aload_n 2, 1) := by decide +kernel
theorem dN9_log_165 : decode cN9_log 165 = .ok (.iload 4, 2) := by decide +kernel
theorem dN9_log_167 : decode cN9_log 167 = .ok (.iload_n 3, 1) := by decide +kernel
theorem dN9_log_168 : decode cN9_log 168 = .ok (.iastore, 1) := by decide +kernel
theorem dN9_log_169 : decode cN9_log 169 = .ok (.iinc 3 1, 3) := by decide +kernel
theorem dN9_log_172 : decode cN9_log 172 = .ok (.goto (-135), 3) := by decide +kernel
theorem dN9_log_175 : decode cN9_log 175 = .ok (.aload_n 2, 1) := by decide +kernel
theorem dN9_log_176 : decode cN9_log 176 = .ok (.areturn, 1) := by decide +kernel
theorem dN9_done_0 : decode cN9_done 0 = .ok (.aload_n 0, 1) := by decide +kernel
theorem dN9_done_1 : decode cN9_done 1 = .ok (.getfield 13, 3) := by decide +kernel
theorem dN9_done_4 : decode cN9_done 4 = .ok (.invokevirtual 91, 3) := by decide +kernel
theorem dN9_done_7 : decode cN9_done 7 = .ok (.checkcast 23, 3) := by decide +kernel
theorem dN9_done_10 : decode cN9_done 10 = .ok (.astore 4, 2) := by decide +kernel
theorem dN9_done_12 : decode cN9_done 12 = .ok (.aload_n 1, 1) := by decide +kernel
theorem dN9_done_13 : decode cN9_done 13 = .ok (.arraylength, 1) := by decide +kernel
theorem dN9_done_14 : decode cN9_done 14 = .ok (.newarray .int, 2) := by decide +kernel
theorem dN9_done_16 : decode cN9_done 16 = .ok (.astore 5, 2) := by decide +kernel
theorem dN9_done_18 : decode cN9_done 18 = .ok (.aload_n 1, 1) := by decide +kernel
theorem dN9_done_19 : decode cN9_done 19 = .ok (.arraylength, 1) := by decide +kernel
theorem dN9_done_20 : decode cN9_done 20 = .ok (.newarray .int, 2) := by decide +kernel
theorem dN9_done_22 : decode cN9_done 22 = .ok (.astore 6, 2) := by decide +kernel
theorem dN9_done_24 : decode cN9_done 24 = .ok (.iconst 0, 1) := by decide +kernel
theorem dN9_done_25 : decode cN9_done 25 = .ok (.istore 7, 2) := by decide +kernel
theorem dN9_done_27 : decode cN9_done 27 = .ok (.iload 7, 2) := by decide +kernel
theorem dN9_done_29 : decode cN9_done 29 = .ok (.iload_n 2, 1) := by decide +kernel
theorem dN9_done_30 : decode cN9_done 30 = .ok (.if_icmp .ge 259, 3) := by decide +kernel
theorem dN9_done_33 : decode cN9_done 33 = .ok (.aload 6, 2) := by decide +kernel
theorem dN9_done_35 : decode cN9_done 35 = .ok (.iload 7, 2) := by decide +kernel
theorem dN9_done_37 : decode cN9_done 37 = .ok (.iconst (-1), 1) := by decide +kernel
theorem dN9_done_38 : decode cN9_done 38 = .ok (.iastore, 1) := by decide +kernel
theorem dN9_done_39 : decode cN9_done 39 = .ok (.aload 5, 2) := by decide +kernel
theorem dN9_done_41 : decode cN9_done 41 = .ok (.iload 7, 2) := by decide +kernel
theorem dN9_done_43 : decode cN9_done 43 = .ok (.iconst (-1), 1) := by decide +kernel
theorem dN9_done_44 : decode cN9_done 44 = .ok (.iastore, 1) := by decide +kernel
theorem dN9_done_45 : decode cN9_done 45 = .ok (.iload 7, 2) := by decide +kernel
theorem dN9_done_47 : decode cN9_done 47 = .ok (.iload_n 3, 1) := by decide +kernel
theorem dN9_done_48 : decode cN9_done 48 = .ok (.if_icmp .ne 6, 3) := by decide +kernel
theorem dN9_done_51 : decode cN9_done 51 = .ok (.goto 232, 3) := by decide +kernel
theorem dN9_done_54 : decode cN9_done 54 = .ok (.aload_n 0, 1) := by decide +kernel
theorem dN9_done_55 : decode cN9_done 55 = .ok (.getfield 24, 3) := by decide +kernel
theorem dN9_done_58 : decode cN9_done 58 = .ok (.aload_n 1, 1) := by decide +kernel
theorem dN9_done_59 : decode cN9_done 59 = .ok (.iload 7, 2) := by decide +kernel
theorem dN9_done_61 : decode cN9_done 61 = .ok (.iaload, 1) := by decide +kernel
theorem dN9_done_62 : decode cN9_done 62 = .ok (.aaload, 1) := by decide +kernel
theorem dN9_done_63 : decode cN9_done 63 = .ok (.astore 8, 2) := by decide +kernel
theorem dN9_done_65 : decode cN9_done 65 = .ok (.aload_n 0, 1) := by decide +kernel
theorem dN9_done_66 : decode cN9_done 66 = .ok (.getfield 19, 3) := by decide +kernel
theorem dN9_done_69 : decode cN9_done 69 = .ok (.aload 8, 2) := by decide +kernel
theorem dN9_done_71 : decode cN9_done 71 = .ok (.iconst 0, 1) := by decide +kernel
theorem dN9_done_72 : decode cN9_done 72 = .ok (.iaload, 1) := by decide +kernel
theorem dN9_done_73 : decode cN9_done 73 = .ok (.aaload, 1) := by decide +kernel
theorem dN9_done_74 : decode cN9_done 74 = .ok (.astore 9, 2) := by decide +kernel
theorem dN9_done_76 : decode cN9_done 76 = .ok (.aload_n 0, 1) := by decide +kernel
theorem dN9_done_77 : decode cN9_done 77 = .ok (.iconst 0, 1) := by decide +kernel
theorem dN9_done_78 : decode cN9_done 78 = .ok (.putfield 117, 3) := by decide +kernel
theorem dN9_done_81 : decode cN9_done 81 = .ok (.aload_n 0, 1) := by decide +kernel
theorem dN9_done_82 : decode cN9_done 82 = .ok (.aload 9, 2) := by decide +kernel
theorem dN9_done_84 : decode cN9_done 84 = .ok (.iconst 1, 1) := by decide +kernel
theorem dN9_done_85 : decode cN9_done 85 = .ok (.aaload, 1) := by decide +kernel
theorem dN9_done_86 : decode cN9_done 86 = .ok (.aload 4, 2) := by decide +kernel
theorem dN9_done_88 : decode cN9_done 88 = .ok (.aload 8, 2) := by decide +kernel
theorem dN9_done_90 : decode cN9_done 90 = .ok (.invokevirtual 121, 3) := by decide +kernel
theorem dN9_done_93 : decode cN9_done 93 = .ok (.istore 10, 2) := by decide +kernel
theorem dN9_done_95 : decode cN9_done 95 = .ok (.aload_n 0, 1) := by decide +kernel
theorem dN9_done_96 : decode cN9_done 96 = .ok (.aload 9, 2) := by decide +kernel
theorem dN9_done_98 : decode cN9_done 98 = .ok (.iconst 2, 1) := by decide +kernel
theorem dN9_done_99 : decode cN9_done 99 = .ok (.aaload, 1) := by decide +kernel
theorem dN9_done_100 : decode cN9_done 100 = .ok (.aload 4, 2) := by decide +kernel
theorem dN9_done_102 : decode cN9_done 102 = .ok (.aload 8, 2) := by decide +kernel
theorem dN9_done_104 : decode cN9_done 104 = .ok (.invokevirtual 121, 3) := by decide +kernel
theorem dN9_done_107 : decode cN9_done 107 = .ok (.istore 11, 2) := by decide +kernel
theorem dN9_done_109 : decode cN9_done 109 = .ok (.aload 9, 2) := by decide +kernel
theorem dN9_done_111 : decode cN9_done 111 = .ok (.iconst 0, 1) := by decide +kernel
theorem dN9_done_112 : decode cN9_done 112 = .ok (.aaload, 1) := by decide +kernel
theorem dN9_done_113 : decode cN9_done 113 = .ok (.iconst 0, 1) := by decide +kernel
theorem dN9_done_114 : decode cN9_done 114 = .ok (.iaload, 1) := by decide +kernel
theorem dN9_done_115 : decode cN9_done 115 = .ok (.iconst 1, 1) := by decide +kernel
theorem dN9_done_116 : decode cN9_done 116 = .ok (.if_icmp .ne 18, 3) := by decide +kernel
theorem dN9_done_119 : decode cN9_done 119 = .ok (.iload 10, 2) := by decide +kernel
theorem dN9_done_121 : decode cN9_done 121 = .ok (.iload 11, 2) := by decide +kernel
theorem dN9_done_123 : decode cN9_done 123 = .ok (.if_icmp .ge 7, 3) := by decide +kernel
theorem dN9_done_126 : decode cN9_done 126 = .ok (.iconst 1, 1) := by decide +kernel
theorem dN9_done_127 : decode cN9_done 127 = .ok (.goto 19, 3) := by decide +kernel
theorem dN9_done_130 : decode cN9_done 130 = .ok (.iconst 0, 1) := by decide +kernel
theorem dN9_done_131 : decode cN9_done 131 = .ok (.goto 15, 3) := by decide +kernel
theorem dN9_done_134 : decode cN9_done 134 = .ok (.iload 10, 2) := by decide +kernel
theorem dN9_done_136 : decode cN9_done 136 = .ok (.iload 11, 2) := by decide +kernel
theorem dN9_done_138 : decode cN9_done 138 = .ok (.if_icmp .ne 7, 3) := by decide +kernel
theorem dN9_done_141 : decode cN9_done 141 = .ok (.iconst 1, 1) := by decide +kernel
theorem dN9_done_142 : decode cN9_done 142 = .ok (.goto 4, 3) := by decide +kernel
theorem dN9_done_145 : decode cN9_done 145 = .ok (.iconst 0, 1) := by decide +kernel
theorem dN9_done_146 : decode cN9_done 146 = .ok (.istore 12, 2) := by decide +kernel
theorem dN9_done_148 : decode cN9_done 148 = .ok (.aload 5, 2) := by decide +kernel
theorem dN9_done_150 : decode cN9_done 150 = .ok (.iload 7, 2) := by decide +kernel
theorem dN9_done_152 : decode cN9_done 152 = .ok (.aload_n 0, 1) := by decide +kernel
theorem dN9_done_153 : decode cN9_done 153 = .ok (.getfield 117, 3) := by decide +kernel
theorem dN9_done_156 : decode cN9_done 156 = .ok (.ifCond .eq 7, 3) := by decide +kernel
theorem dN9_done_159 : decode cN9_done 159 = .ok (.iconst 3, 1) := by decide +kernel
theorem dN9_done_160 : decode cN9_done 160 = .ok (.goto 26, 3) := by decide +kernel
theorem dN9_done_163 : decode cN9_done 163 = .ok (.iload 12, 2) := by decide +kernel
theorem dN9_done_165 : decode cN9_done 165 = .ok (.ifCond .eq 7, 3) := by decide +kernel
theorem dN9_done_168 : decode cN9_done 168 = .ok (.iconst 0, 1) := by decide +kernel
theorem dN9_done_169 : decode cN9_done 169 = .ok (.goto 17, 3) := by decide +kernel
theorem dN9_done_172 : decode cN9_done 172 = .ok (.aload 9, 2) := by decide +kernel
theorem dN9_done_174 : decode cN9_done 174 = .ok (.iconst 0, 1) := by decide +kernel
theorem dN9_done_175 : decode cN9_done 175 = .ok (.aaload, 1) := by decide +kernel
theorem dN9_done_176 : decode cN9_done 176 = .ok (.iconst 2, 1) := by decide +kernel
theorem dN9_done_177 : decode cN9_done 177 = .ok (.iaload, 1) := by decide +kernel
theorem dN9_done_178 : decode cN9_done 178 = .ok (.ifCond .ge 7, 3) := by decide +kernel
theorem dN9_done_181 : decode cN9_done 181 = .ok (.iconst 2, 1) := by decide +kernel
theorem dN9_done_182 : decode cN9_done 182 = .ok (.goto 4, 3) := by decide +kernel
theorem dN9_done_185 : decode cN9_done 185 = .ok (.iconst 1, 1) := by decide +kernel
theorem dN9_done_186 : decode cN9_done 186 = .ok (.iastore, 1) := by decide +kernel
theorem dN9_done_187 : decode cN9_done 187 = .ok (.aload 5, 2) := by decide +kernel
theorem dN9_done_189 : decode cN9_done 189 = .ok (.iload 7, 2) := by decide +kernel
theorem dN9_done_191 : decode cN9_done 191 = .ok (.iaload, 1) := by decide +kernel
theorem dN9_done_192 : decode cN9_done 192 = .ok (.iconst 1, 1) := by decide +kernel
theorem dN9_done_193 : decode cN9_done 193 = .ok (.if_icmp .le 6, 3) := by decide +kernel
theorem dN9_done_196 : decode cN9_done 196 = .ok (.goto 87, 3) := by decide +kernel
theorem dN9_done_199 : decode cN9_done 199 = .ok (.aload_n 0, 1) := by decide +kernel
theorem dN9_done_200 : decode cN9_done 200 = .ok (.iload 12, 2) := by decide +kernel
theorem dN9_done_202 : decode cN9_done 202 = .ok (.ifCond .eq 10, 3) := by decide +kernel
theorem dN9_done_205 : decode cN9_done 205 = .ok (.aload 9, 2) := by decide +kernel
theorem dN9_done_207 : decode cN9_done 207 = .ok (.iconst 3, 1) := by decide +kernel
theorem dN9_done_208 : decode cN9_done 208 = .ok (.aaload, 1) := by decide +kernel
theorem dN9_done_209 : decode cN9_done 209 = .ok (.goto 7, 3) := by decide +kernel
theorem dN9_done_212 : decode cN9_done 212 = .ok (.aload 9, 2) := by decide +kernel
theorem dN9_done_214 : decode cN9_done 214 = .ok (.iconst 4, 1) := by decide +kernel
theorem dN9_done_215 : decode cN9_done 215 = .ok (.aaload, 1) := by decide +kernel
theorem dN9_done_216 : decode cN9_done 216 = .ok (.aload 4, 2) := by decide +kernel
theorem dN9_done_218 : decode cN9_done 218 = .ok (.aload 8, 2) := by decide +kernel
theorem dN9_done_220 : decode cN9_done 220 = .ok (.invokevirtual 121, 3) := by decide +kernel
theorem dN9_done_223 : decode cN9_done 223 = .ok (.istore 13, 2) := by decide +kernel
theorem dN9_done_225 : decode cN9_done 225 = .ok (.aload_n 0, 1) := by decide +kernel
theorem dN9_done_226 : decode cN9_done 226 = .ok (.getfield 117, 3) := by decide +kernel
theorem dN9_done_229 : decode cN9_done 229 = .ok (.ifCond .eq 9, 3) := by decide +kernel
theorem dN9_done_232 : decode cN9_done 232 = .ok (.aload 5, 2) := by decide +kernel
theorem dN9_done_234 : decode cN9_done 234 = .ok (.iload 7, 2) := by decide +kernel
theorem dN9_done_236 : decode cN9_done 236 = .ok (.iconst 3, 1) := by decide +kernel
theorem dN9_done_237 : decode cN9_done 237 = .ok (.iastore, 1) := by decide +kernel
theorem dN9_done_238 : decode cN9_done 238 = .ok (.aload_n 0, 1) := by decide +kernel
theorem dN9_done_239 : decode cN9_done 239 = .ok (.getfield 117, 3) := by decide +kernel
theorem dN9_done_242 : decode cN9_done 242 = .ok (.ifCond .eq 6, 3) := by decide +kernel
theorem dN9_done_245 : decode cN9_done 245 = .ok (.goto 38, 3) := by decide +kernel
theorem dN9_done_248 : decode cN9_done 248 = .ok (.aload 6, 2) := by decide +kernel
theorem dN9_done_250 : decode cN9_done 250 = .ok (.iload 7, 2) := by decide +kernel
theorem dN9_done_252 : decode cN9_done 252 = .ok (.iload 12, 2) := by decide +kernel
theorem dN9_done_254 : decode cN9_done 254 = .ok (.ifCond .eq 12, 3) := by decide +kernel
theorem dN9_done_257 : decode cN9_done 257 = .ok (.aload 9, 2) := by decide +kernel
theorem dN9_done_259 : decode cN9_done 259 = .ok (.iconst 0, 1) := by decide +kernel
theorem dN9_done_260 : decode cN9_done 260 = .ok (.aaload, 1) := by decide +kernel
theorem dN9_done_261 : decode cN9_done 261 = .ok (.iconst 1, 1) := by decide +kernel
theorem dN9_done_262 : decode cN9_done 262 = .ok (.iaload, 1) := by decide +kernel
theorem dN9_done_263 : decode cN9_done 263 = .ok (.goto 9, 3) := by decide +kernel
theorem dN9_done_266 : decode cN9_done 266 = .ok (.aload 9, 2) := by decide +kernel
theorem dN9_done_268 : decode cN9_done 268 = .ok (.iconst 0, 1) := by decide +kernel
theorem dN9_done_269 : decode cN9_done 269 = .ok (.aaload, 1) := by decide +kernel
theorem dN9_done_270 : decode cN9_done 270 = .ok (.iconst 2, 1) := by decide +kernel
theorem dN9_done_271 : decode cN9_done 271 = .ok (.iaload, 1) := by decide +kernel
theorem dN9_done_272 : decode cN9_done 272 = .ok (.iastore, 1) := by decide +kernel
theorem dN9_done_273 : decode cN9_done 273 = .ok (.aload 4, 2) := by decide +kernel
theorem dN9_done_275 : decode cN9_done 275 = .ok (.aload 6, 2) := by decide +kernel
theorem dN9_done_277 : decode cN9_done 277 = .ok (.iload 7, 2) := by decide +kernel
theorem dN9_done_279 : decode cN9_done 279 = .ok (.iaload, 1) := by decide +kernel
theorem dN9_done_280 : decode cN9_done 280 = .ok (.iload 13, 2) := by decide +kernel
theorem dN9_done_282 : decode cN9_done 282 = .ok (.iastore, 1) := by decide +kernel
theorem dN9_done_283 : decode cN9_done 283 = .ok (.iinc 7 1, 3) := by decide +kernel
theorem dN9_done_286 : decode cN9_done 286 = .ok (.goto (-259), 3) := by decide +kernel
theorem dN9_done_289 : decode cN9_done 289 = .ok (.iconst 3, 1) := by decide +kernel
theorem dN9_done_290 : decode cN9_done 290 = .ok (.anewarray 23, 3) := by decide +kernel
theorem dN9_done_293 : decode cN9_done 293 = .ok (.dup, 1) := by decide +kernel
theorem dN9_done_294 : decode cN9_done 294 = .ok (.iconst 0, 1) := by decide +kernel
theorem dN9_done_295 : decode cN9_done 295 = .ok (.aload 5, 2) := by decide +kernel
theorem dN9_done_297 : decode cN9_done 297 = .ok (.aastore, 1) := by decide +kernel
theorem dN9_done_298 : decode cN9_done 298 = .ok (.dup, 1) := by decide +kernel
theorem dN9_done_299 : decode cN9_done 299 = .ok (.iconst 1, 1) := by decide +kernel
theorem dN9_done_300 : decode cN9_done 300 = .ok (.aload 6, 2) := by decide +kernel
theorem dN9_done_302 : decode cN9_done 302 = .ok (.aastore, 1) := by decide +kernel
theorem dN9_done_303 : decode cN9_done 303 = .ok (.dup, 1) := by decide +kernel
theorem dN9_done_304 : decode cN9_done 304 = .ok (.iconst 2, 1) := by decide +kernel
theorem dN9_done_305 : decode cN9_done 305 = .ok (.aload 4, 2) := by decide +kernel
theorem dN9_done_307 : decode cN9_done 307 = .ok (.aastore, 1) := by decide +kernel
theorem dN9_done_308 : decode cN9_done 308 = .ok (.areturn, 1) := by decide +kernel
theorem dN9_done__0 : decode cN9_done_ 0 = .ok (.aload_n 0, 1) := by decide +kernel
theorem dN9_done__1 : decode cN9_done_ 1 = .ok (.iload_n 1, 1) := by decide +kernel
theorem dN9_done__2 : decode cN9_done_ 2 = .ok (.invokevirtual 125, 3) := by decide +kernel
theorem dN9_done__5 : decode cN9_done_ 5 = .ok (.astore_n 2, 1) := by decide +kernel
theorem dN9_done__6 : decode cN9_done_ 6 = .ok (.aload_n 0, 1) := by decide +kernel
theorem dN9_done__7 : decode cN9_done_ 7 = .ok (.aload_n 2, 1) := by decide +kernel
theorem dN9_done__8 : decode cN9_done_ 8 = .ok (.aload_n 2, 1) := by decide +kernel
theorem dN9_done__9 : decode cN9_done_ 9 = .ok (.arraylength, 1) := by decide +kernel
theorem dN9_done__10 : decode cN9_done_ 10 = .ok (.iconst (-1), 1) := by decide +kernel
theorem dN9_done__11 : decode cN9_done_ 11 = .ok (.invokevirtual 128, 3) := by decide +kernel
theorem dN9_done__14 : decode cN9_done_ 14 = .ok (.areturn, 1) := by decide +kernel
theorem dN9_lacks_0 : decode cN9_lacks 0 = .ok (.iconst 0, 1) := by decide +kernel
theorem dN9_lacks_1 : decode cN9_lacks 1 = .ok (.istore_n 3, 1) := by decide +kernel
theorem dN9_lacks_2 : decode cN9_lacks 2 = .ok (.iconst 0, 1) := by decide +kernel
theorem dN9_lacks_3 : decode cN9_lacks 3 = .ok (.istore 4, 2) := by decide +kernel
theorem dN9_lacks_5 : decode cN9_lacks 5 = .ok (.iload 4, 2) := by decide +kernel
theorem dN9_lacks_7 : decode cN9_lacks 7 = .ok (.aload_n 0, 1) := by decide +kernel
theorem dN9_lacks_8 : decode cN9_lacks 8 = .ok (.getfield 79, 3) := by decide +kernel
theorem dN9_lacks_11 : decode cN9_lacks 11 = .ok (.if_icmp .ge 36, 3) := by decide +kernel
theorem dN9_lacks_14 : decode cN9_lacks 14 = .ok (.aload_n 0, 1) := by decide +kernel
theorem dN9_lacks_15 : decode cN9_lacks 15 = .ok (.getfield 56, 3) := by decide +kernel
theorem dN9_lacks_18 : decode cN9_lacks 18 = .ok (.iload_n 1, 1) := by decide +kernel
theorem dN9_lacks_19 : decode cN9_lacks 19 = .ok (.aaload, 1) := by decide +kernel
theorem dN9_lacks_20 : decode cN9_lacks 20 = .ok (.iload 4, 2) := by decide +kernel
theorem dN9_lacks_22 : decode cN9_lacks 22 = .ok (.baload, 1) := by decide +kernel
theorem dN9_lacks_23 : decode cN9_lacks 23 = .ok (.ifCond .eq 18, 3) := by decide +kernel
theorem dN9_lacks_26 : decode cN9_lacks 26 = .ok (.aload_n 0, 1) := by decide +kernel
theorem dN9_lacks_27 : decode cN9_lacks 27 = .ok (.getfield 56, 3) := by decide +kernel
theorem dN9_lacks_30 : decode cN9_lacks 30 = .ok (.iload_n 2, 1) := by decide +kernel
theorem dN9_lacks_31 : decode cN9_lacks 31 = .ok (.aaload, 1) := by decide +kernel
theorem dN9_lacks_32 : decode cN9_lacks 32 = .ok (.iload 4, 2) := by decide +kernel
theorem dN9_lacks_34 : decode cN9_lacks 34 = .ok (.baload, 1) := by decide +kernel
theorem dN9_lacks_35 : decode cN9_lacks 35 = .ok (.ifCond .ne 6, 3) := by decide +kernel
theorem dN9_lacks_38 : decode cN9_lacks 38 = .ok (.iinc 3 1, 3) := by decide +kernel
theorem dN9_lacks_41 : decode cN9_lacks 41 = .ok (.iinc 4 1, 3) := by decide +kernel
theorem dN9_lacks_44 : decode cN9_lacks 44 = .ok (.goto (-39), 3) := by decide +kernel
theorem dN9_lacks_47 : decode cN9_lacks 47 = .ok (.iload_n 3, 1) := by decide +kernel
theorem dN9_lacks_48 : decode cN9_lacks 48 = .ok (.ireturn, 1) := by decide +kernel
theorem dN9_same_0 : decode cN9_same 0 = .ok (.aload_n 0, 1) := by decide +kernel
theorem dN9_same_1 : decode cN9_same 1 = .ok (.iload_n 1, 1) := by decide +kernel
theorem dN9_same_2 : decode cN9_same 2 = .ok (.iload_n 2, 1) := by decide +kernel
theorem dN9_same_3 : decode cN9_same 3 = .ok (.invokevirtual 170, 3) := by decide +kernel
theorem dN9_same_6 : decode cN9_same 6 = .ok (.aload_n 0, 1) := by decide +kernel
theorem dN9_same_7 : decode cN9_same 7 = .ok (.iload_n 2, 1) := by decide +kernel
theorem dN9_same_8 : decode cN9_same 8 = .ok (.iload_n 1, 1) := by decide +kernel
theorem dN9_same_9 : decode cN9_same 9 = .ok (.invokevirtual 170, 3) := by decide +kernel
theorem dN9_same_12 : decode cN9_same 12 = .ok (.iadd, 1) := by decide +kernel
theorem dN9_same_13 : decode cN9_same 13 = .ok (.ifCond .ne 22, 3) := by decide +kernel
theorem dN9_same_16 : decode cN9_same 16 = .ok (.aload_n 0, 1) := by decide +kernel
theorem dN9_same_17 : decode cN9_same 17 = .ok (.getfield 30, 3) := by decide +kernel
theorem dN9_same_20 : decode cN9_same 20 = .ok (.iload_n 1, 1) := by decide +kernel
theorem dN9_same_21 : decode cN9_same 21 = .ok (.iaload, 1) := by decide +kernel
theorem dN9_same_22 : decode cN9_same 22 = .ok (.aload_n 0, 1) := by decide +kernel
theorem dN9_same_23 : decode cN9_same 23 = .ok (.getfield 30, 3) := by decide +kernel
theorem dN9_same_26 : decode cN9_same 26 = .ok (.iload_n 2, 1) := by decide +kernel
theorem dN9_same_27 : decode cN9_same 27 = .ok (.iaload, 1) := by decide +kernel
theorem dN9_same_28 : decode cN9_same 28 = .ok (.if_icmp .ne 7, 3) := by decide +kernel
theorem dN9_same_31 : decode cN9_same 31 = .ok (.iconst 1, 1) := by decide +kernel
theorem dN9_same_32 : decode cN9_same 32 = .ok (.goto 4, 3) := by decide +kernel
theorem dN9_same_35 : decode cN9_same 35 = .ok (.iconst 0, 1) := by decide +kernel
theorem dN9_same_36 : decode cN9_same 36 = .ok (.ireturn, 1) := by decide +kernel
theorem dN9_same__0 : decode cN9_same_ 0 = .ok (.iconst 1, 1) := by decide +kernel
theorem dN9_same__1 : decode cN9_same_ 1 = .ok (.istore_n 1, 1) := by decide +kernel
theorem dN9_same__2 : decode cN9_same_ 2 = .ok (.iload_n 1, 1) := by decide +kernel
theorem dN9_same__3 : decode cN9_same_ 3 = .ok (.aload_n 0, 1) := by decide +kernel
theorem dN9_same__4 : decode cN9_same_ 4 = .ok (.getfield 7, 3) := by decide +kernel
theorem dN9_same__7 : decode cN9_same_ 7 = .ok (.if_icmp .ge 20, 3) := by decide +kernel
theorem dN9_same__10 : decode cN9_same_ 10 = .ok (.aload_n 0, 1) := by decide +kernel
theorem dN9_same__11 : decode cN9_same_ 11 = .ok (.iconst 0, 1) := by decide +kernel
theorem dN9_same__12 : decode cN9_same_ 12 = .ok (.iload_n 1, 1) := by decide +kernel
theorem dN9_same__13 : decode cN9_same_ 13 = .ok (.invokevirtual 173, 3) := by decide +kernel
theorem dN9_same__16 : decode cN9_same_ 16 = .ok (.ifCond .ne 5, 3) := by decide +kernel
theorem dN9_same__19 : decode cN9_same_ 19 = .ok (.iconst 0, 1) := by decide +kernel
theorem dN9_same__20 : decode cN9_same_ 20 = .ok (.ireturn, 1) := by decide +kernel
theorem dN9_same__21 : decode cN9_same_ 21 = .ok (.iinc 1 1, 3) := by decide +kernel
theorem dN9_same__24 : decode cN9_same_ 24 = .ok (.goto (-22), 3) := by decide +kernel
theorem dN9_same__27 : decode cN9_same_ 27 = .ok (.iconst 1, 1) := by decide +kernel
theorem dN9_same__28 : decode cN9_same_ 28 = .ok (.ireturn, 1) := by decide +kernel
theorem dN9_sum_0 : decode cN9_sum 0 = .ok (.iconst 0, 1) := by decide +kernel
theorem dN9_sum_1 : decode cN9_sum 1 = .ok (.istore_n 2, 1) := by decide +kernel
theorem dN9_sum_2 : decode cN9_sum 2 = .ok (.aload_n 1, 1) := by decide +kernel
theorem dN9_sum_3 : decode cN9_sum 3 = .ok (.astore_n 3, 1) := by decide +kernel
theorem dN9_sum_4 : decode cN9_sum 4 = .ok (.aload_n 3, 1) := by decide +kernel
theorem dN9_sum_5 : decode cN9_sum 5 = .ok (.arraylength, 1) := by decide +kernel
theorem dN9_sum_6 : decode cN9_sum 6 = .ok (.istore 4, 2) := by decide +kernel
theorem dN9_sum_8 : decode cN9_sum 8 = .ok (.iconst 0, 1) := by decide +kernel
theorem dN9_sum_9 : decode cN9_sum 9 = .ok (.istore 5, 2) := by decide +kernel
theorem dN9_sum_11 : decode cN9_sum 11 = .ok (.iload 5, 2) := by decide +kernel
theorem dN9_sum_13 : decode cN9_sum 13 = .ok (.iload 4, 2) := by decide +kernel
theorem dN9_sum_15 : decode cN9_sum 15 = .ok (.if_icmp .ge 20, 3) := by decide +kernel
theorem dN9_sum_18 : decode cN9_sum 18 = .ok (.aload_n 3, 1) := by decide +kernel
theorem dN9_sum_19 : decode cN9_sum 19 = .ok (.iload 5, 2) := by decide +kernel
theorem dN9_sum_21 : decode cN9_sum 21 = .ok (.iaload, 1) := by decide +kernel
theorem dN9_sum_22 : decode cN9_sum 22 = .ok (.istore 6, 2) := by decide +kernel
theorem dN9_sum_24 : decode cN9_sum 24 = .ok (.iload_n 2, 1) := by decide +kernel
theorem dN9_sum_25 : decode cN9_sum 25 = .ok (.iload 6, 2) := by decide +kernel
theorem dN9_sum_27 : decode cN9_sum 27 = .ok (.iadd, 1) := by decide +kernel
theorem dN9_sum_28 : decode cN9_sum 28 = .ok (.istore_n 2, 1) := by decide +kernel
theorem dN9_sum_29 : decode cN9_sum 29 = .ok (.iinc 5 1, 3) := by decide +kernel
theorem dN9_sum_32 : decode cN9_sum 32 = .ok (.goto (-21), 3) := by decide +kernel
theorem dN9_sum_35 : decode cN9_sum 35 = .ok (.iload_n 2, 1) := by decide +kernel
theorem dN9_sum_36 : decode cN9_sum 36 = .ok (.ireturn, 1) := by decide +kernel
theorem mv_N9_vector : Mv yN9_vector cN9_vector 4 (some (.array .int)) 1 := ⟨⟨by decide +kernel, tw_1354, tw_48, by decide +kernel, by decide +kernel⟩, tw_1352, tw_1353⟩
theorem mv_N9_clock : Mv yN9_clock cN9_clock 7 (some .int) 1 := ⟨⟨by decide +kernel, tw_1350, tw_48, by decide +kernel, by decide +kernel⟩, tw_1348, tw_1349⟩
theorem mv_N9_many : Mv yN9_many cN9_many 4 (some .int) 1 := ⟨⟨by decide +kernel, tw_1323, tw_48, by decide +kernel, by decide +kernel⟩, tw_1321, tw_1322⟩
theorem mv_N9_log : Mv yN9_log cN9_log 6 (some (.array .int)) 1 := ⟨⟨by decide +kernel, tw_1319, tw_48, by decide +kernel, by decide +kernel⟩, tw_1317, tw_1318⟩
theorem mv_N9_done : Mv yN9_done cN9_done 14 (some (.array (.array .int))) 3 := ⟨⟨by decide +kernel, tw_1336, tw_48, by decide +kernel, by decide +kernel⟩, tw_1334, tw_1335⟩
theorem mv_N9_done_ : Mv yN9_done_ cN9_done_ 3 (some (.array (.array .int))) 1 := ⟨⟨by decide +kernel, tw_1331, tw_48, by decide +kernel, by decide +kernel⟩, tw_1329, tw_1330⟩
theorem mv_N9_lacks : Mv yN9_lacks cN9_lacks 5 (some .int) 2 := ⟨⟨by decide +kernel, tw_1375, tw_48, by decide +kernel, by decide +kernel⟩, tw_1373, tw_1374⟩
theorem mv_N9_same : Mv yN9_same cN9_same 3 (some .boolean) 2 := ⟨⟨by decide +kernel, tw_1371, tw_48, by decide +kernel, by decide +kernel⟩, tw_1369, tw_1370⟩
theorem mv_N9_sum : Mv yN9_sum cN9_sum 7 (some .int) 1 := ⟨⟨by decide +kernel, tw_1363, tw_48, by decide +kernel, by decide +kernel⟩, tw_1361, tw_1362⟩
theorem mv_N9_same_ : Mv yN9_same_ cN9_same_ 2 (some .boolean) 0 := ⟨⟨by decide +kernel, tw_1367, tw_48, by decide +kernel, by decide +kernel⟩, tw_1365, tw_1366⟩
def netW (cy : Nat → ClassId) (z : Nat) (u : Nat → Nat) (iv fs : Nat → Int32) : va_W := [(z, .inr (9, [.int (iv 0), .int (iv 1), .int (iv 2), .int (iv 3), .int 0, .int 0, .int (iv 6), .int 0, .ref (u 8), .ref (u 9), .ref (u 10), .ref (u 11), .ref (u 12), .ref (u 13), .ref (u 14), .ref (u 15), .ref (u 16), .ref (u 17), .ref (u 18), .ref (u 19), .ref (u 20), .ref (u 21), .ref (u 22), .int 0])), ((u 8), .inl (cy 1, 4, .inl fs)), ((u 12), .inl (cy 1, 5, .inl (fun _ => 0))), ((u 13), .inl (cy 1, 5, .inl (fun _ => 0))), ((u 14), .inl (cy 1, 5, .inl (fun _ => 0))), ((u 15), .inl (cy 1, 5, .inl (fun _ => 0))), ((u 16), .inl (cy 1, 4, .inl (fun _ => 0))), ((u 17), .inl (cy 1, 4, .inl (fun _ => 0))), ((u 18), .inl (cy 1, 4, .inl (fun _ => 0))), ((u 19), .inl (cy 1, 0, .inl (fun _ => 0))), ((u 21), .inl (cy 6, 4, .inr (.inr (.inr (.inr (fun j => some (u 21 + 1 + j))))))), ((u 22), .inl (cy 6, 4, .inr (.inr (.inr (.inr (fun j => some (u 22 + 1 + j))))))), ((u 21 + 1 + 0), .inl (cy 1, 5, .inl (fun _ => 0))), ((u 21 + 1 + 1), .inl (cy 1, 5, .inl (fun _ => 0))), ((u 21 + 1 + 2), .inl (cy 1, 5, .inl (fun _ => 0))), ((u 21 + 1 + 3), .inl (cy 1, 5, .inl (fun _ => 0))), ((u 22 + 1 + 0), .inl (cy 1, 5, .inl (fun _ => 0))), ((u 22 + 1 + 1), .inl (cy 1, 5, .inl (fun _ => 0))), ((u 22 + 1 + 2), .inl (cy 1, 5, .inl (fun _ => 0))), ((u 22 + 1 + 3), .inl (cy 1, 5, .inl (fun _ => 0)))]
set_option maxRecDepth 100000 in
set_option maxHeartbeats 4000000 in
theorem q_vector (l : Launch) (D : va_G) (cy : Nat → ClassId) (z : Nat) (u : Nat → Nat) (iv fs : Nat → Int32) (c : Int32) : Cq l D cy yN9_vector cN9_vector 4 (some (.array .int)) 1 12 1 5 [.ref z, .int c] (netW cy z u iv fs) (fun rv nl => ∃ q, rv = some (.ref q) ∧ nl = [(q, .inl (cy 1, 5, .inl (fun _ => 0)))]) := by
  refine Cq_intro (own := RN9) (by decide +kernel) rfl (Nat.le_of_ble_eq_true rfl) [(0, .ref z), (1, .int c)] rfl (fun K hl hn C hcs hc R => ?_)
  have hN := nl_of (K := K) hn
  have hW : ∀ ws : va_W, Wo K D (fun q => (Ks K).heap.size ≤ q) ws (netW cy z u iv fs) := fun ws => Wo.const hc
  refine g_iconst C 0 dN9_vector_0 ki_5 ?_
  refine g_newi C 1 5 (by decide) rfl (Nat.le_of_ble_eq_true rfl) (Nat.le_of_ble_eq_true rfl) (Nat.le_of_ble_eq_true rfl) dN9_vector_1 (fun q1 => ?_)
  refine g_eq (ws2 := ([(q1, .inl (cy 1, 5, .inl (fun _ => 0)))] : va_W)) rfl ?_
  refine g_astore_n (L' := [(2, .ref q1), (0, .ref z), (1, .int c)]) C 3 dN9_vector_3 rfl (hN _ (Nat.le_of_ble_eq_true rfl)) rfl ?_
  refine g_iconst C 4 dN9_vector_4 ki_0 ?_
  refine g_istore_n (L' := [(3, .int (0 : Int32)), (2, .ref q1), (0, .ref z), (1, .int c)]) C 5 dN9_vector_5 rfl (hN _ (Nat.le_of_ble_eq_true rfl)) rfl ?_
  refine g_iload_n C 6 0 dN9_vector_6 rfl ?_
  refine g_aload_n C 7 2 dN9_vector_7 rfl ?_
  refine g_cget C (hW _) 8 0 rfl 4 (Nat.le_of_ble_eq_true rfl) rfl tw_1174 rfl dN9_vector_8 ?_
  refine g_icmp_ge C 11 62 dN9_vector_11 (by decide) (fun _ => ?_) (fun hq => absurd (by decide) hq)
  refine g_aload_n C 62 1 dN9_vector_62 rfl ?_
  exact g_aret C R (Or.inr ⟨_, rfl⟩) (Nat.le_of_ble_eq_true rfl) (Nat.le_of_ble_eq_true rfl) 63 dN9_vector_63 (fun H hP hD => ⟨_, ⟨q1, rfl, rfl⟩, hP, hD⟩)
set_option maxRecDepth 100000 in
set_option maxHeartbeats 4000000 in
theorem q_clock (l : Launch) (D : va_G) (cy : Nat → ClassId) (z : Nat) (u : Nat → Nat) (iv fs : Nat → Int32) (c : Int32) : Cq l D cy yN9_clock cN9_clock 7 (some .int) 2 35 1 5 [.ref z, .int c] (netW cy z u iv fs) (fun rv nl => rv = some (.int 0) ∧ nl = []) := by
  refine Cq_intro (own := RN9) (by decide +kernel) rfl (Nat.le_of_ble_eq_true rfl) [(0, .ref z), (1, .int c)] rfl (fun K hl hn C hcs hc R => ?_)
  have hN := nl_of (K := K) hn
  have hW : ∀ ws : va_W, Wo K D (fun q => (Ks K).heap.size ≤ q) ws (netW cy z u iv fs) := fun ws => Wo.const hc
  refine g_iconst C 0 dN9_clock_0 ki_0 ?_
  refine g_istore_n (L' := [(2, .int (0 : Int32)), (0, .ref z), (1, .int c)]) C 1 dN9_clock_1 rfl (hN _ (Nat.le_of_ble_eq_true rfl)) rfl ?_
  refine g_aload_n C 2 1 dN9_clock_2 rfl ?_
  refine g_iload_n C 3 2 dN9_clock_3 rfl ?_
  refine g_callQV C hcs 4 [.int c] [] rfl tw_1351 mv_N9_vector rfl (Nat.le_of_ble_eq_true rfl) (Nat.le_of_ble_eq_true rfl) (Nat.le_of_ble_eq_true rfl) (Nat.le_of_ble_eq_true rfl) (Nat.le_of_ble_eq_true rfl) dN9_clock_4 (q_vector (Kl K) D cy z u iv fs c) (hW _) rfl (fun rv4 nl4 hr4 => ?_)
  obtain ⟨q4, rfl, rfl⟩ := hr4
  refine g_eq (ws2 := ([(q4, .inl (cy 1, 5, .inl (fun _ => 0)))] : va_W)) rfl ?_
  refine g_astore_n (L' := [(3, .ref q4), (2, .int (0 : Int32)), (0, .ref z), (1, .int c)]) C 7 dN9_clock_7 rfl (hN _ (Nat.le_of_ble_eq_true rfl)) rfl ?_
  refine g_aload_n C 8 0 dN9_clock_8 rfl ?_
  refine g_alen (v := (5 : Int32)) C 9 0 1 rfl rfl rfl dN9_clock_9 ?_
  refine g_istore (L' := [(4, .int (5 : Int32)), (3, .ref q4), (2, .int (0 : Int32)), (0, .ref z), (1, .int c)]) C 10 dN9_clock_10 (hN _ (Nat.le_of_ble_eq_true rfl)) rfl ?_
  refine g_iconst C 12 dN9_clock_12 ki_0 ?_
  refine g_istore (L' := [(5, .int (0 : Int32)), (4, .int (5 : Int32)), (3, .ref q4), (2, .int (0 : Int32)), (0, .ref z), (1, .int c)]) C 13 dN9_clock_13 (hN _ (Nat.le_of_ble_eq_true rfl)) rfl ?_
  refine g_iload C 15 0 dN9_clock_15 rfl ?_
  refine g_iload C 17 1 dN9_clock_17 rfl ?_
  refine g_icmp_ge C 19 41 dN9_clock_19 (by decide) (fun hq => absurd hq (by decide)) (fun _ => ?_)
  refine g_aload_n C 22 2 dN9_clock_22 rfl ?_
  refine g_iload C 23 0 dN9_clock_23 rfl ?_
  refine g_iald C 25 0 rfl (by decide) dN9_clock_25 ?_
  show Gn _ _ _ _ _ _ _ _ (.int (0 : Int32) :: _)
  refine g_istore (L' := [(6, .int (0 : Int32)), (5, .int (0 : Int32)), (4, .int (5 : Int32)), (3, .ref q4), (2, .int (0 : Int32)), (0, .ref z), (1, .int c)]) C 26 dN9_clock_26 (hN _ (Nat.le_of_ble_eq_true rfl)) rfl ?_
  refine g_iload_n C 28 4 dN9_clock_28 rfl ?_
  refine g_iload C 29 0 dN9_clock_29 rfl ?_
  refine g_mmax C 31 tw_1355 tw_470 tw_49 tw_471 (Nat.le_of_ble_eq_true rfl) (Nat.le_of_ble_eq_true rfl) (Nat.le_of_ble_eq_true rfl) (Nat.le_of_ble_eq_true rfl) dN9_clock_31 ?_
  rw [show (if (0 : Int32) < (0 : Int32) then (0 : Int32) else (0 : Int32)) = (0 : Int32) from by decide]
  refine g_istore_n (L' := [(2, .int (0 : Int32)), (6, .int (0 : Int32)), (5, .int (0 : Int32)), (4, .int (5 : Int32)), (3, .ref q4), (0, .ref z), (1, .int c)]) C 34 dN9_clock_34 rfl (hN _ (Nat.le_of_ble_eq_true rfl)) rfl ?_
  refine g_iinc (v := (1 : Int32)) (L' := [(5, .int (1 : Int32)), (2, .int (0 : Int32)), (6, .int (0 : Int32)), (4, .int (5 : Int32)), (3, .ref q4), (0, .ref z), (1, .int c)]) C 35 2 dN9_clock_35 rfl (by decide) (hN _ (Nat.le_of_ble_eq_true rfl)) rfl ?_
  refine g_goto C 38 15 dN9_clock_38 (by decide) ?_
  refine g_iload C 15 0 dN9_clock_15 rfl ?_
  refine g_iload C 17 3 dN9_clock_17 rfl ?_
  refine g_icmp_ge C 19 41 dN9_clock_19 (by decide) (fun hq => absurd hq (by decide)) (fun _ => ?_)
  refine g_aload_n C 22 4 dN9_clock_22 rfl ?_
  refine g_iload C 23 0 dN9_clock_23 rfl ?_
  refine g_iald C 25 0 rfl (by decide) dN9_clock_25 ?_
  show Gn _ _ _ _ _ _ _ _ (.int (0 : Int32) :: _)
  refine g_istore (L' := [(6, .int (0 : Int32)), (5, .int (1 : Int32)), (2, .int (0 : Int32)), (4, .int (5 : Int32)), (3, .ref q4), (0, .ref z), (1, .int c)]) C 26 dN9_clock_26 (hN _ (Nat.le_of_ble_eq_true rfl)) rfl ?_
  refine g_iload_n C 28 2 dN9_clock_28 rfl ?_
  refine g_iload C 29 0 dN9_clock_29 rfl ?_
  refine g_mmax C 31 tw_1355 tw_470 tw_49 tw_471 (Nat.le_of_ble_eq_true rfl) (Nat.le_of_ble_eq_true rfl) (Nat.le_of_ble_eq_true rfl) (Nat.le_of_ble_eq_true rfl) dN9_clock_31 ?_
  rw [show (if (0 : Int32) < (0 : Int32) then (0 : Int32) else (0 : Int32)) = (0 : Int32) from by decide]
  refine g_istore_n (L' := [(2, .int (0 : Int32)), (6, .int (0 : Int32)), (5, .int (1 : Int32)), (4, .int (5 : Int32)), (3, .ref q4), (0, .ref z), (1, .int c)]) C 34 dN9_clock_34 rfl (hN _ (Nat.le_of_ble_eq_true rfl)) rfl ?_
  refine g_iinc (v := (2 : Int32)) (L' := [(5, .int (2 : Int32)), (2, .int (0 : Int32)), (6, .int (0 : Int32)), (4, .int (5 : Int32)), (3, .ref q4), (0, .ref z), (1, .int c)]) C 35 2 dN9_clock_35 rfl (by decide) (hN _ (Nat.le_of_ble_eq_true rfl)) rfl ?_
  refine g_goto C 38 15 dN9_clock_38 (by decide) ?_
  refine g_iload C 15 0 dN9_clock_15 rfl ?_
  refine g_iload C 17 3 dN9_clock_17 rfl ?_
  refine g_icmp_ge C 19 41 dN9_clock_19 (by decide) (fun hq => absurd hq (by decide)) (fun _ => ?_)
  refine g_aload_n C 22 4 dN9_clock_22 rfl ?_
  refine g_iload C 23 0 dN9_clock_23 rfl ?_
  refine g_iald C 25 0 rfl (by decide) dN9_clock_25 ?_
  show Gn _ _ _ _ _ _ _ _ (.int (0 : Int32) :: _)
  refine g_istore (L' := [(6, .int (0 : Int32)), (5, .int (2 : Int32)), (2, .int (0 : Int32)), (4, .int (5 : Int32)), (3, .ref q4), (0, .ref z), (1, .int c)]) C 26 dN9_clock_26 (hN _ (Nat.le_of_ble_eq_true rfl)) rfl ?_
  refine g_iload_n C 28 2 dN9_clock_28 rfl ?_
  refine g_iload C 29 0 dN9_clock_29 rfl ?_
  refine g_mmax C 31 tw_1355 tw_470 tw_49 tw_471 (Nat.le_of_ble_eq_true rfl) (Nat.le_of_ble_eq_true rfl) (Nat.le_of_ble_eq_true rfl) (Nat.le_of_ble_eq_true rfl) dN9_clock_31 ?_
  rw [show (if (0 : Int32) < (0 : Int32) then (0 : Int32) else (0 : Int32)) = (0 : Int32) from by decide]
  refine g_istore_n (L' := [(2, .int (0 : Int32)), (6, .int (0 : Int32)), (5, .int (2 : Int32)), (4, .int (5 : Int32)), (3, .ref q4), (0, .ref z), (1, .int c)]) C 34 dN9_clock_34 rfl (hN _ (Nat.le_of_ble_eq_true rfl)) rfl ?_
  refine g_iinc (v := (3 : Int32)) (L' := [(5, .int (3 : Int32)), (2, .int (0 : Int32)), (6, .int (0 : Int32)), (4, .int (5 : Int32)), (3, .ref q4), (0, .ref z), (1, .int c)]) C 35 2 dN9_clock_35 rfl (by decide) (hN _ (Nat.le_of_ble_eq_true rfl)) rfl ?_
  refine g_goto C 38 15 dN9_clock_38 (by decide) ?_
  refine g_iload C 15 0 dN9_clock_15 rfl ?_
  refine g_iload C 17 3 dN9_clock_17 rfl ?_
  refine g_icmp_ge C 19 41 dN9_clock_19 (by decide) (fun hq => absurd hq (by decide)) (fun _ => ?_)
  refine g_aload_n C 22 4 dN9_clock_22 rfl ?_
  refine g_iload C 23 0 dN9_clock_23 rfl ?_
  refine g_iald C 25 0 rfl (by decide) dN9_clock_25 ?_
  show Gn _ _ _ _ _ _ _ _ (.int (0 : Int32) :: _)
  refine g_istore (L' := [(6, .int (0 : Int32)), (5, .int (3 : Int32)), (2, .int (0 : Int32)), (4, .int (5 : Int32)), (3, .ref q4), (0, .ref z), (1, .int c)]) C 26 dN9_clock_26 (hN _ (Nat.le_of_ble_eq_true rfl)) rfl ?_
  refine g_iload_n C 28 2 dN9_clock_28 rfl ?_
  refine g_iload C 29 0 dN9_clock_29 rfl ?_
  refine g_mmax C 31 tw_1355 tw_470 tw_49 tw_471 (Nat.le_of_ble_eq_true rfl) (Nat.le_of_ble_eq_true rfl) (Nat.le_of_ble_eq_true rfl) (Nat.le_of_ble_eq_true rfl) dN9_clock_31 ?_
  rw [show (if (0 : Int32) < (0 : Int32) then (0 : Int32) else (0 : Int32)) = (0 : Int32) from by decide]
  refine g_istore_n (L' := [(2, .int (0 : Int32)), (6, .int (0 : Int32)), (5, .int (3 : Int32)), (4, .int (5 : Int32)), (3, .ref q4), (0, .ref z), (1, .int c)]) C 34 dN9_clock_34 rfl (hN _ (Nat.le_of_ble_eq_true rfl)) rfl ?_
  refine g_iinc (v := (4 : Int32)) (L' := [(5, .int (4 : Int32)), (2, .int (0 : Int32)), (6, .int (0 : Int32)), (4, .int (5 : Int32)), (3, .ref q4), (0, .ref z), (1, .int c)]) C 35 2 dN9_clock_35 rfl (by decide) (hN _ (Nat.le_of_ble_eq_true rfl)) rfl ?_
  refine g_goto C 38 15 dN9_clock_38 (by decide) ?_
  refine g_iload C 15 0 dN9_clock_15 rfl ?_
  refine g_iload C 17 3 dN9_clock_17 rfl ?_
  refine g_icmp_ge C 19 41 dN9_clock_19 (by decide) (fun hq => absurd hq (by decide)) (fun _ => ?_)
  refine g_aload_n C 22 4 dN9_clock_22 rfl ?_
  refine g_iload C 23 0 dN9_clock_23 rfl ?_
  refine g_iald C 25 0 rfl (by decide) dN9_clock_25 ?_
  show Gn _ _ _ _ _ _ _ _ (.int (0 : Int32) :: _)
  refine g_istore (L' := [(6, .int (0 : Int32)), (5, .int (4 : Int32)), (2, .int (0 : Int32)), (4, .int (5 : Int32)), (3, .ref q4), (0, .ref z), (1, .int c)]) C 26 dN9_clock_26 (hN _ (Nat.le_of_ble_eq_true rfl)) rfl ?_
  refine g_iload_n C 28 2 dN9_clock_28 rfl ?_
  refine g_iload C 29 0 dN9_clock_29 rfl ?_
  refine g_mmax C 31 tw_1355 tw_470 tw_49 tw_471 (Nat.le_of_ble_eq_true rfl) (Nat.le_of_ble_eq_true rfl) (Nat.le_of_ble_eq_true rfl) (Nat.le_of_ble_eq_true rfl) dN9_clock_31 ?_
  rw [show (if (0 : Int32) < (0 : Int32) then (0 : Int32) else (0 : Int32)) = (0 : Int32) from by decide]
  refine g_istore_n (L' := [(2, .int (0 : Int32)), (6, .int (0 : Int32)), (5, .int (4 : Int32)), (4, .int (5 : Int32)), (3, .ref q4), (0, .ref z), (1, .int c)]) C 34 dN9_clock_34 rfl (hN _ (Nat.le_of_ble_eq_true rfl)) rfl ?_
  refine g_iinc (v := (5 : Int32)) (L' := [(5, .int (5 : Int32)), (2, .int (0 : Int32)), (6, .int (0 : Int32)), (4, .int (5 : Int32)), (3, .ref q4), (0, .ref z), (1, .int c)]) C 35 2 dN9_clock_35 rfl (by decide) (hN _ (Nat.le_of_ble_eq_true rfl)) rfl ?_
  refine g_goto C 38 15 dN9_clock_38 (by decide) ?_
  refine g_iload C 15 0 dN9_clock_15 rfl ?_
  refine g_iload C 17 3 dN9_clock_17 rfl ?_
  refine g_icmp_ge C 19 41 dN9_clock_19 (by decide) (fun _ => ?_) (fun hq => absurd (by decide) hq)
  refine g_iload_n C 41 1 dN9_clock_41 rfl ?_
  exact g_iret C R (Nat.le_of_ble_eq_true rfl) (Nat.le_of_ble_eq_true rfl) 42 dN9_clock_42 (fun H _ _ => ⟨[], ⟨rfl, rfl⟩, fun j x h => by simp at h, ⟨fun i j a b h => by simp at h, fun j x h => by simp at h⟩⟩)
set_option maxRecDepth 100000 in
set_option maxHeartbeats 4000000 in
theorem q_many (l : Launch) (D : va_G) (cy : Nat → ClassId) (z : Nat) (u : Nat → Nat) (iv fs : Nat → Int32) (c : Int32) : Cq l D cy yN9_many cN9_many 4 (some .int) 1 12 0 0 [.ref z, .int c] (netW cy z u iv fs) (fun rv nl => rv = some (.int 0) ∧ nl = []) := by
  refine Cq_intro (own := RN9) (by decide +kernel) rfl (Nat.le_of_ble_eq_true rfl) [(0, .ref z), (1, .int c)] rfl (fun K hl hn C hcs hc R => ?_)
  have hN := nl_of (K := K) hn
  have hW : ∀ ws : va_W, Wo K D (fun q => (Ks K).heap.size ≤ q) ws (netW cy z u iv fs) := fun ws => Wo.const hc
  refine g_iconst C 0 dN9_many_0 ki_0 ?_
  refine g_istore_n (L' := [(2, .int (0 : Int32)), (0, .ref z), (1, .int c)]) C 1 dN9_many_1 rfl (hN _ (Nat.le_of_ble_eq_true rfl)) rfl ?_
  refine g_iconst C 2 dN9_many_2 ki_0 ?_
  refine g_istore_n (L' := [(3, .int (0 : Int32)), (2, .int (0 : Int32)), (0, .ref z), (1, .int c)]) C 3 dN9_many_3 rfl (hN _ (Nat.le_of_ble_eq_true rfl)) rfl ?_
  refine g_iload_n C 4 0 dN9_many_4 rfl ?_
  refine g_aload_n C 5 2 dN9_many_5 rfl ?_
  refine g_cget C (hW _) 6 0 rfl 4 (Nat.le_of_ble_eq_true rfl) rfl tw_1174 rfl dN9_many_6 ?_
  refine g_icmp_ge C 9 32 dN9_many_9 (by decide) (fun _ => ?_) (fun hq => absurd (by decide) hq)
  refine g_iload_n C 32 1 dN9_many_32 rfl ?_
  exact g_iret C R (Nat.le_of_ble_eq_true rfl) (Nat.le_of_ble_eq_true rfl) 33 dN9_many_33 (fun H _ _ => ⟨[], ⟨rfl, rfl⟩, fun j x h => by simp at h, ⟨fun i j a b h => by simp at h, fun j x h => by simp at h⟩⟩)
set_option maxRecDepth 100000 in
set_option maxHeartbeats 4000000 in
theorem q_log (l : Launch) (D : va_G) (cy : Nat → ClassId) (z : Nat) (u : Nat → Nat) (iv fs : Nat → Int32) (c : Int32) (hcc : ib c 5) : Cq l D cy yN9_log cN9_log 6 (some (.array .int)) 2 35 1 0 [.ref z, .int c] (netW cy z u iv fs) (fun rv nl => ∃ q, rv = some (.ref q) ∧ nl = [(q, .inl (cy 1, 0, .inl (fun _ => 0)))]) := by
  refine Cq_intro (own := RN9) (by decide +kernel) rfl (Nat.le_of_ble_eq_true rfl) [(0, .ref z), (1, .int c)] rfl (fun K hl hn C hcs hc R => ?_)
  have hN := nl_of (K := K) hn
  have hW : ∀ ws : va_W, Wo K D (fun q => (Ks K).heap.size ≤ q) ws (netW cy z u iv fs) := fun ws => Wo.const hc
  refine g_aload_n C 0 0 dN9_log_0 rfl ?_
  refine g_iload_n C 1 1 dN9_log_1 rfl ?_
  refine g_callQV C hcs 2 [.int c] [] rfl tw_1320 mv_N9_many rfl (Nat.le_of_ble_eq_true rfl) (Nat.le_of_ble_eq_true rfl) (Nat.le_of_ble_eq_true rfl) (Nat.le_of_ble_eq_true rfl) (Nat.le_of_ble_eq_true rfl) dN9_log_2 (q_many (Kl K) D cy z u iv fs c) (hW _) rfl (fun rv2 nl2 hr2 => ?_)
  obtain ⟨rfl, rfl⟩ := hr2
  refine g_eq (ws2 := ([] : va_W)) rfl ?_
  refine g_newi C 5 0 (by decide) rfl (Nat.le_of_ble_eq_true rfl) (Nat.le_of_ble_eq_true rfl) (Nat.le_of_ble_eq_true rfl) dN9_log_5 (fun q5 => ?_)
  refine g_eq (ws2 := ([(q5, .inl (cy 1, 0, .inl (fun _ => 0)))] : va_W)) rfl ?_
  refine g_astore_n (L' := [(2, .ref q5), (0, .ref z), (1, .int c)]) C 7 dN9_log_7 rfl (hN _ (Nat.le_of_ble_eq_true rfl)) rfl ?_
  refine g_iconst C 8 dN9_log_8 ki_0 ?_
  refine g_istore_n (L' := [(3, .int (0 : Int32)), (2, .ref q5), (0, .ref z), (1, .int c)]) C 9 dN9_log_9 rfl (hN _ (Nat.le_of_ble_eq_true rfl)) rfl ?_
  refine g_iload_n C 10 0 dN9_log_10 rfl ?_
  refine g_aload_n C 11 2 dN9_log_11 rfl ?_
  refine g_cget C (hW _) 12 0 rfl 12 (Nat.le_of_ble_eq_true rfl) rfl tw_1186 rfl dN9_log_12 ?_
  refine g_iload_n C 15 3 dN9_log_15 rfl ?_
  refine g_ciald C (hW _) 16 2 rfl hcc dN9_log_16 ?_
  show Gn _ _ _ _ _ _ _ _ (.int (0 : Int32) :: _)
  refine g_icmp_ge C 17 35 dN9_log_17 (by decide) (fun _ => ?_) (fun hq => absurd (by decide) hq)
  refine g_iconst C 35 dN9_log_35 ki_0 ?_
  refine g_istore_n (L' := [(3, .int (0 : Int32)), (2, .ref q5), (0, .ref z), (1, .int c)]) C 36 dN9_log_36 rfl (hN _ (Nat.le_of_ble_eq_true rfl)) rfl ?_
  refine g_iload_n C 37 0 dN9_log_37 rfl ?_
  refine g_aload_n C 38 2 dN9_log_38 rfl ?_
  refine g_cget C (hW _) 39 0 rfl 4 (Nat.le_of_ble_eq_true rfl) rfl tw_1174 rfl dN9_log_39 ?_
  refine g_icmp_ge C 42 175 dN9_log_42 (by decide) (fun _ => ?_) (fun hq => absurd (by decide) hq)
  refine g_aload_n C 175 1 dN9_log_175 rfl ?_
  exact g_aret C R (Or.inr ⟨_, rfl⟩) (Nat.le_of_ble_eq_true rfl) (Nat.le_of_ble_eq_true rfl) 176 dN9_log_176 (fun H hP hD => ⟨_, ⟨q5, rfl, rfl⟩, hP, hD⟩)
def dnR (a b c : Nat) : Nat → Option Nat := va_up (va_up (va_up (fun _ => none) (ix (0 : Int32)) (some a)) (ix (1 : Int32)) (some b)) (ix (2 : Int32)) (some c)
set_option maxRecDepth 100000 in
set_option maxHeartbeats 4000000 in
theorem q_done (l : Launch) (D : va_G) (cy : Nat → ClassId) (z : Nat) (u : Nat → Nat) (iv fs : Nat → Int32) (lg : Nat) (o : Int32) : Cq l D cy yN9_done cN9_done 14 (some (.array (.array .int))) 1 30 4 7 [.ref z, .ref lg, .int (0 : Int32), .int o] (netW cy z u iv fs ++ [(lg, .inl (cy 1, 0, .inl (fun _ => 0)))]) (fun rv nl => ∃ q qi qo qc, rv = some (.ref q) ∧ nl = [(qi, .inl (cy 1, 4, .inl fs)), (qo, .inl (cy 1, 0, .inl (fun _ => 0))), (qc, .inl (cy 1, 0, .inl (fun _ => 0))), (q, .inl (cy 6, 3, .inr (.inr (.inr (.inr (dnR qo qc qi))))))]) := by
  refine Cq_intro (own := RN9) (by decide +kernel) rfl (Nat.le_of_ble_eq_true rfl) [(0, .ref z), (1, .ref lg), (2, .int (0 : Int32)), (3, .int o)] rfl (fun K hl hn C hcs hc R => ?_)
  have hN := nl_of (K := K) hn
  have hW : ∀ ws : va_W, Wo K D (fun q => (Ks K).heap.size ≤ q) ws (netW cy z u iv fs ++ [(lg, .inl (cy 1, 0, .inl (fun _ => 0)))]) := fun ws => Wo.const hc
  refine g_aload_n C 0 0 dN9_done_0 rfl ?_
  refine g_cget C (hW _) 1 0 rfl 8 (Nat.le_of_ble_eq_true rfl) rfl tw_1179 rfl dN9_done_1 ?_
  refine g_clone C hcs (hW _) 4 1 rfl tw_1337 tw_1338 tw_1339 tw_1340 tw_1341 (Nat.le_of_ble_eq_true rfl) (Nat.le_of_ble_eq_true rfl) (Nat.le_of_ble_eq_true rfl) (Nat.le_of_ble_eq_true rfl) dN9_done_4 (fun q4 => ?_)
  refine g_eq (ws2 := ([(q4, .inl (cy 1, 4, .inl fs))] : va_W)) rfl ?_
  refine g_castI (wl := []) C 7 0 rfl tw_1164 dN9_done_7 ?_
  refine g_astore (L' := [(4, .ref q4), (0, .ref z), (1, .ref lg), (2, .int (0 : Int32)), (3, .int o)]) C 10 dN9_done_10 (hN _ (Nat.le_of_ble_eq_true rfl)) rfl ?_
  refine g_aload_n C 12 2 dN9_done_12 rfl ?_
  refine g_calen (v := (0 : Int32)) C (hW _) 13 20 1 rfl rfl rfl dN9_done_13 ?_
  refine g_newi C 14 0 (by decide) rfl (Nat.le_of_ble_eq_true rfl) (Nat.le_of_ble_eq_true rfl) (Nat.le_of_ble_eq_true rfl) dN9_done_14 (fun q14 => ?_)
  refine g_eq (ws2 := ([(q4, .inl (cy 1, 4, .inl fs)), (q14, .inl (cy 1, 0, .inl (fun _ => 0)))] : va_W)) rfl ?_
  refine g_astore (L' := [(5, .ref q14), (4, .ref q4), (0, .ref z), (1, .ref lg), (2, .int (0 : Int32)), (3, .int o)]) C 16 dN9_done_16 (hN _ (Nat.le_of_ble_eq_true rfl)) rfl ?_
  refine g_aload_n C 18 3 dN9_done_18 rfl ?_
  refine g_calen (v := (0 : Int32)) C (hW _) 19 20 1 rfl rfl rfl dN9_done_19 ?_
  refine g_newi C 20 0 (by decide) rfl (Nat.le_of_ble_eq_true rfl) (Nat.le_of_ble_eq_true rfl) (Nat.le_of_ble_eq_true rfl) dN9_done_20 (fun q20 => ?_)
  refine g_eq (ws2 := ([(q4, .inl (cy 1, 4, .inl fs)), (q14, .inl (cy 1, 0, .inl (fun _ => 0))), (q20, .inl (cy 1, 0, .inl (fun _ => 0)))] : va_W)) rfl ?_
  refine g_astore (L' := [(6, .ref q20), (5, .ref q14), (4, .ref q4), (0, .ref z), (1, .ref lg), (2, .int (0 : Int32)), (3, .int o)]) C 22 dN9_done_22 (hN _ (Nat.le_of_ble_eq_true rfl)) rfl ?_
  refine g_iconst C 24 dN9_done_24 ki_0 ?_
  refine g_istore (L' := [(7, .int (0 : Int32)), (6, .ref q20), (5, .ref q14), (4, .ref q4), (0, .ref z), (1, .ref lg), (2, .int (0 : Int32)), (3, .int o)]) C 25 dN9_done_25 (hN _ (Nat.le_of_ble_eq_true rfl)) rfl ?_
  refine g_iload C 27 0 dN9_done_27 rfl ?_
  refine g_iload_n C 29 6 dN9_done_29 rfl ?_
  refine g_icmp_ge C 30 289 dN9_done_30 (by decide) (fun _ => ?_) (fun hq => absurd (by decide) hq)
  refine g_iconst C 289 dN9_done_289 ki_3 ?_
  refine g_anewA (t := .int) C 290 3 tw_1164 (show (T6 cy)[6]? = some (cy 6, .array .int) from rfl) (fun _ h => h) (fun _ h => h.2.2.2.1) (by decide) rfl (Nat.le_of_ble_eq_true rfl) (Nat.le_of_ble_eq_true rfl) (Nat.le_of_ble_eq_true rfl) dN9_done_290 (fun q290 => ?_)
  refine g_eq (ws2 := ([(q4, .inl (cy 1, 4, .inl fs)), (q14, .inl (cy 1, 0, .inl (fun _ => 0))), (q20, .inl (cy 1, 0, .inl (fun _ => 0))), (q290, .inl (cy 6, 3, .inr (.inr (.inr (.inr (fun _ => none))))))] : va_W)) rfl ?_
  refine g_dup C 293 dN9_done_293 rfl ?_
  refine g_iconst C 294 dN9_done_294 ki_0 ?_
  refine g_aload C 295 2 dN9_done_295 rfl ?_
  refine g_aast (t := .int) (f' := va_up (fun _ => none) (ix (0 : Int32)) (some q14)) (ws' := ([(q4, .inl (cy 1, 4, .inl fs)), (q14, .inl (cy 1, 0, .inl (fun _ => 0))), (q20, .inl (cy 1, 0, .inl (fun _ => 0))), (q290, .inl (cy 6, 3, .inr (.inr (.inr (.inr (va_up (fun _ => none) (ix (0 : Int32)) (some q14)))))))] : va_W)) C 297 3 6 1 rfl (show (T6 cy)[6]? = some (cy 6, .array .int) from rfl) rfl (fun _ h => h.2.2.2.1) (fun _ h => (h.2 1 (cy 1, .int) rfl).2) (fun _ h => h) (by decide) rfl rfl dN9_done_297 ?_
  refine g_dup C 298 dN9_done_298 rfl ?_
  refine g_iconst C 299 dN9_done_299 ki_1 ?_
  refine g_aload C 300 1 dN9_done_300 rfl ?_
  refine g_aast (t := .int) (f' := va_up (va_up (fun _ => none) (ix (0 : Int32)) (some q14)) (ix (1 : Int32)) (some q20)) (ws' := ([(q4, .inl (cy 1, 4, .inl fs)), (q14, .inl (cy 1, 0, .inl (fun _ => 0))), (q20, .inl (cy 1, 0, .inl (fun _ => 0))), (q290, .inl (cy 6, 3, .inr (.inr (.inr (.inr (va_up (va_up (fun _ => none) (ix (0 : Int32)) (some q14)) (ix (1 : Int32)) (some q20)))))))] : va_W)) C 302 3 6 2 rfl (show (T6 cy)[6]? = some (cy 6, .array .int) from rfl) rfl (fun _ h => h.2.2.2.1) (fun _ h => (h.2 1 (cy 1, .int) rfl).2) (fun _ h => h) (by decide) rfl rfl dN9_done_302 ?_
  refine g_dup C 303 dN9_done_303 rfl ?_
  refine g_iconst C 304 dN9_done_304 ki_2 ?_
  refine g_aload C 305 3 dN9_done_305 rfl ?_
  refine g_aast (t := .int) (f' := va_up (va_up (va_up (fun _ => none) (ix (0 : Int32)) (some q14)) (ix (1 : Int32)) (some q20)) (ix (2 : Int32)) (some q4)) (ws' := ([(q4, .inl (cy 1, 4, .inl fs)), (q14, .inl (cy 1, 0, .inl (fun _ => 0))), (q20, .inl (cy 1, 0, .inl (fun _ => 0))), (q290, .inl (cy 6, 3, .inr (.inr (.inr (.inr (va_up (va_up (va_up (fun _ => none) (ix (0 : Int32)) (some q14)) (ix (1 : Int32)) (some q20)) (ix (2 : Int32)) (some q4)))))))] : va_W)) C 307 3 6 0 rfl (show (T6 cy)[6]? = some (cy 6, .array .int) from rfl) rfl (fun _ h => h.2.2.2.1) (fun _ h => (h.2 1 (cy 1, .int) rfl).2) (fun _ h => h) (by decide) rfl rfl dN9_done_307 ?_
  exact g_aret C R (Or.inr ⟨_, rfl⟩) (Nat.le_of_ble_eq_true rfl) (Nat.le_of_ble_eq_true rfl) 308 dN9_done_308 (fun H hP hD => ⟨_, ⟨q290, q4, q14, q20, rfl, rfl⟩, hP, hD⟩)
set_option maxRecDepth 100000 in
set_option maxHeartbeats 4000000 in
theorem q_done_ (l : Launch) (D : va_G) (cy : Nat → ClassId) (z : Nat) (u : Nat → Nat) (iv fs : Nat → Int32) (c : Int32) (hcc : ib c 5) : Cq l D cy yN9_done_ cN9_done_ 3 (some (.array (.array .int))) 3 63 5 7 [.ref z, .int c] (netW cy z u iv fs) (fun rv nl => ∃ q qi qo qc lg, rv = some (.ref q) ∧ nl = [(lg, .inl (cy 1, 0, .inl (fun _ => 0))), (qi, .inl (cy 1, 4, .inl fs)), (qo, .inl (cy 1, 0, .inl (fun _ => 0))), (qc, .inl (cy 1, 0, .inl (fun _ => 0))), (q, .inl (cy 6, 3, .inr (.inr (.inr (.inr (dnR qo qc qi))))))]) := by
  refine Cq_intro (own := RN9) (by decide +kernel) rfl (Nat.le_of_ble_eq_true rfl) [(0, .ref z), (1, .int c)] rfl (fun K hl hn C hcs hc R => ?_)
  have hN := nl_of (K := K) hn
  have hW : ∀ ws : va_W, Wo K D (fun q => (Ks K).heap.size ≤ q) ws (netW cy z u iv fs) := fun ws => Wo.const hc
  refine g_aload_n C 0 0 dN9_done__0 rfl ?_
  refine g_iload_n C 1 1 dN9_done__1 rfl ?_
  refine g_callQV C hcs 2 [.int c] [] rfl tw_1332 mv_N9_log rfl (Nat.le_of_ble_eq_true rfl) (Nat.le_of_ble_eq_true rfl) (Nat.le_of_ble_eq_true rfl) (Nat.le_of_ble_eq_true rfl) (Nat.le_of_ble_eq_true rfl) dN9_done__2 (q_log (Kl K) D cy z u iv fs c hcc) (hW _) rfl (fun rv2 nl2 hr2 => ?_)
  obtain ⟨q2, rfl, rfl⟩ := hr2
  refine g_eq (ws2 := ([(q2, .inl (cy 1, 0, .inl (fun _ => 0)))] : va_W)) rfl ?_
  refine g_astore_n (L' := [(2, .ref q2), (0, .ref z), (1, .int c)]) C 5 dN9_done__5 rfl (hN _ (Nat.le_of_ble_eq_true rfl)) rfl ?_
  refine g_aload_n C 6 1 dN9_done__6 rfl ?_
  refine g_aload_n C 7 0 dN9_done__7 rfl ?_
  refine g_aload_n C 8 0 dN9_done__8 rfl ?_
  refine g_alen (v := (0 : Int32)) C 9 0 1 rfl rfl rfl dN9_done__9 ?_
  refine g_iconst C 10 dN9_done__10 ki_m1 ?_
  refine g_callQV C hcs 11 [.ref q2, .int (0 : Int32), .int (-1 : Int32)] [] rfl tw_1333 mv_N9_done rfl (Nat.le_of_ble_eq_true rfl) (Nat.le_of_ble_eq_true rfl) (Nat.le_of_ble_eq_true rfl) (Nat.le_of_ble_eq_true rfl) (Nat.le_of_ble_eq_true rfl) dN9_done__11 (q_done (Kl K) D cy z u iv fs q2 (-1 : Int32)) (Wo.app (hW _) (Wo.sub [0] rfl)) rfl (fun rv11 nl11 hr11 => ?_)
  obtain ⟨q11, qi11, qo11, qc11, rfl, rfl⟩ := hr11
  refine g_eq (ws2 := ([(q2, .inl (cy 1, 0, .inl (fun _ => 0))), (qi11, .inl (cy 1, 4, .inl fs)), (qo11, .inl (cy 1, 0, .inl (fun _ => 0))), (qc11, .inl (cy 1, 0, .inl (fun _ => 0))), (q11, .inl (cy 6, 3, .inr (.inr (.inr (.inr (dnR qo11 qc11 qi11))))))] : va_W)) rfl ?_
  exact g_aret C R (Or.inr ⟨_, rfl⟩) (Nat.le_of_ble_eq_true rfl) (Nat.le_of_ble_eq_true rfl) 14 dN9_done__14 (fun H hP hD => ⟨_, ⟨q11, qi11, qo11, qc11, q2, rfl, rfl⟩, hP, hD⟩)
set_option maxRecDepth 100000 in
set_option maxHeartbeats 4000000 in
theorem q_lacks (l : Launch) (D : va_G) (cy : Nat → ClassId) (z : Nat) (u : Nat → Nat) (iv fs : Nat → Int32) (a b : Int32) : Cq l D cy yN9_lacks cN9_lacks 5 (some .int) 1 12 0 0 [.ref z, .int a, .int b] (netW cy z u iv fs) (fun rv nl => rv = some (.int 0) ∧ nl = []) := by
  refine Cq_intro (own := RN9) (by decide +kernel) rfl (Nat.le_of_ble_eq_true rfl) [(0, .ref z), (1, .int a), (2, .int b)] rfl (fun K hl hn C hcs hc R => ?_)
  have hN := nl_of (K := K) hn
  have hW : ∀ ws : va_W, Wo K D (fun q => (Ks K).heap.size ≤ q) ws (netW cy z u iv fs) := fun ws => Wo.const hc
  refine g_iconst C 0 dN9_lacks_0 ki_0 ?_
  refine g_istore_n (L' := [(3, .int (0 : Int32)), (0, .ref z), (1, .int a), (2, .int b)]) C 1 dN9_lacks_1 rfl (hN _ (Nat.le_of_ble_eq_true rfl)) rfl ?_
  refine g_iconst C 2 dN9_lacks_2 ki_0 ?_
  refine g_istore (L' := [(4, .int (0 : Int32)), (3, .int (0 : Int32)), (0, .ref z), (1, .int a), (2, .int b)]) C 3 dN9_lacks_3 (hN _ (Nat.le_of_ble_eq_true rfl)) rfl ?_
  refine g_iload C 5 0 dN9_lacks_5 rfl ?_
  refine g_aload_n C 7 2 dN9_lacks_7 rfl ?_
  refine g_cget C (hW _) 8 0 rfl 4 (Nat.le_of_ble_eq_true rfl) rfl tw_1174 rfl dN9_lacks_8 ?_
  refine g_icmp_ge C 11 47 dN9_lacks_11 (by decide) (fun _ => ?_) (fun hq => absurd (by decide) hq)
  refine g_iload_n C 47 1 dN9_lacks_47 rfl ?_
  exact g_iret C R (Nat.le_of_ble_eq_true rfl) (Nat.le_of_ble_eq_true rfl) 48 dN9_lacks_48 (fun H _ _ => ⟨[], ⟨rfl, rfl⟩, fun j x h => by simp at h, ⟨fun i j a b h => by simp at h, fun j x h => by simp at h⟩⟩)
set_option maxRecDepth 100000 in
set_option maxHeartbeats 4000000 in
theorem q_sameC (l : Launch) (D : va_G) (cy : Nat → ClassId) (z : Nat) (u : Nat → Nat) (iv fs : Nat → Int32) (a b : Int32) (ha : ib a 5) (hb : ib b 5) : Cq l D cy yN9_same cN9_same 3 (some .boolean) 2 36 0 0 [.ref z, .int a, .int b] (netW cy z u iv fs) (fun rv nl => rv = some (.int 1) ∧ nl = []) := by
  refine Cq_intro (own := RN9) (by decide +kernel) rfl (Nat.le_of_ble_eq_true rfl) [(0, .ref z), (1, .int a), (2, .int b)] rfl (fun K hl hn C hcs hc R => ?_)
  have hN := nl_of (K := K) hn
  have hW : ∀ ws : va_W, Wo K D (fun q => (Ks K).heap.size ≤ q) ws (netW cy z u iv fs) := fun ws => Wo.const hc
  refine g_aload_n C 0 0 dN9_same_0 rfl ?_
  refine g_iload_n C 1 1 dN9_same_1 rfl ?_
  refine g_iload_n C 2 2 dN9_same_2 rfl ?_
  refine g_callQV C hcs 3 [.int a, .int b] [] rfl tw_1372 mv_N9_lacks rfl (Nat.le_of_ble_eq_true rfl) (Nat.le_of_ble_eq_true rfl) (Nat.le_of_ble_eq_true rfl) (Nat.le_of_ble_eq_true rfl) (Nat.le_of_ble_eq_true rfl) dN9_same_3 (q_lacks (Kl K) D cy z u iv fs a b) (hW _) rfl (fun rv3 nl3 hr3 => ?_)
  obtain ⟨rfl, rfl⟩ := hr3
  refine g_eq (ws2 := ([] : va_W)) rfl ?_
  refine g_aload_n C 6 0 dN9_same_6 rfl ?_
  refine g_iload_n C 7 2 dN9_same_7 rfl ?_
  refine g_iload_n C 8 1 dN9_same_8 rfl ?_
  refine g_callQV C hcs 9 [.int b, .int a] [.int (0 : Int32)] rfl tw_1372 mv_N9_lacks rfl (Nat.le_of_ble_eq_true rfl) (Nat.le_of_ble_eq_true rfl) (Nat.le_of_ble_eq_true rfl) (Nat.le_of_ble_eq_true rfl) (Nat.le_of_ble_eq_true rfl) dN9_same_9 (q_lacks (Kl K) D cy z u iv fs b a) (hW _) rfl (fun rv9 nl9 hr9 => ?_)
  obtain ⟨rfl, rfl⟩ := hr9
  refine g_eq (ws2 := ([] : va_W)) rfl ?_
  refine g_iadd C 12 dN9_same_12 ?_
  rw [show ((0 : Int32) + (0 : Int32)) = (0 : Int32) from by decide]
  refine g_if_ne C 13 35 dN9_same_13 (by decide) (fun hq => absurd hq (by decide)) (fun _ => ?_)
  refine g_aload_n C 16 0 dN9_same_16 rfl ?_
  refine g_cget C (hW _) 17 0 rfl 12 (Nat.le_of_ble_eq_true rfl) rfl tw_1186 rfl dN9_same_17 ?_
  refine g_iload_n C 20 1 dN9_same_20 rfl ?_
  refine g_ciald C (hW _) 21 2 rfl ha dN9_same_21 ?_
  show Gn _ _ _ _ _ _ _ _ (.int (0 : Int32) :: _)
  refine g_aload_n C 22 0 dN9_same_22 rfl ?_
  refine g_cget C (hW _) 23 0 rfl 12 (Nat.le_of_ble_eq_true rfl) rfl tw_1186 rfl dN9_same_23 ?_
  refine g_iload_n C 26 2 dN9_same_26 rfl ?_
  refine g_ciald C (hW _) 27 2 rfl hb dN9_same_27 ?_
  show Gn _ _ _ _ _ _ _ _ (.int (0 : Int32) :: _)
  refine g_icmp_ne C 28 35 dN9_same_28 (by decide) (fun hq => absurd hq (fun z => z rfl)) (fun _ => ?_)
  refine g_iconst C 31 dN9_same_31 ki_1 ?_
  refine g_goto C 32 36 dN9_same_32 (by decide) ?_
  exact g_zret C R (zb_nar (r := (1 : Int32)) (Or.inr rfl)) (Nat.le_of_ble_eq_true rfl) (Nat.le_of_ble_eq_true rfl) 36 dN9_same_36 (fun H _ _ => ⟨[], ⟨rfl, rfl⟩, fun j x h => by simp at h, ⟨fun i j a b h => by simp at h, fun j x h => by simp at h⟩⟩)
set_option maxRecDepth 100000 in
set_option maxHeartbeats 4000000 in
theorem q_sum5 (l : Launch) (D : va_G) (cy : Nat → ClassId) (z : Nat) (u : Nat → Nat) (iv fs : Nat → Int32) (sa : Nat) : Cq l D cy yN9_sum cN9_sum 7 (some .int) 1 12 0 0 [.ref z, .ref sa] (netW cy z u iv fs ++ [(sa, .inl (cy 1, 5, .inl (fun _ => 0)))]) (fun rv nl => rv = some (.int 0) ∧ nl = []) := by
  refine Cq_intro (own := RN9) (by decide +kernel) rfl (Nat.le_of_ble_eq_true rfl) [(0, .ref z), (1, .ref sa)] rfl (fun K hl hn C hcs hc R => ?_)
  have hN := nl_of (K := K) hn
  have hW : ∀ ws : va_W, Wo K D (fun q => (Ks K).heap.size ≤ q) ws (netW cy z u iv fs ++ [(sa, .inl (cy 1, 5, .inl (fun _ => 0)))]) := fun ws => Wo.const hc
  refine g_iconst C 0 dN9_sum_0 ki_0 ?_
  refine g_istore_n (L' := [(2, .int (0 : Int32)), (0, .ref z), (1, .ref sa)]) C 1 dN9_sum_1 rfl (hN _ (Nat.le_of_ble_eq_true rfl)) rfl ?_
  refine g_aload_n C 2 2 dN9_sum_2 rfl ?_
  refine g_astore_n (L' := [(3, .ref sa), (2, .int (0 : Int32)), (0, .ref z), (1, .ref sa)]) C 3 dN9_sum_3 rfl (hN _ (Nat.le_of_ble_eq_true rfl)) rfl ?_
  refine g_aload_n C 4 0 dN9_sum_4 rfl ?_
  refine g_calen (v := (5 : Int32)) C (hW _) 5 20 1 rfl rfl rfl dN9_sum_5 ?_
  refine g_istore (L' := [(4, .int (5 : Int32)), (3, .ref sa), (2, .int (0 : Int32)), (0, .ref z), (1, .ref sa)]) C 6 dN9_sum_6 (hN _ (Nat.le_of_ble_eq_true rfl)) rfl ?_
  refine g_iconst C 8 dN9_sum_8 ki_0 ?_
  refine g_istore (L' := [(5, .int (0 : Int32)), (4, .int (5 : Int32)), (3, .ref sa), (2, .int (0 : Int32)), (0, .ref z), (1, .ref sa)]) C 9 dN9_sum_9 (hN _ (Nat.le_of_ble_eq_true rfl)) rfl ?_
  refine g_iload C 11 0 dN9_sum_11 rfl ?_
  refine g_iload C 13 1 dN9_sum_13 rfl ?_
  refine g_icmp_ge C 15 35 dN9_sum_15 (by decide) (fun hq => absurd hq (by decide)) (fun _ => ?_)
  refine g_aload_n C 18 2 dN9_sum_18 rfl ?_
  refine g_iload C 19 0 dN9_sum_19 rfl ?_
  refine g_ciald C (hW _) 21 20 rfl (by decide) dN9_sum_21 ?_
  show Gn _ _ _ _ _ _ _ _ (.int (0 : Int32) :: _)
  refine g_istore (L' := [(6, .int (0 : Int32)), (5, .int (0 : Int32)), (4, .int (5 : Int32)), (3, .ref sa), (2, .int (0 : Int32)), (0, .ref z), (1, .ref sa)]) C 22 dN9_sum_22 (hN _ (Nat.le_of_ble_eq_true rfl)) rfl ?_
  refine g_iload_n C 24 4 dN9_sum_24 rfl ?_
  refine g_iload C 25 0 dN9_sum_25 rfl ?_
  refine g_iadd C 27 dN9_sum_27 ?_
  rw [show ((0 : Int32) + (0 : Int32)) = (0 : Int32) from by decide]
  refine g_istore_n (L' := [(2, .int (0 : Int32)), (6, .int (0 : Int32)), (5, .int (0 : Int32)), (4, .int (5 : Int32)), (3, .ref sa), (0, .ref z), (1, .ref sa)]) C 28 dN9_sum_28 rfl (hN _ (Nat.le_of_ble_eq_true rfl)) rfl ?_
  refine g_iinc (v := (1 : Int32)) (L' := [(5, .int (1 : Int32)), (2, .int (0 : Int32)), (6, .int (0 : Int32)), (4, .int (5 : Int32)), (3, .ref sa), (0, .ref z), (1, .ref sa)]) C 29 2 dN9_sum_29 rfl (by decide) (hN _ (Nat.le_of_ble_eq_true rfl)) rfl ?_
  refine g_goto C 32 11 dN9_sum_32 (by decide) ?_
  refine g_iload C 11 0 dN9_sum_11 rfl ?_
  refine g_iload C 13 3 dN9_sum_13 rfl ?_
  refine g_icmp_ge C 15 35 dN9_sum_15 (by decide) (fun hq => absurd hq (by decide)) (fun _ => ?_)
  refine g_aload_n C 18 4 dN9_sum_18 rfl ?_
  refine g_iload C 19 0 dN9_sum_19 rfl ?_
  refine g_ciald C (hW _) 21 20 rfl (by decide) dN9_sum_21 ?_
  show Gn _ _ _ _ _ _ _ _ (.int (0 : Int32) :: _)
  refine g_istore (L' := [(6, .int (0 : Int32)), (5, .int (1 : Int32)), (2, .int (0 : Int32)), (4, .int (5 : Int32)), (3, .ref sa), (0, .ref z), (1, .ref sa)]) C 22 dN9_sum_22 (hN _ (Nat.le_of_ble_eq_true rfl)) rfl ?_
  refine g_iload_n C 24 2 dN9_sum_24 rfl ?_
  refine g_iload C 25 0 dN9_sum_25 rfl ?_
  refine g_iadd C 27 dN9_sum_27 ?_
  rw [show ((0 : Int32) + (0 : Int32)) = (0 : Int32) from by decide]
  refine g_istore_n (L' := [(2, .int (0 : Int32)), (6, .int (0 : Int32)), (5, .int (1 : Int32)), (4, .int (5 : Int32)), (3, .ref sa), (0, .ref z), (1, .ref sa)]) C 28 dN9_sum_28 rfl (hN _ (Nat.le_of_ble_eq_true rfl)) rfl ?_
  refine g_iinc (v := (2 : Int32)) (L' := [(5, .int (2 : Int32)), (2, .int (0 : Int32)), (6, .int (0 : Int32)), (4, .int (5 : Int32)), (3, .ref sa), (0, .ref z), (1, .ref sa)]) C 29 2 dN9_sum_29 rfl (by decide) (hN _ (Nat.le_of_ble_eq_true rfl)) rfl ?_
  refine g_goto C 32 11 dN9_sum_32 (by decide) ?_
  refine g_iload C 11 0 dN9_sum_11 rfl ?_
  refine g_iload C 13 3 dN9_sum_13 rfl ?_
  refine g_icmp_ge C 15 35 dN9_sum_15 (by decide) (fun hq => absurd hq (by decide)) (fun _ => ?_)
  refine g_aload_n C 18 4 dN9_sum_18 rfl ?_
  refine g_iload C 19 0 dN9_sum_19 rfl ?_
  refine g_ciald C (hW _) 21 20 rfl (by decide) dN9_sum_21 ?_
  show Gn _ _ _ _ _ _ _ _ (.int (0 : Int32) :: _)
  refine g_istore (L' := [(6, .int (0 : Int32)), (5, .int (2 : Int32)), (2, .int (0 : Int32)), (4, .int (5 : Int32)), (3, .ref sa), (0, .ref z), (1, .ref sa)]) C 22 dN9_sum_22 (hN _ (Nat.le_of_ble_eq_true rfl)) rfl ?_
  refine g_iload_n C 24 2 dN9_sum_24 rfl ?_
  refine g_iload C 25 0 dN9_sum_25 rfl ?_
  refine g_iadd C 27 dN9_sum_27 ?_
  rw [show ((0 : Int32) + (0 : Int32)) = (0 : Int32) from by decide]
  refine g_istore_n (L' := [(2, .int (0 : Int32)), (6, .int (0 : Int32)), (5, .int (2 : Int32)), (4, .int (5 : Int32)), (3, .ref sa), (0, .ref z), (1, .ref sa)]) C 28 dN9_sum_28 rfl (hN _ (Nat.le_of_ble_eq_true rfl)) rfl ?_
  refine g_iinc (v := (3 : Int32)) (L' := [(5, .int (3 : Int32)), (2, .int (0 : Int32)), (6, .int (0 : Int32)), (4, .int (5 : Int32)), (3, .ref sa), (0, .ref z), (1, .ref sa)]) C 29 2 dN9_sum_29 rfl (by decide) (hN _ (Nat.le_of_ble_eq_true rfl)) rfl ?_
  refine g_goto C 32 11 dN9_sum_32 (by decide) ?_
  refine g_iload C 11 0 dN9_sum_11 rfl ?_
  refine g_iload C 13 3 dN9_sum_13 rfl ?_
  refine g_icmp_ge C 15 35 dN9_sum_15 (by decide) (fun hq => absurd hq (by decide)) (fun _ => ?_)
  refine g_aload_n C 18 4 dN9_sum_18 rfl ?_
  refine g_iload C 19 0 dN9_sum_19 rfl ?_
  refine g_ciald C (hW _) 21 20 rfl (by decide) dN9_sum_21 ?_
  show Gn _ _ _ _ _ _ _ _ (.int (0 : Int32) :: _)
  refine g_istore (L' := [(6, .int (0 : Int32)), (5, .int (3 : Int32)), (2, .int (0 : Int32)), (4, .int (5 : Int32)), (3, .ref sa), (0, .ref z), (1, .ref sa)]) C 22 dN9_sum_22 (hN _ (Nat.le_of_ble_eq_true rfl)) rfl ?_
  refine g_iload_n C 24 2 dN9_sum_24 rfl ?_
  refine g_iload C 25 0 dN9_sum_25 rfl ?_
  refine g_iadd C 27 dN9_sum_27 ?_
  rw [show ((0 : Int32) + (0 : Int32)) = (0 : Int32) from by decide]
  refine g_istore_n (L' := [(2, .int (0 : Int32)), (6, .int (0 : Int32)), (5, .int (3 : Int32)), (4, .int (5 : Int32)), (3, .ref sa), (0, .ref z), (1, .ref sa)]) C 28 dN9_sum_28 rfl (hN _ (Nat.le_of_ble_eq_true rfl)) rfl ?_
  refine g_iinc (v := (4 : Int32)) (L' := [(5, .int (4 : Int32)), (2, .int (0 : Int32)), (6, .int (0 : Int32)), (4, .int (5 : Int32)), (3, .ref sa), (0, .ref z), (1, .ref sa)]) C 29 2 dN9_sum_29 rfl (by decide) (hN _ (Nat.le_of_ble_eq_true rfl)) rfl ?_
  refine g_goto C 32 11 dN9_sum_32 (by decide) ?_
  refine g_iload C 11 0 dN9_sum_11 rfl ?_
  refine g_iload C 13 3 dN9_sum_13 rfl ?_
  refine g_icmp_ge C 15 35 dN9_sum_15 (by decide) (fun hq => absurd hq (by decide)) (fun _ => ?_)
  refine g_aload_n C 18 4 dN9_sum_18 rfl ?_
  refine g_iload C 19 0 dN9_sum_19 rfl ?_
  refine g_ciald C (hW _) 21 20 rfl (by decide) dN9_sum_21 ?_
  show Gn _ _ _ _ _ _ _ _ (.int (0 : Int32) :: _)
  refine g_istore (L' := [(6, .int (0 : Int32)), (5, .int (4 : Int32)), (2, .int (0 : Int32)), (4, .int (5 : Int32)), (3, .ref sa), (0, .ref z), (1, .ref sa)]) C 22 dN9_sum_22 (hN _ (Nat.le_of_ble_eq_true rfl)) rfl ?_
  refine g_iload_n C 24 2 dN9_sum_24 rfl ?_
  refine g_iload C 25 0 dN9_sum_25 rfl ?_
  refine g_iadd C 27 dN9_sum_27 ?_
  rw [show ((0 : Int32) + (0 : Int32)) = (0 : Int32) from by decide]
  refine g_istore_n (L' := [(2, .int (0 : Int32)), (6, .int (0 : Int32)), (5, .int (4 : Int32)), (4, .int (5 : Int32)), (3, .ref sa), (0, .ref z), (1, .ref sa)]) C 28 dN9_sum_28 rfl (hN _ (Nat.le_of_ble_eq_true rfl)) rfl ?_
  refine g_iinc (v := (5 : Int32)) (L' := [(5, .int (5 : Int32)), (2, .int (0 : Int32)), (6, .int (0 : Int32)), (4, .int (5 : Int32)), (3, .ref sa), (0, .ref z), (1, .ref sa)]) C 29 2 dN9_sum_29 rfl (by decide) (hN _ (Nat.le_of_ble_eq_true rfl)) rfl ?_
  refine g_goto C 32 11 dN9_sum_32 (by decide) ?_
  refine g_iload C 11 0 dN9_sum_11 rfl ?_
  refine g_iload C 13 3 dN9_sum_13 rfl ?_
  refine g_icmp_ge C 15 35 dN9_sum_15 (by decide) (fun _ => ?_) (fun hq => absurd (by decide) hq)
  refine g_iload_n C 35 1 dN9_sum_35 rfl ?_
  exact g_iret C R (Nat.le_of_ble_eq_true rfl) (Nat.le_of_ble_eq_true rfl) 36 dN9_sum_36 (fun H _ _ => ⟨[], ⟨rfl, rfl⟩, fun j x h => by simp at h, ⟨fun i j a b h => by simp at h, fun j x h => by simp at h⟩⟩)
set_option maxRecDepth 100000 in
set_option maxHeartbeats 4000000 in
theorem q_sum4 (l : Launch) (D : va_G) (cy : Nat → ClassId) (z : Nat) (u : Nat → Nat) (iv fs : Nat → Int32) (sa : Nat) : Cq l D cy yN9_sum cN9_sum 7 (some .int) 1 12 0 0 [.ref z, .ref sa] (netW cy z u iv fs ++ [(sa, .inl (cy 1, 4, .inl (fun _ => 0)))]) (fun rv nl => rv = some (.int 0) ∧ nl = []) := by
  refine Cq_intro (own := RN9) (by decide +kernel) rfl (Nat.le_of_ble_eq_true rfl) [(0, .ref z), (1, .ref sa)] rfl (fun K hl hn C hcs hc R => ?_)
  have hN := nl_of (K := K) hn
  have hW : ∀ ws : va_W, Wo K D (fun q => (Ks K).heap.size ≤ q) ws (netW cy z u iv fs ++ [(sa, .inl (cy 1, 4, .inl (fun _ => 0)))]) := fun ws => Wo.const hc
  refine g_iconst C 0 dN9_sum_0 ki_0 ?_
  refine g_istore_n (L' := [(2, .int (0 : Int32)), (0, .ref z), (1, .ref sa)]) C 1 dN9_sum_1 rfl (hN _ (Nat.le_of_ble_eq_true rfl)) rfl ?_
  refine g_aload_n C 2 2 dN9_sum_2 rfl ?_
  refine g_astore_n (L' := [(3, .ref sa), (2, .int (0 : Int32)), (0, .ref z), (1, .ref sa)]) C 3 dN9_sum_3 rfl (hN _ (Nat.le_of_ble_eq_true rfl)) rfl ?_
  refine g_aload_n C 4 0 dN9_sum_4 rfl ?_
  refine g_calen (v := (4 : Int32)) C (hW _) 5 20 1 rfl rfl rfl dN9_sum_5 ?_
  refine g_istore (L' := [(4, .int (4 : Int32)), (3, .ref sa), (2, .int (0 : Int32)), (0, .ref z), (1, .ref sa)]) C 6 dN9_sum_6 (hN _ (Nat.le_of_ble_eq_true rfl)) rfl ?_
  refine g_iconst C 8 dN9_sum_8 ki_0 ?_
  refine g_istore (L' := [(5, .int (0 : Int32)), (4, .int (4 : Int32)), (3, .ref sa), (2, .int (0 : Int32)), (0, .ref z), (1, .ref sa)]) C 9 dN9_sum_9 (hN _ (Nat.le_of_ble_eq_true rfl)) rfl ?_
  refine g_iload C 11 0 dN9_sum_11 rfl ?_
  refine g_iload C 13 1 dN9_sum_13 rfl ?_
  refine g_icmp_ge C 15 35 dN9_sum_15 (by decide) (fun hq => absurd hq (by decide)) (fun _ => ?_)
  refine g_aload_n C 18 2 dN9_sum_18 rfl ?_
  refine g_iload C 19 0 dN9_sum_19 rfl ?_
  refine g_ciald C (hW _) 21 20 rfl (by decide) dN9_sum_21 ?_
  show Gn _ _ _ _ _ _ _ _ (.int (0 : Int32) :: _)
  refine g_istore (L' := [(6, .int (0 : Int32)), (5, .int (0 : Int32)), (4, .int (4 : Int32)), (3, .ref sa), (2, .int (0 : Int32)), (0, .ref z), (1, .ref sa)]) C 22 dN9_sum_22 (hN _ (Nat.le_of_ble_eq_true rfl)) rfl ?_
  refine g_iload_n C 24 4 dN9_sum_24 rfl ?_
  refine g_iload C 25 0 dN9_sum_25 rfl ?_
  refine g_iadd C 27 dN9_sum_27 ?_
  rw [show ((0 : Int32) + (0 : Int32)) = (0 : Int32) from by decide]
  refine g_istore_n (L' := [(2, .int (0 : Int32)), (6, .int (0 : Int32)), (5, .int (0 : Int32)), (4, .int (4 : Int32)), (3, .ref sa), (0, .ref z), (1, .ref sa)]) C 28 dN9_sum_28 rfl (hN _ (Nat.le_of_ble_eq_true rfl)) rfl ?_
  refine g_iinc (v := (1 : Int32)) (L' := [(5, .int (1 : Int32)), (2, .int (0 : Int32)), (6, .int (0 : Int32)), (4, .int (4 : Int32)), (3, .ref sa), (0, .ref z), (1, .ref sa)]) C 29 2 dN9_sum_29 rfl (by decide) (hN _ (Nat.le_of_ble_eq_true rfl)) rfl ?_
  refine g_goto C 32 11 dN9_sum_32 (by decide) ?_
  refine g_iload C 11 0 dN9_sum_11 rfl ?_
  refine g_iload C 13 3 dN9_sum_13 rfl ?_
  refine g_icmp_ge C 15 35 dN9_sum_15 (by decide) (fun hq => absurd hq (by decide)) (fun _ => ?_)
  refine g_aload_n C 18 4 dN9_sum_18 rfl ?_
  refine g_iload C 19 0 dN9_sum_19 rfl ?_
  refine g_ciald C (hW _) 21 20 rfl (by decide) dN9_sum_21 ?_
  show Gn _ _ _ _ _ _ _ _ (.int (0 : Int32) :: _)
  refine g_istore (L' := [(6, .int (0 : Int32)), (5, .int (1 : Int32)), (2, .int (0 : Int32)), (4, .int (4 : Int32)), (3, .ref sa), (0, .ref z), (1, .ref sa)]) C 22 dN9_sum_22 (hN _ (Nat.le_of_ble_eq_true rfl)) rfl ?_
  refine g_iload_n C 24 2 dN9_sum_24 rfl ?_
  refine g_iload C 25 0 dN9_sum_25 rfl ?_
  refine g_iadd C 27 dN9_sum_27 ?_
  rw [show ((0 : Int32) + (0 : Int32)) = (0 : Int32) from by decide]
  refine g_istore_n (L' := [(2, .int (0 : Int32)), (6, .int (0 : Int32)), (5, .int (1 : Int32)), (4, .int (4 : Int32)), (3, .ref sa), (0, .ref z), (1, .ref sa)]) C 28 dN9_sum_28 rfl (hN _ (Nat.le_of_ble_eq_true rfl)) rfl ?_
  refine g_iinc (v := (2 : Int32)) (L' := [(5, .int (2 : Int32)), (2, .int (0 : Int32)), (6, .int (0 : Int32)), (4, .int (4 : Int32)), (3, .ref sa), (0, .ref z), (1, .ref sa)]) C 29 2 dN9_sum_29 rfl (by decide) (hN _ (Nat.le_of_ble_eq_true rfl)) rfl ?_
  refine g_goto C 32 11 dN9_sum_32 (by decide) ?_
  refine g_iload C 11 0 dN9_sum_11 rfl ?_
  refine g_iload C 13 3 dN9_sum_13 rfl ?_
  refine g_icmp_ge C 15 35 dN9_sum_15 (by decide) (fun hq => absurd hq (by decide)) (fun _ => ?_)
  refine g_aload_n C 18 4 dN9_sum_18 rfl ?_
  refine g_iload C 19 0 dN9_sum_19 rfl ?_
  refine g_ciald C (hW _) 21 20 rfl (by decide) dN9_sum_21 ?_
  show Gn _ _ _ _ _ _ _ _ (.int (0 : Int32) :: _)
  refine g_istore (L' := [(6, .int (0 : Int32)), (5, .int (2 : Int32)), (2, .int (0 : Int32)), (4, .int (4 : Int32)), (3, .ref sa), (0, .ref z), (1, .ref sa)]) C 22 dN9_sum_22 (hN _ (Nat.le_of_ble_eq_true rfl)) rfl ?_
  refine g_iload_n C 24 2 dN9_sum_24 rfl ?_
  refine g_iload C 25 0 dN9_sum_25 rfl ?_
  refine g_iadd C 27 dN9_sum_27 ?_
  rw [show ((0 : Int32) + (0 : Int32)) = (0 : Int32) from by decide]
  refine g_istore_n (L' := [(2, .int (0 : Int32)), (6, .int (0 : Int32)), (5, .int (2 : Int32)), (4, .int (4 : Int32)), (3, .ref sa), (0, .ref z), (1, .ref sa)]) C 28 dN9_sum_28 rfl (hN _ (Nat.le_of_ble_eq_true rfl)) rfl ?_
  refine g_iinc (v := (3 : Int32)) (L' := [(5, .int (3 : Int32)), (2, .int (0 : Int32)), (6, .int (0 : Int32)), (4, .int (4 : Int32)), (3, .ref sa), (0, .ref z), (1, .ref sa)]) C 29 2 dN9_sum_29 rfl (by decide) (hN _ (Nat.le_of_ble_eq_true rfl)) rfl ?_
  refine g_goto C 32 11 dN9_sum_32 (by decide) ?_
  refine g_iload C 11 0 dN9_sum_11 rfl ?_
  refine g_iload C 13 3 dN9_sum_13 rfl ?_
  refine g_icmp_ge C 15 35 dN9_sum_15 (by decide) (fun hq => absurd hq (by decide)) (fun _ => ?_)
  refine g_aload_n C 18 4 dN9_sum_18 rfl ?_
  refine g_iload C 19 0 dN9_sum_19 rfl ?_
  refine g_ciald C (hW _) 21 20 rfl (by decide) dN9_sum_21 ?_
  show Gn _ _ _ _ _ _ _ _ (.int (0 : Int32) :: _)
  refine g_istore (L' := [(6, .int (0 : Int32)), (5, .int (3 : Int32)), (2, .int (0 : Int32)), (4, .int (4 : Int32)), (3, .ref sa), (0, .ref z), (1, .ref sa)]) C 22 dN9_sum_22 (hN _ (Nat.le_of_ble_eq_true rfl)) rfl ?_
  refine g_iload_n C 24 2 dN9_sum_24 rfl ?_
  refine g_iload C 25 0 dN9_sum_25 rfl ?_
  refine g_iadd C 27 dN9_sum_27 ?_
  rw [show ((0 : Int32) + (0 : Int32)) = (0 : Int32) from by decide]
  refine g_istore_n (L' := [(2, .int (0 : Int32)), (6, .int (0 : Int32)), (5, .int (3 : Int32)), (4, .int (4 : Int32)), (3, .ref sa), (0, .ref z), (1, .ref sa)]) C 28 dN9_sum_28 rfl (hN _ (Nat.le_of_ble_eq_true rfl)) rfl ?_
  refine g_iinc (v := (4 : Int32)) (L' := [(5, .int (4 : Int32)), (2, .int (0 : Int32)), (6, .int (0 : Int32)), (4, .int (4 : Int32)), (3, .ref sa), (0, .ref z), (1, .ref sa)]) C 29 2 dN9_sum_29 rfl (by decide) (hN _ (Nat.le_of_ble_eq_true rfl)) rfl ?_
  refine g_goto C 32 11 dN9_sum_32 (by decide) ?_
  refine g_iload C 11 0 dN9_sum_11 rfl ?_
  refine g_iload C 13 3 dN9_sum_13 rfl ?_
  refine g_icmp_ge C 15 35 dN9_sum_15 (by decide) (fun _ => ?_) (fun hq => absurd (by decide) hq)
  refine g_iload_n C 35 1 dN9_sum_35 rfl ?_
  exact g_iret C R (Nat.le_of_ble_eq_true rfl) (Nat.le_of_ble_eq_true rfl) 36 dN9_sum_36 (fun H _ _ => ⟨[], ⟨rfl, rfl⟩, fun j x h => by simp at h, ⟨fun i j a b h => by simp at h, fun j x h => by simp at h⟩⟩)
set_option maxRecDepth 100000 in
set_option maxHeartbeats 4000000 in
theorem q_same_ (l : Launch) (D : va_G) (cy : Nat → ClassId) (z : Nat) (u : Nat → Nat) (iv fs : Nat → Int32) (n : Nat) (hn5 : n ≤ 5) (hiv : iv 0 = nI n) : Cq l D cy yN9_same_ cN9_same_ 2 (some .boolean) 3 58 0 0 [.ref z] (netW cy z u iv fs) (fun rv nl => rv = some (.int 1) ∧ nl = []) := by
  refine Cq_intro (own := RN9) (by decide +kernel) rfl (Nat.le_of_ble_eq_true rfl) [(0, .ref z)] rfl (fun K hl hn C hcs hc R => ?_)
  have hN := nl_of (K := K) hn
  have hW : ∀ ws : va_W, Wo K D (fun q => (Ks K).heap.size ≤ q) ws (netW cy z u iv fs) := fun ws => Wo.const hc
  have loop : ∀ k i : Nat, i + k = max n 1 → 1 ≤ i → Gn K D (fun q => (Ks K).heap.size ≤ q) [] 0 0 2 [(1, .int (nI i)), (0, .ref z)] [] := by
    intro k
    induction k with
    | zero =>
      intro i hi h1
      have hge : iv 0 ≤ nI i := by rw [hiv, nI_leI (by omega) (by omega)]; omega
      refine g_iload_n C 2 0 dN9_same__2 rfl ?_
      refine g_aload_n C 3 1 dN9_same__3 rfl ?_
      refine g_cget C (hW _) 4 0 rfl 0 (Nat.le_of_ble_eq_true rfl) rfl tw_1168 rfl dN9_same__4 ?_
      refine g_icmp_ge C 7 27 dN9_same__7 (by decide) (fun _ => ?_) (fun hq => absurd hge hq)
      refine g_iconst C 27 dN9_same__27 ki_1 ?_
      exact g_zret C R (zb_nar (r := (1 : Int32)) (Or.inr rfl)) (Nat.le_of_ble_eq_true rfl) (Nat.le_of_ble_eq_true rfl) 28 dN9_same__28 (fun H _ _ => ⟨[], ⟨rfl, rfl⟩, fun j x h => by simp at h, ⟨fun i j a b h => by simp at h, fun j x h => by simp at h⟩⟩)
    | succ k ih =>
      intro i hi h1
      have hlt : ¬ iv 0 ≤ nI i := by rw [hiv, nI_leI (by omega) (by omega)]; omega
      have hi5 : ib (nI i) 5 := (ib_nI (by omega)).mpr (by omega)
      refine g_iload_n C 2 0 dN9_same__2 rfl ?_
      refine g_aload_n C 3 1 dN9_same__3 rfl ?_
      refine g_cget C (hW _) 4 0 rfl 0 (Nat.le_of_ble_eq_true rfl) rfl tw_1168 rfl dN9_same__4 ?_
      refine g_icmp_ge C 7 27 dN9_same__7 (by decide) (fun hq => absurd hq hlt) (fun _ => ?_)
      refine g_aload_n C 10 1 dN9_same__10 rfl ?_
      refine g_iconst C 11 dN9_same__11 ki_0 ?_
      refine g_iload_n C 12 0 dN9_same__12 rfl ?_
      refine g_callQV C hcs 13 [.int (0 : Int32), .int (nI i)] [] rfl tw_1368 mv_N9_same rfl (Nat.le_of_ble_eq_true rfl) (Nat.le_of_ble_eq_true rfl) (Nat.le_of_ble_eq_true rfl) (Nat.le_of_ble_eq_true rfl) (Nat.le_of_ble_eq_true rfl) dN9_same__13 (q_sameC (Kl K) D cy z u iv fs (0 : Int32) (nI i) (by decide) hi5) (hW _) rfl (fun rv13 nl13 hr13 => ?_)
      obtain ⟨rfl, rfl⟩ := hr13
      refine g_eq (ws2 := ([] : va_W)) rfl ?_
      refine g_if_ne C 16 21 dN9_same__16 (by decide) (fun _ => ?_) (fun hq => absurd (by decide) hq)
      refine g_iinc (v := nI (i + 1)) (L' := [(1, .int (nI (i + 1))), (0, .ref z)]) C 21 0 dN9_same__21 rfl (nI_1 _) (hN _ (Nat.le_of_ble_eq_true rfl)) rfl ?_
      refine g_goto C 24 2 dN9_same__24 (by decide) ?_
      exact ih (i + 1) (by omega) (by omega)
  refine g_iconst C 0 dN9_same__0 ki_1 ?_
  refine g_istore_n (L' := [(1, .int (1 : Int32)), (0, .ref z)]) C 1 dN9_same__1 rfl (hN _ (Nat.le_of_ble_eq_true rfl)) rfl ?_
  exact loop (max n 1 - 1) 1 (by omega) (by omega)
