/-! the model's bytecode, row by row -/
theorem dX9_lays_0 : decode cX9_lays 0 = .ok (.bipush 24, 2) := by decide +kernel
theorem dX9_lays_2 : decode cX9_lays 2 = .ok (.istore_n 2, 1) := by decide +kernel
theorem dX9_lays_3 : decode cX9_lays 3 = .ok (.iload_n 2, 1) := by decide +kernel
theorem dX9_lays_4 : decode cX9_lays 4 = .ok (.ifCond .lt 32, 3) := by decide +kernel
theorem dX9_lays_7 : decode cX9_lays 7 = .ok (.aload_n 0, 1) := by decide +kernel
theorem dX9_lays_8 : decode cX9_lays 8 = .ok (.getfield 13, 3) := by decide +kernel
theorem dX9_lays_11 : decode cX9_lays 11 = .ok (.aload_n 0, 1) := by decide +kernel
theorem dX9_lays_12 : decode cX9_lays 12 = .ok (.getfield 142, 3) := by decide +kernel
theorem dX9_lays_15 : decode cX9_lays 15 = .ok (.iload_n 1, 1) := by decide +kernel
theorem dX9_lays_16 : decode cX9_lays 16 = .ok (.iload_n 2, 1) := by decide +kernel
theorem dX9_lays_17 : decode cX9_lays 17 = .ok (.ishr, 1) := by decide +kernel
theorem dX9_lays_18 : decode cX9_lays 18 = .ok (.i2b, 1) := by decide +kernel
theorem dX9_lays_19 : decode cX9_lays 19 = .ok (.bastore, 1) := by decide +kernel
theorem dX9_lays_20 : decode cX9_lays 20 = .ok (.aload_n 0, 1) := by decide +kernel
theorem dX9_lays_21 : decode cX9_lays 21 = .ok (.dup, 1) := by decide +kernel
theorem dX9_lays_22 : decode cX9_lays 22 = .ok (.getfield 142, 3) := by decide +kernel
theorem dX9_lays_25 : decode cX9_lays 25 = .ok (.iconst 1, 1) := by decide +kernel
theorem dX9_lays_26 : decode cX9_lays 26 = .ok (.iadd, 1) := by decide +kernel
theorem dX9_lays_27 : decode cX9_lays 27 = .ok (.putfield 142, 3) := by decide +kernel
theorem dX9_lays_30 : decode cX9_lays 30 = .ok (.iinc 2 (-8), 3) := by decide +kernel
theorem dX9_lays_33 : decode cX9_lays 33 = .ok (.goto (-30), 3) := by decide +kernel
theorem dX9_lays_36 : decode cX9_lays 36 = .ok (.return_, 1) := by decide +kernel
theorem dX9_feed_0 : decode cX9_feed 0 = .ok (.aload_n 0, 1) := by decide +kernel
theorem dX9_feed_1 : decode cX9_feed 1 = .ok (.getfield 142, 3) := by decide +kernel
theorem dX9_feed_4 : decode cX9_feed 4 = .ok (.bipush 20, 2) := by decide +kernel
theorem dX9_feed_6 : decode cX9_feed 6 = .ok (.iadd, 1) := by decide +kernel
theorem dX9_feed_7 : decode cX9_feed 7 = .ok (.sipush 2000, 3) := by decide +kernel
theorem dX9_feed_10 : decode cX9_feed 10 = .ok (.if_icmp .le 5, 3) := by decide +kernel
theorem dX9_feed_13 : decode cX9_feed 13 = .ok (.iconst (-1), 1) := by decide +kernel
theorem dX9_feed_14 : decode cX9_feed 14 = .ok (.ireturn, 1) := by decide +kernel
theorem dX9_feed_15 : decode cX9_feed 15 = .ok (.aload_n 0, 1) := by decide +kernel
theorem dX9_feed_16 : decode cX9_feed 16 = .ok (.iload_n 1, 1) := by decide +kernel
theorem dX9_feed_17 : decode cX9_feed 17 = .ok (.invokevirtual 145, 3) := by decide +kernel
theorem dX9_feed_20 : decode cX9_feed 20 = .ok (.aload_n 0, 1) := by decide +kernel
theorem dX9_feed_21 : decode cX9_feed 21 = .ok (.iload_n 2, 1) := by decide +kernel
theorem dX9_feed_22 : decode cX9_feed 22 = .ok (.invokevirtual 145, 3) := by decide +kernel
theorem dX9_feed_25 : decode cX9_feed 25 = .ok (.aload_n 0, 1) := by decide +kernel
theorem dX9_feed_26 : decode cX9_feed 26 = .ok (.iload_n 3, 1) := by decide +kernel
theorem dX9_feed_27 : decode cX9_feed 27 = .ok (.invokevirtual 145, 3) := by decide +kernel
theorem dX9_feed_30 : decode cX9_feed 30 = .ok (.aload_n 0, 1) := by decide +kernel
theorem dX9_feed_31 : decode cX9_feed 31 = .ok (.iload 4, 2) := by decide +kernel
theorem dX9_feed_33 : decode cX9_feed 33 = .ok (.invokevirtual 145, 3) := by decide +kernel
theorem dX9_feed_36 : decode cX9_feed 36 = .ok (.aload_n 0, 1) := by decide +kernel
theorem dX9_feed_37 : decode cX9_feed 37 = .ok (.iload 5, 2) := by decide +kernel
theorem dX9_feed_39 : decode cX9_feed 39 = .ok (.invokevirtual 145, 3) := by decide +kernel
theorem dX9_feed_42 : decode cX9_feed 42 = .ok (.aload_n 0, 1) := by decide +kernel
theorem dX9_feed_43 : decode cX9_feed 43 = .ok (.getfield 142, 3) := by decide +kernel
theorem dX9_feed_46 : decode cX9_feed 46 = .ok (.ireturn, 1) := by decide +kernel
theorem dX9_back_0 : decode cX9_back 0 = .ok (.iload_n 1, 1) := by decide +kernel
theorem dX9_back_1 : decode cX9_back 1 = .ok (.ifCond .lt 11, 3) := by decide +kernel
theorem dX9_back_4 : decode cX9_back 4 = .ok (.iload_n 1, 1) := by decide +kernel
theorem dX9_back_5 : decode cX9_back 5 = .ok (.aload_n 0, 1) := by decide +kernel
theorem dX9_back_6 : decode cX9_back 6 = .ok (.getfield 142, 3) := by decide +kernel
theorem dX9_back_9 : decode cX9_back 9 = .ok (.if_icmp .le 5, 3) := by decide +kernel
theorem dX9_back_12 : decode cX9_back 12 = .ok (.iconst (-1), 1) := by decide +kernel
theorem dX9_back_13 : decode cX9_back 13 = .ok (.ireturn, 1) := by decide +kernel
theorem dX9_back_14 : decode cX9_back 14 = .ok (.aload_n 0, 1) := by decide +kernel
theorem dX9_back_15 : decode cX9_back 15 = .ok (.dup, 1) := by decide +kernel
theorem dX9_back_16 : decode cX9_back 16 = .ok (.getfield 142, 3) := by decide +kernel
theorem dX9_back_19 : decode cX9_back 19 = .ok (.iload_n 1, 1) := by decide +kernel
theorem dX9_back_20 : decode cX9_back 20 = .ok (.isub, 1) := by decide +kernel
theorem dX9_back_21 : decode cX9_back 21 = .ok (.putfield 142, 3) := by decide +kernel
theorem dX9_back_24 : decode cX9_back 24 = .ok (.aload_n 0, 1) := by decide +kernel
theorem dX9_back_25 : decode cX9_back 25 = .ok (.getfield 142, 3) := by decide +kernel
theorem dX9_back_28 : decode cX9_back 28 = .ok (.ireturn, 1) := by decide +kernel
theorem dX9_byteAt_0 : decode cX9_byteAt 0 = .ok (.iload_n 1, 1) := by decide +kernel
theorem dX9_byteAt_1 : decode cX9_byteAt 1 = .ok (.aload_n 0, 1) := by decide +kernel
theorem dX9_byteAt_2 : decode cX9_byteAt 2 = .ok (.getfield 148, 3) := by decide +kernel
theorem dX9_byteAt_5 : decode cX9_byteAt 5 = .ok (.if_icmp .ge 16, 3) := by decide +kernel
theorem dX9_byteAt_8 : decode cX9_byteAt 8 = .ok (.aload_n 0, 1) := by decide +kernel
theorem dX9_byteAt_9 : decode cX9_byteAt 9 = .ok (.getfield 17, 3) := by decide +kernel
theorem dX9_byteAt_12 : decode cX9_byteAt 12 = .ok (.iload_n 1, 1) := by decide +kernel
theorem dX9_byteAt_13 : decode cX9_byteAt 13 = .ok (.baload, 1) := by decide +kernel
theorem dX9_byteAt_14 : decode cX9_byteAt 14 = .ok (.sipush 255, 3) := by decide +kernel
theorem dX9_byteAt_17 : decode cX9_byteAt 17 = .ok (.iand, 1) := by decide +kernel
theorem dX9_byteAt_18 : decode cX9_byteAt 18 = .ok (.goto 4, 3) := by decide +kernel
theorem dX9_byteAt_21 : decode cX9_byteAt 21 = .ok (.iconst 0, 1) := by decide +kernel
theorem dX9_byteAt_22 : decode cX9_byteAt 22 = .ok (.ireturn, 1) := by decide +kernel
theorem dX9_isDigit_0 : decode cX9_isDigit 0 = .ok (.iload_n 0, 1) := by decide +kernel
theorem dX9_isDigit_1 : decode cX9_isDigit 1 = .ok (.bipush 48, 2) := by decide +kernel
theorem dX9_isDigit_3 : decode cX9_isDigit 3 = .ok (.if_icmp .lt 13, 3) := by decide +kernel
theorem dX9_isDigit_6 : decode cX9_isDigit 6 = .ok (.iload_n 0, 1) := by decide +kernel
theorem dX9_isDigit_7 : decode cX9_isDigit 7 = .ok (.bipush 57, 2) := by decide +kernel
theorem dX9_isDigit_9 : decode cX9_isDigit 9 = .ok (.if_icmp .gt 7, 3) := by decide +kernel
theorem dX9_isDigit_12 : decode cX9_isDigit 12 = .ok (.iconst 1, 1) := by decide +kernel
theorem dX9_isDigit_13 : decode cX9_isDigit 13 = .ok (.goto 4, 3) := by decide +kernel
theorem dX9_isDigit_16 : decode cX9_isDigit 16 = .ok (.iconst 0, 1) := by decide +kernel
theorem dX9_isDigit_17 : decode cX9_isDigit 17 = .ok (.ireturn, 1) := by decide +kernel
theorem dX9_isLetter_0 : decode cX9_isLetter 0 = .ok (.iload_n 0, 1) := by decide +kernel
theorem dX9_isLetter_1 : decode cX9_isLetter 1 = .ok (.bipush 97, 2) := by decide +kernel
theorem dX9_isLetter_3 : decode cX9_isLetter 3 = .ok (.if_icmp .lt 13, 3) := by decide +kernel
theorem dX9_isLetter_6 : decode cX9_isLetter 6 = .ok (.iload_n 0, 1) := by decide +kernel
theorem dX9_isLetter_7 : decode cX9_isLetter 7 = .ok (.bipush 122, 2) := by decide +kernel
theorem dX9_isLetter_9 : decode cX9_isLetter 9 = .ok (.if_icmp .gt 7, 3) := by decide +kernel
theorem dX9_isLetter_12 : decode cX9_isLetter 12 = .ok (.iconst 1, 1) := by decide +kernel
theorem dX9_isLetter_13 : decode cX9_isLetter 13 = .ok (.goto 4, 3) := by decide +kernel
theorem dX9_isLetter_16 : decode cX9_isLetter 16 = .ok (.iconst 0, 1) := by decide +kernel
theorem dX9_isLetter_17 : decode cX9_isLetter 17 = .ok (.ireturn, 1) := by decide +kernel
theorem dX9_appends_0 : decode cX9_appends 0 = .ok (.iload_n 2, 1) := by decide +kernel
theorem dX9_appends_1 : decode cX9_appends 1 = .ok (.ifCond .ne 7, 3) := by decide +kernel
theorem dX9_appends_4 : decode cX9_appends 4 = .ok (.lload_n 0, 1) := by decide +kernel
theorem dX9_appends_5 : decode cX9_appends 5 = .ok (.goto 16, 3) := by decide +kernel
theorem dX9_appends_8 : decode cX9_appends 8 = .ok (.ldc2_w 151, 3) := by decide +kernel
theorem dX9_appends_11 : decode cX9_appends 11 = .ok (.lload_n 0, 1) := by decide +kernel
theorem dX9_appends_12 : decode cX9_appends 12 = .ok (.lmul, 1) := by decide +kernel
theorem dX9_appends_13 : decode cX9_appends 13 = .ok (.iload_n 2, 1) := by decide +kernel
theorem dX9_appends_14 : decode cX9_appends 14 = .ok (.bipush 97, 2) := by decide +kernel
theorem dX9_appends_16 : decode cX9_appends 16 = .ok (.isub, 1) := by decide +kernel
theorem dX9_appends_17 : decode cX9_appends 17 = .ok (.iconst 1, 1) := by decide +kernel
theorem dX9_appends_18 : decode cX9_appends 18 = .ok (.iadd, 1) := by decide +kernel
theorem dX9_appends_19 : decode cX9_appends 19 = .ok (.i2l, 1) := by decide +kernel
theorem dX9_appends_20 : decode cX9_appends 20 = .ok (.ladd, 1) := by decide +kernel
theorem dX9_appends_21 : decode cX9_appends 21 = .ok (.lreturn, 1) := by decide +kernel
theorem dX9_letters_0 : decode cX9_letters 0 = .ok (.lconst 0, 1) := by decide +kernel
theorem dX9_letters_1 : decode cX9_letters 1 = .ok (.iload_n 0, 1) := by decide +kernel
theorem dX9_letters_2 : decode cX9_letters 2 = .ok (.invokestatic 153, 3) := by decide +kernel
theorem dX9_letters_5 : decode cX9_letters 5 = .ok (.iload_n 1, 1) := by decide +kernel
theorem dX9_letters_6 : decode cX9_letters 6 = .ok (.invokestatic 153, 3) := by decide +kernel
theorem dX9_letters_9 : decode cX9_letters 9 = .ok (.iload_n 2, 1) := by decide +kernel
theorem dX9_letters_10 : decode cX9_letters 10 = .ok (.invokestatic 153, 3) := by decide +kernel
theorem dX9_letters_13 : decode cX9_letters 13 = .ok (.iload_n 3, 1) := by decide +kernel
theorem dX9_letters_14 : decode cX9_letters 14 = .ok (.invokestatic 153, 3) := by decide +kernel
theorem dX9_letters_17 : decode cX9_letters 17 = .ok (.iload 4, 2) := by decide +kernel
theorem dX9_letters_19 : decode cX9_letters 19 = .ok (.invokestatic 153, 3) := by decide +kernel
theorem dX9_letters_22 : decode cX9_letters 22 = .ok (.iload 5, 2) := by decide +kernel
theorem dX9_letters_24 : decode cX9_letters 24 = .ok (.invokestatic 153, 3) := by decide +kernel
theorem dX9_letters_27 : decode cX9_letters 27 = .ok (.iload 6, 2) := by decide +kernel
theorem dX9_letters_29 : decode cX9_letters 29 = .ok (.invokestatic 153, 3) := by decide +kernel
theorem dX9_letters_32 : decode cX9_letters 32 = .ok (.lreturn, 1) := by decide +kernel
theorem dX9_token_0 : decode cX9_token 0 = .ok (.aload_n 0, 1) := by decide +kernel
theorem dX9_token_1 : decode cX9_token 1 = .ok (.getfield 20, 3) := by decide +kernel
theorem dX9_token_4 : decode cX9_token 4 = .ok (.aload_n 0, 1) := by decide +kernel
theorem dX9_token_5 : decode cX9_token 5 = .ok (.getfield 157, 3) := by decide +kernel
theorem dX9_token_8 : decode cX9_token 8 = .ok (.iload_n 1, 1) := by decide +kernel
theorem dX9_token_9 : decode cX9_token 9 = .ok (.iastore, 1) := by decide +kernel
theorem dX9_token_10 : decode cX9_token 10 = .ok (.aload_n 0, 1) := by decide +kernel
theorem dX9_token_11 : decode cX9_token 11 = .ok (.getfield 24, 3) := by decide +kernel
theorem dX9_token_14 : decode cX9_token 14 = .ok (.aload_n 0, 1) := by decide +kernel
theorem dX9_token_15 : decode cX9_token 15 = .ok (.getfield 157, 3) := by decide +kernel
theorem dX9_token_18 : decode cX9_token 18 = .ok (.iload_n 2, 1) := by decide +kernel
theorem dX9_token_19 : decode cX9_token 19 = .ok (.iastore, 1) := by decide +kernel
theorem dX9_token_20 : decode cX9_token 20 = .ok (.aload_n 0, 1) := by decide +kernel
theorem dX9_token_21 : decode cX9_token 21 = .ok (.getfield 27, 3) := by decide +kernel
theorem dX9_token_24 : decode cX9_token 24 = .ok (.aload_n 0, 1) := by decide +kernel
theorem dX9_token_25 : decode cX9_token 25 = .ok (.getfield 157, 3) := by decide +kernel
theorem dX9_token_28 : decode cX9_token 28 = .ok (.iload_n 3, 1) := by decide +kernel
theorem dX9_token_29 : decode cX9_token 29 = .ok (.iastore, 1) := by decide +kernel
theorem dX9_token_30 : decode cX9_token 30 = .ok (.aload_n 0, 1) := by decide +kernel
theorem dX9_token_31 : decode cX9_token 31 = .ok (.getfield 30, 3) := by decide +kernel
theorem dX9_token_34 : decode cX9_token 34 = .ok (.aload_n 0, 1) := by decide +kernel
theorem dX9_token_35 : decode cX9_token 35 = .ok (.getfield 157, 3) := by decide +kernel
theorem dX9_token_38 : decode cX9_token 38 = .ok (.lload 4, 2) := by decide +kernel
theorem dX9_token_40 : decode cX9_token 40 = .ok (.lastore, 1) := by decide +kernel
theorem dX9_token_41 : decode cX9_token 41 = .ok (.aload_n 0, 1) := by decide +kernel
theorem dX9_token_42 : decode cX9_token 42 = .ok (.dup, 1) := by decide +kernel
theorem dX9_token_43 : decode cX9_token 43 = .ok (.getfield 157, 3) := by decide +kernel
theorem dX9_token_46 : decode cX9_token 46 = .ok (.iconst 1, 1) := by decide +kernel
theorem dX9_token_47 : decode cX9_token 47 = .ok (.iadd, 1) := by decide +kernel
theorem dX9_token_48 : decode cX9_token 48 = .ok (.putfield 157, 3) := by decide +kernel
theorem dX9_token_51 : decode cX9_token 51 = .ok (.return_, 1) := by decide +kernel
theorem dX9_sign_0 : decode cX9_sign 0 = .ok (.iload_n 2, 1) := by decide +kernel
theorem dX9_sign_1 : decode cX9_sign 1 = .ok (.bipush 59, 2) := by decide +kernel
theorem dX9_sign_3 : decode cX9_sign 3 = .ok (.if_icmp .ne 7, 3) := by decide +kernel
theorem dX9_sign_6 : decode cX9_sign 6 = .ok (.iconst 4, 1) := by decide +kernel
theorem dX9_sign_7 : decode cX9_sign 7 = .ok (.goto 36, 3) := by decide +kernel
theorem dX9_sign_10 : decode cX9_sign 10 = .ok (.iload_n 2, 1) := by decide +kernel
theorem dX9_sign_11 : decode cX9_sign 11 = .ok (.bipush 61, 2) := by decide +kernel
theorem dX9_sign_13 : decode cX9_sign 13 = .ok (.if_icmp .ne 7, 3) := by decide +kernel
theorem dX9_sign_16 : decode cX9_sign 16 = .ok (.iconst 5, 1) := by decide +kernel
theorem dX9_sign_17 : decode cX9_sign 17 = .ok (.goto 26, 3) := by decide +kernel
theorem dX9_sign_20 : decode cX9_sign 20 = .ok (.iload_n 2, 1) := by decide +kernel
theorem dX9_sign_21 : decode cX9_sign 21 = .ok (.bipush 40, 2) := by decide +kernel
theorem dX9_sign_23 : decode cX9_sign 23 = .ok (.if_icmp .ne 8, 3) := by decide +kernel
theorem dX9_sign_26 : decode cX9_sign 26 = .ok (.bipush 6, 2) := by decide +kernel
theorem dX9_sign_28 : decode cX9_sign 28 = .ok (.goto 15, 3) := by decide +kernel
theorem dX9_sign_31 : decode cX9_sign 31 = .ok (.iload_n 2, 1) := by decide +kernel
theorem dX9_sign_32 : decode cX9_sign 32 = .ok (.bipush 41, 2) := by decide +kernel
theorem dX9_sign_34 : decode cX9_sign 34 = .ok (.if_icmp .ne 8, 3) := by decide +kernel
theorem dX9_sign_37 : decode cX9_sign 37 = .ok (.bipush 7, 2) := by decide +kernel
theorem dX9_sign_39 : decode cX9_sign 39 = .ok (.goto 4, 3) := by decide +kernel
theorem dX9_sign_42 : decode cX9_sign 42 = .ok (.iconst 3, 1) := by decide +kernel
theorem dX9_sign_43 : decode cX9_sign 43 = .ok (.istore 4, 2) := by decide +kernel
theorem dX9_sign_45 : decode cX9_sign 45 = .ok (.iload_n 2, 1) := by decide +kernel
theorem dX9_sign_46 : decode cX9_sign 46 = .ok (.bipush 43, 2) := by decide +kernel
theorem dX9_sign_48 : decode cX9_sign 48 = .ok (.if_icmp .ne 7, 3) := by decide +kernel
theorem dX9_sign_51 : decode cX9_sign 51 = .ok (.bipush 8, 2) := by decide +kernel
theorem dX9_sign_53 : decode cX9_sign 53 = .ok (.istore 4, 2) := by decide +kernel
theorem dX9_sign_55 : decode cX9_sign 55 = .ok (.iload_n 2, 1) := by decide +kernel
theorem dX9_sign_56 : decode cX9_sign 56 = .ok (.bipush 45, 2) := by decide +kernel
theorem dX9_sign_58 : decode cX9_sign 58 = .ok (.if_icmp .ne 7, 3) := by decide +kernel
theorem dX9_sign_61 : decode cX9_sign 61 = .ok (.bipush 9, 2) := by decide +kernel
theorem dX9_sign_63 : decode cX9_sign 63 = .ok (.istore 4, 2) := by decide +kernel
theorem dX9_sign_65 : decode cX9_sign 65 = .ok (.iload_n 2, 1) := by decide +kernel
theorem dX9_sign_66 : decode cX9_sign 66 = .ok (.bipush 42, 2) := by decide +kernel
theorem dX9_sign_68 : decode cX9_sign 68 = .ok (.if_icmp .ne 7, 3) := by decide +kernel
theorem dX9_sign_71 : decode cX9_sign 71 = .ok (.bipush 10, 2) := by decide +kernel
theorem dX9_sign_73 : decode cX9_sign 73 = .ok (.istore 4, 2) := by decide +kernel
theorem dX9_sign_75 : decode cX9_sign 75 = .ok (.iload_n 2, 1) := by decide +kernel
theorem dX9_sign_76 : decode cX9_sign 76 = .ok (.bipush 47, 2) := by decide +kernel
theorem dX9_sign_78 : decode cX9_sign 78 = .ok (.if_icmp .ne 7, 3) := by decide +kernel
theorem dX9_sign_81 : decode cX9_sign 81 = .ok (.bipush 15, 2) := by decide +kernel
theorem dX9_sign_83 : decode cX9_sign 83 = .ok (.istore 4, 2) := by decide +kernel
theorem dX9_sign_85 : decode cX9_sign 85 = .ok (.iload_n 2, 1) := by decide +kernel
theorem dX9_sign_86 : decode cX9_sign 86 = .ok (.bipush 60, 2) := by decide +kernel
theorem dX9_sign_88 : decode cX9_sign 88 = .ok (.if_icmp .ne 7, 3) := by decide +kernel
theorem dX9_sign_91 : decode cX9_sign 91 = .ok (.bipush 13, 2) := by decide +kernel
theorem dX9_sign_93 : decode cX9_sign 93 = .ok (.istore 4, 2) := by decide +kernel
theorem dX9_sign_95 : decode cX9_sign 95 = .ok (.aload_n 0, 1) := by decide +kernel
theorem dX9_sign_96 : decode cX9_sign 96 = .ok (.iload 4, 2) := by decide +kernel
theorem dX9_sign_98 : decode cX9_sign 98 = .ok (.iload_n 1, 1) := by decide +kernel
theorem dX9_sign_99 : decode cX9_sign 99 = .ok (.iconst 0, 1) := by decide +kernel
theorem dX9_sign_100 : decode cX9_sign 100 = .ok (.lconst 0, 1) := by decide +kernel
theorem dX9_sign_101 : decode cX9_sign 101 = .ok (.invokevirtual 164, 3) := by decide +kernel
theorem dX9_sign_104 : decode cX9_sign 104 = .ok (.iconst 1, 1) := by decide +kernel
theorem dX9_sign_105 : decode cX9_sign 105 = .ok (.ireturn, 1) := by decide +kernel
theorem dX9_cut_0 : decode cX9_cut 0 = .ok (.aload_n 0, 1) := by decide +kernel
theorem dX9_cut_1 : decode cX9_cut 1 = .ok (.iconst 0, 1) := by decide +kernel
theorem dX9_cut_2 : decode cX9_cut 2 = .ok (.putfield 157, 3) := by decide +kernel
theorem dX9_cut_5 : decode cX9_cut 5 = .ok (.iconst 0, 1) := by decide +kernel
theorem dX9_cut_6 : decode cX9_cut 6 = .ok (.istore_n 1, 1) := by decide +kernel
theorem dX9_cut_7 : decode cX9_cut 7 = .ok (.aload_n 0, 1) := by decide +kernel
theorem dX9_cut_8 : decode cX9_cut 8 = .ok (.getfield 157, 3) := by decide +kernel
theorem dX9_cut_11 : decode cX9_cut 11 = .ok (.sipush 400, 3) := by decide +kernel
theorem dX9_cut_14 : decode cX9_cut 14 = .ok (.if_icmp .gt 280, 3) := by decide +kernel
theorem dX9_cut_17 : decode cX9_cut 17 = .ok (.aload_n 0, 1) := by decide +kernel
theorem dX9_cut_18 : decode cX9_cut 18 = .ok (.iload_n 1, 1) := by decide +kernel
theorem dX9_cut_19 : decode cX9_cut 19 = .ok (.invokevirtual 160, 3) := by decide +kernel
theorem dX9_cut_22 : decode cX9_cut 22 = .ok (.istore_n 2, 1) := by decide +kernel
theorem dX9_cut_23 : decode cX9_cut 23 = .ok (.iload_n 1, 1) := by decide +kernel
theorem dX9_cut_24 : decode cX9_cut 24 = .ok (.aload_n 0, 1) := by decide +kernel
theorem dX9_cut_25 : decode cX9_cut 25 = .ok (.getfield 148, 3) := by decide +kernel
theorem dX9_cut_28 : decode cX9_cut 28 = .ok (.if_icmp .lt 15, 3) := by decide +kernel
theorem dX9_cut_31 : decode cX9_cut 31 = .ok (.aload_n 0, 1) := by decide +kernel
theorem dX9_cut_32 : decode cX9_cut 32 = .ok (.iconst 0, 1) := by decide +kernel
theorem dX9_cut_33 : decode cX9_cut 33 = .ok (.aload_n 0, 1) := by decide +kernel
theorem dX9_cut_34 : decode cX9_cut 34 = .ok (.getfield 148, 3) := by decide +kernel
theorem dX9_cut_37 : decode cX9_cut 37 = .ok (.iconst 0, 1) := by decide +kernel
theorem dX9_cut_38 : decode cX9_cut 38 = .ok (.lconst 0, 1) := by decide +kernel
theorem dX9_cut_39 : decode cX9_cut 39 = .ok (.invokevirtual 164, 3) := by decide +kernel
theorem dX9_cut_42 : decode cX9_cut 42 = .ok (.return_, 1) := by decide +kernel
theorem dX9_cut_43 : decode cX9_cut 43 = .ok (.iload_n 2, 1) := by decide +kernel
theorem dX9_cut_44 : decode cX9_cut 44 = .ok (.bipush 9, 2) := by decide +kernel
theorem dX9_cut_46 : decode cX9_cut 46 = .ok (.if_icmp .eq 21, 3) := by decide +kernel
theorem dX9_cut_49 : decode cX9_cut 49 = .ok (.iload_n 2, 1) := by decide +kernel
theorem dX9_cut_50 : decode cX9_cut 50 = .ok (.bipush 10, 2) := by decide +kernel
theorem dX9_cut_52 : decode cX9_cut 52 = .ok (.if_icmp .eq 15, 3) := by decide +kernel
theorem dX9_cut_55 : decode cX9_cut 55 = .ok (.iload_n 2, 1) := by decide +kernel
theorem dX9_cut_56 : decode cX9_cut 56 = .ok (.bipush 13, 2) := by decide +kernel
theorem dX9_cut_58 : decode cX9_cut 58 = .ok (.if_icmp .eq 9, 3) := by decide +kernel
theorem dX9_cut_61 : decode cX9_cut 61 = .ok (.iload_n 2, 1) := by decide +kernel
theorem dX9_cut_62 : decode cX9_cut 62 = .ok (.bipush 32, 2) := by decide +kernel
theorem dX9_cut_64 : decode cX9_cut 64 = .ok (.if_icmp .ne 9, 3) := by decide +kernel
theorem dX9_cut_67 : decode cX9_cut 67 = .ok (.iinc 1 1, 3) := by decide +kernel
theorem dX9_cut_70 : decode cX9_cut 70 = .ok (.goto 221, 3) := by decide +kernel
theorem dX9_cut_73 : decode cX9_cut 73 = .ok (.iload_n 2, 1) := by decide +kernel
theorem dX9_cut_74 : decode cX9_cut 74 = .ok (.invokestatic 168, 3) := by decide +kernel
theorem dX9_cut_77 : decode cX9_cut 77 = .ok (.ifCond .eq 119, 3) := by decide +kernel
theorem dX9_cut_80 : decode cX9_cut 80 = .ok (.iconst 0, 1) := by decide +kernel
theorem dX9_cut_81 : decode cX9_cut 81 = .ok (.istore_n 3, 1) := by decide +kernel
theorem dX9_cut_82 : decode cX9_cut 82 = .ok (.lconst 0, 1) := by decide +kernel
theorem dX9_cut_83 : decode cX9_cut 83 = .ok (.lstore 4, 2) := by decide +kernel
theorem dX9_cut_85 : decode cX9_cut 85 = .ok (.aload_n 0, 1) := by decide +kernel
theorem dX9_cut_86 : decode cX9_cut 86 = .ok (.iload_n 1, 1) := by decide +kernel
theorem dX9_cut_87 : decode cX9_cut 87 = .ok (.iload_n 3, 1) := by decide +kernel
theorem dX9_cut_88 : decode cX9_cut 88 = .ok (.iadd, 1) := by decide +kernel
theorem dX9_cut_89 : decode cX9_cut 89 = .ok (.invokevirtual 160, 3) := by decide +kernel
theorem dX9_cut_92 : decode cX9_cut 92 = .ok (.invokestatic 168, 3) := by decide +kernel
theorem dX9_cut_95 : decode cX9_cut 95 = .ok (.ifCond .eq 29, 3) := by decide +kernel
theorem dX9_cut_98 : decode cX9_cut 98 = .ok (.iload_n 3, 1) := by decide +kernel
theorem dX9_cut_99 : decode cX9_cut 99 = .ok (.bipush 8, 2) := by decide +kernel
theorem dX9_cut_101 : decode cX9_cut 101 = .ok (.if_icmp .ge 17, 3) := by decide +kernel
theorem dX9_cut_104 : decode cX9_cut 104 = .ok (.lload 4, 2) := by decide +kernel
theorem dX9_cut_106 : decode cX9_cut 106 = .ok (.aload_n 0, 1) := by decide +kernel
theorem dX9_cut_107 : decode cX9_cut 107 = .ok (.iload_n 1, 1) := by decide +kernel
theorem dX9_cut_108 : decode cX9_cut 108 = .ok (.iload_n 3, 1) := by decide +kernel
theorem dX9_cut_109 : decode cX9_cut 109 = .ok (.iadd, 1) := by decide +kernel
theorem dX9_cut_110 : decode cX9_cut 110 = .ok (.invokevirtual 160, 3) := by decide +kernel
theorem dX9_cut_113 : decode cX9_cut 113 = .ok (.invokestatic 153, 3) := by decide +kernel
theorem dX9_cut_116 : decode cX9_cut 116 = .ok (.lstore 4, 2) := by decide +kernel
theorem dX9_cut_118 : decode cX9_cut 118 = .ok (.iinc 3 1, 3) := by decide +kernel
theorem dX9_cut_121 : decode cX9_cut 121 = .ok (.goto (-36), 3) := by decide +kernel
theorem dX9_cut_124 : decode cX9_cut 124 = .ok (.iload_n 3, 1) := by decide +kernel
theorem dX9_cut_125 : decode cX9_cut 125 = .ok (.bipush 8, 2) := by decide +kernel
theorem dX9_cut_127 : decode cX9_cut 127 = .ok (.if_icmp .le 7, 3) := by decide +kernel
theorem dX9_cut_130 : decode cX9_cut 130 = .ok (.iconst 3, 1) := by decide +kernel
theorem dX9_cut_131 : decode cX9_cut 131 = .ok (.goto 4, 3) := by decide +kernel
theorem dX9_cut_134 : decode cX9_cut 134 = .ok (.iconst 1, 1) := by decide +kernel
theorem dX9_cut_135 : decode cX9_cut 135 = .ok (.istore 6, 2) := by decide +kernel
theorem dX9_cut_137 : decode cX9_cut 137 = .ok (.iload_n 3, 1) := by decide +kernel
theorem dX9_cut_138 : decode cX9_cut 138 = .ok (.bipush 8, 2) := by decide +kernel
theorem dX9_cut_140 : decode cX9_cut 140 = .ok (.if_icmp .gt 39, 3) := by decide +kernel
theorem dX9_cut_143 : decode cX9_cut 143 = .ok (.iconst 0, 1) := by decide +kernel
theorem dX9_cut_144 : decode cX9_cut 144 = .ok (.istore 7, 2) := by decide +kernel
theorem dX9_cut_146 : decode cX9_cut 146 = .ok (.iload 7, 2) := by decide +kernel
theorem dX9_cut_148 : decode cX9_cut 148 = .ok (.bipush 11, 2) := by decide +kernel
theorem dX9_cut_150 : decode cX9_cut 150 = .ok (.if_icmp .ge 29, 3) := by decide +kernel
theorem dX9_cut_153 : decode cX9_cut 153 = .ok (.aload_n 0, 1) := by decide +kernel
theorem dX9_cut_154 : decode cX9_cut 154 = .ok (.getfield 34, 3) := by decide +kernel
theorem dX9_cut_157 : decode cX9_cut 157 = .ok (.iload 7, 2) := by decide +kernel
theorem dX9_cut_159 : decode cX9_cut 159 = .ok (.laload, 1) := by decide +kernel
theorem dX9_cut_160 : decode cX9_cut 160 = .ok (.lload 4, 2) := by decide +kernel
theorem dX9_cut_162 : decode cX9_cut 162 = .ok (.lcmp, 1) := by decide +kernel
theorem dX9_cut_163 : decode cX9_cut 163 = .ok (.ifCond .ne 10, 3) := by decide +kernel
theorem dX9_cut_166 : decode cX9_cut 166 = .ok (.bipush 20, 2) := by decide +kernel
theorem dX9_cut_168 : decode cX9_cut 168 = .ok (.iload 7, 2) := by decide +kernel
theorem dX9_cut_170 : decode cX9_cut 170 = .ok (.iadd, 1) := by decide +kernel
theorem dX9_cut_171 : decode cX9_cut 171 = .ok (.istore 6, 2) := by decide +kernel
theorem dX9_cut_173 : decode cX9_cut 173 = .ok (.iinc 7 1, 3) := by decide +kernel
theorem dX9_cut_176 : decode cX9_cut 176 = .ok (.goto (-30), 3) := by decide +kernel
theorem dX9_cut_179 : decode cX9_cut 179 = .ok (.aload_n 0, 1) := by decide +kernel
theorem dX9_cut_180 : decode cX9_cut 180 = .ok (.iload 6, 2) := by decide +kernel
theorem dX9_cut_182 : decode cX9_cut 182 = .ok (.iload_n 1, 1) := by decide +kernel
theorem dX9_cut_183 : decode cX9_cut 183 = .ok (.iconst 0, 1) := by decide +kernel
theorem dX9_cut_184 : decode cX9_cut 184 = .ok (.lload 4, 2) := by decide +kernel
theorem dX9_cut_186 : decode cX9_cut 186 = .ok (.invokevirtual 164, 3) := by decide +kernel
theorem dX9_cut_189 : decode cX9_cut 189 = .ok (.iload_n 1, 1) := by decide +kernel
theorem dX9_cut_190 : decode cX9_cut 190 = .ok (.iload_n 3, 1) := by decide +kernel
theorem dX9_cut_191 : decode cX9_cut 191 = .ok (.iadd, 1) := by decide +kernel
theorem dX9_cut_192 : decode cX9_cut 192 = .ok (.istore_n 1, 1) := by decide +kernel
theorem dX9_cut_193 : decode cX9_cut 193 = .ok (.goto 98, 3) := by decide +kernel
theorem dX9_cut_196 : decode cX9_cut 196 = .ok (.iload_n 2, 1) := by decide +kernel
theorem dX9_cut_197 : decode cX9_cut 197 = .ok (.invokestatic 172, 3) := by decide +kernel
theorem dX9_cut_200 : decode cX9_cut 200 = .ok (.ifCond .eq 75, 3) := by decide +kernel
theorem dX9_cut_203 : decode cX9_cut 203 = .ok (.iconst 0, 1) := by decide +kernel
theorem dX9_cut_204 : decode cX9_cut 204 = .ok (.istore_n 3, 1) := by decide +kernel
theorem dX9_cut_205 : decode cX9_cut 205 = .ok (.iconst 0, 1) := by decide +kernel
theorem dX9_cut_206 : decode cX9_cut 206 = .ok (.istore 4, 2) := by decide +kernel
theorem dX9_cut_208 : decode cX9_cut 208 = .ok (.aload_n 0, 1) := by decide +kernel
theorem dX9_cut_209 : decode cX9_cut 209 = .ok (.iload_n 1, 1) := by decide +kernel
theorem dX9_cut_210 : decode cX9_cut 210 = .ok (.iload_n 3, 1) := by decide +kernel
theorem dX9_cut_211 : decode cX9_cut 211 = .ok (.iadd, 1) := by decide +kernel
theorem dX9_cut_212 : decode cX9_cut 212 = .ok (.invokevirtual 160, 3) := by decide +kernel
theorem dX9_cut_215 : decode cX9_cut 215 = .ok (.invokestatic 172, 3) := by decide +kernel
theorem dX9_cut_218 : decode cX9_cut 218 = .ok (.ifCond .eq 32, 3) := by decide +kernel
theorem dX9_cut_221 : decode cX9_cut 221 = .ok (.iload_n 3, 1) := by decide +kernel
theorem dX9_cut_222 : decode cX9_cut 222 = .ok (.iconst 4, 1) := by decide +kernel
theorem dX9_cut_223 : decode cX9_cut 223 = .ok (.if_icmp .ge 21, 3) := by decide +kernel
theorem dX9_cut_226 : decode cX9_cut 226 = .ok (.bipush 10, 2) := by decide +kernel
theorem dX9_cut_228 : decode cX9_cut 228 = .ok (.iload 4, 2) := by decide +kernel
theorem dX9_cut_230 : decode cX9_cut 230 = .ok (.imul, 1) := by decide +kernel
theorem dX9_cut_231 : decode cX9_cut 231 = .ok (.aload_n 0, 1) := by decide +kernel
theorem dX9_cut_232 : decode cX9_cut 232 = .ok (.iload_n 1, 1) := by decide +kernel
theorem dX9_cut_233 : decode cX9_cut 233 = .ok (.iload_n 3, 1) := by decide +kernel
theorem dX9_cut_234 : decode cX9_cut 234 = .ok (.iadd, 1) := by decide +kernel
theorem dX9_cut_235 : decode cX9_cut 235 = .ok (.invokevirtual 160, 3) := by decide +kernel
theorem dX9_cut_238 : decode cX9_cut 238 = .ok (.iadd, 1) := by decide +kernel
theorem dX9_cut_239 : decode cX9_cut 239 = .ok (.bipush 48, 2) := by decide +kernel
theorem dX9_cut_241 : decode cX9_cut 241 = .ok (.isub, 1) := by decide +kernel
theorem dX9_cut_242 : decode cX9_cut 242 = .ok (.istore 4, 2) := by decide +kernel
theorem dX9_cut_244 : decode cX9_cut 244 = .ok (.iinc 3 1, 3) := by decide +kernel
theorem dX9_cut_247 : decode cX9_cut 247 = .ok (.goto (-39), 3) := by decide +kernel
theorem dX9_cut_250 : decode cX9_cut 250 = .ok (.aload_n 0, 1) := by decide +kernel
theorem dX9_cut_251 : decode cX9_cut 251 = .ok (.iload_n 3, 1) := by decide +kernel
theorem dX9_cut_252 : decode cX9_cut 252 = .ok (.iconst 4, 1) := by decide +kernel
theorem dX9_cut_253 : decode cX9_cut 253 = .ok (.if_icmp .le 7, 3) := by decide +kernel
theorem dX9_cut_256 : decode cX9_cut 256 = .ok (.iconst 3, 1) := by decide +kernel
theorem dX9_cut_257 : decode cX9_cut 257 = .ok (.goto 4, 3) := by decide +kernel
theorem dX9_cut_260 : decode cX9_cut 260 = .ok (.iconst 2, 1) := by decide +kernel
theorem dX9_cut_261 : decode cX9_cut 261 = .ok (.iload_n 1, 1) := by decide +kernel
theorem dX9_cut_262 : decode cX9_cut 262 = .ok (.iload 4, 2) := by decide +kernel
theorem dX9_cut_264 : decode cX9_cut 264 = .ok (.lconst 0, 1) := by decide +kernel
theorem dX9_cut_265 : decode cX9_cut 265 = .ok (.invokevirtual 164, 3) := by decide +kernel
theorem dX9_cut_268 : decode cX9_cut 268 = .ok (.iload_n 1, 1) := by decide +kernel
theorem dX9_cut_269 : decode cX9_cut 269 = .ok (.iload_n 3, 1) := by decide +kernel
theorem dX9_cut_270 : decode cX9_cut 270 = .ok (.iadd, 1) := by decide +kernel
theorem dX9_cut_271 : decode cX9_cut 271 = .ok (.istore_n 1, 1) := by decide +kernel
theorem dX9_cut_272 : decode cX9_cut 272 = .ok (.goto 19, 3) := by decide +kernel
theorem dX9_cut_275 : decode cX9_cut 275 = .ok (.iload_n 1, 1) := by decide +kernel
theorem dX9_cut_276 : decode cX9_cut 276 = .ok (.aload_n 0, 1) := by decide +kernel
theorem dX9_cut_277 : decode cX9_cut 277 = .ok (.iload_n 1, 1) := by decide +kernel
theorem dX9_cut_278 : decode cX9_cut 278 = .ok (.iload_n 2, 1) := by decide +kernel
theorem dX9_cut_279 : decode cX9_cut 279 = .ok (.aload_n 0, 1) := by decide +kernel
theorem dX9_cut_280 : decode cX9_cut 280 = .ok (.iload_n 1, 1) := by decide +kernel
theorem dX9_cut_281 : decode cX9_cut 281 = .ok (.iconst 1, 1) := by decide +kernel
theorem dX9_cut_282 : decode cX9_cut 282 = .ok (.iadd, 1) := by decide +kernel
theorem dX9_cut_283 : decode cX9_cut 283 = .ok (.invokevirtual 160, 3) := by decide +kernel
theorem dX9_cut_286 : decode cX9_cut 286 = .ok (.invokevirtual 175, 3) := by decide +kernel
theorem dX9_cut_289 : decode cX9_cut 289 = .ok (.iadd, 1) := by decide +kernel
theorem dX9_cut_290 : decode cX9_cut 290 = .ok (.istore_n 1, 1) := by decide +kernel
theorem dX9_cut_291 : decode cX9_cut 291 = .ok (.goto (-284), 3) := by decide +kernel
theorem dX9_cut_294 : decode cX9_cut 294 = .ok (.return_, 1) := by decide +kernel
theorem dX9_is_0 : decode cX9_is 0 = .ok (.aload_n 0, 1) := by decide +kernel
theorem dX9_is_1 : decode cX9_is 1 = .ok (.getfield 179, 3) := by decide +kernel
theorem dX9_is_4 : decode cX9_is 4 = .ok (.ifCond .ne 20, 3) := by decide +kernel
theorem dX9_is_7 : decode cX9_is 7 = .ok (.aload_n 0, 1) := by decide +kernel
theorem dX9_is_8 : decode cX9_is 8 = .ok (.getfield 20, 3) := by decide +kernel
theorem dX9_is_11 : decode cX9_is 11 = .ok (.aload_n 0, 1) := by decide +kernel
theorem dX9_is_12 : decode cX9_is 12 = .ok (.getfield 182, 3) := by decide +kernel
theorem dX9_is_15 : decode cX9_is 15 = .ok (.iaload, 1) := by decide +kernel
theorem dX9_is_16 : decode cX9_is 16 = .ok (.iload_n 1, 1) := by decide +kernel
theorem dX9_is_17 : decode cX9_is 17 = .ok (.if_icmp .ne 7, 3) := by decide +kernel
theorem dX9_is_20 : decode cX9_is 20 = .ok (.iconst 1, 1) := by decide +kernel
theorem dX9_is_21 : decode cX9_is 21 = .ok (.goto 4, 3) := by decide +kernel
theorem dX9_is_24 : decode cX9_is 24 = .ok (.iconst 0, 1) := by decide +kernel
theorem dX9_is_25 : decode cX9_is 25 = .ok (.ireturn, 1) := by decide +kernel
theorem dX9_fail_0 : decode cX9_fail 0 = .ok (.aload_n 0, 1) := by decide +kernel
theorem dX9_fail_1 : decode cX9_fail 1 = .ok (.getfield 179, 3) := by decide +kernel
theorem dX9_fail_4 : decode cX9_fail 4 = .ok (.ifCond .le 4, 3) := by decide +kernel
theorem dX9_fail_7 : decode cX9_fail 7 = .ok (.return_, 1) := by decide +kernel
theorem dX9_fail_8 : decode cX9_fail 8 = .ok (.aload_n 0, 1) := by decide +kernel
theorem dX9_fail_9 : decode cX9_fail 9 = .ok (.iload_n 1, 1) := by decide +kernel
theorem dX9_fail_10 : decode cX9_fail 10 = .ok (.putfield 179, 3) := by decide +kernel
theorem dX9_fail_13 : decode cX9_fail 13 = .ok (.aload_n 0, 1) := by decide +kernel
theorem dX9_fail_14 : decode cX9_fail 14 = .ok (.aload_n 0, 1) := by decide +kernel
theorem dX9_fail_15 : decode cX9_fail 15 = .ok (.getfield 24, 3) := by decide +kernel
theorem dX9_fail_18 : decode cX9_fail 18 = .ok (.aload_n 0, 1) := by decide +kernel
theorem dX9_fail_19 : decode cX9_fail 19 = .ok (.getfield 182, 3) := by decide +kernel
theorem dX9_fail_22 : decode cX9_fail 22 = .ok (.iaload, 1) := by decide +kernel
theorem dX9_fail_23 : decode cX9_fail 23 = .ok (.putfield 185, 3) := by decide +kernel
theorem dX9_fail_26 : decode cX9_fail 26 = .ok (.return_, 1) := by decide +kernel
theorem dX9_wrong_0 : decode cX9_wrong 0 = .ok (.aload_n 0, 1) := by decide +kernel
theorem dX9_wrong_1 : decode cX9_wrong 1 = .ok (.getfield 24, 3) := by decide +kernel
theorem dX9_wrong_4 : decode cX9_wrong 4 = .ok (.iload_n 2, 1) := by decide +kernel
theorem dX9_wrong_5 : decode cX9_wrong 5 = .ok (.iaload, 1) := by decide +kernel
theorem dX9_wrong_6 : decode cX9_wrong 6 = .ok (.istore_n 3, 1) := by decide +kernel
theorem dX9_wrong_7 : decode cX9_wrong 7 = .ok (.aload_n 0, 1) := by decide +kernel
theorem dX9_wrong_8 : decode cX9_wrong 8 = .ok (.getfield 179, 3) := by decide +kernel
theorem dX9_wrong_11 : decode cX9_wrong 11 = .ok (.ifCond .gt 34, 3) := by decide +kernel
theorem dX9_wrong_14 : decode cX9_wrong 14 = .ok (.aload_n 0, 1) := by decide +kernel
theorem dX9_wrong_15 : decode cX9_wrong 15 = .ok (.getfield 188, 3) := by decide +kernel
theorem dX9_wrong_18 : decode cX9_wrong 18 = .ok (.ifCond .eq 28, 3) := by decide +kernel
theorem dX9_wrong_21 : decode cX9_wrong 21 = .ok (.iload_n 3, 1) := by decide +kernel
theorem dX9_wrong_22 : decode cX9_wrong 22 = .ok (.aload_n 0, 1) := by decide +kernel
theorem dX9_wrong_23 : decode cX9_wrong 23 = .ok (.getfield 191, 3) := by decide +kernel
theorem dX9_wrong_26 : decode cX9_wrong 26 = .ok (.if_icmp .gt 19, 3) := by decide +kernel
theorem dX9_wrong_29 : decode cX9_wrong 29 = .ok (.iload_n 3, 1) := by decide +kernel
theorem dX9_wrong_30 : decode cX9_wrong 30 = .ok (.aload_n 0, 1) := by decide +kernel
theorem dX9_wrong_31 : decode cX9_wrong 31 = .ok (.getfield 191, 3) := by decide +kernel
theorem dX9_wrong_34 : decode cX9_wrong 34 = .ok (.if_icmp .ne 12, 3) := by decide +kernel
theorem dX9_wrong_37 : decode cX9_wrong 37 = .ok (.iload_n 1, 1) := by decide +kernel
theorem dX9_wrong_38 : decode cX9_wrong 38 = .ok (.aload_n 0, 1) := by decide +kernel
theorem dX9_wrong_39 : decode cX9_wrong 39 = .ok (.getfield 188, 3) := by decide +kernel
theorem dX9_wrong_42 : decode cX9_wrong 42 = .ok (.if_icmp .lt 4, 3) := by decide +kernel
theorem dX9_wrong_45 : decode cX9_wrong 45 = .ok (.return_, 1) := by decide +kernel
theorem dX9_wrong_46 : decode cX9_wrong 46 = .ok (.aload_n 0, 1) := by decide +kernel
theorem dX9_wrong_47 : decode cX9_wrong 47 = .ok (.iload_n 1, 1) := by decide +kernel
theorem dX9_wrong_48 : decode cX9_wrong 48 = .ok (.putfield 188, 3) := by decide +kernel
theorem dX9_wrong_51 : decode cX9_wrong 51 = .ok (.aload_n 0, 1) := by decide +kernel
theorem dX9_wrong_52 : decode cX9_wrong 52 = .ok (.iload_n 3, 1) := by decide +kernel
theorem dX9_wrong_53 : decode cX9_wrong 53 = .ok (.putfield 191, 3) := by decide +kernel
theorem dX9_wrong_56 : decode cX9_wrong 56 = .ok (.return_, 1) := by decide +kernel
theorem dX9_goesOn_0 : decode cX9_goesOn 0 = .ok (.aload_n 0, 1) := by decide +kernel
theorem dX9_goesOn_1 : decode cX9_goesOn 1 = .ok (.getfield 182, 3) := by decide +kernel
theorem dX9_goesOn_4 : decode cX9_goesOn 4 = .ok (.sipush 400, 3) := by decide +kernel
theorem dX9_goesOn_7 : decode cX9_goesOn 7 = .ok (.if_icmp .ne 11, 3) := by decide +kernel
theorem dX9_goesOn_10 : decode cX9_goesOn 10 = .ok (.aload_n 0, 1) := by decide +kernel
theorem dX9_goesOn_11 : decode cX9_goesOn 11 = .ok (.iconst 2, 1) := by decide +kernel
theorem dX9_goesOn_12 : decode cX9_goesOn 12 = .ok (.invokevirtual 194, 3) := by decide +kernel
theorem dX9_goesOn_15 : decode cX9_goesOn 15 = .ok (.goto 13, 3) := by decide +kernel
theorem dX9_goesOn_18 : decode cX9_goesOn 18 = .ok (.aload_n 0, 1) := by decide +kernel
theorem dX9_goesOn_19 : decode cX9_goesOn 19 = .ok (.dup, 1) := by decide +kernel
theorem dX9_goesOn_20 : decode cX9_goesOn 20 = .ok (.getfield 182, 3) := by decide +kernel
theorem dX9_goesOn_23 : decode cX9_goesOn 23 = .ok (.iconst 1, 1) := by decide +kernel
theorem dX9_goesOn_24 : decode cX9_goesOn 24 = .ok (.iadd, 1) := by decide +kernel
theorem dX9_goesOn_25 : decode cX9_goesOn 25 = .ok (.putfield 182, 3) := by decide +kernel
theorem dX9_goesOn_28 : decode cX9_goesOn 28 = .ok (.return_, 1) := by decide +kernel
theorem dX9_must_0 : decode cX9_must 0 = .ok (.aload_n 0, 1) := by decide +kernel
theorem dX9_must_1 : decode cX9_must 1 = .ok (.iload_n 1, 1) := by decide +kernel
theorem dX9_must_2 : decode cX9_must 2 = .ok (.invokevirtual 197, 3) := by decide +kernel
theorem dX9_must_5 : decode cX9_must 5 = .ok (.ifCond .eq 10, 3) := by decide +kernel
theorem dX9_must_8 : decode cX9_must 8 = .ok (.aload_n 0, 1) := by decide +kernel
theorem dX9_must_9 : decode cX9_must 9 = .ok (.invokevirtual 200, 3) := by decide +kernel
theorem dX9_must_12 : decode cX9_must 12 = .ok (.goto 8, 3) := by decide +kernel
theorem dX9_must_15 : decode cX9_must 15 = .ok (.aload_n 0, 1) := by decide +kernel
theorem dX9_must_16 : decode cX9_must 16 = .ok (.iconst 1, 1) := by decide +kernel
theorem dX9_must_17 : decode cX9_must 17 = .ok (.invokevirtual 194, 3) := by decide +kernel
theorem dX9_must_20 : decode cX9_must 20 = .ok (.return_, 1) := by decide +kernel
theorem dX9_plain_0 : decode cX9_plain 0 = .ok (.aload_n 0, 1) := by decide +kernel
theorem dX9_plain_1 : decode cX9_plain 1 = .ok (.getfield 46, 3) := by decide +kernel
theorem dX9_plain_4 : decode cX9_plain 4 = .ok (.iload_n 1, 1) := by decide +kernel
theorem dX9_plain_5 : decode cX9_plain 5 = .ok (.iconst 3, 1) := by decide +kernel
theorem dX9_plain_6 : decode cX9_plain 6 = .ok (.iastore, 1) := by decide +kernel
theorem dX9_plain_7 : decode cX9_plain 7 = .ok (.aload_n 0, 1) := by decide +kernel
theorem dX9_plain_8 : decode cX9_plain 8 = .ok (.getfield 49, 3) := by decide +kernel
theorem dX9_plain_11 : decode cX9_plain 11 = .ok (.iload_n 1, 1) := by decide +kernel
theorem dX9_plain_12 : decode cX9_plain 12 = .ok (.iconst 0, 1) := by decide +kernel
theorem dX9_plain_13 : decode cX9_plain 13 = .ok (.iastore, 1) := by decide +kernel
theorem dX9_plain_14 : decode cX9_plain 14 = .ok (.aload_n 0, 1) := by decide +kernel
theorem dX9_plain_15 : decode cX9_plain 15 = .ok (.getfield 52, 3) := by decide +kernel
theorem dX9_plain_18 : decode cX9_plain 18 = .ok (.iload_n 1, 1) := by decide +kernel
theorem dX9_plain_19 : decode cX9_plain 19 = .ok (.iconst 0, 1) := by decide +kernel
theorem dX9_plain_20 : decode cX9_plain 20 = .ok (.iastore, 1) := by decide +kernel
theorem dX9_plain_21 : decode cX9_plain 21 = .ok (.aload_n 0, 1) := by decide +kernel
theorem dX9_plain_22 : decode cX9_plain 22 = .ok (.getfield 58, 3) := by decide +kernel
theorem dX9_plain_25 : decode cX9_plain 25 = .ok (.iload_n 1, 1) := by decide +kernel
theorem dX9_plain_26 : decode cX9_plain 26 = .ok (.iconst 0, 1) := by decide +kernel
theorem dX9_plain_27 : decode cX9_plain 27 = .ok (.iastore, 1) := by decide +kernel
theorem dX9_plain_28 : decode cX9_plain 28 = .ok (.aload_n 0, 1) := by decide +kernel
theorem dX9_plain_29 : decode cX9_plain 29 = .ok (.getfield 73, 3) := by decide +kernel
theorem dX9_plain_32 : decode cX9_plain 32 = .ok (.iload_n 1, 1) := by decide +kernel
theorem dX9_plain_33 : decode cX9_plain 33 = .ok (.iconst 0, 1) := by decide +kernel
theorem dX9_plain_34 : decode cX9_plain 34 = .ok (.iastore, 1) := by decide +kernel
theorem dX9_plain_35 : decode cX9_plain 35 = .ok (.return_, 1) := by decide +kernel
theorem dX9_bounded_0 : decode cX9_bounded 0 = .ok (.aload_n 0, 1) := by decide +kernel
theorem dX9_bounded_1 : decode cX9_bounded 1 = .ok (.getfield 179, 3) := by decide +kernel
theorem dX9_bounded_4 : decode cX9_bounded 4 = .ok (.ifCond .gt 11, 3) := by decide +kernel
theorem dX9_bounded_7 : decode cX9_bounded 7 = .ok (.aload_n 0, 1) := by decide +kernel
theorem dX9_bounded_8 : decode cX9_bounded 8 = .ok (.iconst 2, 1) := by decide +kernel
theorem dX9_bounded_9 : decode cX9_bounded 9 = .ok (.invokevirtual 197, 3) := by decide +kernel
theorem dX9_bounded_12 : decode cX9_bounded 12 = .ok (.ifCond .ne 10, 3) := by decide +kernel
theorem dX9_bounded_15 : decode cX9_bounded 15 = .ok (.aload_n 0, 1) := by decide +kernel
theorem dX9_bounded_16 : decode cX9_bounded 16 = .ok (.iconst 1, 1) := by decide +kernel
theorem dX9_bounded_17 : decode cX9_bounded 17 = .ok (.invokevirtual 194, 3) := by decide +kernel
theorem dX9_bounded_20 : decode cX9_bounded 20 = .ok (.iload_n 1, 1) := by decide +kernel
theorem dX9_bounded_21 : decode cX9_bounded 21 = .ok (.ireturn, 1) := by decide +kernel
theorem dX9_bounded_22 : decode cX9_bounded 22 = .ok (.aload_n 0, 1) := by decide +kernel
theorem dX9_bounded_23 : decode cX9_bounded 23 = .ok (.getfield 27, 3) := by decide +kernel
theorem dX9_bounded_26 : decode cX9_bounded 26 = .ok (.aload_n 0, 1) := by decide +kernel
theorem dX9_bounded_27 : decode cX9_bounded 27 = .ok (.getfield 182, 3) := by decide +kernel
theorem dX9_bounded_30 : decode cX9_bounded 30 = .ok (.iaload, 1) := by decide +kernel
theorem dX9_bounded_31 : decode cX9_bounded 31 = .ok (.istore_n 3, 1) := by decide +kernel
theorem dX9_bounded_32 : decode cX9_bounded 32 = .ok (.iload_n 3, 1) := by decide +kernel
theorem dX9_bounded_33 : decode cX9_bounded 33 = .ok (.iload_n 1, 1) := by decide +kernel
theorem dX9_bounded_34 : decode cX9_bounded 34 = .ok (.if_icmp .lt 8, 3) := by decide +kernel
theorem dX9_bounded_37 : decode cX9_bounded 37 = .ok (.iload_n 3, 1) := by decide +kernel
theorem dX9_bounded_38 : decode cX9_bounded 38 = .ok (.iload_n 2, 1) := by decide +kernel
theorem dX9_bounded_39 : decode cX9_bounded 39 = .ok (.if_icmp .le 12, 3) := by decide +kernel
theorem dX9_bounded_42 : decode cX9_bounded 42 = .ok (.aload_n 0, 1) := by decide +kernel
theorem dX9_bounded_43 : decode cX9_bounded 43 = .ok (.iconst 5, 1) := by decide +kernel
theorem dX9_bounded_44 : decode cX9_bounded 44 = .ok (.aload_n 0, 1) := by decide +kernel
theorem dX9_bounded_45 : decode cX9_bounded 45 = .ok (.getfield 182, 3) := by decide +kernel
theorem dX9_bounded_48 : decode cX9_bounded 48 = .ok (.invokevirtual 224, 3) := by decide +kernel
theorem dX9_bounded_51 : decode cX9_bounded 51 = .ok (.aload_n 0, 1) := by decide +kernel
theorem dX9_bounded_52 : decode cX9_bounded 52 = .ok (.invokevirtual 200, 3) := by decide +kernel
theorem dX9_bounded_55 : decode cX9_bounded 55 = .ok (.iload_n 3, 1) := by decide +kernel
theorem dX9_bounded_56 : decode cX9_bounded 56 = .ok (.ireturn, 1) := by decide +kernel
theorem dX9_toldInt_0 : decode cX9_toldInt 0 = .ok (.aload_n 0, 1) := by decide +kernel
theorem dX9_toldInt_1 : decode cX9_toldInt 1 = .ok (.invokevirtual 200, 3) := by decide +kernel
theorem dX9_toldInt_4 : decode cX9_toldInt 4 = .ok (.aload_n 0, 1) := by decide +kernel
theorem dX9_toldInt_5 : decode cX9_toldInt 5 = .ok (.iload_n 1, 1) := by decide +kernel
theorem dX9_toldInt_6 : decode cX9_toldInt 6 = .ok (.iload_n 2, 1) := by decide +kernel
theorem dX9_toldInt_7 : decode cX9_toldInt 7 = .ok (.invokevirtual 231, 3) := by decide +kernel
theorem dX9_toldInt_10 : decode cX9_toldInt 10 = .ok (.istore_n 3, 1) := by decide +kernel
theorem dX9_toldInt_11 : decode cX9_toldInt 11 = .ok (.aload_n 0, 1) := by decide +kernel
theorem dX9_toldInt_12 : decode cX9_toldInt 12 = .ok (.iconst 4, 1) := by decide +kernel
theorem dX9_toldInt_13 : decode cX9_toldInt 13 = .ok (.invokevirtual 235, 3) := by decide +kernel
theorem dX9_toldInt_16 : decode cX9_toldInt 16 = .ok (.iload_n 3, 1) := by decide +kernel
theorem dX9_toldInt_17 : decode cX9_toldInt 17 = .ok (.ireturn, 1) := by decide +kernel
theorem dX9_roomFor_0 : decode cX9_roomFor 0 = .ok (.iload_n 1, 1) := by decide +kernel
theorem dX9_roomFor_1 : decode cX9_roomFor 1 = .ok (.iload_n 2, 1) := by decide +kernel
theorem dX9_roomFor_2 : decode cX9_roomFor 2 = .ok (.if_icmp .ne 8, 3) := by decide +kernel
theorem dX9_roomFor_5 : decode cX9_roomFor 5 = .ok (.aload_n 0, 1) := by decide +kernel
theorem dX9_roomFor_6 : decode cX9_roomFor 6 = .ok (.iconst 2, 1) := by decide +kernel
theorem dX9_roomFor_7 : decode cX9_roomFor 7 = .ok (.invokevirtual 194, 3) := by decide +kernel
theorem dX9_roomFor_10 : decode cX9_roomFor 10 = .ok (.aload_n 0, 1) := by decide +kernel
theorem dX9_roomFor_11 : decode cX9_roomFor 11 = .ok (.getfield 179, 3) := by decide +kernel
theorem dX9_roomFor_14 : decode cX9_roomFor 14 = .ok (.ifCond .ne 7, 3) := by decide +kernel
theorem dX9_roomFor_17 : decode cX9_roomFor 17 = .ok (.aload_n 0, 1) := by decide +kernel
theorem dX9_roomFor_18 : decode cX9_roomFor 18 = .ok (.invokevirtual 200, 3) := by decide +kernel
theorem dX9_roomFor_21 : decode cX9_roomFor 21 = .ok (.return_, 1) := by decide +kernel
theorem dX9_named_0 : decode cX9_named 0 = .ok (.aload_n 0, 1) := by decide +kernel
theorem dX9_named_1 : decode cX9_named 1 = .ok (.getfield 182, 3) := by decide +kernel
theorem dX9_named_4 : decode cX9_named 4 = .ok (.istore_n 1, 1) := by decide +kernel
theorem dX9_named_5 : decode cX9_named 5 = .ok (.aload_n 0, 1) := by decide +kernel
theorem dX9_named_6 : decode cX9_named 6 = .ok (.iconst 1, 1) := by decide +kernel
theorem dX9_named_7 : decode cX9_named 7 = .ok (.invokevirtual 235, 3) := by decide +kernel
theorem dX9_named_10 : decode cX9_named 10 = .ok (.iconst 0, 1) := by decide +kernel
theorem dX9_named_11 : decode cX9_named 11 = .ok (.istore_n 2, 1) := by decide +kernel
theorem dX9_named_12 : decode cX9_named 12 = .ok (.iload_n 2, 1) := by decide +kernel
theorem dX9_named_13 : decode cX9_named 13 = .ok (.aload_n 0, 1) := by decide +kernel
theorem dX9_named_14 : decode cX9_named 14 = .ok (.getfield 215, 3) := by decide +kernel
theorem dX9_named_17 : decode cX9_named 17 = .ok (.if_icmp .ge 38, 3) := by decide +kernel
theorem dX9_named_20 : decode cX9_named 20 = .ok (.aload_n 0, 1) := by decide +kernel
theorem dX9_named_21 : decode cX9_named 21 = .ok (.getfield 179, 3) := by decide +kernel
theorem dX9_named_24 : decode cX9_named 24 = .ok (.ifCond .ne 31, 3) := by decide +kernel
theorem dX9_named_27 : decode cX9_named 27 = .ok (.aload_n 0, 1) := by decide +kernel
theorem dX9_named_28 : decode cX9_named 28 = .ok (.getfield 40, 3) := by decide +kernel
theorem dX9_named_31 : decode cX9_named 31 = .ok (.iload_n 2, 1) := by decide +kernel
theorem dX9_named_32 : decode cX9_named 32 = .ok (.laload, 1) := by decide +kernel
theorem dX9_named_33 : decode cX9_named 33 = .ok (.aload_n 0, 1) := by decide +kernel
theorem dX9_named_34 : decode cX9_named 34 = .ok (.getfield 30, 3) := by decide +kernel
theorem dX9_named_37 : decode cX9_named 37 = .ok (.iload_n 1, 1) := by decide +kernel
theorem dX9_named_38 : decode cX9_named 38 = .ok (.laload, 1) := by decide +kernel
theorem dX9_named_39 : decode cX9_named 39 = .ok (.lcmp, 1) := by decide +kernel
theorem dX9_named_40 : decode cX9_named 40 = .ok (.ifCond .ne 9, 3) := by decide +kernel
theorem dX9_named_43 : decode cX9_named 43 = .ok (.aload_n 0, 1) := by decide +kernel
theorem dX9_named_44 : decode cX9_named 44 = .ok (.iconst 3, 1) := by decide +kernel
theorem dX9_named_45 : decode cX9_named 45 = .ok (.iload_n 1, 1) := by decide +kernel
theorem dX9_named_46 : decode cX9_named 46 = .ok (.invokevirtual 224, 3) := by decide +kernel
theorem dX9_named_49 : decode cX9_named 49 = .ok (.iinc 2 1, 3) := by decide +kernel
theorem dX9_named_52 : decode cX9_named 52 = .ok (.goto (-40), 3) := by decide +kernel
theorem dX9_named_55 : decode cX9_named 55 = .ok (.iload_n 1, 1) := by decide +kernel
theorem dX9_named_56 : decode cX9_named 56 = .ok (.ireturn, 1) := by decide +kernel
theorem dX9_keepsName_0 : decode cX9_keepsName 0 = .ok (.aload_n 0, 1) := by decide +kernel
theorem dX9_keepsName_1 : decode cX9_keepsName 1 = .ok (.getfield 40, 3) := by decide +kernel
theorem dX9_keepsName_4 : decode cX9_keepsName 4 = .ok (.aload_n 0, 1) := by decide +kernel
theorem dX9_keepsName_5 : decode cX9_keepsName 5 = .ok (.getfield 215, 3) := by decide +kernel
theorem dX9_keepsName_8 : decode cX9_keepsName 8 = .ok (.aload_n 0, 1) := by decide +kernel
theorem dX9_keepsName_9 : decode cX9_keepsName 9 = .ok (.getfield 30, 3) := by decide +kernel
theorem dX9_keepsName_12 : decode cX9_keepsName 12 = .ok (.iload_n 1, 1) := by decide +kernel
theorem dX9_keepsName_13 : decode cX9_keepsName 13 = .ok (.laload, 1) := by decide +kernel
theorem dX9_keepsName_14 : decode cX9_keepsName 14 = .ok (.lastore, 1) := by decide +kernel
theorem dX9_keepsName_15 : decode cX9_keepsName 15 = .ok (.aload_n 0, 1) := by decide +kernel
theorem dX9_keepsName_16 : decode cX9_keepsName 16 = .ok (.getfield 43, 3) := by decide +kernel
theorem dX9_keepsName_19 : decode cX9_keepsName 19 = .ok (.aload_n 0, 1) := by decide +kernel
theorem dX9_keepsName_20 : decode cX9_keepsName 20 = .ok (.getfield 215, 3) := by decide +kernel
theorem dX9_keepsName_23 : decode cX9_keepsName 23 = .ok (.iload_n 2, 1) := by decide +kernel
theorem dX9_keepsName_24 : decode cX9_keepsName 24 = .ok (.iastore, 1) := by decide +kernel
theorem dX9_keepsName_25 : decode cX9_keepsName 25 = .ok (.aload_n 0, 1) := by decide +kernel
theorem dX9_keepsName_26 : decode cX9_keepsName 26 = .ok (.dup, 1) := by decide +kernel
theorem dX9_keepsName_27 : decode cX9_keepsName 27 = .ok (.getfield 215, 3) := by decide +kernel
theorem dX9_keepsName_30 : decode cX9_keepsName 30 = .ok (.iconst 1, 1) := by decide +kernel
theorem dX9_keepsName_31 : decode cX9_keepsName 31 = .ok (.iadd, 1) := by decide +kernel
theorem dX9_keepsName_32 : decode cX9_keepsName 32 = .ok (.putfield 215, 3) := by decide +kernel
theorem dX9_keepsName_35 : decode cX9_keepsName 35 = .ok (.return_, 1) := by decide +kernel
theorem dX9_tellCell_0 : decode cX9_tellCell 0 = .ok (.aload_n 0, 1) := by decide +kernel
theorem dX9_tellCell_1 : decode cX9_tellCell 1 = .ok (.invokevirtual 250, 3) := by decide +kernel
theorem dX9_tellCell_4 : decode cX9_tellCell 4 = .ok (.istore_n 1, 1) := by decide +kernel
theorem dX9_tellCell_5 : decode cX9_tellCell 5 = .ok (.aload_n 0, 1) := by decide +kernel
theorem dX9_tellCell_6 : decode cX9_tellCell 6 = .ok (.getfield 55, 3) := by decide +kernel
theorem dX9_tellCell_9 : decode cX9_tellCell 9 = .ok (.bipush 6, 2) := by decide +kernel
theorem dX9_tellCell_11 : decode cX9_tellCell 11 = .ok (.aload_n 0, 1) := by decide +kernel
theorem dX9_tellCell_12 : decode cX9_tellCell 12 = .ok (.getfield 212, 3) := by decide +kernel
theorem dX9_tellCell_15 : decode cX9_tellCell 15 = .ok (.imul, 1) := by decide +kernel
theorem dX9_tellCell_16 : decode cX9_tellCell 16 = .ok (.aload_n 0, 1) := by decide +kernel
theorem dX9_tellCell_17 : decode cX9_tellCell 17 = .ok (.getfield 52, 3) := by decide +kernel
theorem dX9_tellCell_20 : decode cX9_tellCell 20 = .ok (.aload_n 0, 1) := by decide +kernel
theorem dX9_tellCell_21 : decode cX9_tellCell 21 = .ok (.getfield 212, 3) := by decide +kernel
theorem dX9_tellCell_24 : decode cX9_tellCell 24 = .ok (.iaload, 1) := by decide +kernel
theorem dX9_tellCell_25 : decode cX9_tellCell 25 = .ok (.iadd, 1) := by decide +kernel
theorem dX9_tellCell_26 : decode cX9_tellCell 26 = .ok (.aload_n 0, 1) := by decide +kernel
theorem dX9_tellCell_27 : decode cX9_tellCell 27 = .ok (.iconst 0, 1) := by decide +kernel
theorem dX9_tellCell_28 : decode cX9_tellCell 28 = .ok (.sipush 9999, 3) := by decide +kernel
theorem dX9_tellCell_31 : decode cX9_tellCell 31 = .ok (.invokevirtual 231, 3) := by decide +kernel
theorem dX9_tellCell_34 : decode cX9_tellCell 34 = .ok (.iastore, 1) := by decide +kernel
theorem dX9_tellCell_35 : decode cX9_tellCell 35 = .ok (.aload_n 0, 1) := by decide +kernel
theorem dX9_tellCell_36 : decode cX9_tellCell 36 = .ok (.iconst 4, 1) := by decide +kernel
theorem dX9_tellCell_37 : decode cX9_tellCell 37 = .ok (.invokevirtual 235, 3) := by decide +kernel
theorem dX9_tellCell_40 : decode cX9_tellCell 40 = .ok (.aload_n 0, 1) := by decide +kernel
theorem dX9_tellCell_41 : decode cX9_tellCell 41 = .ok (.getfield 179, 3) := by decide +kernel
theorem dX9_tellCell_44 : decode cX9_tellCell 44 = .ok (.ifCond .le 4, 3) := by decide +kernel
theorem dX9_tellCell_47 : decode cX9_tellCell 47 = .ok (.return_, 1) := by decide +kernel
theorem dX9_tellCell_48 : decode cX9_tellCell 48 = .ok (.aload_n 0, 1) := by decide +kernel
theorem dX9_tellCell_49 : decode cX9_tellCell 49 = .ok (.iload_n 1, 1) := by decide +kernel
theorem dX9_tellCell_50 : decode cX9_tellCell 50 = .ok (.aload_n 0, 1) := by decide +kernel
theorem dX9_tellCell_51 : decode cX9_tellCell 51 = .ok (.getfield 52, 3) := by decide +kernel
theorem dX9_tellCell_54 : decode cX9_tellCell 54 = .ok (.aload_n 0, 1) := by decide +kernel
theorem dX9_tellCell_55 : decode cX9_tellCell 55 = .ok (.getfield 212, 3) := by decide +kernel
theorem dX9_tellCell_58 : decode cX9_tellCell 58 = .ok (.iaload, 1) := by decide +kernel
theorem dX9_tellCell_59 : decode cX9_tellCell 59 = .ok (.invokevirtual 254, 3) := by decide +kernel
theorem dX9_tellCell_62 : decode cX9_tellCell 62 = .ok (.aload_n 0, 1) := by decide +kernel
theorem dX9_tellCell_63 : decode cX9_tellCell 63 = .ok (.getfield 52, 3) := by decide +kernel
theorem dX9_tellCell_66 : decode cX9_tellCell 66 = .ok (.aload_n 0, 1) := by decide +kernel
theorem dX9_tellCell_67 : decode cX9_tellCell 67 = .ok (.getfield 212, 3) := by decide +kernel
theorem dX9_tellCell_70 : decode cX9_tellCell 70 = .ok (.dup2, 1) := by decide +kernel
theorem dX9_tellCell_71 : decode cX9_tellCell 71 = .ok (.iaload, 1) := by decide +kernel
theorem dX9_tellCell_72 : decode cX9_tellCell 72 = .ok (.iconst 1, 1) := by decide +kernel
theorem dX9_tellCell_73 : decode cX9_tellCell 73 = .ok (.iadd, 1) := by decide +kernel
theorem dX9_tellCell_74 : decode cX9_tellCell 74 = .ok (.iastore, 1) := by decide +kernel
theorem dX9_tellCell_75 : decode cX9_tellCell 75 = .ok (.return_, 1) := by decide +kernel
theorem dX9_emit_0 : decode cX9_emit 0 = .ok (.aload_n 0, 1) := by decide +kernel
theorem dX9_emit_1 : decode cX9_emit 1 = .ok (.getfield 76, 3) := by decide +kernel
theorem dX9_emit_4 : decode cX9_emit 4 = .ok (.aload_n 0, 1) := by decide +kernel
theorem dX9_emit_5 : decode cX9_emit 5 = .ok (.getfield 218, 3) := by decide +kernel
theorem dX9_emit_8 : decode cX9_emit 8 = .ok (.iload_n 1, 1) := by decide +kernel
theorem dX9_emit_9 : decode cX9_emit 9 = .ok (.iastore, 1) := by decide +kernel
theorem dX9_emit_10 : decode cX9_emit 10 = .ok (.aload_n 0, 1) := by decide +kernel
theorem dX9_emit_11 : decode cX9_emit 11 = .ok (.getfield 79, 3) := by decide +kernel
theorem dX9_emit_14 : decode cX9_emit 14 = .ok (.aload_n 0, 1) := by decide +kernel
theorem dX9_emit_15 : decode cX9_emit 15 = .ok (.getfield 218, 3) := by decide +kernel
theorem dX9_emit_18 : decode cX9_emit 18 = .ok (.iload_n 2, 1) := by decide +kernel
theorem dX9_emit_19 : decode cX9_emit 19 = .ok (.iastore, 1) := by decide +kernel
theorem dX9_emit_20 : decode cX9_emit 20 = .ok (.aload_n 0, 1) := by decide +kernel
theorem dX9_emit_21 : decode cX9_emit 21 = .ok (.dup, 1) := by decide +kernel
theorem dX9_emit_22 : decode cX9_emit 22 = .ok (.getfield 218, 3) := by decide +kernel
theorem dX9_emit_25 : decode cX9_emit 25 = .ok (.iconst 1, 1) := by decide +kernel
theorem dX9_emit_26 : decode cX9_emit 26 = .ok (.iadd, 1) := by decide +kernel
theorem dX9_emit_27 : decode cX9_emit 27 = .ok (.putfield 218, 3) := by decide +kernel
theorem dX9_emit_30 : decode cX9_emit 30 = .ok (.return_, 1) := by decide +kernel
theorem dX9_known_0 : decode cX9_known 0 = .ok (.aload_n 0, 1) := by decide +kernel
theorem dX9_known_1 : decode cX9_known 1 = .ok (.getfield 182, 3) := by decide +kernel
theorem dX9_known_4 : decode cX9_known 4 = .ok (.istore_n 1, 1) := by decide +kernel
theorem dX9_known_5 : decode cX9_known 5 = .ok (.aload_n 0, 1) := by decide +kernel
theorem dX9_known_6 : decode cX9_known 6 = .ok (.iconst 1, 1) := by decide +kernel
theorem dX9_known_7 : decode cX9_known 7 = .ok (.invokevirtual 235, 3) := by decide +kernel
theorem dX9_known_10 : decode cX9_known 10 = .ok (.aload_n 0, 1) := by decide +kernel
theorem dX9_known_11 : decode cX9_known 11 = .ok (.getfield 179, 3) := by decide +kernel
theorem dX9_known_14 : decode cX9_known 14 = .ok (.ifCond .le 5, 3) := by decide +kernel
theorem dX9_known_17 : decode cX9_known 17 = .ok (.iconst 0, 1) := by decide +kernel
theorem dX9_known_18 : decode cX9_known 18 = .ok (.ireturn, 1) := by decide +kernel
theorem dX9_known_19 : decode cX9_known 19 = .ok (.iconst 0, 1) := by decide +kernel
theorem dX9_known_20 : decode cX9_known 20 = .ok (.istore_n 2, 1) := by decide +kernel
theorem dX9_known_21 : decode cX9_known 21 = .ok (.iload_n 2, 1) := by decide +kernel
theorem dX9_known_22 : decode cX9_known 22 = .ok (.aload_n 0, 1) := by decide +kernel
theorem dX9_known_23 : decode cX9_known 23 = .ok (.getfield 215, 3) := by decide +kernel
theorem dX9_known_26 : decode cX9_known 26 = .ok (.if_icmp .ge 43, 3) := by decide +kernel
theorem dX9_known_29 : decode cX9_known 29 = .ok (.aload_n 0, 1) := by decide +kernel
theorem dX9_known_30 : decode cX9_known 30 = .ok (.getfield 40, 3) := by decide +kernel
theorem dX9_known_33 : decode cX9_known 33 = .ok (.iload_n 2, 1) := by decide +kernel
theorem dX9_known_34 : decode cX9_known 34 = .ok (.laload, 1) := by decide +kernel
theorem dX9_known_35 : decode cX9_known 35 = .ok (.aload_n 0, 1) := by decide +kernel
theorem dX9_known_36 : decode cX9_known 36 = .ok (.getfield 30, 3) := by decide +kernel
theorem dX9_known_39 : decode cX9_known 39 = .ok (.iload_n 1, 1) := by decide +kernel
theorem dX9_known_40 : decode cX9_known 40 = .ok (.laload, 1) := by decide +kernel
theorem dX9_known_41 : decode cX9_known 41 = .ok (.lcmp, 1) := by decide +kernel
theorem dX9_known_42 : decode cX9_known 42 = .ok (.ifCond .ne 21, 3) := by decide +kernel
theorem dX9_known_45 : decode cX9_known 45 = .ok (.aload_n 0, 1) := by decide +kernel
theorem dX9_known_46 : decode cX9_known 46 = .ok (.getfield 43, 3) := by decide +kernel
theorem dX9_known_49 : decode cX9_known 49 = .ok (.iload_n 2, 1) := by decide +kernel
theorem dX9_known_50 : decode cX9_known 50 = .ok (.iaload, 1) := by decide +kernel
theorem dX9_known_51 : decode cX9_known 51 = .ok (.bipush 10, 2) := by decide +kernel
theorem dX9_known_53 : decode cX9_known 53 = .ok (.if_icmp .ge 10, 3) := by decide +kernel
theorem dX9_known_56 : decode cX9_known 56 = .ok (.aload_n 0, 1) := by decide +kernel
theorem dX9_known_57 : decode cX9_known 57 = .ok (.getfield 43, 3) := by decide +kernel
theorem dX9_known_60 : decode cX9_known 60 = .ok (.iload_n 2, 1) := by decide +kernel
theorem dX9_known_61 : decode cX9_known 61 = .ok (.iaload, 1) := by decide +kernel
theorem dX9_known_62 : decode cX9_known 62 = .ok (.ireturn, 1) := by decide +kernel
theorem dX9_known_63 : decode cX9_known 63 = .ok (.iinc 2 1, 3) := by decide +kernel
theorem dX9_known_66 : decode cX9_known 66 = .ok (.goto (-45), 3) := by decide +kernel
theorem dX9_known_69 : decode cX9_known 69 = .ok (.aload_n 0, 1) := by decide +kernel
theorem dX9_known_70 : decode cX9_known 70 = .ok (.iconst 4, 1) := by decide +kernel
theorem dX9_known_71 : decode cX9_known 71 = .ok (.iload_n 1, 1) := by decide +kernel
theorem dX9_known_72 : decode cX9_known 72 = .ok (.invokevirtual 224, 3) := by decide +kernel
theorem dX9_known_75 : decode cX9_known 75 = .ok (.iconst 0, 1) := by decide +kernel
theorem dX9_known_76 : decode cX9_known 76 = .ok (.ireturn, 1) := by decide +kernel
theorem dX9_unit_0 : decode cX9_unit 0 = .ok (.aload_n 0, 1) := by decide +kernel
theorem dX9_unit_1 : decode cX9_unit 1 = .ok (.iconst 2, 1) := by decide +kernel
theorem dX9_unit_2 : decode cX9_unit 2 = .ok (.invokevirtual 197, 3) := by decide +kernel
theorem dX9_unit_5 : decode cX9_unit 5 = .ok (.ifCond .eq 24, 3) := by decide +kernel
theorem dX9_unit_8 : decode cX9_unit 8 = .ok (.aload_n 0, 1) := by decide +kernel
theorem dX9_unit_9 : decode cX9_unit 9 = .ok (.iconst 0, 1) := by decide +kernel
theorem dX9_unit_10 : decode cX9_unit 10 = .ok (.aload_n 0, 1) := by decide +kernel
theorem dX9_unit_11 : decode cX9_unit 11 = .ok (.getfield 27, 3) := by decide +kernel
theorem dX9_unit_14 : decode cX9_unit 14 = .ok (.aload_n 0, 1) := by decide +kernel
theorem dX9_unit_15 : decode cX9_unit 15 = .ok (.getfield 182, 3) := by decide +kernel
theorem dX9_unit_18 : decode cX9_unit 18 = .ok (.iaload, 1) := by decide +kernel
theorem dX9_unit_19 : decode cX9_unit 19 = .ok (.invokevirtual 269, 3) := by decide +kernel
theorem dX9_unit_22 : decode cX9_unit 22 = .ok (.aload_n 0, 1) := by decide +kernel
theorem dX9_unit_23 : decode cX9_unit 23 = .ok (.invokevirtual 200, 3) := by decide +kernel
theorem dX9_unit_26 : decode cX9_unit 26 = .ok (.goto 90, 3) := by decide +kernel
theorem dX9_unit_29 : decode cX9_unit 29 = .ok (.aload_n 0, 1) := by decide +kernel
theorem dX9_unit_30 : decode cX9_unit 30 = .ok (.getfield 179, 3) := by decide +kernel
theorem dX9_unit_33 : decode cX9_unit 33 = .ok (.ifCond .ne 58, 3) := by decide +kernel
theorem dX9_unit_36 : decode cX9_unit 36 = .ok (.aload_n 0, 1) := by decide +kernel
theorem dX9_unit_37 : decode cX9_unit 37 = .ok (.getfield 20, 3) := by decide +kernel
theorem dX9_unit_40 : decode cX9_unit 40 = .ok (.aload_n 0, 1) := by decide +kernel
theorem dX9_unit_41 : decode cX9_unit 41 = .ok (.getfield 182, 3) := by decide +kernel
theorem dX9_unit_44 : decode cX9_unit 44 = .ok (.iaload, 1) := by decide +kernel
theorem dX9_unit_45 : decode cX9_unit 45 = .ok (.bipush 28, 2) := by decide +kernel
theorem dX9_unit_47 : decode cX9_unit 47 = .ok (.if_icmp .lt 44, 3) := by decide +kernel
theorem dX9_unit_50 : decode cX9_unit 50 = .ok (.aload_n 0, 1) := by decide +kernel
theorem dX9_unit_51 : decode cX9_unit 51 = .ok (.getfield 20, 3) := by decide +kernel
theorem dX9_unit_54 : decode cX9_unit 54 = .ok (.aload_n 0, 1) := by decide +kernel
theorem dX9_unit_55 : decode cX9_unit 55 = .ok (.getfield 182, 3) := by decide +kernel
theorem dX9_unit_58 : decode cX9_unit 58 = .ok (.iaload, 1) := by decide +kernel
theorem dX9_unit_59 : decode cX9_unit 59 = .ok (.bipush 30, 2) := by decide +kernel
theorem dX9_unit_61 : decode cX9_unit 61 = .ok (.if_icmp .gt 30, 3) := by decide +kernel
theorem dX9_unit_64 : decode cX9_unit 64 = .ok (.aload_n 0, 1) := by decide +kernel
theorem dX9_unit_65 : decode cX9_unit 65 = .ok (.iconst 1, 1) := by decide +kernel
theorem dX9_unit_66 : decode cX9_unit 66 = .ok (.bipush 6, 2) := by decide +kernel
theorem dX9_unit_68 : decode cX9_unit 68 = .ok (.aload_n 0, 1) := by decide +kernel
theorem dX9_unit_69 : decode cX9_unit 69 = .ok (.getfield 20, 3) := by decide +kernel
theorem dX9_unit_72 : decode cX9_unit 72 = .ok (.aload_n 0, 1) := by decide +kernel
theorem dX9_unit_73 : decode cX9_unit 73 = .ok (.getfield 182, 3) := by decide +kernel
theorem dX9_unit_76 : decode cX9_unit 76 = .ok (.iaload, 1) := by decide +kernel
theorem dX9_unit_77 : decode cX9_unit 77 = .ok (.iadd, 1) := by decide +kernel
theorem dX9_unit_78 : decode cX9_unit 78 = .ok (.bipush 28, 2) := by decide +kernel
theorem dX9_unit_80 : decode cX9_unit 80 = .ok (.isub, 1) := by decide +kernel
theorem dX9_unit_81 : decode cX9_unit 81 = .ok (.invokevirtual 269, 3) := by decide +kernel
theorem dX9_unit_84 : decode cX9_unit 84 = .ok (.aload_n 0, 1) := by decide +kernel
theorem dX9_unit_85 : decode cX9_unit 85 = .ok (.invokevirtual 200, 3) := by decide +kernel
theorem dX9_unit_88 : decode cX9_unit 88 = .ok (.goto 28, 3) := by decide +kernel
theorem dX9_unit_91 : decode cX9_unit 91 = .ok (.aload_n 0, 1) := by decide +kernel
theorem dX9_unit_92 : decode cX9_unit 92 = .ok (.iconst 1, 1) := by decide +kernel
theorem dX9_unit_93 : decode cX9_unit 93 = .ok (.invokevirtual 197, 3) := by decide +kernel
theorem dX9_unit_96 : decode cX9_unit 96 = .ok (.ifCond .eq 15, 3) := by decide +kernel
theorem dX9_unit_99 : decode cX9_unit 99 = .ok (.aload_n 0, 1) := by decide +kernel
theorem dX9_unit_100 : decode cX9_unit 100 = .ok (.iconst 1, 1) := by decide +kernel
theorem dX9_unit_101 : decode cX9_unit 101 = .ok (.aload_n 0, 1) := by decide +kernel
theorem dX9_unit_102 : decode cX9_unit 102 = .ok (.invokevirtual 263, 3) := by decide +kernel
theorem dX9_unit_105 : decode cX9_unit 105 = .ok (.invokevirtual 269, 3) := by decide +kernel
theorem dX9_unit_108 : decode cX9_unit 108 = .ok (.goto 8, 3) := by decide +kernel
theorem dX9_unit_111 : decode cX9_unit 111 = .ok (.aload_n 0, 1) := by decide +kernel
theorem dX9_unit_112 : decode cX9_unit 112 = .ok (.iconst 1, 1) := by decide +kernel
theorem dX9_unit_113 : decode cX9_unit 113 = .ok (.invokevirtual 194, 3) := by decide +kernel
theorem dX9_unit_116 : decode cX9_unit 116 = .ok (.return_, 1) := by decide +kernel
theorem dX9_comesOut_0 : decode cX9_comesOut 0 = .ok (.aload_n 0, 1) := by decide +kernel
theorem dX9_comesOut_1 : decode cX9_comesOut 1 = .ok (.getfield 266, 3) := by decide +kernel
theorem dX9_comesOut_4 : decode cX9_comesOut 4 = .ok (.ifCond .le 87, 3) := by decide +kernel
theorem dX9_comesOut_7 : decode cX9_comesOut 7 = .ok (.aload_n 0, 1) := by decide +kernel
theorem dX9_comesOut_8 : decode cX9_comesOut 8 = .ok (.getfield 82, 3) := by decide +kernel
theorem dX9_comesOut_11 : decode cX9_comesOut 11 = .ok (.aload_n 0, 1) := by decide +kernel
theorem dX9_comesOut_12 : decode cX9_comesOut 12 = .ok (.getfield 266, 3) := by decide +kernel
theorem dX9_comesOut_15 : decode cX9_comesOut 15 = .ok (.iconst 1, 1) := by decide +kernel
theorem dX9_comesOut_16 : decode cX9_comesOut 16 = .ok (.isub, 1) := by decide +kernel
theorem dX9_comesOut_17 : decode cX9_comesOut 17 = .ok (.iaload, 1) := by decide +kernel
theorem dX9_comesOut_18 : decode cX9_comesOut 18 = .ok (.istore_n 2, 1) := by decide +kernel
theorem dX9_comesOut_19 : decode cX9_comesOut 19 = .ok (.iload_n 2, 1) := by decide +kernel
theorem dX9_comesOut_20 : decode cX9_comesOut 20 = .ok (.bipush 6, 2) := by decide +kernel
theorem dX9_comesOut_22 : decode cX9_comesOut 22 = .ok (.if_icmp .eq 19, 3) := by decide +kernel
theorem dX9_comesOut_25 : decode cX9_comesOut 25 = .ok (.iload_n 1, 1) := by decide +kernel
theorem dX9_comesOut_26 : decode cX9_comesOut 26 = .ok (.ifCond .eq 16, 3) := by decide +kernel
theorem dX9_comesOut_29 : decode cX9_comesOut 29 = .ok (.iload_n 2, 1) := by decide +kernel
theorem dX9_comesOut_30 : decode cX9_comesOut 30 = .ok (.bipush 8, 2) := by decide +kernel
theorem dX9_comesOut_32 : decode cX9_comesOut 32 = .ok (.if_icmp .eq 9, 3) := by decide +kernel
theorem dX9_comesOut_35 : decode cX9_comesOut 35 = .ok (.iload_n 2, 1) := by decide +kernel
theorem dX9_comesOut_36 : decode cX9_comesOut 36 = .ok (.bipush 9, 2) := by decide +kernel
theorem dX9_comesOut_38 : decode cX9_comesOut 38 = .ok (.if_icmp .ne 4, 3) := by decide +kernel
theorem dX9_comesOut_41 : decode cX9_comesOut 41 = .ok (.return_, 1) := by decide +kernel
theorem dX9_comesOut_42 : decode cX9_comesOut 42 = .ok (.aload_n 0, 1) := by decide +kernel
theorem dX9_comesOut_43 : decode cX9_comesOut 43 = .ok (.dup, 1) := by decide +kernel
theorem dX9_comesOut_44 : decode cX9_comesOut 44 = .ok (.getfield 266, 3) := by decide +kernel
theorem dX9_comesOut_47 : decode cX9_comesOut 47 = .ok (.iconst 1, 1) := by decide +kernel
theorem dX9_comesOut_48 : decode cX9_comesOut 48 = .ok (.isub, 1) := by decide +kernel
theorem dX9_comesOut_49 : decode cX9_comesOut 49 = .ok (.putfield 266, 3) := by decide +kernel
theorem dX9_comesOut_52 : decode cX9_comesOut 52 = .ok (.aload_n 0, 1) := by decide +kernel
theorem dX9_comesOut_53 : decode cX9_comesOut 53 = .ok (.iload_n 2, 1) := by decide +kernel
theorem dX9_comesOut_54 : decode cX9_comesOut 54 = .ok (.bipush 8, 2) := by decide +kernel
theorem dX9_comesOut_56 : decode cX9_comesOut 56 = .ok (.if_icmp .ne 7, 3) := by decide +kernel
theorem dX9_comesOut_59 : decode cX9_comesOut 59 = .ok (.iconst 2, 1) := by decide +kernel
theorem dX9_comesOut_60 : decode cX9_comesOut 60 = .ok (.goto 24, 3) := by decide +kernel
theorem dX9_comesOut_63 : decode cX9_comesOut 63 = .ok (.iload_n 2, 1) := by decide +kernel
theorem dX9_comesOut_64 : decode cX9_comesOut 64 = .ok (.bipush 9, 2) := by decide +kernel
theorem dX9_comesOut_66 : decode cX9_comesOut 66 = .ok (.if_icmp .ne 7, 3) := by decide +kernel
theorem dX9_comesOut_69 : decode cX9_comesOut 69 = .ok (.iconst 3, 1) := by decide +kernel
theorem dX9_comesOut_70 : decode cX9_comesOut 70 = .ok (.goto 14, 3) := by decide +kernel
theorem dX9_comesOut_73 : decode cX9_comesOut 73 = .ok (.iload_n 2, 1) := by decide +kernel
theorem dX9_comesOut_74 : decode cX9_comesOut 74 = .ok (.bipush 10, 2) := by decide +kernel
theorem dX9_comesOut_76 : decode cX9_comesOut 76 = .ok (.if_icmp .ne 7, 3) := by decide +kernel
theorem dX9_comesOut_79 : decode cX9_comesOut 79 = .ok (.iconst 4, 1) := by decide +kernel
theorem dX9_comesOut_80 : decode cX9_comesOut 80 = .ok (.goto 4, 3) := by decide +kernel
theorem dX9_comesOut_83 : decode cX9_comesOut 83 = .ok (.iconst 5, 1) := by decide +kernel
theorem dX9_comesOut_84 : decode cX9_comesOut 84 = .ok (.iconst 0, 1) := by decide +kernel
theorem dX9_comesOut_85 : decode cX9_comesOut 85 = .ok (.invokevirtual 269, 3) := by decide +kernel
theorem dX9_comesOut_88 : decode cX9_comesOut 88 = .ok (.goto (-88), 3) := by decide +kernel
theorem dX9_comesOut_91 : decode cX9_comesOut 91 = .ok (.return_, 1) := by decide +kernel
theorem dX9_expression_0 : decode cX9_expression 0 = .ok (.aload_n 0, 1) := by decide +kernel
theorem dX9_expression_1 : decode cX9_expression 1 = .ok (.iconst 0, 1) := by decide +kernel
theorem dX9_expression_2 : decode cX9_expression 2 = .ok (.putfield 266, 3) := by decide +kernel
theorem dX9_expression_5 : decode cX9_expression 5 = .ok (.aload_n 0, 1) := by decide +kernel
theorem dX9_expression_6 : decode cX9_expression 6 = .ok (.getfield 206, 3) := by decide +kernel
theorem dX9_expression_9 : decode cX9_expression 9 = .ok (.istore_n 1, 1) := by decide +kernel
theorem dX9_expression_10 : decode cX9_expression 10 = .ok (.iconst 1, 1) := by decide +kernel
theorem dX9_expression_11 : decode cX9_expression 11 = .ok (.istore_n 2, 1) := by decide +kernel
theorem dX9_expression_12 : decode cX9_expression 12 = .ok (.iload_n 2, 1) := by decide +kernel
theorem dX9_expression_13 : decode cX9_expression 13 = .ok (.ifCond .eq 259, 3) := by decide +kernel
theorem dX9_expression_16 : decode cX9_expression 16 = .ok (.aload_n 0, 1) := by decide +kernel
theorem dX9_expression_17 : decode cX9_expression 17 = .ok (.getfield 179, 3) := by decide +kernel
theorem dX9_expression_20 : decode cX9_expression 20 = .ok (.ifCond .ne 252, 3) := by decide +kernel
theorem dX9_expression_23 : decode cX9_expression 23 = .ok (.aload_n 0, 1) := by decide +kernel
theorem dX9_expression_24 : decode cX9_expression 24 = .ok (.bipush 6, 2) := by decide +kernel
theorem dX9_expression_26 : decode cX9_expression 26 = .ok (.invokevirtual 197, 3) := by decide +kernel
theorem dX9_expression_29 : decode cX9_expression 29 = .ok (.ifCond .eq 55, 3) := by decide +kernel
theorem dX9_expression_32 : decode cX9_expression 32 = .ok (.aload_n 0, 1) := by decide +kernel
theorem dX9_expression_33 : decode cX9_expression 33 = .ok (.getfield 206, 3) := by decide +kernel
theorem dX9_expression_36 : decode cX9_expression 36 = .ok (.bipush 6, 2) := by decide +kernel
theorem dX9_expression_38 : decode cX9_expression 38 = .ok (.if_icmp .ne 8, 3) := by decide +kernel
theorem dX9_expression_41 : decode cX9_expression 41 = .ok (.aload_n 0, 1) := by decide +kernel
theorem dX9_expression_42 : decode cX9_expression 42 = .ok (.iconst 2, 1) := by decide +kernel
theorem dX9_expression_43 : decode cX9_expression 43 = .ok (.invokevirtual 194, 3) := by decide +kernel
theorem dX9_expression_46 : decode cX9_expression 46 = .ok (.aload_n 0, 1) := by decide +kernel
theorem dX9_expression_47 : decode cX9_expression 47 = .ok (.dup, 1) := by decide +kernel
theorem dX9_expression_48 : decode cX9_expression 48 = .ok (.getfield 206, 3) := by decide +kernel
theorem dX9_expression_51 : decode cX9_expression 51 = .ok (.iconst 1, 1) := by decide +kernel
theorem dX9_expression_52 : decode cX9_expression 52 = .ok (.iadd, 1) := by decide +kernel
theorem dX9_expression_53 : decode cX9_expression 53 = .ok (.putfield 206, 3) := by decide +kernel
theorem dX9_expression_56 : decode cX9_expression 56 = .ok (.aload_n 0, 1) := by decide +kernel
theorem dX9_expression_57 : decode cX9_expression 57 = .ok (.invokevirtual 200, 3) := by decide +kernel
theorem dX9_expression_60 : decode cX9_expression 60 = .ok (.aload_n 0, 1) := by decide +kernel
theorem dX9_expression_61 : decode cX9_expression 61 = .ok (.getfield 82, 3) := by decide +kernel
theorem dX9_expression_64 : decode cX9_expression 64 = .ok (.aload_n 0, 1) := by decide +kernel
theorem dX9_expression_65 : decode cX9_expression 65 = .ok (.getfield 266, 3) := by decide +kernel
theorem dX9_expression_68 : decode cX9_expression 68 = .ok (.bipush 6, 2) := by decide +kernel
theorem dX9_expression_70 : decode cX9_expression 70 = .ok (.iastore, 1) := by decide +kernel
theorem dX9_expression_71 : decode cX9_expression 71 = .ok (.aload_n 0, 1) := by decide +kernel
theorem dX9_expression_72 : decode cX9_expression 72 = .ok (.dup, 1) := by decide +kernel
theorem dX9_expression_73 : decode cX9_expression 73 = .ok (.getfield 266, 3) := by decide +kernel
theorem dX9_expression_76 : decode cX9_expression 76 = .ok (.iconst 1, 1) := by decide +kernel
theorem dX9_expression_77 : decode cX9_expression 77 = .ok (.iadd, 1) := by decide +kernel
theorem dX9_expression_78 : decode cX9_expression 78 = .ok (.putfield 266, 3) := by decide +kernel
theorem dX9_expression_81 : decode cX9_expression 81 = .ok (.goto (-58), 3) := by decide +kernel
theorem dX9_expression_84 : decode cX9_expression 84 = .ok (.aload_n 0, 1) := by decide +kernel
theorem dX9_expression_85 : decode cX9_expression 85 = .ok (.invokevirtual 272, 3) := by decide +kernel
theorem dX9_expression_88 : decode cX9_expression 88 = .ok (.aload_n 0, 1) := by decide +kernel
theorem dX9_expression_89 : decode cX9_expression 89 = .ok (.getfield 179, 3) := by decide +kernel
theorem dX9_expression_92 : decode cX9_expression 92 = .ok (.ifCond .le 4, 3) := by decide +kernel
theorem dX9_expression_95 : decode cX9_expression 95 = .ok (.return_, 1) := by decide +kernel
theorem dX9_expression_96 : decode cX9_expression 96 = .ok (.aload_n 0, 1) := by decide +kernel
theorem dX9_expression_97 : decode cX9_expression 97 = .ok (.bipush 7, 2) := by decide +kernel
theorem dX9_expression_99 : decode cX9_expression 99 = .ok (.invokevirtual 197, 3) := by decide +kernel
theorem dX9_expression_102 : decode cX9_expression 102 = .ok (.ifCond .eq 43, 3) := by decide +kernel
theorem dX9_expression_105 : decode cX9_expression 105 = .ok (.aload_n 0, 1) := by decide +kernel
theorem dX9_expression_106 : decode cX9_expression 106 = .ok (.getfield 206, 3) := by decide +kernel
theorem dX9_expression_109 : decode cX9_expression 109 = .ok (.iload_n 1, 1) := by decide +kernel
theorem dX9_expression_110 : decode cX9_expression 110 = .ok (.if_icmp .le 35, 3) := by decide +kernel
theorem dX9_expression_113 : decode cX9_expression 113 = .ok (.aload_n 0, 1) := by decide +kernel
theorem dX9_expression_114 : decode cX9_expression 114 = .ok (.iconst 0, 1) := by decide +kernel
theorem dX9_expression_115 : decode cX9_expression 115 = .ok (.invokevirtual 275, 3) := by decide +kernel
theorem dX9_expression_118 : decode cX9_expression 118 = .ok (.aload_n 0, 1) := by decide +kernel
theorem dX9_expression_119 : decode cX9_expression 119 = .ok (.dup, 1) := by decide +kernel
theorem dX9_expression_120 : decode cX9_expression 120 = .ok (.getfield 266, 3) := by decide +kernel
theorem dX9_expression_123 : decode cX9_expression 123 = .ok (.iconst 1, 1) := by decide +kernel
theorem dX9_expression_124 : decode cX9_expression 124 = .ok (.isub, 1) := by decide +kernel
theorem dX9_expression_125 : decode cX9_expression 125 = .ok (.putfield 266, 3) := by decide +kernel
theorem dX9_expression_128 : decode cX9_expression 128 = .ok (.aload_n 0, 1) := by decide +kernel
theorem dX9_expression_129 : decode cX9_expression 129 = .ok (.dup, 1) := by decide +kernel
theorem dX9_expression_130 : decode cX9_expression 130 = .ok (.getfield 206, 3) := by decide +kernel
theorem dX9_expression_133 : decode cX9_expression 133 = .ok (.iconst 1, 1) := by decide +kernel
theorem dX9_expression_134 : decode cX9_expression 134 = .ok (.isub, 1) := by decide +kernel
theorem dX9_expression_135 : decode cX9_expression 135 = .ok (.putfield 206, 3) := by decide +kernel
theorem dX9_expression_138 : decode cX9_expression 138 = .ok (.aload_n 0, 1) := by decide +kernel
theorem dX9_expression_139 : decode cX9_expression 139 = .ok (.invokevirtual 200, 3) := by decide +kernel
theorem dX9_expression_142 : decode cX9_expression 142 = .ok (.goto (-46), 3) := by decide +kernel
theorem dX9_expression_145 : decode cX9_expression 145 = .ok (.aload_n 0, 1) := by decide +kernel
theorem dX9_expression_146 : decode cX9_expression 146 = .ok (.bipush 8, 2) := by decide +kernel
theorem dX9_expression_148 : decode cX9_expression 148 = .ok (.invokevirtual 197, 3) := by decide +kernel
theorem dX9_expression_151 : decode cX9_expression 151 = .ok (.ifCond .ne 30, 3) := by decide +kernel
theorem dX9_expression_154 : decode cX9_expression 154 = .ok (.aload_n 0, 1) := by decide +kernel
theorem dX9_expression_155 : decode cX9_expression 155 = .ok (.bipush 9, 2) := by decide +kernel
theorem dX9_expression_157 : decode cX9_expression 157 = .ok (.invokevirtual 197, 3) := by decide +kernel
theorem dX9_expression_160 : decode cX9_expression 160 = .ok (.ifCond .ne 21, 3) := by decide +kernel
theorem dX9_expression_163 : decode cX9_expression 163 = .ok (.aload_n 0, 1) := by decide +kernel
theorem dX9_expression_164 : decode cX9_expression 164 = .ok (.bipush 10, 2) := by decide +kernel
theorem dX9_expression_166 : decode cX9_expression 166 = .ok (.invokevirtual 197, 3) := by decide +kernel
theorem dX9_expression_169 : decode cX9_expression 169 = .ok (.ifCond .ne 12, 3) := by decide +kernel
theorem dX9_expression_172 : decode cX9_expression 172 = .ok (.aload_n 0, 1) := by decide +kernel
theorem dX9_expression_173 : decode cX9_expression 173 = .ok (.bipush 15, 2) := by decide +kernel
theorem dX9_expression_175 : decode cX9_expression 175 = .ok (.invokevirtual 197, 3) := by decide +kernel
theorem dX9_expression_178 : decode cX9_expression 178 = .ok (.ifCond .eq 7, 3) := by decide +kernel
theorem dX9_expression_181 : decode cX9_expression 181 = .ok (.iconst 1, 1) := by decide +kernel
theorem dX9_expression_182 : decode cX9_expression 182 = .ok (.goto 4, 3) := by decide +kernel
theorem dX9_expression_185 : decode cX9_expression 185 = .ok (.iconst 0, 1) := by decide +kernel
theorem dX9_expression_186 : decode cX9_expression 186 = .ok (.istore_n 2, 1) := by decide +kernel
theorem dX9_expression_187 : decode cX9_expression 187 = .ok (.iload_n 2, 1) := by decide +kernel
theorem dX9_expression_188 : decode cX9_expression 188 = .ok (.ifCond .ne 22, 3) := by decide +kernel
theorem dX9_expression_191 : decode cX9_expression 191 = .ok (.aload_n 0, 1) := by decide +kernel
theorem dX9_expression_192 : decode cX9_expression 192 = .ok (.getfield 206, 3) := by decide +kernel
theorem dX9_expression_195 : decode cX9_expression 195 = .ok (.iload_n 1, 1) := by decide +kernel
theorem dX9_expression_196 : decode cX9_expression 196 = .ok (.if_icmp .le 8, 3) := by decide +kernel
theorem dX9_expression_199 : decode cX9_expression 199 = .ok (.aload_n 0, 1) := by decide +kernel
theorem dX9_expression_200 : decode cX9_expression 200 = .ok (.iconst 1, 1) := by decide +kernel
theorem dX9_expression_201 : decode cX9_expression 201 = .ok (.invokevirtual 194, 3) := by decide +kernel
theorem dX9_expression_204 : decode cX9_expression 204 = .ok (.aload_n 0, 1) := by decide +kernel
theorem dX9_expression_205 : decode cX9_expression 205 = .ok (.iconst 0, 1) := by decide +kernel
theorem dX9_expression_206 : decode cX9_expression 206 = .ok (.invokevirtual 275, 3) := by decide +kernel
theorem dX9_expression_209 : decode cX9_expression 209 = .ok (.return_, 1) := by decide +kernel
theorem dX9_expression_210 : decode cX9_expression 210 = .ok (.aload_n 0, 1) := by decide +kernel
theorem dX9_expression_211 : decode cX9_expression 211 = .ok (.aload_n 0, 1) := by decide +kernel
theorem dX9_expression_212 : decode cX9_expression 212 = .ok (.bipush 10, 2) := by decide +kernel
theorem dX9_expression_214 : decode cX9_expression 214 = .ok (.invokevirtual 197, 3) := by decide +kernel
theorem dX9_expression_217 : decode cX9_expression 217 = .ok (.ifCond .ne 12, 3) := by decide +kernel
theorem dX9_expression_220 : decode cX9_expression 220 = .ok (.aload_n 0, 1) := by decide +kernel
theorem dX9_expression_221 : decode cX9_expression 221 = .ok (.bipush 15, 2) := by decide +kernel
theorem dX9_expression_223 : decode cX9_expression 223 = .ok (.invokevirtual 197, 3) := by decide +kernel
theorem dX9_expression_226 : decode cX9_expression 226 = .ok (.ifCond .eq 7, 3) := by decide +kernel
theorem dX9_expression_229 : decode cX9_expression 229 = .ok (.iconst 1, 1) := by decide +kernel
theorem dX9_expression_230 : decode cX9_expression 230 = .ok (.goto 4, 3) := by decide +kernel
theorem dX9_expression_233 : decode cX9_expression 233 = .ok (.iconst 0, 1) := by decide +kernel
theorem dX9_expression_234 : decode cX9_expression 234 = .ok (.invokevirtual 275, 3) := by decide +kernel
theorem dX9_expression_237 : decode cX9_expression 237 = .ok (.aload_n 0, 1) := by decide +kernel
theorem dX9_expression_238 : decode cX9_expression 238 = .ok (.getfield 82, 3) := by decide +kernel
theorem dX9_expression_241 : decode cX9_expression 241 = .ok (.aload_n 0, 1) := by decide +kernel
theorem dX9_expression_242 : decode cX9_expression 242 = .ok (.getfield 266, 3) := by decide +kernel
theorem dX9_expression_245 : decode cX9_expression 245 = .ok (.aload_n 0, 1) := by decide +kernel
theorem dX9_expression_246 : decode cX9_expression 246 = .ok (.getfield 20, 3) := by decide +kernel
theorem dX9_expression_249 : decode cX9_expression 249 = .ok (.aload_n 0, 1) := by decide +kernel
theorem dX9_expression_250 : decode cX9_expression 250 = .ok (.getfield 182, 3) := by decide +kernel
theorem dX9_expression_253 : decode cX9_expression 253 = .ok (.iaload, 1) := by decide +kernel
theorem dX9_expression_254 : decode cX9_expression 254 = .ok (.iastore, 1) := by decide +kernel
theorem dX9_expression_255 : decode cX9_expression 255 = .ok (.aload_n 0, 1) := by decide +kernel
theorem dX9_expression_256 : decode cX9_expression 256 = .ok (.dup, 1) := by decide +kernel
theorem dX9_expression_257 : decode cX9_expression 257 = .ok (.getfield 266, 3) := by decide +kernel
theorem dX9_expression_260 : decode cX9_expression 260 = .ok (.iconst 1, 1) := by decide +kernel
theorem dX9_expression_261 : decode cX9_expression 261 = .ok (.iadd, 1) := by decide +kernel
theorem dX9_expression_262 : decode cX9_expression 262 = .ok (.putfield 266, 3) := by decide +kernel
theorem dX9_expression_265 : decode cX9_expression 265 = .ok (.aload_n 0, 1) := by decide +kernel
theorem dX9_expression_266 : decode cX9_expression 266 = .ok (.invokevirtual 200, 3) := by decide +kernel
theorem dX9_expression_269 : decode cX9_expression 269 = .ok (.goto (-257), 3) := by decide +kernel
theorem dX9_expression_272 : decode cX9_expression 272 = .ok (.return_, 1) := by decide +kernel
theorem dX9_termTold_0 : decode cX9_termTold 0 = .ok (.aload_n 0, 1) := by decide +kernel
theorem dX9_termTold_1 : decode cX9_termTold 1 = .ok (.getfield 70, 3) := by decide +kernel
theorem dX9_termTold_4 : decode cX9_termTold 4 = .ok (.iload_n 1, 1) := by decide +kernel
theorem dX9_termTold_5 : decode cX9_termTold 5 = .ok (.aload_n 0, 1) := by decide +kernel
theorem dX9_termTold_6 : decode cX9_termTold 6 = .ok (.getfield 218, 3) := by decide +kernel
theorem dX9_termTold_9 : decode cX9_termTold 9 = .ok (.iastore, 1) := by decide +kernel
theorem dX9_termTold_10 : decode cX9_termTold 10 = .ok (.aload_n 0, 1) := by decide +kernel
theorem dX9_termTold_11 : decode cX9_termTold 11 = .ok (.getfield 179, 3) := by decide +kernel
theorem dX9_termTold_14 : decode cX9_termTold 14 = .ok (.ifCond .ne 7, 3) := by decide +kernel
theorem dX9_termTold_17 : decode cX9_termTold 17 = .ok (.aload_n 0, 1) := by decide +kernel
theorem dX9_termTold_18 : decode cX9_termTold 18 = .ok (.invokevirtual 257, 3) := by decide +kernel
theorem dX9_termTold_21 : decode cX9_termTold 21 = .ok (.return_, 1) := by decide +kernel
theorem dX9_tellForm_0 : decode cX9_tellForm 0 = .ok (.bipush 6, 2) := by decide +kernel
theorem dX9_tellForm_2 : decode cX9_tellForm 2 = .ok (.aload_n 0, 1) := by decide +kernel
theorem dX9_tellForm_3 : decode cX9_tellForm 3 = .ok (.getfield 212, 3) := by decide +kernel
theorem dX9_tellForm_6 : decode cX9_tellForm 6 = .ok (.imul, 1) := by decide +kernel
theorem dX9_tellForm_7 : decode cX9_tellForm 7 = .ok (.aload_n 0, 1) := by decide +kernel
theorem dX9_tellForm_8 : decode cX9_tellForm 8 = .ok (.getfield 58, 3) := by decide +kernel
theorem dX9_tellForm_11 : decode cX9_tellForm 11 = .ok (.aload_n 0, 1) := by decide +kernel
theorem dX9_tellForm_12 : decode cX9_tellForm 12 = .ok (.getfield 212, 3) := by decide +kernel
theorem dX9_tellForm_15 : decode cX9_tellForm 15 = .ok (.iaload, 1) := by decide +kernel
theorem dX9_tellForm_16 : decode cX9_tellForm 16 = .ok (.iadd, 1) := by decide +kernel
theorem dX9_tellForm_17 : decode cX9_tellForm 17 = .ok (.istore_n 1, 1) := by decide +kernel
theorem dX9_tellForm_18 : decode cX9_tellForm 18 = .ok (.aload_n 0, 1) := by decide +kernel
theorem dX9_tellForm_19 : decode cX9_tellForm 19 = .ok (.invokevirtual 250, 3) := by decide +kernel
theorem dX9_tellForm_22 : decode cX9_tellForm 22 = .ok (.istore_n 2, 1) := by decide +kernel
theorem dX9_tellForm_23 : decode cX9_tellForm 23 = .ok (.aload_n 0, 1) := by decide +kernel
theorem dX9_tellForm_24 : decode cX9_tellForm 24 = .ok (.bipush 24, 2) := by decide +kernel
theorem dX9_tellForm_26 : decode cX9_tellForm 26 = .ok (.invokevirtual 235, 3) := by decide +kernel
theorem dX9_tellForm_29 : decode cX9_tellForm 29 = .ok (.aload_n 0, 1) := by decide +kernel
theorem dX9_tellForm_30 : decode cX9_tellForm 30 = .ok (.iconst 5, 1) := by decide +kernel
theorem dX9_tellForm_31 : decode cX9_tellForm 31 = .ok (.iload_n 1, 1) := by decide +kernel
theorem dX9_tellForm_32 : decode cX9_tellForm 32 = .ok (.imul, 1) := by decide +kernel
theorem dX9_tellForm_33 : decode cX9_tellForm 33 = .ok (.invokevirtual 260, 3) := by decide +kernel
theorem dX9_tellForm_36 : decode cX9_tellForm 36 = .ok (.aload_n 0, 1) := by decide +kernel
theorem dX9_tellForm_37 : decode cX9_tellForm 37 = .ok (.getfield 61, 3) := by decide +kernel
theorem dX9_tellForm_40 : decode cX9_tellForm 40 = .ok (.iload_n 1, 1) := by decide +kernel
theorem dX9_tellForm_41 : decode cX9_tellForm 41 = .ok (.aload_n 0, 1) := by decide +kernel
theorem dX9_tellForm_42 : decode cX9_tellForm 42 = .ok (.bipush 13, 2) := by decide +kernel
theorem dX9_tellForm_44 : decode cX9_tellForm 44 = .ok (.invokevirtual 197, 3) := by decide +kernel
theorem dX9_tellForm_47 : decode cX9_tellForm 47 = .ok (.ifCond .eq 8, 3) := by decide +kernel
theorem dX9_tellForm_50 : decode cX9_tellForm 50 = .ok (.bipush 13, 2) := by decide +kernel
theorem dX9_tellForm_52 : decode cX9_tellForm 52 = .ok (.goto 4, 3) := by decide +kernel
theorem dX9_tellForm_55 : decode cX9_tellForm 55 = .ok (.iconst 5, 1) := by decide +kernel
theorem dX9_tellForm_56 : decode cX9_tellForm 56 = .ok (.iastore, 1) := by decide +kernel
theorem dX9_tellForm_57 : decode cX9_tellForm 57 = .ok (.aload_n 0, 1) := by decide +kernel
theorem dX9_tellForm_58 : decode cX9_tellForm 58 = .ok (.bipush 13, 2) := by decide +kernel
theorem dX9_tellForm_60 : decode cX9_tellForm 60 = .ok (.invokevirtual 197, 3) := by decide +kernel
theorem dX9_tellForm_63 : decode cX9_tellForm 63 = .ok (.ifCond .ne 16, 3) := by decide +kernel
theorem dX9_tellForm_66 : decode cX9_tellForm 66 = .ok (.aload_n 0, 1) := by decide +kernel
theorem dX9_tellForm_67 : decode cX9_tellForm 67 = .ok (.iconst 5, 1) := by decide +kernel
theorem dX9_tellForm_68 : decode cX9_tellForm 68 = .ok (.invokevirtual 197, 3) := by decide +kernel
theorem dX9_tellForm_71 : decode cX9_tellForm 71 = .ok (.ifCond .ne 8, 3) := by decide +kernel
theorem dX9_tellForm_74 : decode cX9_tellForm 74 = .ok (.aload_n 0, 1) := by decide +kernel
theorem dX9_tellForm_75 : decode cX9_tellForm 75 = .ok (.iconst 1, 1) := by decide +kernel
theorem dX9_tellForm_76 : decode cX9_tellForm 76 = .ok (.invokevirtual 194, 3) := by decide +kernel
theorem dX9_tellForm_79 : decode cX9_tellForm 79 = .ok (.aload_n 0, 1) := by decide +kernel
theorem dX9_tellForm_80 : decode cX9_tellForm 80 = .ok (.getfield 179, 3) := by decide +kernel
theorem dX9_tellForm_83 : decode cX9_tellForm 83 = .ok (.ifCond .ne 7, 3) := by decide +kernel
theorem dX9_tellForm_86 : decode cX9_tellForm 86 = .ok (.aload_n 0, 1) := by decide +kernel
theorem dX9_tellForm_87 : decode cX9_tellForm 87 = .ok (.invokevirtual 200, 3) := by decide +kernel
theorem dX9_tellForm_90 : decode cX9_tellForm 90 = .ok (.aload_n 0, 1) := by decide +kernel
theorem dX9_tellForm_91 : decode cX9_tellForm 91 = .ok (.iconst 5, 1) := by decide +kernel
theorem dX9_tellForm_92 : decode cX9_tellForm 92 = .ok (.iload_n 1, 1) := by decide +kernel
theorem dX9_tellForm_93 : decode cX9_tellForm 93 = .ok (.imul, 1) := by decide +kernel
theorem dX9_tellForm_94 : decode cX9_tellForm 94 = .ok (.iconst 1, 1) := by decide +kernel
theorem dX9_tellForm_95 : decode cX9_tellForm 95 = .ok (.iadd, 1) := by decide +kernel
theorem dX9_tellForm_96 : decode cX9_tellForm 96 = .ok (.invokevirtual 260, 3) := by decide +kernel
theorem dX9_tellForm_99 : decode cX9_tellForm 99 = .ok (.aload_n 0, 1) := by decide +kernel
theorem dX9_tellForm_100 : decode cX9_tellForm 100 = .ok (.bipush 25, 2) := by decide +kernel
theorem dX9_tellForm_102 : decode cX9_tellForm 102 = .ok (.invokevirtual 235, 3) := by decide +kernel
theorem dX9_tellForm_105 : decode cX9_tellForm 105 = .ok (.aload_n 0, 1) := by decide +kernel
theorem dX9_tellForm_106 : decode cX9_tellForm 106 = .ok (.getfield 64, 3) := by decide +kernel
theorem dX9_tellForm_109 : decode cX9_tellForm 109 = .ok (.iload_n 1, 1) := by decide +kernel
theorem dX9_tellForm_110 : decode cX9_tellForm 110 = .ok (.aload_n 0, 1) := by decide +kernel
theorem dX9_tellForm_111 : decode cX9_tellForm 111 = .ok (.getfield 179, 3) := by decide +kernel
theorem dX9_tellForm_114 : decode cX9_tellForm 114 = .ok (.ifCond .le 7, 3) := by decide +kernel
theorem dX9_tellForm_117 : decode cX9_tellForm 117 = .ok (.iconst 0, 1) := by decide +kernel
theorem dX9_tellForm_118 : decode cX9_tellForm 118 = .ok (.goto 7, 3) := by decide +kernel
theorem dX9_tellForm_121 : decode cX9_tellForm 121 = .ok (.aload_n 0, 1) := by decide +kernel
theorem dX9_tellForm_122 : decode cX9_tellForm 122 = .ok (.invokevirtual 263, 3) := by decide +kernel
theorem dX9_tellForm_125 : decode cX9_tellForm 125 = .ok (.iastore, 1) := by decide +kernel
theorem dX9_tellForm_126 : decode cX9_tellForm 126 = .ok (.aload_n 0, 1) := by decide +kernel
theorem dX9_tellForm_127 : decode cX9_tellForm 127 = .ok (.iconst 5, 1) := by decide +kernel
theorem dX9_tellForm_128 : decode cX9_tellForm 128 = .ok (.iload_n 1, 1) := by decide +kernel
theorem dX9_tellForm_129 : decode cX9_tellForm 129 = .ok (.imul, 1) := by decide +kernel
theorem dX9_tellForm_130 : decode cX9_tellForm 130 = .ok (.iconst 2, 1) := by decide +kernel
theorem dX9_tellForm_131 : decode cX9_tellForm 131 = .ok (.iadd, 1) := by decide +kernel
theorem dX9_tellForm_132 : decode cX9_tellForm 132 = .ok (.invokevirtual 260, 3) := by decide +kernel
theorem dX9_tellForm_135 : decode cX9_tellForm 135 = .ok (.aload_n 0, 1) := by decide +kernel
theorem dX9_tellForm_136 : decode cX9_tellForm 136 = .ok (.getfield 67, 3) := by decide +kernel
theorem dX9_tellForm_139 : decode cX9_tellForm 139 = .ok (.iload_n 1, 1) := by decide +kernel
theorem dX9_tellForm_140 : decode cX9_tellForm 140 = .ok (.iconst (-1), 1) := by decide +kernel
theorem dX9_tellForm_141 : decode cX9_tellForm 141 = .ok (.iastore, 1) := by decide +kernel
theorem dX9_tellForm_142 : decode cX9_tellForm 142 = .ok (.aload_n 0, 1) := by decide +kernel
theorem dX9_tellForm_143 : decode cX9_tellForm 143 = .ok (.getfield 70, 3) := by decide +kernel
theorem dX9_tellForm_146 : decode cX9_tellForm 146 = .ok (.iconst 5, 1) := by decide +kernel
theorem dX9_tellForm_147 : decode cX9_tellForm 147 = .ok (.iload_n 1, 1) := by decide +kernel
theorem dX9_tellForm_148 : decode cX9_tellForm 148 = .ok (.imul, 1) := by decide +kernel
theorem dX9_tellForm_149 : decode cX9_tellForm 149 = .ok (.iconst 3, 1) := by decide +kernel
theorem dX9_tellForm_150 : decode cX9_tellForm 150 = .ok (.iadd, 1) := by decide +kernel
theorem dX9_tellForm_151 : decode cX9_tellForm 151 = .ok (.aload_n 0, 1) := by decide +kernel
theorem dX9_tellForm_152 : decode cX9_tellForm 152 = .ok (.getfield 218, 3) := by decide +kernel
theorem dX9_tellForm_155 : decode cX9_tellForm 155 = .ok (.iastore, 1) := by decide +kernel
theorem dX9_tellForm_156 : decode cX9_tellForm 156 = .ok (.aload_n 0, 1) := by decide +kernel
theorem dX9_tellForm_157 : decode cX9_tellForm 157 = .ok (.bipush 26, 2) := by decide +kernel
theorem dX9_tellForm_159 : decode cX9_tellForm 159 = .ok (.invokevirtual 197, 3) := by decide +kernel
theorem dX9_tellForm_162 : decode cX9_tellForm 162 = .ok (.ifCond .eq 37, 3) := by decide +kernel
theorem dX9_tellForm_165 : decode cX9_tellForm 165 = .ok (.aload_n 0, 1) := by decide +kernel
theorem dX9_tellForm_166 : decode cX9_tellForm 166 = .ok (.invokevirtual 200, 3) := by decide +kernel
theorem dX9_tellForm_169 : decode cX9_tellForm 169 = .ok (.aload_n 0, 1) := by decide +kernel
theorem dX9_tellForm_170 : decode cX9_tellForm 170 = .ok (.getfield 67, 3) := by decide +kernel
theorem dX9_tellForm_173 : decode cX9_tellForm 173 = .ok (.iload_n 1, 1) := by decide +kernel
theorem dX9_tellForm_174 : decode cX9_tellForm 174 = .ok (.aload_n 0, 1) := by decide +kernel
theorem dX9_tellForm_175 : decode cX9_tellForm 175 = .ok (.getfield 179, 3) := by decide +kernel
theorem dX9_tellForm_178 : decode cX9_tellForm 178 = .ok (.ifCond .le 7, 3) := by decide +kernel
theorem dX9_tellForm_181 : decode cX9_tellForm 181 = .ok (.iconst 0, 1) := by decide +kernel
theorem dX9_tellForm_182 : decode cX9_tellForm 182 = .ok (.goto 7, 3) := by decide +kernel
theorem dX9_tellForm_185 : decode cX9_tellForm 185 = .ok (.aload_n 0, 1) := by decide +kernel
theorem dX9_tellForm_186 : decode cX9_tellForm 186 = .ok (.invokevirtual 263, 3) := by decide +kernel
theorem dX9_tellForm_189 : decode cX9_tellForm 189 = .ok (.iastore, 1) := by decide +kernel
theorem dX9_tellForm_190 : decode cX9_tellForm 190 = .ok (.aload_n 0, 1) := by decide +kernel
theorem dX9_tellForm_191 : decode cX9_tellForm 191 = .ok (.iconst 5, 1) := by decide +kernel
theorem dX9_tellForm_192 : decode cX9_tellForm 192 = .ok (.iload_n 1, 1) := by decide +kernel
theorem dX9_tellForm_193 : decode cX9_tellForm 193 = .ok (.imul, 1) := by decide +kernel
theorem dX9_tellForm_194 : decode cX9_tellForm 194 = .ok (.iconst 3, 1) := by decide +kernel
theorem dX9_tellForm_195 : decode cX9_tellForm 195 = .ok (.iadd, 1) := by decide +kernel
theorem dX9_tellForm_196 : decode cX9_tellForm 196 = .ok (.invokevirtual 260, 3) := by decide +kernel
theorem dX9_tellForm_199 : decode cX9_tellForm 199 = .ok (.aload_n 0, 1) := by decide +kernel
theorem dX9_tellForm_200 : decode cX9_tellForm 200 = .ok (.getfield 70, 3) := by decide +kernel
theorem dX9_tellForm_203 : decode cX9_tellForm 203 = .ok (.iconst 5, 1) := by decide +kernel
theorem dX9_tellForm_204 : decode cX9_tellForm 204 = .ok (.iload_n 1, 1) := by decide +kernel
theorem dX9_tellForm_205 : decode cX9_tellForm 205 = .ok (.imul, 1) := by decide +kernel
theorem dX9_tellForm_206 : decode cX9_tellForm 206 = .ok (.iconst 4, 1) := by decide +kernel
theorem dX9_tellForm_207 : decode cX9_tellForm 207 = .ok (.iadd, 1) := by decide +kernel
theorem dX9_tellForm_208 : decode cX9_tellForm 208 = .ok (.aload_n 0, 1) := by decide +kernel
theorem dX9_tellForm_209 : decode cX9_tellForm 209 = .ok (.getfield 218, 3) := by decide +kernel
theorem dX9_tellForm_212 : decode cX9_tellForm 212 = .ok (.iastore, 1) := by decide +kernel
theorem dX9_tellForm_213 : decode cX9_tellForm 213 = .ok (.aload_n 0, 1) := by decide +kernel
theorem dX9_tellForm_214 : decode cX9_tellForm 214 = .ok (.iconst 4, 1) := by decide +kernel
theorem dX9_tellForm_215 : decode cX9_tellForm 215 = .ok (.invokevirtual 235, 3) := by decide +kernel
theorem dX9_tellForm_218 : decode cX9_tellForm 218 = .ok (.aload_n 0, 1) := by decide +kernel
theorem dX9_tellForm_219 : decode cX9_tellForm 219 = .ok (.getfield 179, 3) := by decide +kernel
theorem dX9_tellForm_222 : decode cX9_tellForm 222 = .ok (.ifCond .le 4, 3) := by decide +kernel
theorem dX9_tellForm_225 : decode cX9_tellForm 225 = .ok (.return_, 1) := by decide +kernel
theorem dX9_tellForm_226 : decode cX9_tellForm 226 = .ok (.aload_n 0, 1) := by decide +kernel
theorem dX9_tellForm_227 : decode cX9_tellForm 227 = .ok (.iload_n 2, 1) := by decide +kernel
theorem dX9_tellForm_228 : decode cX9_tellForm 228 = .ok (.bipush 10, 2) := by decide +kernel
theorem dX9_tellForm_230 : decode cX9_tellForm 230 = .ok (.aload_n 0, 1) := by decide +kernel
theorem dX9_tellForm_231 : decode cX9_tellForm 231 = .ok (.getfield 58, 3) := by decide +kernel
theorem dX9_tellForm_234 : decode cX9_tellForm 234 = .ok (.aload_n 0, 1) := by decide +kernel
theorem dX9_tellForm_235 : decode cX9_tellForm 235 = .ok (.getfield 212, 3) := by decide +kernel
theorem dX9_tellForm_238 : decode cX9_tellForm 238 = .ok (.iaload, 1) := by decide +kernel
theorem dX9_tellForm_239 : decode cX9_tellForm 239 = .ok (.iadd, 1) := by decide +kernel
theorem dX9_tellForm_240 : decode cX9_tellForm 240 = .ok (.invokevirtual 254, 3) := by decide +kernel
theorem dX9_tellForm_243 : decode cX9_tellForm 243 = .ok (.aload_n 0, 1) := by decide +kernel
theorem dX9_tellForm_244 : decode cX9_tellForm 244 = .ok (.getfield 58, 3) := by decide +kernel
theorem dX9_tellForm_247 : decode cX9_tellForm 247 = .ok (.aload_n 0, 1) := by decide +kernel
theorem dX9_tellForm_248 : decode cX9_tellForm 248 = .ok (.getfield 212, 3) := by decide +kernel
theorem dX9_tellForm_251 : decode cX9_tellForm 251 = .ok (.dup2, 1) := by decide +kernel
theorem dX9_tellForm_252 : decode cX9_tellForm 252 = .ok (.iaload, 1) := by decide +kernel
theorem dX9_tellForm_253 : decode cX9_tellForm 253 = .ok (.iconst 1, 1) := by decide +kernel
theorem dX9_tellForm_254 : decode cX9_tellForm 254 = .ok (.iadd, 1) := by decide +kernel
theorem dX9_tellForm_255 : decode cX9_tellForm 255 = .ok (.iastore, 1) := by decide +kernel
theorem dX9_tellForm_256 : decode cX9_tellForm 256 = .ok (.return_, 1) := by decide +kernel
theorem dX9_tellOne_0 : decode cX9_tellOne 0 = .ok (.aload_n 0, 1) := by decide +kernel
theorem dX9_tellOne_1 : decode cX9_tellOne 1 = .ok (.getfield 20, 3) := by decide +kernel
theorem dX9_tellOne_4 : decode cX9_tellOne 4 = .ok (.aload_n 0, 1) := by decide +kernel
theorem dX9_tellOne_5 : decode cX9_tellOne 5 = .ok (.getfield 182, 3) := by decide +kernel
theorem dX9_tellOne_8 : decode cX9_tellOne 8 = .ok (.iaload, 1) := by decide +kernel
theorem dX9_tellOne_9 : decode cX9_tellOne 9 = .ok (.tableswitch 161 20 27 #[47, 65, 83, 112, 161, 161, 161, 141], 47) := by decide +kernel
theorem dX9_tellOne_56 : decode cX9_tellOne 56 = .ok (.aload_n 0, 1) := by decide +kernel
theorem dX9_tellOne_57 : decode cX9_tellOne 57 = .ok (.getfield 46, 3) := by decide +kernel
theorem dX9_tellOne_60 : decode cX9_tellOne 60 = .ok (.aload_n 0, 1) := by decide +kernel
theorem dX9_tellOne_61 : decode cX9_tellOne 61 = .ok (.getfield 212, 3) := by decide +kernel
theorem dX9_tellOne_64 : decode cX9_tellOne 64 = .ok (.aload_n 0, 1) := by decide +kernel
theorem dX9_tellOne_65 : decode cX9_tellOne 65 = .ok (.iconst 1, 1) := by decide +kernel
theorem dX9_tellOne_66 : decode cX9_tellOne 66 = .ok (.iconst 5, 1) := by decide +kernel
theorem dX9_tellOne_67 : decode cX9_tellOne 67 = .ok (.invokevirtual 238, 3) := by decide +kernel
theorem dX9_tellOne_70 : decode cX9_tellOne 70 = .ok (.iastore, 1) := by decide +kernel
theorem dX9_tellOne_71 : decode cX9_tellOne 71 = .ok (.goto 104, 3) := by decide +kernel
theorem dX9_tellOne_74 : decode cX9_tellOne 74 = .ok (.aload_n 0, 1) := by decide +kernel
theorem dX9_tellOne_75 : decode cX9_tellOne 75 = .ok (.getfield 49, 3) := by decide +kernel
theorem dX9_tellOne_78 : decode cX9_tellOne 78 = .ok (.aload_n 0, 1) := by decide +kernel
theorem dX9_tellOne_79 : decode cX9_tellOne 79 = .ok (.getfield 212, 3) := by decide +kernel
theorem dX9_tellOne_82 : decode cX9_tellOne 82 = .ok (.aload_n 0, 1) := by decide +kernel
theorem dX9_tellOne_83 : decode cX9_tellOne 83 = .ok (.iconst 0, 1) := by decide +kernel
theorem dX9_tellOne_84 : decode cX9_tellOne 84 = .ok (.iconst 4, 1) := by decide +kernel
theorem dX9_tellOne_85 : decode cX9_tellOne 85 = .ok (.invokevirtual 238, 3) := by decide +kernel
theorem dX9_tellOne_88 : decode cX9_tellOne 88 = .ok (.iastore, 1) := by decide +kernel
theorem dX9_tellOne_89 : decode cX9_tellOne 89 = .ok (.goto 86, 3) := by decide +kernel
theorem dX9_tellOne_92 : decode cX9_tellOne 92 = .ok (.aload_n 0, 1) := by decide +kernel
theorem dX9_tellOne_93 : decode cX9_tellOne 93 = .ok (.aload_n 0, 1) := by decide +kernel
theorem dX9_tellOne_94 : decode cX9_tellOne 94 = .ok (.getfield 52, 3) := by decide +kernel
theorem dX9_tellOne_97 : decode cX9_tellOne 97 = .ok (.aload_n 0, 1) := by decide +kernel
theorem dX9_tellOne_98 : decode cX9_tellOne 98 = .ok (.getfield 212, 3) := by decide +kernel
theorem dX9_tellOne_101 : decode cX9_tellOne 101 = .ok (.iaload, 1) := by decide +kernel
theorem dX9_tellOne_102 : decode cX9_tellOne 102 = .ok (.bipush 6, 2) := by decide +kernel
theorem dX9_tellOne_104 : decode cX9_tellOne 104 = .ok (.invokevirtual 241, 3) := by decide +kernel
theorem dX9_tellOne_107 : decode cX9_tellOne 107 = .ok (.aload_n 0, 1) := by decide +kernel
theorem dX9_tellOne_108 : decode cX9_tellOne 108 = .ok (.getfield 179, 3) := by decide +kernel
theorem dX9_tellOne_111 : decode cX9_tellOne 111 = .ok (.ifCond .ne 64, 3) := by decide +kernel
theorem dX9_tellOne_114 : decode cX9_tellOne 114 = .ok (.aload_n 0, 1) := by decide +kernel
theorem dX9_tellOne_115 : decode cX9_tellOne 115 = .ok (.invokevirtual 244, 3) := by decide +kernel
theorem dX9_tellOne_118 : decode cX9_tellOne 118 = .ok (.goto 57, 3) := by decide +kernel
theorem dX9_tellOne_121 : decode cX9_tellOne 121 = .ok (.aload_n 0, 1) := by decide +kernel
theorem dX9_tellOne_122 : decode cX9_tellOne 122 = .ok (.aload_n 0, 1) := by decide +kernel
theorem dX9_tellOne_123 : decode cX9_tellOne 123 = .ok (.getfield 58, 3) := by decide +kernel
theorem dX9_tellOne_126 : decode cX9_tellOne 126 = .ok (.aload_n 0, 1) := by decide +kernel
theorem dX9_tellOne_127 : decode cX9_tellOne 127 = .ok (.getfield 212, 3) := by decide +kernel
theorem dX9_tellOne_130 : decode cX9_tellOne 130 = .ok (.iaload, 1) := by decide +kernel
theorem dX9_tellOne_131 : decode cX9_tellOne 131 = .ok (.bipush 6, 2) := by decide +kernel
theorem dX9_tellOne_133 : decode cX9_tellOne 133 = .ok (.invokevirtual 241, 3) := by decide +kernel
theorem dX9_tellOne_136 : decode cX9_tellOne 136 = .ok (.aload_n 0, 1) := by decide +kernel
theorem dX9_tellOne_137 : decode cX9_tellOne 137 = .ok (.getfield 179, 3) := by decide +kernel
theorem dX9_tellOne_140 : decode cX9_tellOne 140 = .ok (.ifCond .ne 35, 3) := by decide +kernel
theorem dX9_tellOne_143 : decode cX9_tellOne 143 = .ok (.aload_n 0, 1) := by decide +kernel
theorem dX9_tellOne_144 : decode cX9_tellOne 144 = .ok (.invokevirtual 247, 3) := by decide +kernel
theorem dX9_tellOne_147 : decode cX9_tellOne 147 = .ok (.goto 28, 3) := by decide +kernel
theorem dX9_tellOne_150 : decode cX9_tellOne 150 = .ok (.aload_n 0, 1) := by decide +kernel
theorem dX9_tellOne_151 : decode cX9_tellOne 151 = .ok (.getfield 73, 3) := by decide +kernel
theorem dX9_tellOne_154 : decode cX9_tellOne 154 = .ok (.aload_n 0, 1) := by decide +kernel
theorem dX9_tellOne_155 : decode cX9_tellOne 155 = .ok (.getfield 212, 3) := by decide +kernel
theorem dX9_tellOne_158 : decode cX9_tellOne 158 = .ok (.aload_n 0, 1) := by decide +kernel
theorem dX9_tellOne_159 : decode cX9_tellOne 159 = .ok (.iconst 0, 1) := by decide +kernel
theorem dX9_tellOne_160 : decode cX9_tellOne 160 = .ok (.sipush 9999, 3) := by decide +kernel
theorem dX9_tellOne_163 : decode cX9_tellOne 163 = .ok (.invokevirtual 238, 3) := by decide +kernel
theorem dX9_tellOne_166 : decode cX9_tellOne 166 = .ok (.iastore, 1) := by decide +kernel
theorem dX9_tellOne_167 : decode cX9_tellOne 167 = .ok (.goto 8, 3) := by decide +kernel
theorem dX9_tellOne_170 : decode cX9_tellOne 170 = .ok (.aload_n 0, 1) := by decide +kernel
theorem dX9_tellOne_171 : decode cX9_tellOne 171 = .ok (.iconst 1, 1) := by decide +kernel
theorem dX9_tellOne_172 : decode cX9_tellOne 172 = .ok (.invokevirtual 194, 3) := by decide +kernel
theorem dX9_tellOne_175 : decode cX9_tellOne 175 = .ok (.return_, 1) := by decide +kernel
theorem dX9_begins_0 : decode cX9_begins 0 = .ok (.iconst 0, 1) := by decide +kernel
theorem dX9_begins_1 : decode cX9_begins 1 = .ok (.istore_n 1, 1) := by decide +kernel
theorem dX9_begins_2 : decode cX9_begins 2 = .ok (.iload_n 1, 1) := by decide +kernel
theorem dX9_begins_3 : decode cX9_begins 3 = .ok (.sipush 770, 3) := by decide +kernel
theorem dX9_begins_6 : decode cX9_begins 6 = .ok (.if_icmp .ge 16, 3) := by decide +kernel
theorem dX9_begins_9 : decode cX9_begins 9 = .ok (.aload_n 0, 1) := by decide +kernel
theorem dX9_begins_10 : decode cX9_begins 10 = .ok (.getfield 94, 3) := by decide +kernel
theorem dX9_begins_13 : decode cX9_begins 13 = .ok (.iload_n 1, 1) := by decide +kernel
theorem dX9_begins_14 : decode cX9_begins 14 = .ok (.iconst 0, 1) := by decide +kernel
theorem dX9_begins_15 : decode cX9_begins 15 = .ok (.iastore, 1) := by decide +kernel
theorem dX9_begins_16 : decode cX9_begins 16 = .ok (.iinc 1 1, 3) := by decide +kernel
theorem dX9_begins_19 : decode cX9_begins 19 = .ok (.goto (-17), 3) := by decide +kernel
theorem dX9_begins_22 : decode cX9_begins 22 = .ok (.aload_n 0, 1) := by decide +kernel
theorem dX9_begins_23 : decode cX9_begins 23 = .ok (.getfield 94, 3) := by decide +kernel
theorem dX9_begins_26 : decode cX9_begins 26 = .ok (.iconst 2, 1) := by decide +kernel
theorem dX9_begins_27 : decode cX9_begins 27 = .ok (.aload_n 0, 1) := by decide +kernel
theorem dX9_begins_28 : decode cX9_begins 28 = .ok (.getfield 49, 3) := by decide +kernel
theorem dX9_begins_31 : decode cX9_begins 31 = .ok (.aload_n 0, 1) := by decide +kernel
theorem dX9_begins_32 : decode cX9_begins 32 = .ok (.getfield 209, 3) := by decide +kernel
theorem dX9_begins_35 : decode cX9_begins 35 = .ok (.iaload, 1) := by decide +kernel
theorem dX9_begins_36 : decode cX9_begins 36 = .ok (.iastore, 1) := by decide +kernel
theorem dX9_begins_37 : decode cX9_begins 37 = .ok (.aload_n 0, 1) := by decide +kernel
theorem dX9_begins_38 : decode cX9_begins 38 = .ok (.aload_n 0, 1) := by decide +kernel
theorem dX9_begins_39 : decode cX9_begins 39 = .ok (.getfield 73, 3) := by decide +kernel
theorem dX9_begins_42 : decode cX9_begins 42 = .ok (.aload_n 0, 1) := by decide +kernel
theorem dX9_begins_43 : decode cX9_begins 43 = .ok (.getfield 209, 3) := by decide +kernel
theorem dX9_begins_46 : decode cX9_begins 46 = .ok (.iaload, 1) := by decide +kernel
theorem dX9_begins_47 : decode cX9_begins 47 = .ok (.putfield 287, 3) := by decide +kernel
theorem dX9_begins_50 : decode cX9_begins 50 = .ok (.return_, 1) := by decide +kernel
theorem dX9_keepsRow_0 : decode cX9_keepsRow 0 = .ok (.iconst 0, 1) := by decide +kernel
theorem dX9_keepsRow_1 : decode cX9_keepsRow 1 = .ok (.istore_n 1, 1) := by decide +kernel
theorem dX9_keepsRow_2 : decode cX9_keepsRow 2 = .ok (.iload_n 1, 1) := by decide +kernel
theorem dX9_keepsRow_3 : decode cX9_keepsRow 3 = .ok (.sipush 770, 3) := by decide +kernel
theorem dX9_keepsRow_6 : decode cX9_keepsRow 6 = .ok (.if_icmp .ge 21, 3) := by decide +kernel
theorem dX9_keepsRow_9 : decode cX9_keepsRow 9 = .ok (.aload_n 0, 1) := by decide +kernel
theorem dX9_keepsRow_10 : decode cX9_keepsRow 10 = .ok (.getfield 91, 3) := by decide +kernel
theorem dX9_keepsRow_13 : decode cX9_keepsRow 13 = .ok (.iload_n 1, 1) := by decide +kernel
theorem dX9_keepsRow_14 : decode cX9_keepsRow 14 = .ok (.aload_n 0, 1) := by decide +kernel
theorem dX9_keepsRow_15 : decode cX9_keepsRow 15 = .ok (.getfield 94, 3) := by decide +kernel
theorem dX9_keepsRow_18 : decode cX9_keepsRow 18 = .ok (.iload_n 1, 1) := by decide +kernel
theorem dX9_keepsRow_19 : decode cX9_keepsRow 19 = .ok (.iaload, 1) := by decide +kernel
theorem dX9_keepsRow_20 : decode cX9_keepsRow 20 = .ok (.iastore, 1) := by decide +kernel
theorem dX9_keepsRow_21 : decode cX9_keepsRow 21 = .ok (.iinc 1 1, 3) := by decide +kernel
theorem dX9_keepsRow_24 : decode cX9_keepsRow 24 = .ok (.goto (-22), 3) := by decide +kernel
theorem dX9_keepsRow_27 : decode cX9_keepsRow 27 = .ok (.return_, 1) := by decide +kernel
theorem dX9_read_0 : decode cX9_read 0 = .ok (.aload_n 0, 1) := by decide +kernel
theorem dX9_read_1 : decode cX9_read 1 = .ok (.aload_n 0, 1) := by decide +kernel
theorem dX9_read_2 : decode cX9_read 2 = .ok (.getfield 142, 3) := by decide +kernel
theorem dX9_read_5 : decode cX9_read 5 = .ok (.putfield 148, 3) := by decide +kernel
theorem dX9_read_8 : decode cX9_read 8 = .ok (.iconst 0, 1) := by decide +kernel
theorem dX9_read_9 : decode cX9_read 9 = .ok (.istore_n 1, 1) := by decide +kernel
theorem dX9_read_10 : decode cX9_read 10 = .ok (.iload_n 1, 1) := by decide +kernel
theorem dX9_read_11 : decode cX9_read 11 = .ok (.aload_n 0, 1) := by decide +kernel
theorem dX9_read_12 : decode cX9_read 12 = .ok (.getfield 148, 3) := by decide +kernel
theorem dX9_read_15 : decode cX9_read 15 = .ok (.if_icmp .ge 21, 3) := by decide +kernel
theorem dX9_read_18 : decode cX9_read 18 = .ok (.aload_n 0, 1) := by decide +kernel
theorem dX9_read_19 : decode cX9_read 19 = .ok (.getfield 17, 3) := by decide +kernel
theorem dX9_read_22 : decode cX9_read 22 = .ok (.iload_n 1, 1) := by decide +kernel
theorem dX9_read_23 : decode cX9_read 23 = .ok (.aload_n 0, 1) := by decide +kernel
theorem dX9_read_24 : decode cX9_read 24 = .ok (.getfield 13, 3) := by decide +kernel
theorem dX9_read_27 : decode cX9_read 27 = .ok (.iload_n 1, 1) := by decide +kernel
theorem dX9_read_28 : decode cX9_read 28 = .ok (.baload, 1) := by decide +kernel
theorem dX9_read_29 : decode cX9_read 29 = .ok (.bastore, 1) := by decide +kernel
theorem dX9_read_30 : decode cX9_read 30 = .ok (.iinc 1 1, 3) := by decide +kernel
theorem dX9_read_33 : decode cX9_read 33 = .ok (.goto (-23), 3) := by decide +kernel
theorem dX9_read_36 : decode cX9_read 36 = .ok (.aload_n 0, 1) := by decide +kernel
theorem dX9_read_37 : decode cX9_read 37 = .ok (.iconst 0, 1) := by decide +kernel
theorem dX9_read_38 : decode cX9_read 38 = .ok (.putfield 142, 3) := by decide +kernel
theorem dX9_read_41 : decode cX9_read 41 = .ok (.aload_n 0, 1) := by decide +kernel
theorem dX9_read_42 : decode cX9_read 42 = .ok (.invokevirtual 203, 3) := by decide +kernel
theorem dX9_read_45 : decode cX9_read 45 = .ok (.aload_n 0, 1) := by decide +kernel
theorem dX9_read_46 : decode cX9_read 46 = .ok (.iconst 0, 1) := by decide +kernel
theorem dX9_read_47 : decode cX9_read 47 = .ok (.putfield 182, 3) := by decide +kernel
theorem dX9_read_50 : decode cX9_read 50 = .ok (.aload_n 0, 1) := by decide +kernel
theorem dX9_read_51 : decode cX9_read 51 = .ok (.iconst 0, 1) := by decide +kernel
theorem dX9_read_52 : decode cX9_read 52 = .ok (.putfield 206, 3) := by decide +kernel
theorem dX9_read_55 : decode cX9_read 55 = .ok (.aload_n 0, 1) := by decide +kernel
theorem dX9_read_56 : decode cX9_read 56 = .ok (.iconst 0, 1) := by decide +kernel
theorem dX9_read_57 : decode cX9_read 57 = .ok (.putfield 179, 3) := by decide +kernel
theorem dX9_read_60 : decode cX9_read 60 = .ok (.aload_n 0, 1) := by decide +kernel
theorem dX9_read_61 : decode cX9_read 61 = .ok (.iconst 0, 1) := by decide +kernel
theorem dX9_read_62 : decode cX9_read 62 = .ok (.putfield 188, 3) := by decide +kernel
theorem dX9_read_65 : decode cX9_read 65 = .ok (.aload_n 0, 1) := by decide +kernel
theorem dX9_read_66 : decode cX9_read 66 = .ok (.iconst 1, 1) := by decide +kernel
theorem dX9_read_67 : decode cX9_read 67 = .ok (.aload_n 0, 1) := by decide +kernel
theorem dX9_read_68 : decode cX9_read 68 = .ok (.getfield 209, 3) := by decide +kernel
theorem dX9_read_71 : decode cX9_read 71 = .ok (.isub, 1) := by decide +kernel
theorem dX9_read_72 : decode cX9_read 72 = .ok (.putfield 212, 3) := by decide +kernel
theorem dX9_read_75 : decode cX9_read 75 = .ok (.aload_n 0, 1) := by decide +kernel
theorem dX9_read_76 : decode cX9_read 76 = .ok (.iconst 0, 1) := by decide +kernel
theorem dX9_read_77 : decode cX9_read 77 = .ok (.putfield 215, 3) := by decide +kernel
theorem dX9_read_80 : decode cX9_read 80 = .ok (.aload_n 0, 1) := by decide +kernel
theorem dX9_read_81 : decode cX9_read 81 = .ok (.aload_n 0, 1) := by decide +kernel
theorem dX9_read_82 : decode cX9_read 82 = .ok (.getfield 212, 3) := by decide +kernel
theorem dX9_read_85 : decode cX9_read 85 = .ok (.invokevirtual 128, 3) := by decide +kernel
theorem dX9_read_88 : decode cX9_read 88 = .ok (.aload_n 0, 1) := by decide +kernel
theorem dX9_read_89 : decode cX9_read 89 = .ok (.sipush 420, 3) := by decide +kernel
theorem dX9_read_92 : decode cX9_read 92 = .ok (.aload_n 0, 1) := by decide +kernel
theorem dX9_read_93 : decode cX9_read 93 = .ok (.getfield 212, 3) := by decide +kernel
theorem dX9_read_96 : decode cX9_read 96 = .ok (.imul, 1) := by decide +kernel
theorem dX9_read_97 : decode cX9_read 97 = .ok (.putfield 218, 3) := by decide +kernel
theorem dX9_read_100 : decode cX9_read 100 = .ok (.aload_n 0, 1) := by decide +kernel
theorem dX9_read_101 : decode cX9_read 101 = .ok (.getfield 179, 3) := by decide +kernel
theorem dX9_read_104 : decode cX9_read 104 = .ok (.ifCond .ne 18, 3) := by decide +kernel
theorem dX9_read_107 : decode cX9_read 107 = .ok (.aload_n 0, 1) := by decide +kernel
theorem dX9_read_108 : decode cX9_read 108 = .ok (.iconst 0, 1) := by decide +kernel
theorem dX9_read_109 : decode cX9_read 109 = .ok (.invokevirtual 197, 3) := by decide +kernel
theorem dX9_read_112 : decode cX9_read 112 = .ok (.ifCond .ne 10, 3) := by decide +kernel
theorem dX9_read_115 : decode cX9_read 115 = .ok (.aload_n 0, 1) := by decide +kernel
theorem dX9_read_116 : decode cX9_read 116 = .ok (.invokevirtual 221, 3) := by decide +kernel
theorem dX9_read_119 : decode cX9_read 119 = .ok (.goto (-19), 3) := by decide +kernel
theorem dX9_read_122 : decode cX9_read 122 = .ok (.aload_n 0, 1) := by decide +kernel
theorem dX9_read_123 : decode cX9_read 123 = .ok (.getfield 179, 3) := by decide +kernel
theorem dX9_read_126 : decode cX9_read 126 = .ok (.ifCond .ne 34, 3) := by decide +kernel
theorem dX9_read_129 : decode cX9_read 129 = .ok (.aload_n 0, 1) := by decide +kernel
theorem dX9_read_130 : decode cX9_read 130 = .ok (.getfield 49, 3) := by decide +kernel
theorem dX9_read_133 : decode cX9_read 133 = .ok (.aload_n 0, 1) := by decide +kernel
theorem dX9_read_134 : decode cX9_read 134 = .ok (.getfield 212, 3) := by decide +kernel
theorem dX9_read_137 : decode cX9_read 137 = .ok (.iaload, 1) := by decide +kernel
theorem dX9_read_138 : decode cX9_read 138 = .ok (.aload_n 0, 1) := by decide +kernel
theorem dX9_read_139 : decode cX9_read 139 = .ok (.getfield 46, 3) := by decide +kernel
theorem dX9_read_142 : decode cX9_read 142 = .ok (.aload_n 0, 1) := by decide +kernel
theorem dX9_read_143 : decode cX9_read 143 = .ok (.getfield 212, 3) := by decide +kernel
theorem dX9_read_146 : decode cX9_read 146 = .ok (.iaload, 1) := by decide +kernel
theorem dX9_read_147 : decode cX9_read 147 = .ok (.if_icmp .lt 13, 3) := by decide +kernel
theorem dX9_read_150 : decode cX9_read 150 = .ok (.aload_n 0, 1) := by decide +kernel
theorem dX9_read_151 : decode cX9_read 151 = .ok (.bipush 6, 2) := by decide +kernel
theorem dX9_read_153 : decode cX9_read 153 = .ok (.aload_n 0, 1) := by decide +kernel
theorem dX9_read_154 : decode cX9_read 154 = .ok (.getfield 182, 3) := by decide +kernel
theorem dX9_read_157 : decode cX9_read 157 = .ok (.invokevirtual 224, 3) := by decide +kernel
theorem dX9_read_160 : decode cX9_read 160 = .ok (.aload_n 0, 1) := by decide +kernel
theorem dX9_read_161 : decode cX9_read 161 = .ok (.aload_n 0, 1) := by decide +kernel
theorem dX9_read_162 : decode cX9_read 162 = .ok (.getfield 179, 3) := by decide +kernel
theorem dX9_read_165 : decode cX9_read 165 = .ok (.ifCond .le 10, 3) := by decide +kernel
theorem dX9_read_168 : decode cX9_read 168 = .ok (.aload_n 0, 1) := by decide +kernel
theorem dX9_read_169 : decode cX9_read 169 = .ok (.getfield 185, 3) := by decide +kernel
theorem dX9_read_172 : decode cX9_read 172 = .ok (.goto 18, 3) := by decide +kernel
theorem dX9_read_175 : decode cX9_read 175 = .ok (.aload_n 0, 1) := by decide +kernel
theorem dX9_read_176 : decode cX9_read 176 = .ok (.getfield 188, 3) := by decide +kernel
theorem dX9_read_179 : decode cX9_read 179 = .ok (.ifCond .le 10, 3) := by decide +kernel
theorem dX9_read_182 : decode cX9_read 182 = .ok (.aload_n 0, 1) := by decide +kernel
theorem dX9_read_183 : decode cX9_read 183 = .ok (.getfield 191, 3) := by decide +kernel
theorem dX9_read_186 : decode cX9_read 186 = .ok (.goto 4, 3) := by decide +kernel
theorem dX9_read_189 : decode cX9_read 189 = .ok (.iconst (-1), 1) := by decide +kernel
theorem dX9_read_190 : decode cX9_read 190 = .ok (.putfield 37, 3) := by decide +kernel
theorem dX9_read_193 : decode cX9_read 193 = .ok (.aload_n 0, 1) := by decide +kernel
theorem dX9_read_194 : decode cX9_read 194 = .ok (.getfield 179, 3) := by decide +kernel
theorem dX9_read_197 : decode cX9_read 197 = .ok (.ifCond .le 8, 3) := by decide +kernel
theorem dX9_read_200 : decode cX9_read 200 = .ok (.aload_n 0, 1) := by decide +kernel
theorem dX9_read_201 : decode cX9_read 201 = .ok (.getfield 179, 3) := by decide +kernel
theorem dX9_read_204 : decode cX9_read 204 = .ok (.ireturn, 1) := by decide +kernel
theorem dX9_read_205 : decode cX9_read 205 = .ok (.aload_n 0, 1) := by decide +kernel
theorem dX9_read_206 : decode cX9_read 206 = .ok (.getfield 188, 3) := by decide +kernel
theorem dX9_read_209 : decode cX9_read 209 = .ok (.ifCond .le 8, 3) := by decide +kernel
theorem dX9_read_212 : decode cX9_read 212 = .ok (.aload_n 0, 1) := by decide +kernel
theorem dX9_read_213 : decode cX9_read 213 = .ok (.getfield 188, 3) := by decide +kernel
theorem dX9_read_216 : decode cX9_read 216 = .ok (.ireturn, 1) := by decide +kernel
theorem dX9_read_217 : decode cX9_read 217 = .ok (.aload_n 0, 1) := by decide +kernel
theorem dX9_read_218 : decode cX9_read 218 = .ok (.aload_n 0, 1) := by decide +kernel
theorem dX9_read_219 : decode cX9_read 219 = .ok (.getfield 212, 3) := by decide +kernel
theorem dX9_read_222 : decode cX9_read 222 = .ok (.putfield 209, 3) := by decide +kernel
theorem dX9_read_225 : decode cX9_read 225 = .ok (.aload_n 0, 1) := by decide +kernel
theorem dX9_read_226 : decode cX9_read 226 = .ok (.invokevirtual 136, 3) := by decide +kernel
theorem dX9_read_229 : decode cX9_read 229 = .ok (.aload_n 0, 1) := by decide +kernel
theorem dX9_read_230 : decode cX9_read 230 = .ok (.invokevirtual 139, 3) := by decide +kernel
theorem dX9_read_233 : decode cX9_read 233 = .ok (.aload_n 0, 1) := by decide +kernel
theorem dX9_read_234 : decode cX9_read 234 = .ok (.iconst 0, 1) := by decide +kernel
theorem dX9_read_235 : decode cX9_read 235 = .ok (.putfield 228, 3) := by decide +kernel
theorem dX9_read_238 : decode cX9_read 238 = .ok (.iconst 0, 1) := by decide +kernel
theorem dX9_read_239 : decode cX9_read 239 = .ok (.istore_n 1, 1) := by decide +kernel
theorem dX9_read_240 : decode cX9_read 240 = .ok (.iload_n 1, 1) := by decide +kernel
theorem dX9_read_241 : decode cX9_read 241 = .ok (.iconst 3, 1) := by decide +kernel
theorem dX9_read_242 : decode cX9_read 242 = .ok (.if_icmp .ge 16, 3) := by decide +kernel
theorem dX9_read_245 : decode cX9_read 245 = .ok (.aload_n 0, 1) := by decide +kernel
theorem dX9_read_246 : decode cX9_read 246 = .ok (.getfield 121, 3) := by decide +kernel
theorem dX9_read_249 : decode cX9_read 249 = .ok (.iload_n 1, 1) := by decide +kernel
theorem dX9_read_250 : decode cX9_read 250 = .ok (.iconst 0, 1) := by decide +kernel
theorem dX9_read_251 : decode cX9_read 251 = .ok (.bastore, 1) := by decide +kernel
theorem dX9_read_252 : decode cX9_read 252 = .ok (.iinc 1 1, 3) := by decide +kernel
theorem dX9_read_255 : decode cX9_read 255 = .ok (.goto (-15), 3) := by decide +kernel
theorem dX9_read_258 : decode cX9_read 258 = .ok (.iconst 0, 1) := by decide +kernel
theorem dX9_read_259 : decode cX9_read 259 = .ok (.ireturn, 1) := by decide +kernel
theorem dX9_place_0 : decode cX9_place 0 = .ok (.aload_n 0, 1) := by decide +kernel
theorem dX9_place_1 : decode cX9_place 1 = .ok (.getfield 37, 3) := by decide +kernel
theorem dX9_place_4 : decode cX9_place 4 = .ok (.ireturn, 1) := by decide +kernel
theorem dX9_termOf_0 : decode cX9_termOf 0 = .ok (.iconst 0, 1) := by decide +kernel
theorem dX9_termOf_1 : decode cX9_termOf 1 = .ok (.istore_n 3, 1) := by decide +kernel
theorem dX9_termOf_2 : decode cX9_termOf 2 = .ok (.iload_n 1, 1) := by decide +kernel
theorem dX9_termOf_3 : decode cX9_termOf 3 = .ok (.istore 4, 2) := by decide +kernel
theorem dX9_termOf_5 : decode cX9_termOf 5 = .ok (.iload 4, 2) := by decide +kernel
theorem dX9_termOf_7 : decode cX9_termOf 7 = .ok (.iload_n 2, 1) := by decide +kernel
theorem dX9_termOf_8 : decode cX9_termOf 8 = .ok (.if_icmp .ge 157, 3) := by decide +kernel
theorem dX9_termOf_11 : decode cX9_termOf 11 = .ok (.aload_n 0, 1) := by decide +kernel
theorem dX9_termOf_12 : decode cX9_termOf 12 = .ok (.getfield 76, 3) := by decide +kernel
theorem dX9_termOf_15 : decode cX9_termOf 15 = .ok (.iload 4, 2) := by decide +kernel
theorem dX9_termOf_17 : decode cX9_termOf 17 = .ok (.iaload, 1) := by decide +kernel
theorem dX9_termOf_18 : decode cX9_termOf 18 = .ok (.istore 5, 2) := by decide +kernel
theorem dX9_termOf_20 : decode cX9_termOf 20 = .ok (.iload 5, 2) := by decide +kernel
theorem dX9_termOf_22 : decode cX9_termOf 22 = .ok (.iconst 2, 1) := by decide +kernel
theorem dX9_termOf_23 : decode cX9_termOf 23 = .ok (.if_icmp .ge 42, 3) := by decide +kernel
theorem dX9_termOf_26 : decode cX9_termOf 26 = .ok (.aload_n 0, 1) := by decide +kernel
theorem dX9_termOf_27 : decode cX9_termOf 27 = .ok (.getfield 88, 3) := by decide +kernel
theorem dX9_termOf_30 : decode cX9_termOf 30 = .ok (.iload_n 3, 1) := by decide +kernel
theorem dX9_termOf_31 : decode cX9_termOf 31 = .ok (.iload 5, 2) := by decide +kernel
theorem dX9_termOf_33 : decode cX9_termOf 33 = .ok (.ifCond .ne 13, 3) := by decide +kernel
theorem dX9_termOf_36 : decode cX9_termOf 36 = .ok (.aload_n 0, 1) := by decide +kernel
theorem dX9_termOf_37 : decode cX9_termOf 37 = .ok (.getfield 79, 3) := by decide +kernel
theorem dX9_termOf_40 : decode cX9_termOf 40 = .ok (.iload 4, 2) := by decide +kernel
theorem dX9_termOf_42 : decode cX9_termOf 42 = .ok (.iaload, 1) := by decide +kernel
theorem dX9_termOf_43 : decode cX9_termOf 43 = .ok (.goto 15, 3) := by decide +kernel
theorem dX9_termOf_46 : decode cX9_termOf 46 = .ok (.aload_n 0, 1) := by decide +kernel
theorem dX9_termOf_47 : decode cX9_termOf 47 = .ok (.getfield 85, 3) := by decide +kernel
theorem dX9_termOf_50 : decode cX9_termOf 50 = .ok (.aload_n 0, 1) := by decide +kernel
theorem dX9_termOf_51 : decode cX9_termOf 51 = .ok (.getfield 79, 3) := by decide +kernel
theorem dX9_termOf_54 : decode cX9_termOf 54 = .ok (.iload 4, 2) := by decide +kernel
theorem dX9_termOf_56 : decode cX9_termOf 56 = .ok (.iaload, 1) := by decide +kernel
theorem dX9_termOf_57 : decode cX9_termOf 57 = .ok (.iaload, 1) := by decide +kernel
theorem dX9_termOf_58 : decode cX9_termOf 58 = .ok (.iastore, 1) := by decide +kernel
theorem dX9_termOf_59 : decode cX9_termOf 59 = .ok (.iinc 3 1, 3) := by decide +kernel
theorem dX9_termOf_62 : decode cX9_termOf 62 = .ok (.goto 97, 3) := by decide +kernel
theorem dX9_termOf_65 : decode cX9_termOf 65 = .ok (.iinc 3 (-1), 3) := by decide +kernel
theorem dX9_termOf_68 : decode cX9_termOf 68 = .ok (.aload_n 0, 1) := by decide +kernel
theorem dX9_termOf_69 : decode cX9_termOf 69 = .ok (.getfield 88, 3) := by decide +kernel
theorem dX9_termOf_72 : decode cX9_termOf 72 = .ok (.iload_n 3, 1) := by decide +kernel
theorem dX9_termOf_73 : decode cX9_termOf 73 = .ok (.iconst 1, 1) := by decide +kernel
theorem dX9_termOf_74 : decode cX9_termOf 74 = .ok (.isub, 1) := by decide +kernel
theorem dX9_termOf_75 : decode cX9_termOf 75 = .ok (.iaload, 1) := by decide +kernel
theorem dX9_termOf_76 : decode cX9_termOf 76 = .ok (.istore 6, 2) := by decide +kernel
theorem dX9_termOf_78 : decode cX9_termOf 78 = .ok (.aload_n 0, 1) := by decide +kernel
theorem dX9_termOf_79 : decode cX9_termOf 79 = .ok (.getfield 88, 3) := by decide +kernel
theorem dX9_termOf_82 : decode cX9_termOf 82 = .ok (.iload_n 3, 1) := by decide +kernel
theorem dX9_termOf_83 : decode cX9_termOf 83 = .ok (.iaload, 1) := by decide +kernel
theorem dX9_termOf_84 : decode cX9_termOf 84 = .ok (.istore 7, 2) := by decide +kernel
theorem dX9_termOf_86 : decode cX9_termOf 86 = .ok (.iload 5, 2) := by decide +kernel
theorem dX9_termOf_88 : decode cX9_termOf 88 = .ok (.iconst 5, 1) := by decide +kernel
theorem dX9_termOf_89 : decode cX9_termOf 89 = .ok (.if_icmp .ne 15, 3) := by decide +kernel
theorem dX9_termOf_92 : decode cX9_termOf 92 = .ok (.iload 7, 2) := by decide +kernel
theorem dX9_termOf_94 : decode cX9_termOf 94 = .ok (.ifCond .ne 10, 3) := by decide +kernel
theorem dX9_termOf_97 : decode cX9_termOf 97 = .ok (.aload_n 0, 1) := by decide +kernel
theorem dX9_termOf_98 : decode cX9_termOf 98 = .ok (.iconst 1, 1) := by decide +kernel
theorem dX9_termOf_99 : decode cX9_termOf 99 = .ok (.putfield 279, 3) := by decide +kernel
theorem dX9_termOf_102 : decode cX9_termOf 102 = .ok (.iconst 0, 1) := by decide +kernel
theorem dX9_termOf_103 : decode cX9_termOf 103 = .ok (.ireturn, 1) := by decide +kernel
theorem dX9_termOf_104 : decode cX9_termOf 104 = .ok (.aload_n 0, 1) := by decide +kernel
theorem dX9_termOf_105 : decode cX9_termOf 105 = .ok (.getfield 88, 3) := by decide +kernel
theorem dX9_termOf_108 : decode cX9_termOf 108 = .ok (.iload_n 3, 1) := by decide +kernel
theorem dX9_termOf_109 : decode cX9_termOf 109 = .ok (.iconst 1, 1) := by decide +kernel
theorem dX9_termOf_110 : decode cX9_termOf 110 = .ok (.isub, 1) := by decide +kernel
theorem dX9_termOf_111 : decode cX9_termOf 111 = .ok (.iload 5, 2) := by decide +kernel
theorem dX9_termOf_113 : decode cX9_termOf 113 = .ok (.iconst 2, 1) := by decide +kernel
theorem dX9_termOf_114 : decode cX9_termOf 114 = .ok (.if_icmp .ne 11, 3) := by decide +kernel
theorem dX9_termOf_117 : decode cX9_termOf 117 = .ok (.iload 6, 2) := by decide +kernel
theorem dX9_termOf_119 : decode cX9_termOf 119 = .ok (.iload 7, 2) := by decide +kernel
theorem dX9_termOf_121 : decode cX9_termOf 121 = .ok (.iadd, 1) := by decide +kernel
theorem dX9_termOf_122 : decode cX9_termOf 122 = .ok (.goto 36, 3) := by decide +kernel
theorem dX9_termOf_125 : decode cX9_termOf 125 = .ok (.iload 5, 2) := by decide +kernel
theorem dX9_termOf_127 : decode cX9_termOf 127 = .ok (.iconst 3, 1) := by decide +kernel
theorem dX9_termOf_128 : decode cX9_termOf 128 = .ok (.if_icmp .ne 11, 3) := by decide +kernel
theorem dX9_termOf_131 : decode cX9_termOf 131 = .ok (.iload 6, 2) := by decide +kernel
theorem dX9_termOf_133 : decode cX9_termOf 133 = .ok (.iload 7, 2) := by decide +kernel
theorem dX9_termOf_135 : decode cX9_termOf 135 = .ok (.isub, 1) := by decide +kernel
theorem dX9_termOf_136 : decode cX9_termOf 136 = .ok (.goto 22, 3) := by decide +kernel
theorem dX9_termOf_139 : decode cX9_termOf 139 = .ok (.iload 5, 2) := by decide +kernel
theorem dX9_termOf_141 : decode cX9_termOf 141 = .ok (.iconst 4, 1) := by decide +kernel
theorem dX9_termOf_142 : decode cX9_termOf 142 = .ok (.if_icmp .ne 11, 3) := by decide +kernel
theorem dX9_termOf_145 : decode cX9_termOf 145 = .ok (.iload 6, 2) := by decide +kernel
theorem dX9_termOf_147 : decode cX9_termOf 147 = .ok (.iload 7, 2) := by decide +kernel
theorem dX9_termOf_149 : decode cX9_termOf 149 = .ok (.imul, 1) := by decide +kernel
theorem dX9_termOf_150 : decode cX9_termOf 150 = .ok (.goto 8, 3) := by decide +kernel
theorem dX9_termOf_153 : decode cX9_termOf 153 = .ok (.iload 6, 2) := by decide +kernel
theorem dX9_termOf_155 : decode cX9_termOf 155 = .ok (.iload 7, 2) := by decide +kernel
theorem dX9_termOf_157 : decode cX9_termOf 157 = .ok (.idiv, 1) := by decide +kernel
theorem dX9_termOf_158 : decode cX9_termOf 158 = .ok (.iastore, 1) := by decide +kernel
theorem dX9_termOf_159 : decode cX9_termOf 159 = .ok (.iinc 4 1, 3) := by decide +kernel
theorem dX9_termOf_162 : decode cX9_termOf 162 = .ok (.goto (-157), 3) := by decide +kernel
theorem dX9_termOf_165 : decode cX9_termOf 165 = .ok (.aload_n 0, 1) := by decide +kernel
theorem dX9_termOf_166 : decode cX9_termOf 166 = .ok (.getfield 88, 3) := by decide +kernel
theorem dX9_termOf_169 : decode cX9_termOf 169 = .ok (.iconst 0, 1) := by decide +kernel
theorem dX9_termOf_170 : decode cX9_termOf 170 = .ok (.iaload, 1) := by decide +kernel
theorem dX9_termOf_171 : decode cX9_termOf 171 = .ok (.ireturn, 1) := by decide +kernel
theorem dX9_in_0 : decode cX9_in 0 = .ok (.iload_n 0, 1) := by decide +kernel
theorem dX9_in_1 : decode cX9_in 1 = .ok (.iload_n 1, 1) := by decide +kernel
theorem dX9_in_2 : decode cX9_in 2 = .ok (.if_icmp .lt 12, 3) := by decide +kernel
theorem dX9_in_5 : decode cX9_in 5 = .ok (.iload_n 0, 1) := by decide +kernel
theorem dX9_in_6 : decode cX9_in 6 = .ok (.iload_n 2, 1) := by decide +kernel
theorem dX9_in_7 : decode cX9_in 7 = .ok (.if_icmp .gt 7, 3) := by decide +kernel
theorem dX9_in_10 : decode cX9_in 10 = .ok (.iconst 1, 1) := by decide +kernel
theorem dX9_in_11 : decode cX9_in 11 = .ok (.goto 4, 3) := by decide +kernel
theorem dX9_in_14 : decode cX9_in 14 = .ok (.iconst 0, 1) := by decide +kernel
theorem dX9_in_15 : decode cX9_in 15 = .ok (.ireturn, 1) := by decide +kernel
theorem dX9_isCopy_0 : decode cX9_isCopy 0 = .ok (.iload_n 1, 1) := by decide +kernel
theorem dX9_isCopy_1 : decode cX9_isCopy 1 = .ok (.iconst 0, 1) := by decide +kernel
theorem dX9_isCopy_2 : decode cX9_isCopy 2 = .ok (.aload_n 0, 1) := by decide +kernel
theorem dX9_isCopy_3 : decode cX9_isCopy 3 = .ok (.getfield 46, 3) := by decide +kernel
theorem dX9_isCopy_6 : decode cX9_isCopy 6 = .ok (.aload_n 0, 1) := by decide +kernel
theorem dX9_isCopy_7 : decode cX9_isCopy 7 = .ok (.getfield 209, 3) := by decide +kernel
theorem dX9_isCopy_10 : decode cX9_isCopy 10 = .ok (.iaload, 1) := by decide +kernel
theorem dX9_isCopy_11 : decode cX9_isCopy 11 = .ok (.iconst 1, 1) := by decide +kernel
theorem dX9_isCopy_12 : decode cX9_isCopy 12 = .ok (.isub, 1) := by decide +kernel
theorem dX9_isCopy_13 : decode cX9_isCopy 13 = .ok (.invokestatic 283, 3) := by decide +kernel
theorem dX9_isCopy_16 : decode cX9_isCopy 16 = .ok (.ireturn, 1) := by decide +kernel
theorem dX9_isCell_0 : decode cX9_isCell 0 = .ok (.iload_n 1, 1) := by decide +kernel
theorem dX9_isCell_1 : decode cX9_isCell 1 = .ok (.iconst 0, 1) := by decide +kernel
theorem dX9_isCell_2 : decode cX9_isCell 2 = .ok (.aload_n 0, 1) := by decide +kernel
theorem dX9_isCell_3 : decode cX9_isCell 3 = .ok (.getfield 52, 3) := by decide +kernel
theorem dX9_isCell_6 : decode cX9_isCell 6 = .ok (.aload_n 0, 1) := by decide +kernel
theorem dX9_isCell_7 : decode cX9_isCell 7 = .ok (.getfield 209, 3) := by decide +kernel
theorem dX9_isCell_10 : decode cX9_isCell 10 = .ok (.iaload, 1) := by decide +kernel
theorem dX9_isCell_11 : decode cX9_isCell 11 = .ok (.iconst 1, 1) := by decide +kernel
theorem dX9_isCell_12 : decode cX9_isCell 12 = .ok (.isub, 1) := by decide +kernel
theorem dX9_isCell_13 : decode cX9_isCell 13 = .ok (.invokestatic 283, 3) := by decide +kernel
theorem dX9_isCell_16 : decode cX9_isCell 16 = .ok (.ireturn, 1) := by decide +kernel
theorem dX9_isSession_0 : decode cX9_isSession 0 = .ok (.iload_n 0, 1) := by decide +kernel
theorem dX9_isSession_1 : decode cX9_isSession 1 = .ok (.iconst 0, 1) := by decide +kernel
theorem dX9_isSession_2 : decode cX9_isSession 2 = .ok (.iconst 3, 1) := by decide +kernel
theorem dX9_isSession_3 : decode cX9_isSession 3 = .ok (.invokestatic 283, 3) := by decide +kernel
theorem dX9_isSession_6 : decode cX9_isSession 6 = .ok (.ireturn, 1) := by decide +kernel
theorem dX9_isWrite_0 : decode cX9_isWrite 0 = .ok (.iload_n 1, 1) := by decide +kernel
theorem dX9_isWrite_1 : decode cX9_isWrite 1 = .ok (.iconst 0, 1) := by decide +kernel
theorem dX9_isWrite_2 : decode cX9_isWrite 2 = .ok (.aload_n 0, 1) := by decide +kernel
theorem dX9_isWrite_3 : decode cX9_isWrite 3 = .ok (.getfield 91, 3) := by decide +kernel
theorem dX9_isWrite_6 : decode cX9_isWrite 6 = .ok (.iconst 0, 1) := by decide +kernel
theorem dX9_isWrite_7 : decode cX9_isWrite 7 = .ok (.iaload, 1) := by decide +kernel
theorem dX9_isWrite_8 : decode cX9_isWrite 8 = .ok (.iconst 1, 1) := by decide +kernel
theorem dX9_isWrite_9 : decode cX9_isWrite 9 = .ok (.isub, 1) := by decide +kernel
theorem dX9_isWrite_10 : decode cX9_isWrite 10 = .ok (.invokestatic 283, 3) := by decide +kernel
theorem dX9_isWrite_13 : decode cX9_isWrite 13 = .ok (.ireturn, 1) := by decide +kernel
theorem dX9_copiesNow_0 : decode cX9_copiesNow 0 = .ok (.iconst 0, 1) := by decide +kernel
theorem dX9_copiesNow_1 : decode cX9_copiesNow 1 = .ok (.istore_n 1, 1) := by decide +kernel
theorem dX9_copiesNow_2 : decode cX9_copiesNow 2 = .ok (.iload_n 1, 1) := by decide +kernel
theorem dX9_copiesNow_3 : decode cX9_copiesNow 3 = .ok (.sipush 770, 3) := by decide +kernel
theorem dX9_copiesNow_6 : decode cX9_copiesNow 6 = .ok (.if_icmp .ge 21, 3) := by decide +kernel
theorem dX9_copiesNow_9 : decode cX9_copiesNow 9 = .ok (.aload_n 0, 1) := by decide +kernel
theorem dX9_copiesNow_10 : decode cX9_copiesNow 10 = .ok (.getfield 94, 3) := by decide +kernel
theorem dX9_copiesNow_13 : decode cX9_copiesNow 13 = .ok (.iload_n 1, 1) := by decide +kernel
theorem dX9_copiesNow_14 : decode cX9_copiesNow 14 = .ok (.aload_n 0, 1) := by decide +kernel
theorem dX9_copiesNow_15 : decode cX9_copiesNow 15 = .ok (.getfield 91, 3) := by decide +kernel
theorem dX9_copiesNow_18 : decode cX9_copiesNow 18 = .ok (.iload_n 1, 1) := by decide +kernel
theorem dX9_copiesNow_19 : decode cX9_copiesNow 19 = .ok (.iaload, 1) := by decide +kernel
theorem dX9_copiesNow_20 : decode cX9_copiesNow 20 = .ok (.iastore, 1) := by decide +kernel
theorem dX9_copiesNow_21 : decode cX9_copiesNow 21 = .ok (.iinc 1 1, 3) := by decide +kernel
theorem dX9_copiesNow_24 : decode cX9_copiesNow 24 = .ok (.goto (-22), 3) := by decide +kernel
theorem dX9_copiesNow_27 : decode cX9_copiesNow 27 = .ok (.aload_n 0, 1) := by decide +kernel
theorem dX9_copiesNow_28 : decode cX9_copiesNow 28 = .ok (.aload_n 0, 1) := by decide +kernel
theorem dX9_copiesNow_29 : decode cX9_copiesNow 29 = .ok (.getfield 73, 3) := by decide +kernel
theorem dX9_copiesNow_32 : decode cX9_copiesNow 32 = .ok (.aload_n 0, 1) := by decide +kernel
theorem dX9_copiesNow_33 : decode cX9_copiesNow 33 = .ok (.getfield 209, 3) := by decide +kernel
theorem dX9_copiesNow_36 : decode cX9_copiesNow 36 = .ok (.iaload, 1) := by decide +kernel
theorem dX9_copiesNow_37 : decode cX9_copiesNow 37 = .ok (.putfield 287, 3) := by decide +kernel
theorem dX9_copiesNow_40 : decode cX9_copiesNow 40 = .ok (.return_, 1) := by decide +kernel
theorem dX9_mixed_0 : decode cX9_mixed 0 = .ok (.iload_n 0, 1) := by decide +kernel
theorem dX9_mixed_1 : decode cX9_mixed 1 = .ok (.iload_n 1, 1) := by decide +kernel
theorem dX9_mixed_2 : decode cX9_mixed 2 = .ok (.ixor, 1) := by decide +kernel
theorem dX9_mixed_3 : decode cX9_mixed 3 = .ok (.ldc_w 290, 3) := by decide +kernel
theorem dX9_mixed_6 : decode cX9_mixed 6 = .ok (.imul, 1) := by decide +kernel
theorem dX9_mixed_7 : decode cX9_mixed 7 = .ok (.sipush 12345, 3) := by decide +kernel
theorem dX9_mixed_10 : decode cX9_mixed 10 = .ok (.iadd, 1) := by decide +kernel
theorem dX9_mixed_11 : decode cX9_mixed 11 = .ok (.istore_n 2, 1) := by decide +kernel
theorem dX9_mixed_12 : decode cX9_mixed 12 = .ok (.iload_n 2, 1) := by decide +kernel
theorem dX9_mixed_13 : decode cX9_mixed 13 = .ok (.iload_n 2, 1) := by decide +kernel
theorem dX9_mixed_14 : decode cX9_mixed 14 = .ok (.bipush 15, 2) := by decide +kernel
theorem dX9_mixed_16 : decode cX9_mixed 16 = .ok (.iushr, 1) := by decide +kernel
theorem dX9_mixed_17 : decode cX9_mixed 17 = .ok (.ixor, 1) := by decide +kernel
theorem dX9_mixed_18 : decode cX9_mixed 18 = .ok (.ireturn, 1) := by decide +kernel
theorem dX9_lotOf_0 : decode cX9_lotOf 0 = .ok (.aload_n 0, 1) := by decide +kernel
theorem dX9_lotOf_1 : decode cX9_lotOf 1 = .ok (.getfield 287, 3) := by decide +kernel
theorem dX9_lotOf_4 : decode cX9_lotOf 4 = .ok (.sipush 223, 3) := by decide +kernel
theorem dX9_lotOf_7 : decode cX9_lotOf 7 = .ok (.invokestatic 291, 3) := by decide +kernel
theorem dX9_lotOf_10 : decode cX9_lotOf 10 = .ok (.iload_n 1, 1) := by decide +kernel
theorem dX9_lotOf_11 : decode cX9_lotOf 11 = .ok (.invokestatic 291, 3) := by decide +kernel
theorem dX9_lotOf_14 : decode cX9_lotOf 14 = .ok (.iconst 1, 1) := by decide +kernel
theorem dX9_lotOf_15 : decode cX9_lotOf 15 = .ok (.iushr, 1) := by decide +kernel
theorem dX9_lotOf_16 : decode cX9_lotOf 16 = .ok (.iload_n 2, 1) := by decide +kernel
theorem dX9_lotOf_17 : decode cX9_lotOf 17 = .ok (.irem, 1) := by decide +kernel
theorem dX9_lotOf_18 : decode cX9_lotOf 18 = .ok (.ireturn, 1) := by decide +kernel
theorem dX9_doesHave_0 : decode cX9_doesHave 0 = .ok (.aload_n 0, 1) := by decide +kernel
theorem dX9_doesHave_1 : decode cX9_doesHave 1 = .ok (.getfield 94, 3) := by decide +kernel
theorem dX9_doesHave_4 : decode cX9_doesHave 4 = .ok (.sipush 470, 3) := by decide +kernel
theorem dX9_doesHave_7 : decode cX9_doesHave 7 = .ok (.bipush 60, 2) := by decide +kernel
theorem dX9_doesHave_9 : decode cX9_doesHave 9 = .ok (.iload_n 1, 1) := by decide +kernel
theorem dX9_doesHave_10 : decode cX9_doesHave 10 = .ok (.imul, 1) := by decide +kernel
theorem dX9_doesHave_11 : decode cX9_doesHave 11 = .ok (.iadd, 1) := by decide +kernel
theorem dX9_doesHave_12 : decode cX9_doesHave 12 = .ok (.iload_n 2, 1) := by decide +kernel
theorem dX9_doesHave_13 : decode cX9_doesHave 13 = .ok (.iadd, 1) := by decide +kernel
theorem dX9_doesHave_14 : decode cX9_doesHave 14 = .ok (.iaload, 1) := by decide +kernel
theorem dX9_doesHave_15 : decode cX9_doesHave 15 = .ok (.iconst 1, 1) := by decide +kernel
theorem dX9_doesHave_16 : decode cX9_doesHave 16 = .ok (.if_icmp .ne 7, 3) := by decide +kernel
theorem dX9_doesHave_19 : decode cX9_doesHave 19 = .ok (.iconst 1, 1) := by decide +kernel
theorem dX9_doesHave_20 : decode cX9_doesHave 20 = .ok (.goto 4, 3) := by decide +kernel
theorem dX9_doesHave_23 : decode cX9_doesHave 23 = .ok (.iconst 0, 1) := by decide +kernel
theorem dX9_doesHave_24 : decode cX9_doesHave 24 = .ok (.ireturn, 1) := by decide +kernel
theorem dX9_ofWrite_0 : decode cX9_ofWrite 0 = .ok (.aload_n 0, 1) := by decide +kernel
theorem dX9_ofWrite_1 : decode cX9_ofWrite 1 = .ok (.getfield 94, 3) := by decide +kernel
theorem dX9_ofWrite_4 : decode cX9_ofWrite 4 = .ok (.bipush 110, 2) := by decide +kernel
theorem dX9_ofWrite_6 : decode cX9_ofWrite 6 = .ok (.iconst 5, 1) := by decide +kernel
theorem dX9_ofWrite_7 : decode cX9_ofWrite 7 = .ok (.iload_n 1, 1) := by decide +kernel
theorem dX9_ofWrite_8 : decode cX9_ofWrite 8 = .ok (.imul, 1) := by decide +kernel
theorem dX9_ofWrite_9 : decode cX9_ofWrite 9 = .ok (.iadd, 1) := by decide +kernel
theorem dX9_ofWrite_10 : decode cX9_ofWrite 10 = .ok (.iload_n 2, 1) := by decide +kernel
theorem dX9_ofWrite_11 : decode cX9_ofWrite 11 = .ok (.iadd, 1) := by decide +kernel
theorem dX9_ofWrite_12 : decode cX9_ofWrite 12 = .ok (.iaload, 1) := by decide +kernel
theorem dX9_ofWrite_13 : decode cX9_ofWrite 13 = .ok (.ireturn, 1) := by decide +kernel
theorem dX9_ofCopy_0 : decode cX9_ofCopy 0 = .ok (.aload_n 0, 1) := by decide +kernel
theorem dX9_ofCopy_1 : decode cX9_ofCopy 1 = .ok (.getfield 94, 3) := by decide +kernel
theorem dX9_ofCopy_4 : decode cX9_ofCopy 4 = .ok (.bipush 15, 2) := by decide +kernel
theorem dX9_ofCopy_6 : decode cX9_ofCopy 6 = .ok (.bipush 6, 2) := by decide +kernel
theorem dX9_ofCopy_8 : decode cX9_ofCopy 8 = .ok (.iload_n 1, 1) := by decide +kernel
theorem dX9_ofCopy_9 : decode cX9_ofCopy 9 = .ok (.imul, 1) := by decide +kernel
theorem dX9_ofCopy_10 : decode cX9_ofCopy 10 = .ok (.iadd, 1) := by decide +kernel
theorem dX9_ofCopy_11 : decode cX9_ofCopy 11 = .ok (.iload_n 2, 1) := by decide +kernel
theorem dX9_ofCopy_12 : decode cX9_ofCopy 12 = .ok (.iadd, 1) := by decide +kernel
theorem dX9_ofCopy_13 : decode cX9_ofCopy 13 = .ok (.iaload, 1) := by decide +kernel
theorem dX9_ofCopy_14 : decode cX9_ofCopy 14 = .ok (.ireturn, 1) := by decide +kernel
theorem dX9_adds_0 : decode cX9_adds 0 = .ok (.aload_n 0, 1) := by decide +kernel
theorem dX9_adds_1 : decode cX9_adds 1 = .ok (.getfield 94, 3) := by decide +kernel
theorem dX9_adds_4 : decode cX9_adds 4 = .ok (.bipush 15, 2) := by decide +kernel
theorem dX9_adds_6 : decode cX9_adds 6 = .ok (.bipush 6, 2) := by decide +kernel
theorem dX9_adds_8 : decode cX9_adds 8 = .ok (.iload_n 1, 1) := by decide +kernel
theorem dX9_adds_9 : decode cX9_adds 9 = .ok (.imul, 1) := by decide +kernel
theorem dX9_adds_10 : decode cX9_adds 10 = .ok (.iadd, 1) := by decide +kernel
theorem dX9_adds_11 : decode cX9_adds 11 = .ok (.iload_n 2, 1) := by decide +kernel
theorem dX9_adds_12 : decode cX9_adds 12 = .ok (.iadd, 1) := by decide +kernel
theorem dX9_adds_13 : decode cX9_adds 13 = .ok (.dup2, 1) := by decide +kernel
theorem dX9_adds_14 : decode cX9_adds 14 = .ok (.iaload, 1) := by decide +kernel
theorem dX9_adds_15 : decode cX9_adds 15 = .ok (.iload_n 3, 1) := by decide +kernel
theorem dX9_adds_16 : decode cX9_adds 16 = .ok (.iadd, 1) := by decide +kernel
theorem dX9_adds_17 : decode cX9_adds 17 = .ok (.iastore, 1) := by decide +kernel
theorem dX9_adds_18 : decode cX9_adds 18 = .ok (.return_, 1) := by decide +kernel
theorem dX9_vectorOf_0 : decode cX9_vectorOf 0 = .ok (.iconst 0, 1) := by decide +kernel
theorem dX9_vectorOf_1 : decode cX9_vectorOf 1 = .ok (.istore_n 3, 1) := by decide +kernel
theorem dX9_vectorOf_2 : decode cX9_vectorOf 2 = .ok (.iconst 0, 1) := by decide +kernel
theorem dX9_vectorOf_3 : decode cX9_vectorOf 3 = .ok (.istore 4, 2) := by decide +kernel
theorem dX9_vectorOf_5 : decode cX9_vectorOf 5 = .ok (.iload 4, 2) := by decide +kernel
theorem dX9_vectorOf_7 : decode cX9_vectorOf 7 = .ok (.aload_n 0, 1) := by decide +kernel
theorem dX9_vectorOf_8 : decode cX9_vectorOf 8 = .ok (.getfield 94, 3) := by decide +kernel
theorem dX9_vectorOf_11 : decode cX9_vectorOf 11 = .ok (.iconst 0, 1) := by decide +kernel
theorem dX9_vectorOf_12 : decode cX9_vectorOf 12 = .ok (.iaload, 1) := by decide +kernel
theorem dX9_vectorOf_13 : decode cX9_vectorOf 13 = .ok (.if_icmp .ge 49, 3) := by decide +kernel
theorem dX9_vectorOf_16 : decode cX9_vectorOf 16 = .ok (.aload_n 0, 1) := by decide +kernel
theorem dX9_vectorOf_17 : decode cX9_vectorOf 17 = .ok (.iload_n 1, 1) := by decide +kernel
theorem dX9_vectorOf_18 : decode cX9_vectorOf 18 = .ok (.iload 4, 2) := by decide +kernel
theorem dX9_vectorOf_20 : decode cX9_vectorOf 20 = .ok (.invokevirtual 294, 3) := by decide +kernel
theorem dX9_vectorOf_23 : decode cX9_vectorOf 23 = .ok (.ifCond .eq 33, 3) := by decide +kernel
theorem dX9_vectorOf_26 : decode cX9_vectorOf 26 = .ok (.aload_n 0, 1) := by decide +kernel
theorem dX9_vectorOf_27 : decode cX9_vectorOf 27 = .ok (.iload 4, 2) := by decide +kernel
theorem dX9_vectorOf_29 : decode cX9_vectorOf 29 = .ok (.iconst 2, 1) := by decide +kernel
theorem dX9_vectorOf_30 : decode cX9_vectorOf 30 = .ok (.invokevirtual 298, 3) := by decide +kernel
theorem dX9_vectorOf_33 : decode cX9_vectorOf 33 = .ok (.iload_n 2, 1) := by decide +kernel
theorem dX9_vectorOf_34 : decode cX9_vectorOf 34 = .ok (.if_icmp .ne 22, 3) := by decide +kernel
theorem dX9_vectorOf_37 : decode cX9_vectorOf 37 = .ok (.aload_n 0, 1) := by decide +kernel
theorem dX9_vectorOf_38 : decode cX9_vectorOf 38 = .ok (.iload 4, 2) := by decide +kernel
theorem dX9_vectorOf_40 : decode cX9_vectorOf 40 = .ok (.iconst 3, 1) := by decide +kernel
theorem dX9_vectorOf_41 : decode cX9_vectorOf 41 = .ok (.invokevirtual 298, 3) := by decide +kernel
theorem dX9_vectorOf_44 : decode cX9_vectorOf 44 = .ok (.iload_n 3, 1) := by decide +kernel
theorem dX9_vectorOf_45 : decode cX9_vectorOf 45 = .ok (.if_icmp .le 11, 3) := by decide +kernel
theorem dX9_vectorOf_48 : decode cX9_vectorOf 48 = .ok (.aload_n 0, 1) := by decide +kernel
theorem dX9_vectorOf_49 : decode cX9_vectorOf 49 = .ok (.iload 4, 2) := by decide +kernel
theorem dX9_vectorOf_51 : decode cX9_vectorOf 51 = .ok (.iconst 3, 1) := by decide +kernel
theorem dX9_vectorOf_52 : decode cX9_vectorOf 52 = .ok (.invokevirtual 298, 3) := by decide +kernel
theorem dX9_vectorOf_55 : decode cX9_vectorOf 55 = .ok (.istore_n 3, 1) := by decide +kernel
theorem dX9_vectorOf_56 : decode cX9_vectorOf 56 = .ok (.iinc 4 1, 3) := by decide +kernel
theorem dX9_vectorOf_59 : decode cX9_vectorOf 59 = .ok (.goto (-54), 3) := by decide +kernel
theorem dX9_vectorOf_62 : decode cX9_vectorOf 62 = .ok (.iload_n 3, 1) := by decide +kernel
theorem dX9_vectorOf_63 : decode cX9_vectorOf 63 = .ok (.ireturn, 1) := by decide +kernel
theorem dX9_clockOf_0 : decode cX9_clockOf 0 = .ok (.iconst 0, 1) := by decide +kernel
theorem dX9_clockOf_1 : decode cX9_clockOf 1 = .ok (.istore_n 2, 1) := by decide +kernel
theorem dX9_clockOf_2 : decode cX9_clockOf 2 = .ok (.iconst 0, 1) := by decide +kernel
theorem dX9_clockOf_3 : decode cX9_clockOf 3 = .ok (.istore_n 3, 1) := by decide +kernel
theorem dX9_clockOf_4 : decode cX9_clockOf 4 = .ok (.iload_n 3, 1) := by decide +kernel
theorem dX9_clockOf_5 : decode cX9_clockOf 5 = .ok (.aload_n 0, 1) := by decide +kernel
theorem dX9_clockOf_6 : decode cX9_clockOf 6 = .ok (.getfield 94, 3) := by decide +kernel
theorem dX9_clockOf_9 : decode cX9_clockOf 9 = .ok (.iconst 0, 1) := by decide +kernel
theorem dX9_clockOf_10 : decode cX9_clockOf 10 = .ok (.iaload, 1) := by decide +kernel
theorem dX9_clockOf_11 : decode cX9_clockOf 11 = .ok (.if_icmp .ge 35, 3) := by decide +kernel
theorem dX9_clockOf_14 : decode cX9_clockOf 14 = .ok (.aload_n 0, 1) := by decide +kernel
theorem dX9_clockOf_15 : decode cX9_clockOf 15 = .ok (.iload_n 1, 1) := by decide +kernel
theorem dX9_clockOf_16 : decode cX9_clockOf 16 = .ok (.iload_n 3, 1) := by decide +kernel
theorem dX9_clockOf_17 : decode cX9_clockOf 17 = .ok (.invokevirtual 294, 3) := by decide +kernel
theorem dX9_clockOf_20 : decode cX9_clockOf 20 = .ok (.ifCond .eq 20, 3) := by decide +kernel
theorem dX9_clockOf_23 : decode cX9_clockOf 23 = .ok (.aload_n 0, 1) := by decide +kernel
theorem dX9_clockOf_24 : decode cX9_clockOf 24 = .ok (.iload_n 3, 1) := by decide +kernel
theorem dX9_clockOf_25 : decode cX9_clockOf 25 = .ok (.iconst 3, 1) := by decide +kernel
theorem dX9_clockOf_26 : decode cX9_clockOf 26 = .ok (.invokevirtual 298, 3) := by decide +kernel
theorem dX9_clockOf_29 : decode cX9_clockOf 29 = .ok (.iload_n 2, 1) := by decide +kernel
theorem dX9_clockOf_30 : decode cX9_clockOf 30 = .ok (.if_icmp .le 10, 3) := by decide +kernel
theorem dX9_clockOf_33 : decode cX9_clockOf 33 = .ok (.aload_n 0, 1) := by decide +kernel
theorem dX9_clockOf_34 : decode cX9_clockOf 34 = .ok (.iload_n 3, 1) := by decide +kernel
theorem dX9_clockOf_35 : decode cX9_clockOf 35 = .ok (.iconst 3, 1) := by decide +kernel
theorem dX9_clockOf_36 : decode cX9_clockOf 36 = .ok (.invokevirtual 298, 3) := by decide +kernel
theorem dX9_clockOf_39 : decode cX9_clockOf 39 = .ok (.istore_n 2, 1) := by decide +kernel
theorem dX9_clockOf_40 : decode cX9_clockOf 40 = .ok (.iinc 3 1, 3) := by decide +kernel
theorem dX9_clockOf_43 : decode cX9_clockOf 43 = .ok (.goto (-39), 3) := by decide +kernel
theorem dX9_clockOf_46 : decode cX9_clockOf 46 = .ok (.iload_n 2, 1) := by decide +kernel
theorem dX9_clockOf_47 : decode cX9_clockOf 47 = .ok (.ireturn, 1) := by decide +kernel
theorem dX9_isAhead_0 : decode cX9_isAhead 0 = .ok (.aload_n 0, 1) := by decide +kernel
theorem dX9_isAhead_1 : decode cX9_isAhead 1 = .ok (.iload_n 1, 1) := by decide +kernel
theorem dX9_isAhead_2 : decode cX9_isAhead 2 = .ok (.iconst 3, 1) := by decide +kernel
theorem dX9_isAhead_3 : decode cX9_isAhead 3 = .ok (.invokevirtual 298, 3) := by decide +kernel
theorem dX9_isAhead_6 : decode cX9_isAhead 6 = .ok (.istore_n 3, 1) := by decide +kernel
theorem dX9_isAhead_7 : decode cX9_isAhead 7 = .ok (.aload_n 0, 1) := by decide +kernel
theorem dX9_isAhead_8 : decode cX9_isAhead 8 = .ok (.iload_n 2, 1) := by decide +kernel
theorem dX9_isAhead_9 : decode cX9_isAhead 9 = .ok (.iconst 3, 1) := by decide +kernel
theorem dX9_isAhead_10 : decode cX9_isAhead 10 = .ok (.invokevirtual 298, 3) := by decide +kernel
theorem dX9_isAhead_13 : decode cX9_isAhead 13 = .ok (.istore 4, 2) := by decide +kernel
theorem dX9_isAhead_15 : decode cX9_isAhead 15 = .ok (.iload_n 3, 1) := by decide +kernel
theorem dX9_isAhead_16 : decode cX9_isAhead 16 = .ok (.iload 4, 2) := by decide +kernel
theorem dX9_isAhead_18 : decode cX9_isAhead 18 = .ok (.if_icmp .lt 24, 3) := by decide +kernel
theorem dX9_isAhead_21 : decode cX9_isAhead 21 = .ok (.iload_n 3, 1) := by decide +kernel
theorem dX9_isAhead_22 : decode cX9_isAhead 22 = .ok (.iload 4, 2) := by decide +kernel
theorem dX9_isAhead_24 : decode cX9_isAhead 24 = .ok (.if_icmp .ne 22, 3) := by decide +kernel
theorem dX9_isAhead_27 : decode cX9_isAhead 27 = .ok (.aload_n 0, 1) := by decide +kernel
theorem dX9_isAhead_28 : decode cX9_isAhead 28 = .ok (.iload_n 1, 1) := by decide +kernel
theorem dX9_isAhead_29 : decode cX9_isAhead 29 = .ok (.iconst 2, 1) := by decide +kernel
theorem dX9_isAhead_30 : decode cX9_isAhead 30 = .ok (.invokevirtual 298, 3) := by decide +kernel
theorem dX9_isAhead_33 : decode cX9_isAhead 33 = .ok (.aload_n 0, 1) := by decide +kernel
theorem dX9_isAhead_34 : decode cX9_isAhead 34 = .ok (.iload_n 2, 1) := by decide +kernel
theorem dX9_isAhead_35 : decode cX9_isAhead 35 = .ok (.iconst 2, 1) := by decide +kernel
theorem dX9_isAhead_36 : decode cX9_isAhead 36 = .ok (.invokevirtual 298, 3) := by decide +kernel
theorem dX9_isAhead_39 : decode cX9_isAhead 39 = .ok (.if_icmp .ge 7, 3) := by decide +kernel
theorem dX9_isAhead_42 : decode cX9_isAhead 42 = .ok (.iconst 1, 1) := by decide +kernel
theorem dX9_isAhead_43 : decode cX9_isAhead 43 = .ok (.goto 4, 3) := by decide +kernel
theorem dX9_isAhead_46 : decode cX9_isAhead 46 = .ok (.iconst 0, 1) := by decide +kernel
theorem dX9_isAhead_47 : decode cX9_isAhead 47 = .ok (.ireturn, 1) := by decide +kernel
theorem dX9_isKnown_0 : decode cX9_isKnown 0 = .ok (.aload_n 0, 1) := by decide +kernel
theorem dX9_isKnown_1 : decode cX9_isKnown 1 = .ok (.iload_n 2, 1) := by decide +kernel
theorem dX9_isKnown_2 : decode cX9_isKnown 2 = .ok (.iconst 4, 1) := by decide +kernel
theorem dX9_isKnown_3 : decode cX9_isKnown 3 = .ok (.invokevirtual 298, 3) := by decide +kernel
theorem dX9_isKnown_6 : decode cX9_isKnown 6 = .ok (.ifCond .lt 22, 3) := by decide +kernel
theorem dX9_isKnown_9 : decode cX9_isKnown 9 = .ok (.aload_n 0, 1) := by decide +kernel
theorem dX9_isKnown_10 : decode cX9_isKnown 10 = .ok (.iload_n 2, 1) := by decide +kernel
theorem dX9_isKnown_11 : decode cX9_isKnown 11 = .ok (.iconst 4, 1) := by decide +kernel
theorem dX9_isKnown_12 : decode cX9_isKnown 12 = .ok (.invokevirtual 298, 3) := by decide +kernel
theorem dX9_isKnown_15 : decode cX9_isKnown 15 = .ok (.aload_n 0, 1) := by decide +kernel
theorem dX9_isKnown_16 : decode cX9_isKnown 16 = .ok (.iload_n 1, 1) := by decide +kernel
theorem dX9_isKnown_17 : decode cX9_isKnown 17 = .ok (.iconst 0, 1) := by decide +kernel
theorem dX9_isKnown_18 : decode cX9_isKnown 18 = .ok (.invokevirtual 301, 3) := by decide +kernel
theorem dX9_isKnown_21 : decode cX9_isKnown 21 = .ok (.if_icmp .ge 7, 3) := by decide +kernel
theorem dX9_isKnown_24 : decode cX9_isKnown 24 = .ok (.iconst 1, 1) := by decide +kernel
theorem dX9_isKnown_25 : decode cX9_isKnown 25 = .ok (.goto 4, 3) := by decide +kernel
theorem dX9_isKnown_28 : decode cX9_isKnown 28 = .ok (.iconst 0, 1) := by decide +kernel
theorem dX9_isKnown_29 : decode cX9_isKnown 29 = .ok (.ireturn, 1) := by decide +kernel
theorem dX9_fillsLog_0 : decode cX9_fillsLog 0 = .ok (.aload_n 0, 1) := by decide +kernel
theorem dX9_fillsLog_1 : decode cX9_fillsLog 1 = .ok (.iload_n 1, 1) := by decide +kernel
theorem dX9_fillsLog_2 : decode cX9_fillsLog 2 = .ok (.iconst 0, 1) := by decide +kernel
theorem dX9_fillsLog_3 : decode cX9_fillsLog 3 = .ok (.invokevirtual 301, 3) := by decide +kernel
theorem dX9_fillsLog_6 : decode cX9_fillsLog 6 = .ok (.istore_n 2, 1) := by decide +kernel
theorem dX9_fillsLog_7 : decode cX9_fillsLog 7 = .ok (.aload_n 0, 1) := by decide +kernel
theorem dX9_fillsLog_8 : decode cX9_fillsLog 8 = .ok (.iconst 0, 1) := by decide +kernel
theorem dX9_fillsLog_9 : decode cX9_fillsLog 9 = .ok (.putfield 304, 3) := by decide +kernel
theorem dX9_fillsLog_12 : decode cX9_fillsLog 12 = .ok (.iconst 0, 1) := by decide +kernel
theorem dX9_fillsLog_13 : decode cX9_fillsLog 13 = .ok (.istore_n 3, 1) := by decide +kernel
theorem dX9_fillsLog_14 : decode cX9_fillsLog 14 = .ok (.iload_n 3, 1) := by decide +kernel
theorem dX9_fillsLog_15 : decode cX9_fillsLog 15 = .ok (.iload_n 2, 1) := by decide +kernel
theorem dX9_fillsLog_16 : decode cX9_fillsLog 16 = .ok (.if_icmp .ge 38, 3) := by decide +kernel
theorem dX9_fillsLog_19 : decode cX9_fillsLog 19 = .ok (.aload_n 0, 1) := by decide +kernel
theorem dX9_fillsLog_20 : decode cX9_fillsLog 20 = .ok (.getfield 97, 3) := by decide +kernel
theorem dX9_fillsLog_23 : decode cX9_fillsLog 23 = .ok (.aload_n 0, 1) := by decide +kernel
theorem dX9_fillsLog_24 : decode cX9_fillsLog 24 = .ok (.getfield 304, 3) := by decide +kernel
theorem dX9_fillsLog_27 : decode cX9_fillsLog 27 = .ok (.aload_n 0, 1) := by decide +kernel
theorem dX9_fillsLog_28 : decode cX9_fillsLog 28 = .ok (.getfield 94, 3) := by decide +kernel
theorem dX9_fillsLog_31 : decode cX9_fillsLog 31 = .ok (.sipush 410, 3) := by decide +kernel
theorem dX9_fillsLog_34 : decode cX9_fillsLog 34 = .ok (.iload_n 3, 1) := by decide +kernel
theorem dX9_fillsLog_35 : decode cX9_fillsLog 35 = .ok (.iadd, 1) := by decide +kernel
theorem dX9_fillsLog_36 : decode cX9_fillsLog 36 = .ok (.iaload, 1) := by decide +kernel
theorem dX9_fillsLog_37 : decode cX9_fillsLog 37 = .ok (.iastore, 1) := by decide +kernel
theorem dX9_fillsLog_38 : decode cX9_fillsLog 38 = .ok (.aload_n 0, 1) := by decide +kernel
theorem dX9_fillsLog_39 : decode cX9_fillsLog 39 = .ok (.dup, 1) := by decide +kernel
theorem dX9_fillsLog_40 : decode cX9_fillsLog 40 = .ok (.getfield 304, 3) := by decide +kernel
theorem dX9_fillsLog_43 : decode cX9_fillsLog 43 = .ok (.iconst 1, 1) := by decide +kernel
theorem dX9_fillsLog_44 : decode cX9_fillsLog 44 = .ok (.iadd, 1) := by decide +kernel
theorem dX9_fillsLog_45 : decode cX9_fillsLog 45 = .ok (.putfield 304, 3) := by decide +kernel
theorem dX9_fillsLog_48 : decode cX9_fillsLog 48 = .ok (.iinc 3 1, 3) := by decide +kernel
theorem dX9_fillsLog_51 : decode cX9_fillsLog 51 = .ok (.goto (-37), 3) := by decide +kernel
theorem dX9_fillsLog_54 : decode cX9_fillsLog 54 = .ok (.iconst 0, 1) := by decide +kernel
theorem dX9_fillsLog_55 : decode cX9_fillsLog 55 = .ok (.istore_n 3, 1) := by decide +kernel
theorem dX9_fillsLog_56 : decode cX9_fillsLog 56 = .ok (.iload_n 3, 1) := by decide +kernel
theorem dX9_fillsLog_57 : decode cX9_fillsLog 57 = .ok (.aload_n 0, 1) := by decide +kernel
theorem dX9_fillsLog_58 : decode cX9_fillsLog 58 = .ok (.getfield 94, 3) := by decide +kernel
theorem dX9_fillsLog_61 : decode cX9_fillsLog 61 = .ok (.iconst 0, 1) := by decide +kernel
theorem dX9_fillsLog_62 : decode cX9_fillsLog 62 = .ok (.iaload, 1) := by decide +kernel
theorem dX9_fillsLog_63 : decode cX9_fillsLog 63 = .ok (.if_icmp .ge 99, 3) := by decide +kernel
theorem dX9_fillsLog_66 : decode cX9_fillsLog 66 = .ok (.aload_n 0, 1) := by decide +kernel
theorem dX9_fillsLog_67 : decode cX9_fillsLog 67 = .ok (.iload_n 1, 1) := by decide +kernel
theorem dX9_fillsLog_68 : decode cX9_fillsLog 68 = .ok (.iload_n 3, 1) := by decide +kernel
theorem dX9_fillsLog_69 : decode cX9_fillsLog 69 = .ok (.invokevirtual 294, 3) := by decide +kernel
theorem dX9_fillsLog_72 : decode cX9_fillsLog 72 = .ok (.ifCond .eq 84, 3) := by decide +kernel
theorem dX9_fillsLog_75 : decode cX9_fillsLog 75 = .ok (.aload_n 0, 1) := by decide +kernel
theorem dX9_fillsLog_76 : decode cX9_fillsLog 76 = .ok (.iload_n 1, 1) := by decide +kernel
theorem dX9_fillsLog_77 : decode cX9_fillsLog 77 = .ok (.iload_n 3, 1) := by decide +kernel
theorem dX9_fillsLog_78 : decode cX9_fillsLog 78 = .ok (.invokevirtual 307, 3) := by decide +kernel
theorem dX9_fillsLog_81 : decode cX9_fillsLog 81 = .ok (.ifCond .eq 6, 3) := by decide +kernel
theorem dX9_fillsLog_84 : decode cX9_fillsLog 84 = .ok (.goto 72, 3) := by decide +kernel
theorem dX9_fillsLog_87 : decode cX9_fillsLog 87 = .ok (.aload_n 0, 1) := by decide +kernel
theorem dX9_fillsLog_88 : decode cX9_fillsLog 88 = .ok (.getfield 304, 3) := by decide +kernel
theorem dX9_fillsLog_91 : decode cX9_fillsLog 91 = .ok (.istore 4, 2) := by decide +kernel
theorem dX9_fillsLog_93 : decode cX9_fillsLog 93 = .ok (.iload 4, 2) := by decide +kernel
theorem dX9_fillsLog_95 : decode cX9_fillsLog 95 = .ok (.iload_n 2, 1) := by decide +kernel
theorem dX9_fillsLog_96 : decode cX9_fillsLog 96 = .ok (.if_icmp .le 42, 3) := by decide +kernel
theorem dX9_fillsLog_99 : decode cX9_fillsLog 99 = .ok (.aload_n 0, 1) := by decide +kernel
theorem dX9_fillsLog_100 : decode cX9_fillsLog 100 = .ok (.iload_n 3, 1) := by decide +kernel
theorem dX9_fillsLog_101 : decode cX9_fillsLog 101 = .ok (.aload_n 0, 1) := by decide +kernel
theorem dX9_fillsLog_102 : decode cX9_fillsLog 102 = .ok (.getfield 97, 3) := by decide +kernel
theorem dX9_fillsLog_105 : decode cX9_fillsLog 105 = .ok (.iload 4, 2) := by decide +kernel
theorem dX9_fillsLog_107 : decode cX9_fillsLog 107 = .ok (.iconst 1, 1) := by decide +kernel
theorem dX9_fillsLog_108 : decode cX9_fillsLog 108 = .ok (.isub, 1) := by decide +kernel
theorem dX9_fillsLog_109 : decode cX9_fillsLog 109 = .ok (.iaload, 1) := by decide +kernel
theorem dX9_fillsLog_110 : decode cX9_fillsLog 110 = .ok (.invokevirtual 310, 3) := by decide +kernel
theorem dX9_fillsLog_113 : decode cX9_fillsLog 113 = .ok (.ifCond .eq 25, 3) := by decide +kernel
theorem dX9_fillsLog_116 : decode cX9_fillsLog 116 = .ok (.aload_n 0, 1) := by decide +kernel
theorem dX9_fillsLog_117 : decode cX9_fillsLog 117 = .ok (.getfield 97, 3) := by decide +kernel
theorem dX9_fillsLog_120 : decode cX9_fillsLog 120 = .ok (.iload 4, 2) := by decide +kernel
theorem dX9_fillsLog_122 : decode cX9_fillsLog 122 = .ok (.aload_n 0, 1) := by decide +kernel
theorem dX9_fillsLog_123 : decode cX9_fillsLog 123 = .ok (.getfield 97, 3) := by decide +kernel
theorem dX9_fillsLog_126 : decode cX9_fillsLog 126 = .ok (.iload 4, 2) := by decide +kernel
theorem dX9_fillsLog_128 : decode cX9_fillsLog 128 = .ok (.iconst 1, 1) := by decide +kernel
theorem dX9_fillsLog_129 : decode cX9_fillsLog 129 = .ok (.isub, 1) := by decide +kernel
theorem dX9_fillsLog_130 : decode cX9_fillsLog 130 = .ok (.iaload, 1) := by decide +kernel
theorem dX9_fillsLog_131 : decode cX9_fillsLog 131 = .ok (.iastore, 1) := by decide +kernel
theorem dX9_fillsLog_132 : decode cX9_fillsLog 132 = .ok (.iinc 4 (-1), 3) := by decide +kernel
theorem dX9_fillsLog_135 : decode cX9_fillsLog 135 = .ok (.goto (-42), 3) := by decide +kernel
theorem dX9_fillsLog_138 : decode cX9_fillsLog 138 = .ok (.aload_n 0, 1) := by decide +kernel
theorem dX9_fillsLog_139 : decode cX9_fillsLog 139 = .ok (.getfield 97, 3) := by decide +kernel
theorem dX9_fillsLog_142 : decode cX9_fillsLog 142 = .ok (.iload 4, 2) := by decide +kernel
theorem dX9_fillsLog_144 : decode cX9_fillsLog 144 = .ok (.iload_n 3, 1) := by decide +kernel
theorem dX9_fillsLog_145 : decode cX9_fillsLog 145 = .ok (.iastore, 1) := by decide +kernel
theorem dX9_fillsLog_146 : decode cX9_fillsLog 146 = .ok (.aload_n 0, 1) := by decide +kernel
theorem dX9_fillsLog_147 : decode cX9_fillsLog 147 = .ok (.dup, 1) := by decide +kernel
theorem dX9_fillsLog_148 : decode cX9_fillsLog 148 = .ok (.getfield 304, 3) := by decide +kernel
theorem dX9_fillsLog_151 : decode cX9_fillsLog 151 = .ok (.iconst 1, 1) := by decide +kernel
theorem dX9_fillsLog_152 : decode cX9_fillsLog 152 = .ok (.iadd, 1) := by decide +kernel
theorem dX9_fillsLog_153 : decode cX9_fillsLog 153 = .ok (.putfield 304, 3) := by decide +kernel
theorem dX9_fillsLog_156 : decode cX9_fillsLog 156 = .ok (.iinc 3 1, 3) := by decide +kernel
theorem dX9_fillsLog_159 : decode cX9_fillsLog 159 = .ok (.goto (-103), 3) := by decide +kernel
theorem dX9_fillsLog_162 : decode cX9_fillsLog 162 = .ok (.return_, 1) := by decide +kernel
theorem dX9_keepsLog_0 : decode cX9_keepsLog 0 = .ok (.aload_n 0, 1) := by decide +kernel
theorem dX9_keepsLog_1 : decode cX9_keepsLog 1 = .ok (.aload_n 0, 1) := by decide +kernel
theorem dX9_keepsLog_2 : decode cX9_keepsLog 2 = .ok (.getfield 304, 3) := by decide +kernel
theorem dX9_keepsLog_5 : decode cX9_keepsLog 5 = .ok (.putfield 313, 3) := by decide +kernel
theorem dX9_keepsLog_8 : decode cX9_keepsLog 8 = .ok (.iconst 0, 1) := by decide +kernel
theorem dX9_keepsLog_9 : decode cX9_keepsLog 9 = .ok (.istore_n 1, 1) := by decide +kernel
theorem dX9_keepsLog_10 : decode cX9_keepsLog 10 = .ok (.iload_n 1, 1) := by decide +kernel
theorem dX9_keepsLog_11 : decode cX9_keepsLog 11 = .ok (.aload_n 0, 1) := by decide +kernel
theorem dX9_keepsLog_12 : decode cX9_keepsLog 12 = .ok (.getfield 304, 3) := by decide +kernel
theorem dX9_keepsLog_15 : decode cX9_keepsLog 15 = .ok (.if_icmp .ge 21, 3) := by decide +kernel
theorem dX9_keepsLog_18 : decode cX9_keepsLog 18 = .ok (.aload_n 0, 1) := by decide +kernel
theorem dX9_keepsLog_19 : decode cX9_keepsLog 19 = .ok (.getfield 100, 3) := by decide +kernel
theorem dX9_keepsLog_22 : decode cX9_keepsLog 22 = .ok (.iload_n 1, 1) := by decide +kernel
theorem dX9_keepsLog_23 : decode cX9_keepsLog 23 = .ok (.aload_n 0, 1) := by decide +kernel
theorem dX9_keepsLog_24 : decode cX9_keepsLog 24 = .ok (.getfield 97, 3) := by decide +kernel
theorem dX9_keepsLog_27 : decode cX9_keepsLog 27 = .ok (.iload_n 1, 1) := by decide +kernel
theorem dX9_keepsLog_28 : decode cX9_keepsLog 28 = .ok (.iaload, 1) := by decide +kernel
theorem dX9_keepsLog_29 : decode cX9_keepsLog 29 = .ok (.iastore, 1) := by decide +kernel
theorem dX9_keepsLog_30 : decode cX9_keepsLog 30 = .ok (.iinc 1 1, 3) := by decide +kernel
theorem dX9_keepsLog_33 : decode cX9_keepsLog 33 = .ok (.goto (-23), 3) := by decide +kernel
theorem dX9_keepsLog_36 : decode cX9_keepsLog 36 = .ok (.return_, 1) := by decide +kernel
theorem dX9_alikeLogs_0 : decode cX9_alikeLogs 0 = .ok (.iconst 0, 1) := by decide +kernel
theorem dX9_alikeLogs_1 : decode cX9_alikeLogs 1 = .ok (.istore_n 1, 1) := by decide +kernel
theorem dX9_alikeLogs_2 : decode cX9_alikeLogs 2 = .ok (.iload_n 1, 1) := by decide +kernel
theorem dX9_alikeLogs_3 : decode cX9_alikeLogs 3 = .ok (.aload_n 0, 1) := by decide +kernel
theorem dX9_alikeLogs_4 : decode cX9_alikeLogs 4 = .ok (.getfield 304, 3) := by decide +kernel
theorem dX9_alikeLogs_7 : decode cX9_alikeLogs 7 = .ok (.if_icmp .ge 32, 3) := by decide +kernel
theorem dX9_alikeLogs_10 : decode cX9_alikeLogs 10 = .ok (.iload_n 1, 1) := by decide +kernel
theorem dX9_alikeLogs_11 : decode cX9_alikeLogs 11 = .ok (.aload_n 0, 1) := by decide +kernel
theorem dX9_alikeLogs_12 : decode cX9_alikeLogs 12 = .ok (.getfield 313, 3) := by decide +kernel
theorem dX9_alikeLogs_15 : decode cX9_alikeLogs 15 = .ok (.if_icmp .ge 24, 3) := by decide +kernel
theorem dX9_alikeLogs_18 : decode cX9_alikeLogs 18 = .ok (.aload_n 0, 1) := by decide +kernel
theorem dX9_alikeLogs_19 : decode cX9_alikeLogs 19 = .ok (.getfield 97, 3) := by decide +kernel
theorem dX9_alikeLogs_22 : decode cX9_alikeLogs 22 = .ok (.iload_n 1, 1) := by decide +kernel
theorem dX9_alikeLogs_23 : decode cX9_alikeLogs 23 = .ok (.iaload, 1) := by decide +kernel
theorem dX9_alikeLogs_24 : decode cX9_alikeLogs 24 = .ok (.aload_n 0, 1) := by decide +kernel
theorem dX9_alikeLogs_25 : decode cX9_alikeLogs 25 = .ok (.getfield 100, 3) := by decide +kernel
theorem dX9_alikeLogs_28 : decode cX9_alikeLogs 28 = .ok (.iload_n 1, 1) := by decide +kernel
theorem dX9_alikeLogs_29 : decode cX9_alikeLogs 29 = .ok (.iaload, 1) := by decide +kernel
theorem dX9_alikeLogs_30 : decode cX9_alikeLogs 30 = .ok (.if_icmp .ne 9, 3) := by decide +kernel
theorem dX9_alikeLogs_33 : decode cX9_alikeLogs 33 = .ok (.iinc 1 1, 3) := by decide +kernel
theorem dX9_alikeLogs_36 : decode cX9_alikeLogs 36 = .ok (.goto (-34), 3) := by decide +kernel
theorem dX9_alikeLogs_39 : decode cX9_alikeLogs 39 = .ok (.iload_n 1, 1) := by decide +kernel
theorem dX9_alikeLogs_40 : decode cX9_alikeLogs 40 = .ok (.ireturn, 1) := by decide +kernel
theorem dX9_firstCells_0 : decode cX9_firstCells 0 = .ok (.iconst 0, 1) := by decide +kernel
theorem dX9_firstCells_1 : decode cX9_firstCells 1 = .ok (.istore_n 1, 1) := by decide +kernel
theorem dX9_firstCells_2 : decode cX9_firstCells 2 = .ok (.iload_n 1, 1) := by decide +kernel
theorem dX9_firstCells_3 : decode cX9_firstCells 3 = .ok (.bipush 6, 2) := by decide +kernel
theorem dX9_firstCells_5 : decode cX9_firstCells 5 = .ok (.if_icmp .ge 29, 3) := by decide +kernel
theorem dX9_firstCells_8 : decode cX9_firstCells 8 = .ok (.aload_n 0, 1) := by decide +kernel
theorem dX9_firstCells_9 : decode cX9_firstCells 9 = .ok (.getfield 103, 3) := by decide +kernel
theorem dX9_firstCells_12 : decode cX9_firstCells 12 = .ok (.iload_n 1, 1) := by decide +kernel
theorem dX9_firstCells_13 : decode cX9_firstCells 13 = .ok (.aload_n 0, 1) := by decide +kernel
theorem dX9_firstCells_14 : decode cX9_firstCells 14 = .ok (.getfield 55, 3) := by decide +kernel
theorem dX9_firstCells_17 : decode cX9_firstCells 17 = .ok (.bipush 6, 2) := by decide +kernel
theorem dX9_firstCells_19 : decode cX9_firstCells 19 = .ok (.aload_n 0, 1) := by decide +kernel
theorem dX9_firstCells_20 : decode cX9_firstCells 20 = .ok (.getfield 209, 3) := by decide +kernel
theorem dX9_firstCells_23 : decode cX9_firstCells 23 = .ok (.imul, 1) := by decide +kernel
theorem dX9_firstCells_24 : decode cX9_firstCells 24 = .ok (.iload_n 1, 1) := by decide +kernel
theorem dX9_firstCells_25 : decode cX9_firstCells 25 = .ok (.iadd, 1) := by decide +kernel
theorem dX9_firstCells_26 : decode cX9_firstCells 26 = .ok (.iaload, 1) := by decide +kernel
theorem dX9_firstCells_27 : decode cX9_firstCells 27 = .ok (.iastore, 1) := by decide +kernel
theorem dX9_firstCells_28 : decode cX9_firstCells 28 = .ok (.iinc 1 1, 3) := by decide +kernel
theorem dX9_firstCells_31 : decode cX9_firstCells 31 = .ok (.goto (-29), 3) := by decide +kernel
theorem dX9_firstCells_34 : decode cX9_firstCells 34 = .ok (.return_, 1) := by decide +kernel
theorem dX9_reckoned_0 : decode cX9_reckoned 0 = .ok (.bipush 30, 2) := by decide +kernel
theorem dX9_reckoned_2 : decode cX9_reckoned 2 = .ok (.aload_n 0, 1) := by decide +kernel
theorem dX9_reckoned_3 : decode cX9_reckoned 3 = .ok (.getfield 209, 3) := by decide +kernel
theorem dX9_reckoned_6 : decode cX9_reckoned 6 = .ok (.imul, 1) := by decide +kernel
theorem dX9_reckoned_7 : decode cX9_reckoned 7 = .ok (.iconst 5, 1) := by decide +kernel
theorem dX9_reckoned_8 : decode cX9_reckoned 8 = .ok (.aload_n 0, 1) := by decide +kernel
theorem dX9_reckoned_9 : decode cX9_reckoned 9 = .ok (.iload_n 1, 1) := by decide +kernel
theorem dX9_reckoned_10 : decode cX9_reckoned 10 = .ok (.iconst 0, 1) := by decide +kernel
theorem dX9_reckoned_11 : decode cX9_reckoned 11 = .ok (.invokevirtual 298, 3) := by decide +kernel
theorem dX9_reckoned_14 : decode cX9_reckoned 14 = .ok (.imul, 1) := by decide +kernel
theorem dX9_reckoned_15 : decode cX9_reckoned 15 = .ok (.iadd, 1) := by decide +kernel
theorem dX9_reckoned_16 : decode cX9_reckoned 16 = .ok (.iload_n 2, 1) := by decide +kernel
theorem dX9_reckoned_17 : decode cX9_reckoned 17 = .ok (.iadd, 1) := by decide +kernel
theorem dX9_reckoned_18 : decode cX9_reckoned 18 = .ok (.istore_n 3, 1) := by decide +kernel
theorem dX9_reckoned_19 : decode cX9_reckoned 19 = .ok (.iconst 0, 1) := by decide +kernel
theorem dX9_reckoned_20 : decode cX9_reckoned 20 = .ok (.istore 4, 2) := by decide +kernel
theorem dX9_reckoned_22 : decode cX9_reckoned 22 = .ok (.iload 4, 2) := by decide +kernel
theorem dX9_reckoned_24 : decode cX9_reckoned 24 = .ok (.bipush 6, 2) := by decide +kernel
theorem dX9_reckoned_26 : decode cX9_reckoned 26 = .ok (.if_icmp .ge 23, 3) := by decide +kernel
theorem dX9_reckoned_29 : decode cX9_reckoned 29 = .ok (.aload_n 0, 1) := by decide +kernel
theorem dX9_reckoned_30 : decode cX9_reckoned 30 = .ok (.getfield 85, 3) := by decide +kernel
theorem dX9_reckoned_33 : decode cX9_reckoned 33 = .ok (.iload 4, 2) := by decide +kernel
theorem dX9_reckoned_35 : decode cX9_reckoned 35 = .ok (.aload_n 0, 1) := by decide +kernel
theorem dX9_reckoned_36 : decode cX9_reckoned 36 = .ok (.getfield 103, 3) := by decide +kernel
theorem dX9_reckoned_39 : decode cX9_reckoned 39 = .ok (.iload 4, 2) := by decide +kernel
theorem dX9_reckoned_41 : decode cX9_reckoned 41 = .ok (.iaload, 1) := by decide +kernel
theorem dX9_reckoned_42 : decode cX9_reckoned 42 = .ok (.iastore, 1) := by decide +kernel
theorem dX9_reckoned_43 : decode cX9_reckoned 43 = .ok (.iinc 4 1, 3) := by decide +kernel
theorem dX9_reckoned_46 : decode cX9_reckoned 46 = .ok (.goto (-24), 3) := by decide +kernel
theorem dX9_reckoned_49 : decode cX9_reckoned 49 = .ok (.aload_n 0, 1) := by decide +kernel
theorem dX9_reckoned_50 : decode cX9_reckoned 50 = .ok (.getfield 85, 3) := by decide +kernel
theorem dX9_reckoned_53 : decode cX9_reckoned 53 = .ok (.bipush 6, 2) := by decide +kernel
theorem dX9_reckoned_55 : decode cX9_reckoned 55 = .ok (.aload_n 0, 1) := by decide +kernel
theorem dX9_reckoned_56 : decode cX9_reckoned 56 = .ok (.iload_n 1, 1) := by decide +kernel
theorem dX9_reckoned_57 : decode cX9_reckoned 57 = .ok (.iconst 1, 1) := by decide +kernel
theorem dX9_reckoned_58 : decode cX9_reckoned 58 = .ok (.invokevirtual 298, 3) := by decide +kernel
theorem dX9_reckoned_61 : decode cX9_reckoned 61 = .ok (.iastore, 1) := by decide +kernel
theorem dX9_reckoned_62 : decode cX9_reckoned 62 = .ok (.aload_n 0, 1) := by decide +kernel
theorem dX9_reckoned_63 : decode cX9_reckoned 63 = .ok (.getfield 85, 3) := by decide +kernel
theorem dX9_reckoned_66 : decode cX9_reckoned 66 = .ok (.bipush 7, 2) := by decide +kernel
theorem dX9_reckoned_68 : decode cX9_reckoned 68 = .ok (.aload_n 0, 1) := by decide +kernel
theorem dX9_reckoned_69 : decode cX9_reckoned 69 = .ok (.iload_n 1, 1) := by decide +kernel
theorem dX9_reckoned_70 : decode cX9_reckoned 70 = .ok (.iconst 3, 1) := by decide +kernel
theorem dX9_reckoned_71 : decode cX9_reckoned 71 = .ok (.invokevirtual 298, 3) := by decide +kernel
theorem dX9_reckoned_74 : decode cX9_reckoned 74 = .ok (.iastore, 1) := by decide +kernel
theorem dX9_reckoned_75 : decode cX9_reckoned 75 = .ok (.aload_n 0, 1) := by decide +kernel
theorem dX9_reckoned_76 : decode cX9_reckoned 76 = .ok (.getfield 85, 3) := by decide +kernel
theorem dX9_reckoned_79 : decode cX9_reckoned 79 = .ok (.bipush 8, 2) := by decide +kernel
theorem dX9_reckoned_81 : decode cX9_reckoned 81 = .ok (.aload_n 0, 1) := by decide +kernel
theorem dX9_reckoned_82 : decode cX9_reckoned 82 = .ok (.iload_n 1, 1) := by decide +kernel
theorem dX9_reckoned_83 : decode cX9_reckoned 83 = .ok (.iconst 2, 1) := by decide +kernel
theorem dX9_reckoned_84 : decode cX9_reckoned 84 = .ok (.invokevirtual 298, 3) := by decide +kernel
theorem dX9_reckoned_87 : decode cX9_reckoned 87 = .ok (.iastore, 1) := by decide +kernel
theorem dX9_reckoned_88 : decode cX9_reckoned 88 = .ok (.aload_n 0, 1) := by decide +kernel
theorem dX9_reckoned_89 : decode cX9_reckoned 89 = .ok (.aload_n 0, 1) := by decide +kernel
theorem dX9_reckoned_90 : decode cX9_reckoned 90 = .ok (.getfield 70, 3) := by decide +kernel
theorem dX9_reckoned_93 : decode cX9_reckoned 93 = .ok (.iload_n 3, 1) := by decide +kernel
theorem dX9_reckoned_94 : decode cX9_reckoned 94 = .ok (.iaload, 1) := by decide +kernel
theorem dX9_reckoned_95 : decode cX9_reckoned 95 = .ok (.aload_n 0, 1) := by decide +kernel
theorem dX9_reckoned_96 : decode cX9_reckoned 96 = .ok (.getfield 70, 3) := by decide +kernel
theorem dX9_reckoned_99 : decode cX9_reckoned 99 = .ok (.iload_n 3, 1) := by decide +kernel
theorem dX9_reckoned_100 : decode cX9_reckoned 100 = .ok (.iconst 1, 1) := by decide +kernel
theorem dX9_reckoned_101 : decode cX9_reckoned 101 = .ok (.iadd, 1) := by decide +kernel
theorem dX9_reckoned_102 : decode cX9_reckoned 102 = .ok (.iaload, 1) := by decide +kernel
theorem dX9_reckoned_103 : decode cX9_reckoned 103 = .ok (.invokevirtual 316, 3) := by decide +kernel
theorem dX9_reckoned_106 : decode cX9_reckoned 106 = .ok (.ireturn, 1) := by decide +kernel
theorem dX9_doneOne_0 : decode cX9_doneOne 0 = .ok (.bipush 6, 2) := by decide +kernel
theorem dX9_doneOne_2 : decode cX9_doneOne 2 = .ok (.aload_n 0, 1) := by decide +kernel
theorem dX9_doneOne_3 : decode cX9_doneOne 3 = .ok (.getfield 209, 3) := by decide +kernel
theorem dX9_doneOne_6 : decode cX9_doneOne 6 = .ok (.imul, 1) := by decide +kernel
theorem dX9_doneOne_7 : decode cX9_doneOne 7 = .ok (.aload_n 0, 1) := by decide +kernel
theorem dX9_doneOne_8 : decode cX9_doneOne 8 = .ok (.iload_n 1, 1) := by decide +kernel
theorem dX9_doneOne_9 : decode cX9_doneOne 9 = .ok (.iconst 0, 1) := by decide +kernel
theorem dX9_doneOne_10 : decode cX9_doneOne 10 = .ok (.invokevirtual 298, 3) := by decide +kernel
theorem dX9_doneOne_13 : decode cX9_doneOne 13 = .ok (.iadd, 1) := by decide +kernel
theorem dX9_doneOne_14 : decode cX9_doneOne 14 = .ok (.istore_n 3, 1) := by decide +kernel
theorem dX9_doneOne_15 : decode cX9_doneOne 15 = .ok (.aload_n 0, 1) := by decide +kernel
theorem dX9_doneOne_16 : decode cX9_doneOne 16 = .ok (.iconst 0, 1) := by decide +kernel
theorem dX9_doneOne_17 : decode cX9_doneOne 17 = .ok (.putfield 279, 3) := by decide +kernel
theorem dX9_doneOne_20 : decode cX9_doneOne 20 = .ok (.aload_n 0, 1) := by decide +kernel
theorem dX9_doneOne_21 : decode cX9_doneOne 21 = .ok (.getfield 109, 3) := by decide +kernel
theorem dX9_doneOne_24 : decode cX9_doneOne 24 = .ok (.iload_n 2, 1) := by decide +kernel
theorem dX9_doneOne_25 : decode cX9_doneOne 25 = .ok (.iconst (-1), 1) := by decide +kernel
theorem dX9_doneOne_26 : decode cX9_doneOne 26 = .ok (.iastore, 1) := by decide +kernel
theorem dX9_doneOne_27 : decode cX9_doneOne 27 = .ok (.aload_n 0, 1) := by decide +kernel
theorem dX9_doneOne_28 : decode cX9_doneOne 28 = .ok (.iload_n 1, 1) := by decide +kernel
theorem dX9_doneOne_29 : decode cX9_doneOne 29 = .ok (.iconst 0, 1) := by decide +kernel
theorem dX9_doneOne_30 : decode cX9_doneOne 30 = .ok (.invokevirtual 319, 3) := by decide +kernel
theorem dX9_doneOne_33 : decode cX9_doneOne 33 = .ok (.istore 4, 2) := by decide +kernel
theorem dX9_doneOne_35 : decode cX9_doneOne 35 = .ok (.aload_n 0, 1) := by decide +kernel
theorem dX9_doneOne_36 : decode cX9_doneOne 36 = .ok (.iload_n 1, 1) := by decide +kernel
theorem dX9_doneOne_37 : decode cX9_doneOne 37 = .ok (.iconst 1, 1) := by decide +kernel
theorem dX9_doneOne_38 : decode cX9_doneOne 38 = .ok (.invokevirtual 319, 3) := by decide +kernel
theorem dX9_doneOne_41 : decode cX9_doneOne 41 = .ok (.istore 5, 2) := by decide +kernel
theorem dX9_doneOne_43 : decode cX9_doneOne 43 = .ok (.aload_n 0, 1) := by decide +kernel
theorem dX9_doneOne_44 : decode cX9_doneOne 44 = .ok (.getfield 279, 3) := by decide +kernel
theorem dX9_doneOne_47 : decode cX9_doneOne 47 = .ok (.ifCond .eq 5, 3) := by decide +kernel
theorem dX9_doneOne_50 : decode cX9_doneOne 50 = .ok (.iconst 3, 1) := by decide +kernel
theorem dX9_doneOne_51 : decode cX9_doneOne 51 = .ok (.ireturn, 1) := by decide +kernel
theorem dX9_doneOne_52 : decode cX9_doneOne 52 = .ok (.aload_n 0, 1) := by decide +kernel
theorem dX9_doneOne_53 : decode cX9_doneOne 53 = .ok (.getfield 61, 3) := by decide +kernel
theorem dX9_doneOne_56 : decode cX9_doneOne 56 = .ok (.iload_n 3, 1) := by decide +kernel
theorem dX9_doneOne_57 : decode cX9_doneOne 57 = .ok (.iaload, 1) := by decide +kernel
theorem dX9_doneOne_58 : decode cX9_doneOne 58 = .ok (.bipush 13, 2) := by decide +kernel
theorem dX9_doneOne_60 : decode cX9_doneOne 60 = .ok (.if_icmp .ne 18, 3) := by decide +kernel
theorem dX9_doneOne_63 : decode cX9_doneOne 63 = .ok (.iload 4, 2) := by decide +kernel
theorem dX9_doneOne_65 : decode cX9_doneOne 65 = .ok (.iload 5, 2) := by decide +kernel
theorem dX9_doneOne_67 : decode cX9_doneOne 67 = .ok (.if_icmp .ge 7, 3) := by decide +kernel
theorem dX9_doneOne_70 : decode cX9_doneOne 70 = .ok (.iconst 1, 1) := by decide +kernel
theorem dX9_doneOne_71 : decode cX9_doneOne 71 = .ok (.goto 19, 3) := by decide +kernel
theorem dX9_doneOne_74 : decode cX9_doneOne 74 = .ok (.iconst 0, 1) := by decide +kernel
theorem dX9_doneOne_75 : decode cX9_doneOne 75 = .ok (.goto 15, 3) := by decide +kernel
theorem dX9_doneOne_78 : decode cX9_doneOne 78 = .ok (.iload 4, 2) := by decide +kernel
theorem dX9_doneOne_80 : decode cX9_doneOne 80 = .ok (.iload 5, 2) := by decide +kernel
theorem dX9_doneOne_82 : decode cX9_doneOne 82 = .ok (.if_icmp .ne 7, 3) := by decide +kernel
theorem dX9_doneOne_85 : decode cX9_doneOne 85 = .ok (.iconst 1, 1) := by decide +kernel
theorem dX9_doneOne_86 : decode cX9_doneOne 86 = .ok (.goto 4, 3) := by decide +kernel
theorem dX9_doneOne_89 : decode cX9_doneOne 89 = .ok (.iconst 0, 1) := by decide +kernel
theorem dX9_doneOne_90 : decode cX9_doneOne 90 = .ok (.istore 6, 2) := by decide +kernel
theorem dX9_doneOne_92 : decode cX9_doneOne 92 = .ok (.iload 6, 2) := by decide +kernel
theorem dX9_doneOne_94 : decode cX9_doneOne 94 = .ok (.ifCond .ne 14, 3) := by decide +kernel
theorem dX9_doneOne_97 : decode cX9_doneOne 97 = .ok (.aload_n 0, 1) := by decide +kernel
theorem dX9_doneOne_98 : decode cX9_doneOne 98 = .ok (.getfield 67, 3) := by decide +kernel
theorem dX9_doneOne_101 : decode cX9_doneOne 101 = .ok (.iload_n 3, 1) := by decide +kernel
theorem dX9_doneOne_102 : decode cX9_doneOne 102 = .ok (.iaload, 1) := by decide +kernel
theorem dX9_doneOne_103 : decode cX9_doneOne 103 = .ok (.ifCond .ge 5, 3) := by decide +kernel
theorem dX9_doneOne_106 : decode cX9_doneOne 106 = .ok (.iconst 2, 1) := by decide +kernel
theorem dX9_doneOne_107 : decode cX9_doneOne 107 = .ok (.ireturn, 1) := by decide +kernel
theorem dX9_doneOne_108 : decode cX9_doneOne 108 = .ok (.aload_n 0, 1) := by decide +kernel
theorem dX9_doneOne_109 : decode cX9_doneOne 109 = .ok (.iload_n 1, 1) := by decide +kernel
theorem dX9_doneOne_110 : decode cX9_doneOne 110 = .ok (.iload 6, 2) := by decide +kernel
theorem dX9_doneOne_112 : decode cX9_doneOne 112 = .ok (.ifCond .eq 7, 3) := by decide +kernel
theorem dX9_doneOne_115 : decode cX9_doneOne 115 = .ok (.iconst 2, 1) := by decide +kernel
theorem dX9_doneOne_116 : decode cX9_doneOne 116 = .ok (.goto 4, 3) := by decide +kernel
theorem dX9_doneOne_119 : decode cX9_doneOne 119 = .ok (.iconst 3, 1) := by decide +kernel
theorem dX9_doneOne_120 : decode cX9_doneOne 120 = .ok (.invokevirtual 319, 3) := by decide +kernel
theorem dX9_doneOne_123 : decode cX9_doneOne 123 = .ok (.istore 7, 2) := by decide +kernel
theorem dX9_doneOne_125 : decode cX9_doneOne 125 = .ok (.aload_n 0, 1) := by decide +kernel
theorem dX9_doneOne_126 : decode cX9_doneOne 126 = .ok (.getfield 279, 3) := by decide +kernel
theorem dX9_doneOne_129 : decode cX9_doneOne 129 = .ok (.ifCond .eq 5, 3) := by decide +kernel
theorem dX9_doneOne_132 : decode cX9_doneOne 132 = .ok (.iconst 3, 1) := by decide +kernel
theorem dX9_doneOne_133 : decode cX9_doneOne 133 = .ok (.ireturn, 1) := by decide +kernel
theorem dX9_doneOne_134 : decode cX9_doneOne 134 = .ok (.aload_n 0, 1) := by decide +kernel
theorem dX9_doneOne_135 : decode cX9_doneOne 135 = .ok (.getfield 109, 3) := by decide +kernel
theorem dX9_doneOne_138 : decode cX9_doneOne 138 = .ok (.iload_n 2, 1) := by decide +kernel
theorem dX9_doneOne_139 : decode cX9_doneOne 139 = .ok (.iload 6, 2) := by decide +kernel
theorem dX9_doneOne_141 : decode cX9_doneOne 141 = .ok (.ifCond .eq 12, 3) := by decide +kernel
theorem dX9_doneOne_144 : decode cX9_doneOne 144 = .ok (.aload_n 0, 1) := by decide +kernel
theorem dX9_doneOne_145 : decode cX9_doneOne 145 = .ok (.getfield 64, 3) := by decide +kernel
theorem dX9_doneOne_148 : decode cX9_doneOne 148 = .ok (.iload_n 3, 1) := by decide +kernel
theorem dX9_doneOne_149 : decode cX9_doneOne 149 = .ok (.iaload, 1) := by decide +kernel
theorem dX9_doneOne_150 : decode cX9_doneOne 150 = .ok (.goto 9, 3) := by decide +kernel
theorem dX9_doneOne_153 : decode cX9_doneOne 153 = .ok (.aload_n 0, 1) := by decide +kernel
theorem dX9_doneOne_154 : decode cX9_doneOne 154 = .ok (.getfield 67, 3) := by decide +kernel
theorem dX9_doneOne_157 : decode cX9_doneOne 157 = .ok (.iload_n 3, 1) := by decide +kernel
theorem dX9_doneOne_158 : decode cX9_doneOne 158 = .ok (.iaload, 1) := by decide +kernel
theorem dX9_doneOne_159 : decode cX9_doneOne 159 = .ok (.iastore, 1) := by decide +kernel
theorem dX9_doneOne_160 : decode cX9_doneOne 160 = .ok (.aload_n 0, 1) := by decide +kernel
theorem dX9_doneOne_161 : decode cX9_doneOne 161 = .ok (.getfield 103, 3) := by decide +kernel
theorem dX9_doneOne_164 : decode cX9_doneOne 164 = .ok (.aload_n 0, 1) := by decide +kernel
theorem dX9_doneOne_165 : decode cX9_doneOne 165 = .ok (.getfield 109, 3) := by decide +kernel
theorem dX9_doneOne_168 : decode cX9_doneOne 168 = .ok (.iload_n 2, 1) := by decide +kernel
theorem dX9_doneOne_169 : decode cX9_doneOne 169 = .ok (.iaload, 1) := by decide +kernel
theorem dX9_doneOne_170 : decode cX9_doneOne 170 = .ok (.iload 7, 2) := by decide +kernel
theorem dX9_doneOne_172 : decode cX9_doneOne 172 = .ok (.iastore, 1) := by decide +kernel
theorem dX9_doneOne_173 : decode cX9_doneOne 173 = .ok (.iload 6, 2) := by decide +kernel
theorem dX9_doneOne_175 : decode cX9_doneOne 175 = .ok (.ifCond .eq 7, 3) := by decide +kernel
theorem dX9_doneOne_178 : decode cX9_doneOne 178 = .ok (.iconst 0, 1) := by decide +kernel
theorem dX9_doneOne_179 : decode cX9_doneOne 179 = .ok (.goto 4, 3) := by decide +kernel
theorem dX9_doneOne_182 : decode cX9_doneOne 182 = .ok (.iconst 1, 1) := by decide +kernel
theorem dX9_doneOne_183 : decode cX9_doneOne 183 = .ok (.ireturn, 1) := by decide +kernel
theorem dX9_doesLog_0 : decode cX9_doesLog 0 = .ok (.aload_n 0, 1) := by decide +kernel
theorem dX9_doesLog_1 : decode cX9_doesLog 1 = .ok (.invokevirtual 322, 3) := by decide +kernel
theorem dX9_doesLog_4 : decode cX9_doesLog 4 = .ok (.iconst 0, 1) := by decide +kernel
theorem dX9_doesLog_5 : decode cX9_doesLog 5 = .ok (.istore_n 2, 1) := by decide +kernel
theorem dX9_doesLog_6 : decode cX9_doesLog 6 = .ok (.iload_n 2, 1) := by decide +kernel
theorem dX9_doesLog_7 : decode cX9_doesLog 7 = .ok (.iload_n 1, 1) := by decide +kernel
theorem dX9_doesLog_8 : decode cX9_doesLog 8 = .ok (.if_icmp .ge 26, 3) := by decide +kernel
theorem dX9_doesLog_11 : decode cX9_doesLog 11 = .ok (.aload_n 0, 1) := by decide +kernel
theorem dX9_doesLog_12 : decode cX9_doesLog 12 = .ok (.getfield 106, 3) := by decide +kernel
theorem dX9_doesLog_15 : decode cX9_doesLog 15 = .ok (.iload_n 2, 1) := by decide +kernel
theorem dX9_doesLog_16 : decode cX9_doesLog 16 = .ok (.aload_n 0, 1) := by decide +kernel
theorem dX9_doesLog_17 : decode cX9_doesLog 17 = .ok (.aload_n 0, 1) := by decide +kernel
theorem dX9_doesLog_18 : decode cX9_doesLog 18 = .ok (.getfield 97, 3) := by decide +kernel
theorem dX9_doesLog_21 : decode cX9_doesLog 21 = .ok (.iload_n 2, 1) := by decide +kernel
theorem dX9_doesLog_22 : decode cX9_doesLog 22 = .ok (.iaload, 1) := by decide +kernel
theorem dX9_doesLog_23 : decode cX9_doesLog 23 = .ok (.iload_n 2, 1) := by decide +kernel
theorem dX9_doesLog_24 : decode cX9_doesLog 24 = .ok (.invokevirtual 325, 3) := by decide +kernel
theorem dX9_doesLog_27 : decode cX9_doesLog 27 = .ok (.iastore, 1) := by decide +kernel
theorem dX9_doesLog_28 : decode cX9_doesLog 28 = .ok (.iinc 2 1, 3) := by decide +kernel
theorem dX9_doesLog_31 : decode cX9_doesLog 31 = .ok (.goto (-25), 3) := by decide +kernel
theorem dX9_doesLog_34 : decode cX9_doesLog 34 = .ok (.return_, 1) := by decide +kernel
theorem dX9_doesAll_0 : decode cX9_doesAll 0 = .ok (.aload_n 0, 1) := by decide +kernel
theorem dX9_doesAll_1 : decode cX9_doesAll 1 = .ok (.iload_n 1, 1) := by decide +kernel
theorem dX9_doesAll_2 : decode cX9_doesAll 2 = .ok (.invokevirtual 328, 3) := by decide +kernel
theorem dX9_doesAll_5 : decode cX9_doesAll 5 = .ok (.aload_n 0, 1) := by decide +kernel
theorem dX9_doesAll_6 : decode cX9_doesAll 6 = .ok (.aload_n 0, 1) := by decide +kernel
theorem dX9_doesAll_7 : decode cX9_doesAll 7 = .ok (.getfield 304, 3) := by decide +kernel
theorem dX9_doesAll_10 : decode cX9_doesAll 10 = .ok (.invokevirtual 331, 3) := by decide +kernel
theorem dX9_doesAll_13 : decode cX9_doesAll 13 = .ok (.return_, 1) := by decide +kernel
theorem dX9_outcomes_0 : decode cX9_outcomes 0 = .ok (.iconst 0, 1) := by decide +kernel
theorem dX9_outcomes_1 : decode cX9_outcomes 1 = .ok (.istore_n 3, 1) := by decide +kernel
theorem dX9_outcomes_2 : decode cX9_outcomes 2 = .ok (.iconst 0, 1) := by decide +kernel
theorem dX9_outcomes_3 : decode cX9_outcomes 3 = .ok (.istore 4, 2) := by decide +kernel
theorem dX9_outcomes_5 : decode cX9_outcomes 5 = .ok (.iload 4, 2) := by decide +kernel
theorem dX9_outcomes_7 : decode cX9_outcomes 7 = .ok (.aload_n 0, 1) := by decide +kernel
theorem dX9_outcomes_8 : decode cX9_outcomes 8 = .ok (.getfield 304, 3) := by decide +kernel
theorem dX9_outcomes_11 : decode cX9_outcomes 11 = .ok (.if_icmp .ge 27, 3) := by decide +kernel
theorem dX9_outcomes_14 : decode cX9_outcomes 14 = .ok (.aload_n 0, 1) := by decide +kernel
theorem dX9_outcomes_15 : decode cX9_outcomes 15 = .ok (.getfield 106, 3) := by decide +kernel
theorem dX9_outcomes_18 : decode cX9_outcomes 18 = .ok (.iload 4, 2) := by decide +kernel
theorem dX9_outcomes_20 : decode cX9_outcomes 20 = .ok (.iaload, 1) := by decide +kernel
theorem dX9_outcomes_21 : decode cX9_outcomes 21 = .ok (.iload_n 1, 1) := by decide +kernel
theorem dX9_outcomes_22 : decode cX9_outcomes 22 = .ok (.iload_n 2, 1) := by decide +kernel
theorem dX9_outcomes_23 : decode cX9_outcomes 23 = .ok (.invokestatic 283, 3) := by decide +kernel
theorem dX9_outcomes_26 : decode cX9_outcomes 26 = .ok (.ifCond .eq 6, 3) := by decide +kernel
theorem dX9_outcomes_29 : decode cX9_outcomes 29 = .ok (.iinc 3 1, 3) := by decide +kernel
theorem dX9_outcomes_32 : decode cX9_outcomes 32 = .ok (.iinc 4 1, 3) := by decide +kernel
theorem dX9_outcomes_35 : decode cX9_outcomes 35 = .ok (.goto (-30), 3) := by decide +kernel
theorem dX9_outcomes_38 : decode cX9_outcomes 38 = .ok (.iload_n 3, 1) := by decide +kernel
theorem dX9_outcomes_39 : decode cX9_outcomes 39 = .ok (.ireturn, 1) := by decide +kernel
theorem dX9_opens_0 : decode cX9_opens 0 = .ok (.aload_n 0, 1) := by decide +kernel
theorem dX9_opens_1 : decode cX9_opens 1 = .ok (.iload_n 1, 1) := by decide +kernel
theorem dX9_opens_2 : decode cX9_opens 2 = .ok (.iconst 3, 1) := by decide +kernel
theorem dX9_opens_3 : decode cX9_opens 3 = .ok (.iconst 1, 1) := by decide +kernel
theorem dX9_opens_4 : decode cX9_opens 4 = .ok (.invokevirtual 334, 3) := by decide +kernel
theorem dX9_opens_7 : decode cX9_opens 7 = .ok (.return_, 1) := by decide +kernel
theorem dX9_shuts_0 : decode cX9_shuts 0 = .ok (.aload_n 0, 1) := by decide +kernel
theorem dX9_shuts_1 : decode cX9_shuts 1 = .ok (.iload_n 1, 1) := by decide +kernel
theorem dX9_shuts_2 : decode cX9_shuts 2 = .ok (.iconst 4, 1) := by decide +kernel
theorem dX9_shuts_3 : decode cX9_shuts 3 = .ok (.iconst 1, 1) := by decide +kernel
theorem dX9_shuts_4 : decode cX9_shuts 4 = .ok (.invokevirtual 334, 3) := by decide +kernel
theorem dX9_shuts_7 : decode cX9_shuts 7 = .ok (.bipush 7, 2) := by decide +kernel
theorem dX9_shuts_9 : decode cX9_shuts 9 = .ok (.istore_n 2, 1) := by decide +kernel
theorem dX9_shuts_10 : decode cX9_shuts 10 = .ok (.iload_n 2, 1) := by decide +kernel
theorem dX9_shuts_11 : decode cX9_shuts 11 = .ok (.ifCond .le 27, 3) := by decide +kernel
theorem dX9_shuts_14 : decode cX9_shuts 14 = .ok (.aload_n 0, 1) := by decide +kernel
theorem dX9_shuts_15 : decode cX9_shuts 15 = .ok (.getfield 94, 3) := by decide +kernel
theorem dX9_shuts_18 : decode cX9_shuts 18 = .ok (.iconst 5, 1) := by decide +kernel
theorem dX9_shuts_19 : decode cX9_shuts 19 = .ok (.iload_n 2, 1) := by decide +kernel
theorem dX9_shuts_20 : decode cX9_shuts 20 = .ok (.iadd, 1) := by decide +kernel
theorem dX9_shuts_21 : decode cX9_shuts 21 = .ok (.aload_n 0, 1) := by decide +kernel
theorem dX9_shuts_22 : decode cX9_shuts 22 = .ok (.getfield 94, 3) := by decide +kernel
theorem dX9_shuts_25 : decode cX9_shuts 25 = .ok (.iconst 5, 1) := by decide +kernel
theorem dX9_shuts_26 : decode cX9_shuts 26 = .ok (.iload_n 2, 1) := by decide +kernel
theorem dX9_shuts_27 : decode cX9_shuts 27 = .ok (.iadd, 1) := by decide +kernel
theorem dX9_shuts_28 : decode cX9_shuts 28 = .ok (.iconst 1, 1) := by decide +kernel
theorem dX9_shuts_29 : decode cX9_shuts 29 = .ok (.isub, 1) := by decide +kernel
theorem dX9_shuts_30 : decode cX9_shuts 30 = .ok (.iaload, 1) := by decide +kernel
theorem dX9_shuts_31 : decode cX9_shuts 31 = .ok (.iastore, 1) := by decide +kernel
theorem dX9_shuts_32 : decode cX9_shuts 32 = .ok (.iinc 2 (-1), 3) := by decide +kernel
theorem dX9_shuts_35 : decode cX9_shuts 35 = .ok (.goto (-25), 3) := by decide +kernel
theorem dX9_shuts_38 : decode cX9_shuts 38 = .ok (.aload_n 0, 1) := by decide +kernel
theorem dX9_shuts_39 : decode cX9_shuts 39 = .ok (.getfield 94, 3) := by decide +kernel
theorem dX9_shuts_42 : decode cX9_shuts 42 = .ok (.iconst 5, 1) := by decide +kernel
theorem dX9_shuts_43 : decode cX9_shuts 43 = .ok (.iload_n 1, 1) := by decide +kernel
theorem dX9_shuts_44 : decode cX9_shuts 44 = .ok (.iastore, 1) := by decide +kernel
theorem dX9_shuts_45 : decode cX9_shuts 45 = .ok (.aload_n 0, 1) := by decide +kernel
theorem dX9_shuts_46 : decode cX9_shuts 46 = .ok (.getfield 94, 3) := by decide +kernel
theorem dX9_shuts_49 : decode cX9_shuts 49 = .ok (.iconst 4, 1) := by decide +kernel
theorem dX9_shuts_50 : decode cX9_shuts 50 = .ok (.iaload, 1) := by decide +kernel
theorem dX9_shuts_51 : decode cX9_shuts 51 = .ok (.bipush 8, 2) := by decide +kernel
theorem dX9_shuts_53 : decode cX9_shuts 53 = .ok (.if_icmp .ge 13, 3) := by decide +kernel
theorem dX9_shuts_56 : decode cX9_shuts 56 = .ok (.aload_n 0, 1) := by decide +kernel
theorem dX9_shuts_57 : decode cX9_shuts 57 = .ok (.getfield 94, 3) := by decide +kernel
theorem dX9_shuts_60 : decode cX9_shuts 60 = .ok (.iconst 4, 1) := by decide +kernel
theorem dX9_shuts_61 : decode cX9_shuts 61 = .ok (.dup2, 1) := by decide +kernel
theorem dX9_shuts_62 : decode cX9_shuts 62 = .ok (.iaload, 1) := by decide +kernel
theorem dX9_shuts_63 : decode cX9_shuts 63 = .ok (.iconst 1, 1) := by decide +kernel
theorem dX9_shuts_64 : decode cX9_shuts 64 = .ok (.iadd, 1) := by decide +kernel
theorem dX9_shuts_65 : decode cX9_shuts 65 = .ok (.iastore, 1) := by decide +kernel
theorem dX9_shuts_66 : decode cX9_shuts 66 = .ok (.return_, 1) := by decide +kernel
theorem dX9_gives_0 : decode cX9_gives 0 = .ok (.aload_n 0, 1) := by decide +kernel
theorem dX9_gives_1 : decode cX9_gives 1 = .ok (.iload_n 1, 1) := by decide +kernel
theorem dX9_gives_2 : decode cX9_gives 2 = .ok (.invokevirtual 328, 3) := by decide +kernel
theorem dX9_gives_5 : decode cX9_gives 5 = .ok (.aload_n 0, 1) := by decide +kernel
theorem dX9_gives_6 : decode cX9_gives 6 = .ok (.iload_n 1, 1) := by decide +kernel
theorem dX9_gives_7 : decode cX9_gives 7 = .ok (.iconst 0, 1) := by decide +kernel
theorem dX9_gives_8 : decode cX9_gives 8 = .ok (.invokevirtual 301, 3) := by decide +kernel
theorem dX9_gives_11 : decode cX9_gives 11 = .ok (.istore_n 2, 1) := by decide +kernel
theorem dX9_gives_12 : decode cX9_gives 12 = .ok (.iload_n 2, 1) := by decide +kernel
theorem dX9_gives_13 : decode cX9_gives 13 = .ok (.aload_n 0, 1) := by decide +kernel
theorem dX9_gives_14 : decode cX9_gives 14 = .ok (.getfield 304, 3) := by decide +kernel
theorem dX9_gives_17 : decode cX9_gives 17 = .ok (.if_icmp .ge 64, 3) := by decide +kernel
theorem dX9_gives_20 : decode cX9_gives 20 = .ok (.aload_n 0, 1) := by decide +kernel
theorem dX9_gives_21 : decode cX9_gives 21 = .ok (.getfield 94, 3) := by decide +kernel
theorem dX9_gives_24 : decode cX9_gives 24 = .ok (.sipush 410, 3) := by decide +kernel
theorem dX9_gives_27 : decode cX9_gives 27 = .ok (.aload_n 0, 1) := by decide +kernel
theorem dX9_gives_28 : decode cX9_gives 28 = .ok (.getfield 94, 3) := by decide +kernel
theorem dX9_gives_31 : decode cX9_gives 31 = .ok (.iconst 1, 1) := by decide +kernel
theorem dX9_gives_32 : decode cX9_gives 32 = .ok (.iaload, 1) := by decide +kernel
theorem dX9_gives_33 : decode cX9_gives 33 = .ok (.iadd, 1) := by decide +kernel
theorem dX9_gives_34 : decode cX9_gives 34 = .ok (.aload_n 0, 1) := by decide +kernel
theorem dX9_gives_35 : decode cX9_gives 35 = .ok (.getfield 97, 3) := by decide +kernel
theorem dX9_gives_38 : decode cX9_gives 38 = .ok (.iload_n 2, 1) := by decide +kernel
theorem dX9_gives_39 : decode cX9_gives 39 = .ok (.iaload, 1) := by decide +kernel
theorem dX9_gives_40 : decode cX9_gives 40 = .ok (.iastore, 1) := by decide +kernel
theorem dX9_gives_41 : decode cX9_gives 41 = .ok (.aload_n 0, 1) := by decide +kernel
theorem dX9_gives_42 : decode cX9_gives 42 = .ok (.getfield 94, 3) := by decide +kernel
theorem dX9_gives_45 : decode cX9_gives 45 = .ok (.bipush 110, 2) := by decide +kernel
theorem dX9_gives_47 : decode cX9_gives 47 = .ok (.iconst 5, 1) := by decide +kernel
theorem dX9_gives_48 : decode cX9_gives 48 = .ok (.aload_n 0, 1) := by decide +kernel
theorem dX9_gives_49 : decode cX9_gives 49 = .ok (.getfield 97, 3) := by decide +kernel
theorem dX9_gives_52 : decode cX9_gives 52 = .ok (.iload_n 2, 1) := by decide +kernel
theorem dX9_gives_53 : decode cX9_gives 53 = .ok (.iaload, 1) := by decide +kernel
theorem dX9_gives_54 : decode cX9_gives 54 = .ok (.imul, 1) := by decide +kernel
theorem dX9_gives_55 : decode cX9_gives 55 = .ok (.iadd, 1) := by decide +kernel
theorem dX9_gives_56 : decode cX9_gives 56 = .ok (.iconst 4, 1) := by decide +kernel
theorem dX9_gives_57 : decode cX9_gives 57 = .ok (.iadd, 1) := by decide +kernel
theorem dX9_gives_58 : decode cX9_gives 58 = .ok (.aload_n 0, 1) := by decide +kernel
theorem dX9_gives_59 : decode cX9_gives 59 = .ok (.getfield 94, 3) := by decide +kernel
theorem dX9_gives_62 : decode cX9_gives 62 = .ok (.iconst 1, 1) := by decide +kernel
theorem dX9_gives_63 : decode cX9_gives 63 = .ok (.iaload, 1) := by decide +kernel
theorem dX9_gives_64 : decode cX9_gives 64 = .ok (.iastore, 1) := by decide +kernel
theorem dX9_gives_65 : decode cX9_gives 65 = .ok (.aload_n 0, 1) := by decide +kernel
theorem dX9_gives_66 : decode cX9_gives 66 = .ok (.getfield 94, 3) := by decide +kernel
theorem dX9_gives_69 : decode cX9_gives 69 = .ok (.iconst 1, 1) := by decide +kernel
theorem dX9_gives_70 : decode cX9_gives 70 = .ok (.dup2, 1) := by decide +kernel
theorem dX9_gives_71 : decode cX9_gives 71 = .ok (.iaload, 1) := by decide +kernel
theorem dX9_gives_72 : decode cX9_gives 72 = .ok (.iconst 1, 1) := by decide +kernel
theorem dX9_gives_73 : decode cX9_gives 73 = .ok (.iadd, 1) := by decide +kernel
theorem dX9_gives_74 : decode cX9_gives 74 = .ok (.iastore, 1) := by decide +kernel
theorem dX9_gives_75 : decode cX9_gives 75 = .ok (.iinc 2 1, 3) := by decide +kernel
theorem dX9_gives_78 : decode cX9_gives 78 = .ok (.goto (-66), 3) := by decide +kernel
theorem dX9_gives_81 : decode cX9_gives 81 = .ok (.aload_n 0, 1) := by decide +kernel
theorem dX9_gives_82 : decode cX9_gives 82 = .ok (.getfield 94, 3) := by decide +kernel
theorem dX9_gives_85 : decode cX9_gives 85 = .ok (.bipush 15, 2) := by decide +kernel
theorem dX9_gives_87 : decode cX9_gives 87 = .ok (.bipush 6, 2) := by decide +kernel
theorem dX9_gives_89 : decode cX9_gives 89 = .ok (.iload_n 1, 1) := by decide +kernel
theorem dX9_gives_90 : decode cX9_gives 90 = .ok (.imul, 1) := by decide +kernel
theorem dX9_gives_91 : decode cX9_gives 91 = .ok (.iadd, 1) := by decide +kernel
theorem dX9_gives_92 : decode cX9_gives 92 = .ok (.iconst 0, 1) := by decide +kernel
theorem dX9_gives_93 : decode cX9_gives 93 = .ok (.iadd, 1) := by decide +kernel
theorem dX9_gives_94 : decode cX9_gives 94 = .ok (.aload_n 0, 1) := by decide +kernel
theorem dX9_gives_95 : decode cX9_gives 95 = .ok (.getfield 94, 3) := by decide +kernel
theorem dX9_gives_98 : decode cX9_gives 98 = .ok (.iconst 1, 1) := by decide +kernel
theorem dX9_gives_99 : decode cX9_gives 99 = .ok (.iaload, 1) := by decide +kernel
theorem dX9_gives_100 : decode cX9_gives 100 = .ok (.iastore, 1) := by decide +kernel
theorem dX9_gives_101 : decode cX9_gives 101 = .ok (.return_, 1) := by decide +kernel
theorem dX9_brings_0 : decode cX9_brings 0 = .ok (.iconst 0, 1) := by decide +kernel
theorem dX9_brings_1 : decode cX9_brings 1 = .ok (.istore_n 3, 1) := by decide +kernel
theorem dX9_brings_2 : decode cX9_brings 2 = .ok (.iconst 0, 1) := by decide +kernel
theorem dX9_brings_3 : decode cX9_brings 3 = .ok (.istore 4, 2) := by decide +kernel
theorem dX9_brings_5 : decode cX9_brings 5 = .ok (.iload 4, 2) := by decide +kernel
theorem dX9_brings_7 : decode cX9_brings 7 = .ok (.aload_n 0, 1) := by decide +kernel
theorem dX9_brings_8 : decode cX9_brings 8 = .ok (.getfield 94, 3) := by decide +kernel
theorem dX9_brings_11 : decode cX9_brings 11 = .ok (.iconst 0, 1) := by decide +kernel
theorem dX9_brings_12 : decode cX9_brings 12 = .ok (.iaload, 1) := by decide +kernel
theorem dX9_brings_13 : decode cX9_brings 13 = .ok (.if_icmp .ge 51, 3) := by decide +kernel
theorem dX9_brings_16 : decode cX9_brings 16 = .ok (.aload_n 0, 1) := by decide +kernel
theorem dX9_brings_17 : decode cX9_brings 17 = .ok (.iload_n 1, 1) := by decide +kernel
theorem dX9_brings_18 : decode cX9_brings 18 = .ok (.iload 4, 2) := by decide +kernel
theorem dX9_brings_20 : decode cX9_brings 20 = .ok (.invokevirtual 294, 3) := by decide +kernel
theorem dX9_brings_23 : decode cX9_brings 23 = .ok (.ifCond .eq 35, 3) := by decide +kernel
theorem dX9_brings_26 : decode cX9_brings 26 = .ok (.aload_n 0, 1) := by decide +kernel
theorem dX9_brings_27 : decode cX9_brings 27 = .ok (.iload_n 2, 1) := by decide +kernel
theorem dX9_brings_28 : decode cX9_brings 28 = .ok (.iload 4, 2) := by decide +kernel
theorem dX9_brings_30 : decode cX9_brings 30 = .ok (.invokevirtual 294, 3) := by decide +kernel
theorem dX9_brings_33 : decode cX9_brings 33 = .ok (.ifCond .eq 6, 3) := by decide +kernel
theorem dX9_brings_36 : decode cX9_brings 36 = .ok (.goto 22, 3) := by decide +kernel
theorem dX9_brings_39 : decode cX9_brings 39 = .ok (.aload_n 0, 1) := by decide +kernel
theorem dX9_brings_40 : decode cX9_brings 40 = .ok (.getfield 94, 3) := by decide +kernel
theorem dX9_brings_43 : decode cX9_brings 43 = .ok (.sipush 470, 3) := by decide +kernel
theorem dX9_brings_46 : decode cX9_brings 46 = .ok (.bipush 60, 2) := by decide +kernel
theorem dX9_brings_48 : decode cX9_brings 48 = .ok (.iload_n 2, 1) := by decide +kernel
theorem dX9_brings_49 : decode cX9_brings 49 = .ok (.imul, 1) := by decide +kernel
theorem dX9_brings_50 : decode cX9_brings 50 = .ok (.iadd, 1) := by decide +kernel
theorem dX9_brings_51 : decode cX9_brings 51 = .ok (.iload 4, 2) := by decide +kernel
theorem dX9_brings_53 : decode cX9_brings 53 = .ok (.iadd, 1) := by decide +kernel
theorem dX9_brings_54 : decode cX9_brings 54 = .ok (.iconst 1, 1) := by decide +kernel
theorem dX9_brings_55 : decode cX9_brings 55 = .ok (.iastore, 1) := by decide +kernel
theorem dX9_brings_56 : decode cX9_brings 56 = .ok (.iconst 1, 1) := by decide +kernel
theorem dX9_brings_57 : decode cX9_brings 57 = .ok (.istore_n 3, 1) := by decide +kernel
theorem dX9_brings_58 : decode cX9_brings 58 = .ok (.iinc 4 1, 3) := by decide +kernel
theorem dX9_brings_61 : decode cX9_brings 61 = .ok (.goto (-56), 3) := by decide +kernel
theorem dX9_brings_64 : decode cX9_brings 64 = .ok (.iload_n 3, 1) := by decide +kernel
theorem dX9_brings_65 : decode cX9_brings 65 = .ok (.ireturn, 1) := by decide +kernel
theorem dX9_meets_0 : decode cX9_meets 0 = .ok (.aload_n 0, 1) := by decide +kernel
theorem dX9_meets_1 : decode cX9_meets 1 = .ok (.iload_n 2, 1) := by decide +kernel
theorem dX9_meets_2 : decode cX9_meets 2 = .ok (.invokevirtual 338, 3) := by decide +kernel
theorem dX9_meets_5 : decode cX9_meets 5 = .ok (.aload_n 0, 1) := by decide +kernel
theorem dX9_meets_6 : decode cX9_meets 6 = .ok (.iload_n 1, 1) := by decide +kernel
theorem dX9_meets_7 : decode cX9_meets 7 = .ok (.invokevirtual 338, 3) := by decide +kernel
theorem dX9_meets_10 : decode cX9_meets 10 = .ok (.aload_n 0, 1) := by decide +kernel
theorem dX9_meets_11 : decode cX9_meets 11 = .ok (.iload_n 2, 1) := by decide +kernel
theorem dX9_meets_12 : decode cX9_meets 12 = .ok (.invokevirtual 328, 3) := by decide +kernel
theorem dX9_meets_15 : decode cX9_meets 15 = .ok (.aload_n 0, 1) := by decide +kernel
theorem dX9_meets_16 : decode cX9_meets 16 = .ok (.invokevirtual 341, 3) := by decide +kernel
theorem dX9_meets_19 : decode cX9_meets 19 = .ok (.aload_n 0, 1) := by decide +kernel
theorem dX9_meets_20 : decode cX9_meets 20 = .ok (.iload_n 1, 1) := by decide +kernel
theorem dX9_meets_21 : decode cX9_meets 21 = .ok (.iload_n 2, 1) := by decide +kernel
theorem dX9_meets_22 : decode cX9_meets 22 = .ok (.invokevirtual 344, 3) := by decide +kernel
theorem dX9_meets_25 : decode cX9_meets 25 = .ok (.istore_n 3, 1) := by decide +kernel
theorem dX9_meets_26 : decode cX9_meets 26 = .ok (.aload_n 0, 1) := by decide +kernel
theorem dX9_meets_27 : decode cX9_meets 27 = .ok (.iload_n 1, 1) := by decide +kernel
theorem dX9_meets_28 : decode cX9_meets 28 = .ok (.iconst 0, 1) := by decide +kernel
theorem dX9_meets_29 : decode cX9_meets 29 = .ok (.invokevirtual 301, 3) := by decide +kernel
theorem dX9_meets_32 : decode cX9_meets 32 = .ok (.aload_n 0, 1) := by decide +kernel
theorem dX9_meets_33 : decode cX9_meets 33 = .ok (.iload_n 2, 1) := by decide +kernel
theorem dX9_meets_34 : decode cX9_meets 34 = .ok (.iconst 0, 1) := by decide +kernel
theorem dX9_meets_35 : decode cX9_meets 35 = .ok (.invokevirtual 301, 3) := by decide +kernel
theorem dX9_meets_38 : decode cX9_meets 38 = .ok (.if_icmp .le 23, 3) := by decide +kernel
theorem dX9_meets_41 : decode cX9_meets 41 = .ok (.aload_n 0, 1) := by decide +kernel
theorem dX9_meets_42 : decode cX9_meets 42 = .ok (.getfield 94, 3) := by decide +kernel
theorem dX9_meets_45 : decode cX9_meets 45 = .ok (.bipush 15, 2) := by decide +kernel
theorem dX9_meets_47 : decode cX9_meets 47 = .ok (.bipush 6, 2) := by decide +kernel
theorem dX9_meets_49 : decode cX9_meets 49 = .ok (.iload_n 2, 1) := by decide +kernel
theorem dX9_meets_50 : decode cX9_meets 50 = .ok (.imul, 1) := by decide +kernel
theorem dX9_meets_51 : decode cX9_meets 51 = .ok (.iadd, 1) := by decide +kernel
theorem dX9_meets_52 : decode cX9_meets 52 = .ok (.iconst 0, 1) := by decide +kernel
theorem dX9_meets_53 : decode cX9_meets 53 = .ok (.iadd, 1) := by decide +kernel
theorem dX9_meets_54 : decode cX9_meets 54 = .ok (.aload_n 0, 1) := by decide +kernel
theorem dX9_meets_55 : decode cX9_meets 55 = .ok (.iload_n 1, 1) := by decide +kernel
theorem dX9_meets_56 : decode cX9_meets 56 = .ok (.iconst 0, 1) := by decide +kernel
theorem dX9_meets_57 : decode cX9_meets 57 = .ok (.invokevirtual 301, 3) := by decide +kernel
theorem dX9_meets_60 : decode cX9_meets 60 = .ok (.iastore, 1) := by decide +kernel
theorem dX9_meets_61 : decode cX9_meets 61 = .ok (.iload_n 3, 1) := by decide +kernel
theorem dX9_meets_62 : decode cX9_meets 62 = .ok (.ifCond .eq 18, 3) := by decide +kernel
theorem dX9_meets_65 : decode cX9_meets 65 = .ok (.iload_n 2, 1) := by decide +kernel
theorem dX9_meets_66 : decode cX9_meets 66 = .ok (.aload_n 0, 1) := by decide +kernel
theorem dX9_meets_67 : decode cX9_meets 67 = .ok (.getfield 94, 3) := by decide +kernel
theorem dX9_meets_70 : decode cX9_meets 70 = .ok (.iconst 2, 1) := by decide +kernel
theorem dX9_meets_71 : decode cX9_meets 71 = .ok (.iaload, 1) := by decide +kernel
theorem dX9_meets_72 : decode cX9_meets 72 = .ok (.if_icmp .ne 8, 3) := by decide +kernel
theorem dX9_meets_75 : decode cX9_meets 75 = .ok (.aload_n 0, 1) := by decide +kernel
theorem dX9_meets_76 : decode cX9_meets 76 = .ok (.iload_n 2, 1) := by decide +kernel
theorem dX9_meets_77 : decode cX9_meets 77 = .ok (.invokevirtual 347, 3) := by decide +kernel
theorem dX9_meets_80 : decode cX9_meets 80 = .ok (.aload_n 0, 1) := by decide +kernel
theorem dX9_meets_81 : decode cX9_meets 81 = .ok (.iload_n 2, 1) := by decide +kernel
theorem dX9_meets_82 : decode cX9_meets 82 = .ok (.invokevirtual 328, 3) := by decide +kernel
theorem dX9_meets_85 : decode cX9_meets 85 = .ok (.aload_n 0, 1) := by decide +kernel
theorem dX9_meets_86 : decode cX9_meets 86 = .ok (.invokevirtual 350, 3) := by decide +kernel
theorem dX9_meets_89 : decode cX9_meets 89 = .ok (.istore 4, 2) := by decide +kernel
theorem dX9_meets_91 : decode cX9_meets 91 = .ok (.aload_n 0, 1) := by decide +kernel
theorem dX9_meets_92 : decode cX9_meets 92 = .ok (.iload_n 2, 1) := by decide +kernel
theorem dX9_meets_93 : decode cX9_meets 93 = .ok (.iconst 1, 1) := by decide +kernel
theorem dX9_meets_94 : decode cX9_meets 94 = .ok (.aload_n 0, 1) := by decide +kernel
theorem dX9_meets_95 : decode cX9_meets 95 = .ok (.getfield 313, 3) := by decide +kernel
theorem dX9_meets_98 : decode cX9_meets 98 = .ok (.iload 4, 2) := by decide +kernel
theorem dX9_meets_100 : decode cX9_meets 100 = .ok (.isub, 1) := by decide +kernel
theorem dX9_meets_101 : decode cX9_meets 101 = .ok (.invokevirtual 334, 3) := by decide +kernel
theorem dX9_meets_104 : decode cX9_meets 104 = .ok (.aload_n 0, 1) := by decide +kernel
theorem dX9_meets_105 : decode cX9_meets 105 = .ok (.iload_n 2, 1) := by decide +kernel
theorem dX9_meets_106 : decode cX9_meets 106 = .ok (.iconst 2, 1) := by decide +kernel
theorem dX9_meets_107 : decode cX9_meets 107 = .ok (.aload_n 0, 1) := by decide +kernel
theorem dX9_meets_108 : decode cX9_meets 108 = .ok (.getfield 304, 3) := by decide +kernel
theorem dX9_meets_111 : decode cX9_meets 111 = .ok (.iload 4, 2) := by decide +kernel
theorem dX9_meets_113 : decode cX9_meets 113 = .ok (.isub, 1) := by decide +kernel
theorem dX9_meets_114 : decode cX9_meets 114 = .ok (.invokevirtual 334, 3) := by decide +kernel
theorem dX9_meets_117 : decode cX9_meets 117 = .ok (.aload_n 0, 1) := by decide +kernel
theorem dX9_meets_118 : decode cX9_meets 118 = .ok (.iload_n 1, 1) := by decide +kernel
theorem dX9_meets_119 : decode cX9_meets 119 = .ok (.invokevirtual 353, 3) := by decide +kernel
theorem dX9_meets_122 : decode cX9_meets 122 = .ok (.aload_n 0, 1) := by decide +kernel
theorem dX9_meets_123 : decode cX9_meets 123 = .ok (.iload_n 2, 1) := by decide +kernel
theorem dX9_meets_124 : decode cX9_meets 124 = .ok (.invokevirtual 353, 3) := by decide +kernel
theorem dX9_meets_127 : decode cX9_meets 127 = .ok (.aload_n 0, 1) := by decide +kernel
theorem dX9_meets_128 : decode cX9_meets 128 = .ok (.getfield 313, 3) := by decide +kernel
theorem dX9_meets_131 : decode cX9_meets 131 = .ok (.iload 4, 2) := by decide +kernel
theorem dX9_meets_133 : decode cX9_meets 133 = .ok (.isub, 1) := by decide +kernel
theorem dX9_meets_134 : decode cX9_meets 134 = .ok (.ireturn, 1) := by decide +kernel
theorem dX9_meetsByChance_0 : decode cX9_meetsByChance 0 = .ok (.aload_n 0, 1) := by decide +kernel
theorem dX9_meetsByChance_1 : decode cX9_meetsByChance 1 = .ok (.getfield 94, 3) := by decide +kernel
theorem dX9_meetsByChance_4 : decode cX9_meetsByChance 4 = .ok (.iconst 3, 1) := by decide +kernel
theorem dX9_meetsByChance_5 : decode cX9_meetsByChance 5 = .ok (.iaload, 1) := by decide +kernel
theorem dX9_meetsByChance_6 : decode cX9_meetsByChance 6 = .ok (.istore_n 1, 1) := by decide +kernel
theorem dX9_meetsByChance_7 : decode cX9_meetsByChance 7 = .ok (.aload_n 0, 1) := by decide +kernel
theorem dX9_meetsByChance_8 : decode cX9_meetsByChance 8 = .ok (.getfield 94, 3) := by decide +kernel
theorem dX9_meetsByChance_11 : decode cX9_meetsByChance 11 = .ok (.iconst 3, 1) := by decide +kernel
theorem dX9_meetsByChance_12 : decode cX9_meetsByChance 12 = .ok (.dup2, 1) := by decide +kernel
theorem dX9_meetsByChance_13 : decode cX9_meetsByChance 13 = .ok (.iaload, 1) := by decide +kernel
theorem dX9_meetsByChance_14 : decode cX9_meetsByChance 14 = .ok (.iconst 1, 1) := by decide +kernel
theorem dX9_meetsByChance_15 : decode cX9_meetsByChance 15 = .ok (.iadd, 1) := by decide +kernel
theorem dX9_meetsByChance_16 : decode cX9_meetsByChance 16 = .ok (.iastore, 1) := by decide +kernel
theorem dX9_meetsByChance_17 : decode cX9_meetsByChance 17 = .ok (.aload_n 0, 1) := by decide +kernel
theorem dX9_meetsByChance_18 : decode cX9_meetsByChance 18 = .ok (.getfield 46, 3) := by decide +kernel
theorem dX9_meetsByChance_21 : decode cX9_meetsByChance 21 = .ok (.aload_n 0, 1) := by decide +kernel
theorem dX9_meetsByChance_22 : decode cX9_meetsByChance 22 = .ok (.getfield 209, 3) := by decide +kernel
theorem dX9_meetsByChance_25 : decode cX9_meetsByChance 25 = .ok (.iaload, 1) := by decide +kernel
theorem dX9_meetsByChance_26 : decode cX9_meetsByChance 26 = .ok (.istore_n 2, 1) := by decide +kernel
theorem dX9_meetsByChance_27 : decode cX9_meetsByChance 27 = .ok (.iload_n 2, 1) := by decide +kernel
theorem dX9_meetsByChance_28 : decode cX9_meetsByChance 28 = .ok (.iconst 1, 1) := by decide +kernel
theorem dX9_meetsByChance_29 : decode cX9_meetsByChance 29 = .ok (.if_icmp .ne 4, 3) := by decide +kernel
theorem dX9_meetsByChance_32 : decode cX9_meetsByChance 32 = .ok (.return_, 1) := by decide +kernel
theorem dX9_meetsByChance_33 : decode cX9_meetsByChance 33 = .ok (.aload_n 0, 1) := by decide +kernel
theorem dX9_meetsByChance_34 : decode cX9_meetsByChance 34 = .ok (.iconst 2, 1) := by decide +kernel
theorem dX9_meetsByChance_35 : decode cX9_meetsByChance 35 = .ok (.iload_n 1, 1) := by decide +kernel
theorem dX9_meetsByChance_36 : decode cX9_meetsByChance 36 = .ok (.imul, 1) := by decide +kernel
theorem dX9_meetsByChance_37 : decode cX9_meetsByChance 37 = .ok (.iload_n 2, 1) := by decide +kernel
theorem dX9_meetsByChance_38 : decode cX9_meetsByChance 38 = .ok (.invokevirtual 356, 3) := by decide +kernel
theorem dX9_meetsByChance_41 : decode cX9_meetsByChance 41 = .ok (.istore_n 3, 1) := by decide +kernel
theorem dX9_meetsByChance_42 : decode cX9_meetsByChance 42 = .ok (.iload_n 3, 1) := by decide +kernel
theorem dX9_meetsByChance_43 : decode cX9_meetsByChance 43 = .ok (.iconst 1, 1) := by decide +kernel
theorem dX9_meetsByChance_44 : decode cX9_meetsByChance 44 = .ok (.iadd, 1) := by decide +kernel
theorem dX9_meetsByChance_45 : decode cX9_meetsByChance 45 = .ok (.aload_n 0, 1) := by decide +kernel
theorem dX9_meetsByChance_46 : decode cX9_meetsByChance 46 = .ok (.iconst 2, 1) := by decide +kernel
theorem dX9_meetsByChance_47 : decode cX9_meetsByChance 47 = .ok (.iload_n 1, 1) := by decide +kernel
theorem dX9_meetsByChance_48 : decode cX9_meetsByChance 48 = .ok (.imul, 1) := by decide +kernel
theorem dX9_meetsByChance_49 : decode cX9_meetsByChance 49 = .ok (.iconst 1, 1) := by decide +kernel
theorem dX9_meetsByChance_50 : decode cX9_meetsByChance 50 = .ok (.iadd, 1) := by decide +kernel
theorem dX9_meetsByChance_51 : decode cX9_meetsByChance 51 = .ok (.iload_n 2, 1) := by decide +kernel
theorem dX9_meetsByChance_52 : decode cX9_meetsByChance 52 = .ok (.iconst 1, 1) := by decide +kernel
theorem dX9_meetsByChance_53 : decode cX9_meetsByChance 53 = .ok (.isub, 1) := by decide +kernel
theorem dX9_meetsByChance_54 : decode cX9_meetsByChance 54 = .ok (.invokevirtual 356, 3) := by decide +kernel
theorem dX9_meetsByChance_57 : decode cX9_meetsByChance 57 = .ok (.iadd, 1) := by decide +kernel
theorem dX9_meetsByChance_58 : decode cX9_meetsByChance 58 = .ok (.iload_n 2, 1) := by decide +kernel
theorem dX9_meetsByChance_59 : decode cX9_meetsByChance 59 = .ok (.irem, 1) := by decide +kernel
theorem dX9_meetsByChance_60 : decode cX9_meetsByChance 60 = .ok (.istore 4, 2) := by decide +kernel
theorem dX9_meetsByChance_62 : decode cX9_meetsByChance 62 = .ok (.aload_n 0, 1) := by decide +kernel
theorem dX9_meetsByChance_63 : decode cX9_meetsByChance 63 = .ok (.iload_n 3, 1) := by decide +kernel
theorem dX9_meetsByChance_64 : decode cX9_meetsByChance 64 = .ok (.iload 4, 2) := by decide +kernel
theorem dX9_meetsByChance_66 : decode cX9_meetsByChance 66 = .ok (.invokevirtual 359, 3) := by decide +kernel
theorem dX9_meetsByChance_69 : decode cX9_meetsByChance 69 = .ok (.pop, 1) := by decide +kernel
theorem dX9_meetsByChance_70 : decode cX9_meetsByChance 70 = .ok (.return_, 1) := by decide +kernel
theorem dX9_makes_0 : decode cX9_makes 0 = .ok (.aload_n 0, 1) := by decide +kernel
theorem dX9_makes_1 : decode cX9_makes 1 = .ok (.getfield 94, 3) := by decide +kernel
theorem dX9_makes_4 : decode cX9_makes 4 = .ok (.iconst 0, 1) := by decide +kernel
theorem dX9_makes_5 : decode cX9_makes 5 = .ok (.iaload, 1) := by decide +kernel
theorem dX9_makes_6 : decode cX9_makes 6 = .ok (.istore 5, 2) := by decide +kernel
theorem dX9_makes_8 : decode cX9_makes 8 = .ok (.aload_n 0, 1) := by decide +kernel
theorem dX9_makes_9 : decode cX9_makes 9 = .ok (.iload_n 2, 1) := by decide +kernel
theorem dX9_makes_10 : decode cX9_makes 10 = .ok (.invokevirtual 362, 3) := by decide +kernel
theorem dX9_makes_13 : decode cX9_makes 13 = .ok (.iconst 1, 1) := by decide +kernel
theorem dX9_makes_14 : decode cX9_makes 14 = .ok (.iadd, 1) := by decide +kernel
theorem dX9_makes_15 : decode cX9_makes 15 = .ok (.istore 6, 2) := by decide +kernel
theorem dX9_makes_17 : decode cX9_makes 17 = .ok (.aload_n 0, 1) := by decide +kernel
theorem dX9_makes_18 : decode cX9_makes 18 = .ok (.getfield 94, 3) := by decide +kernel
theorem dX9_makes_21 : decode cX9_makes 21 = .ok (.iconst 0, 1) := by decide +kernel
theorem dX9_makes_22 : decode cX9_makes 22 = .ok (.dup2, 1) := by decide +kernel
theorem dX9_makes_23 : decode cX9_makes 23 = .ok (.iaload, 1) := by decide +kernel
theorem dX9_makes_24 : decode cX9_makes 24 = .ok (.iconst 1, 1) := by decide +kernel
theorem dX9_makes_25 : decode cX9_makes 25 = .ok (.iadd, 1) := by decide +kernel
theorem dX9_makes_26 : decode cX9_makes 26 = .ok (.iastore, 1) := by decide +kernel
theorem dX9_makes_27 : decode cX9_makes 27 = .ok (.aload_n 0, 1) := by decide +kernel
theorem dX9_makes_28 : decode cX9_makes 28 = .ok (.getfield 94, 3) := by decide +kernel
theorem dX9_makes_31 : decode cX9_makes 31 = .ok (.bipush 110, 2) := by decide +kernel
theorem dX9_makes_33 : decode cX9_makes 33 = .ok (.iconst 5, 1) := by decide +kernel
theorem dX9_makes_34 : decode cX9_makes 34 = .ok (.iload 5, 2) := by decide +kernel
theorem dX9_makes_36 : decode cX9_makes 36 = .ok (.imul, 1) := by decide +kernel
theorem dX9_makes_37 : decode cX9_makes 37 = .ok (.iadd, 1) := by decide +kernel
theorem dX9_makes_38 : decode cX9_makes 38 = .ok (.iload_n 3, 1) := by decide +kernel
theorem dX9_makes_39 : decode cX9_makes 39 = .ok (.iastore, 1) := by decide +kernel
theorem dX9_makes_40 : decode cX9_makes 40 = .ok (.aload_n 0, 1) := by decide +kernel
theorem dX9_makes_41 : decode cX9_makes 41 = .ok (.getfield 94, 3) := by decide +kernel
theorem dX9_makes_44 : decode cX9_makes 44 = .ok (.bipush 110, 2) := by decide +kernel
theorem dX9_makes_46 : decode cX9_makes 46 = .ok (.iconst 5, 1) := by decide +kernel
theorem dX9_makes_47 : decode cX9_makes 47 = .ok (.iload 5, 2) := by decide +kernel
theorem dX9_makes_49 : decode cX9_makes 49 = .ok (.imul, 1) := by decide +kernel
theorem dX9_makes_50 : decode cX9_makes 50 = .ok (.iadd, 1) := by decide +kernel
theorem dX9_makes_51 : decode cX9_makes 51 = .ok (.iconst 1, 1) := by decide +kernel
theorem dX9_makes_52 : decode cX9_makes 52 = .ok (.iadd, 1) := by decide +kernel
theorem dX9_makes_53 : decode cX9_makes 53 = .ok (.iload 4, 2) := by decide +kernel
theorem dX9_makes_55 : decode cX9_makes 55 = .ok (.iastore, 1) := by decide +kernel
theorem dX9_makes_56 : decode cX9_makes 56 = .ok (.aload_n 0, 1) := by decide +kernel
theorem dX9_makes_57 : decode cX9_makes 57 = .ok (.getfield 94, 3) := by decide +kernel
theorem dX9_makes_60 : decode cX9_makes 60 = .ok (.bipush 110, 2) := by decide +kernel
theorem dX9_makes_62 : decode cX9_makes 62 = .ok (.iconst 5, 1) := by decide +kernel
theorem dX9_makes_63 : decode cX9_makes 63 = .ok (.iload 5, 2) := by decide +kernel
theorem dX9_makes_65 : decode cX9_makes 65 = .ok (.imul, 1) := by decide +kernel
theorem dX9_makes_66 : decode cX9_makes 66 = .ok (.iadd, 1) := by decide +kernel
theorem dX9_makes_67 : decode cX9_makes 67 = .ok (.iconst 2, 1) := by decide +kernel
theorem dX9_makes_68 : decode cX9_makes 68 = .ok (.iadd, 1) := by decide +kernel
theorem dX9_makes_69 : decode cX9_makes 69 = .ok (.iload_n 2, 1) := by decide +kernel
theorem dX9_makes_70 : decode cX9_makes 70 = .ok (.iastore, 1) := by decide +kernel
theorem dX9_makes_71 : decode cX9_makes 71 = .ok (.aload_n 0, 1) := by decide +kernel
theorem dX9_makes_72 : decode cX9_makes 72 = .ok (.getfield 94, 3) := by decide +kernel
theorem dX9_makes_75 : decode cX9_makes 75 = .ok (.bipush 110, 2) := by decide +kernel
theorem dX9_makes_77 : decode cX9_makes 77 = .ok (.iconst 5, 1) := by decide +kernel
theorem dX9_makes_78 : decode cX9_makes 78 = .ok (.iload 5, 2) := by decide +kernel
theorem dX9_makes_80 : decode cX9_makes 80 = .ok (.imul, 1) := by decide +kernel
theorem dX9_makes_81 : decode cX9_makes 81 = .ok (.iadd, 1) := by decide +kernel
theorem dX9_makes_82 : decode cX9_makes 82 = .ok (.iconst 3, 1) := by decide +kernel
theorem dX9_makes_83 : decode cX9_makes 83 = .ok (.iadd, 1) := by decide +kernel
theorem dX9_makes_84 : decode cX9_makes 84 = .ok (.iload 6, 2) := by decide +kernel
theorem dX9_makes_86 : decode cX9_makes 86 = .ok (.iastore, 1) := by decide +kernel
theorem dX9_makes_87 : decode cX9_makes 87 = .ok (.aload_n 0, 1) := by decide +kernel
theorem dX9_makes_88 : decode cX9_makes 88 = .ok (.getfield 94, 3) := by decide +kernel
theorem dX9_makes_91 : decode cX9_makes 91 = .ok (.bipush 110, 2) := by decide +kernel
theorem dX9_makes_93 : decode cX9_makes 93 = .ok (.iconst 5, 1) := by decide +kernel
theorem dX9_makes_94 : decode cX9_makes 94 = .ok (.iload 5, 2) := by decide +kernel
theorem dX9_makes_96 : decode cX9_makes 96 = .ok (.imul, 1) := by decide +kernel
theorem dX9_makes_97 : decode cX9_makes 97 = .ok (.iadd, 1) := by decide +kernel
theorem dX9_makes_98 : decode cX9_makes 98 = .ok (.iconst 4, 1) := by decide +kernel
theorem dX9_makes_99 : decode cX9_makes 99 = .ok (.iadd, 1) := by decide +kernel
theorem dX9_makes_100 : decode cX9_makes 100 = .ok (.bipush (-2), 2) := by decide +kernel
theorem dX9_makes_102 : decode cX9_makes 102 = .ok (.iastore, 1) := by decide +kernel
theorem dX9_makes_103 : decode cX9_makes 103 = .ok (.aload_n 0, 1) := by decide +kernel
theorem dX9_makes_104 : decode cX9_makes 104 = .ok (.getfield 94, 3) := by decide +kernel
theorem dX9_makes_107 : decode cX9_makes 107 = .ok (.sipush 470, 3) := by decide +kernel
theorem dX9_makes_110 : decode cX9_makes 110 = .ok (.bipush 60, 2) := by decide +kernel
theorem dX9_makes_112 : decode cX9_makes 112 = .ok (.iload_n 2, 1) := by decide +kernel
theorem dX9_makes_113 : decode cX9_makes 113 = .ok (.imul, 1) := by decide +kernel
theorem dX9_makes_114 : decode cX9_makes 114 = .ok (.iadd, 1) := by decide +kernel
theorem dX9_makes_115 : decode cX9_makes 115 = .ok (.iload 5, 2) := by decide +kernel
theorem dX9_makes_117 : decode cX9_makes 117 = .ok (.iadd, 1) := by decide +kernel
theorem dX9_makes_118 : decode cX9_makes 118 = .ok (.iconst 1, 1) := by decide +kernel
theorem dX9_makes_119 : decode cX9_makes 119 = .ok (.iastore, 1) := by decide +kernel
theorem dX9_makes_120 : decode cX9_makes 120 = .ok (.iload_n 1, 1) := by decide +kernel
theorem dX9_makes_121 : decode cX9_makes 121 = .ok (.ifCond .lt 22, 3) := by decide +kernel
theorem dX9_makes_124 : decode cX9_makes 124 = .ok (.aload_n 0, 1) := by decide +kernel
theorem dX9_makes_125 : decode cX9_makes 125 = .ok (.getfield 94, 3) := by decide +kernel
theorem dX9_makes_128 : decode cX9_makes 128 = .ok (.bipush 50, 2) := by decide +kernel
theorem dX9_makes_130 : decode cX9_makes 130 = .ok (.bipush 14, 2) := by decide +kernel
theorem dX9_makes_132 : decode cX9_makes 132 = .ok (.iload_n 1, 1) := by decide +kernel
theorem dX9_makes_133 : decode cX9_makes 133 = .ok (.imul, 1) := by decide +kernel
theorem dX9_makes_134 : decode cX9_makes 134 = .ok (.iadd, 1) := by decide +kernel
theorem dX9_makes_135 : decode cX9_makes 135 = .ok (.bipush 8, 2) := by decide +kernel
theorem dX9_makes_137 : decode cX9_makes 137 = .ok (.iadd, 1) := by decide +kernel
theorem dX9_makes_138 : decode cX9_makes 138 = .ok (.iload_n 2, 1) := by decide +kernel
theorem dX9_makes_139 : decode cX9_makes 139 = .ok (.iadd, 1) := by decide +kernel
theorem dX9_makes_140 : decode cX9_makes 140 = .ok (.iload 6, 2) := by decide +kernel
theorem dX9_makes_142 : decode cX9_makes 142 = .ok (.iastore, 1) := by decide +kernel
theorem dX9_makes_143 : decode cX9_makes 143 = .ok (.iload_n 2, 1) := by decide +kernel
theorem dX9_makes_144 : decode cX9_makes 144 = .ok (.aload_n 0, 1) := by decide +kernel
theorem dX9_makes_145 : decode cX9_makes 145 = .ok (.getfield 94, 3) := by decide +kernel
theorem dX9_makes_148 : decode cX9_makes 148 = .ok (.iconst 2, 1) := by decide +kernel
theorem dX9_makes_149 : decode cX9_makes 149 = .ok (.iaload, 1) := by decide +kernel
theorem dX9_makes_150 : decode cX9_makes 150 = .ok (.if_icmp .ne 8, 3) := by decide +kernel
theorem dX9_makes_153 : decode cX9_makes 153 = .ok (.aload_n 0, 1) := by decide +kernel
theorem dX9_makes_154 : decode cX9_makes 154 = .ok (.iload_n 2, 1) := by decide +kernel
theorem dX9_makes_155 : decode cX9_makes 155 = .ok (.invokevirtual 347, 3) := by decide +kernel
theorem dX9_makes_158 : decode cX9_makes 158 = .ok (.return_, 1) := by decide +kernel
theorem dX9_isBehind_0 : decode cX9_isBehind 0 = .ok (.iconst 0, 1) := by decide +kernel
theorem dX9_isBehind_1 : decode cX9_isBehind 1 = .ok (.istore_n 3, 1) := by decide +kernel
theorem dX9_isBehind_2 : decode cX9_isBehind 2 = .ok (.iload_n 3, 1) := by decide +kernel
theorem dX9_isBehind_3 : decode cX9_isBehind 3 = .ok (.aload_n 0, 1) := by decide +kernel
theorem dX9_isBehind_4 : decode cX9_isBehind 4 = .ok (.getfield 46, 3) := by decide +kernel
theorem dX9_isBehind_7 : decode cX9_isBehind 7 = .ok (.aload_n 0, 1) := by decide +kernel
theorem dX9_isBehind_8 : decode cX9_isBehind 8 = .ok (.getfield 209, 3) := by decide +kernel
theorem dX9_isBehind_11 : decode cX9_isBehind 11 = .ok (.iaload, 1) := by decide +kernel
theorem dX9_isBehind_12 : decode cX9_isBehind 12 = .ok (.if_icmp .ge 28, 3) := by decide +kernel
theorem dX9_isBehind_15 : decode cX9_isBehind 15 = .ok (.aload_n 0, 1) := by decide +kernel
theorem dX9_isBehind_16 : decode cX9_isBehind 16 = .ok (.iload_n 1, 1) := by decide +kernel
theorem dX9_isBehind_17 : decode cX9_isBehind 17 = .ok (.iload_n 3, 1) := by decide +kernel
theorem dX9_isBehind_18 : decode cX9_isBehind 18 = .ok (.invokevirtual 365, 3) := by decide +kernel
theorem dX9_isBehind_21 : decode cX9_isBehind 21 = .ok (.aload_n 0, 1) := by decide +kernel
theorem dX9_isBehind_22 : decode cX9_isBehind 22 = .ok (.getfield 94, 3) := by decide +kernel
theorem dX9_isBehind_25 : decode cX9_isBehind 25 = .ok (.iload_n 2, 1) := by decide +kernel
theorem dX9_isBehind_26 : decode cX9_isBehind 26 = .ok (.iload_n 3, 1) := by decide +kernel
theorem dX9_isBehind_27 : decode cX9_isBehind 27 = .ok (.iadd, 1) := by decide +kernel
theorem dX9_isBehind_28 : decode cX9_isBehind 28 = .ok (.iaload, 1) := by decide +kernel
theorem dX9_isBehind_29 : decode cX9_isBehind 29 = .ok (.if_icmp .ge 5, 3) := by decide +kernel
theorem dX9_isBehind_32 : decode cX9_isBehind 32 = .ok (.iconst 1, 1) := by decide +kernel
theorem dX9_isBehind_33 : decode cX9_isBehind 33 = .ok (.ireturn, 1) := by decide +kernel
theorem dX9_isBehind_34 : decode cX9_isBehind 34 = .ok (.iinc 3 1, 3) := by decide +kernel
theorem dX9_isBehind_37 : decode cX9_isBehind 37 = .ok (.goto (-35), 3) := by decide +kernel
theorem dX9_isBehind_40 : decode cX9_isBehind 40 = .ok (.iconst 0, 1) := by decide +kernel
theorem dX9_isBehind_41 : decode cX9_isBehind 41 = .ok (.ireturn, 1) := by decide +kernel
theorem dX9_mayAsk_0 : decode cX9_mayAsk 0 = .ok (.bipush 50, 2) := by decide +kernel
theorem dX9_mayAsk_2 : decode cX9_mayAsk 2 = .ok (.bipush 14, 2) := by decide +kernel
theorem dX9_mayAsk_4 : decode cX9_mayAsk 4 = .ok (.iload_n 1, 1) := by decide +kernel
theorem dX9_mayAsk_5 : decode cX9_mayAsk 5 = .ok (.imul, 1) := by decide +kernel
theorem dX9_mayAsk_6 : decode cX9_mayAsk 6 = .ok (.iadd, 1) := by decide +kernel
theorem dX9_mayAsk_7 : decode cX9_mayAsk 7 = .ok (.istore_n 3, 1) := by decide +kernel
theorem dX9_mayAsk_8 : decode cX9_mayAsk 8 = .ok (.aload_n 0, 1) := by decide +kernel
theorem dX9_mayAsk_9 : decode cX9_mayAsk 9 = .ok (.getfield 94, 3) := by decide +kernel
theorem dX9_mayAsk_12 : decode cX9_mayAsk 12 = .ok (.iload_n 3, 1) := by decide +kernel
theorem dX9_mayAsk_13 : decode cX9_mayAsk 13 = .ok (.iconst 0, 1) := by decide +kernel
theorem dX9_mayAsk_14 : decode cX9_mayAsk 14 = .ok (.iadd, 1) := by decide +kernel
theorem dX9_mayAsk_15 : decode cX9_mayAsk 15 = .ok (.iaload, 1) := by decide +kernel
theorem dX9_mayAsk_16 : decode cX9_mayAsk 16 = .ok (.istore 4, 2) := by decide +kernel
theorem dX9_mayAsk_18 : decode cX9_mayAsk 18 = .ok (.iload 4, 2) := by decide +kernel
theorem dX9_mayAsk_20 : decode cX9_mayAsk 20 = .ok (.iconst 2, 1) := by decide +kernel
theorem dX9_mayAsk_21 : decode cX9_mayAsk 21 = .ok (.irem, 1) := by decide +kernel
theorem dX9_mayAsk_22 : decode cX9_mayAsk 22 = .ok (.iconst 1, 1) := by decide +kernel
theorem dX9_mayAsk_23 : decode cX9_mayAsk 23 = .ok (.if_icmp .ne 15, 3) := by decide +kernel
theorem dX9_mayAsk_26 : decode cX9_mayAsk 26 = .ok (.aload_n 0, 1) := by decide +kernel
theorem dX9_mayAsk_27 : decode cX9_mayAsk 27 = .ok (.iload_n 2, 1) := by decide +kernel
theorem dX9_mayAsk_28 : decode cX9_mayAsk 28 = .ok (.iload_n 3, 1) := by decide +kernel
theorem dX9_mayAsk_29 : decode cX9_mayAsk 29 = .ok (.bipush 8, 2) := by decide +kernel
theorem dX9_mayAsk_31 : decode cX9_mayAsk 31 = .ok (.iadd, 1) := by decide +kernel
theorem dX9_mayAsk_32 : decode cX9_mayAsk 32 = .ok (.invokevirtual 368, 3) := by decide +kernel
theorem dX9_mayAsk_35 : decode cX9_mayAsk 35 = .ok (.ifCond .ne 28, 3) := by decide +kernel
theorem dX9_mayAsk_38 : decode cX9_mayAsk 38 = .ok (.iload 4, 2) := by decide +kernel
theorem dX9_mayAsk_40 : decode cX9_mayAsk 40 = .ok (.iconst 2, 1) := by decide +kernel
theorem dX9_mayAsk_41 : decode cX9_mayAsk 41 = .ok (.idiv, 1) := by decide +kernel
theorem dX9_mayAsk_42 : decode cX9_mayAsk 42 = .ok (.iconst 2, 1) := by decide +kernel
theorem dX9_mayAsk_43 : decode cX9_mayAsk 43 = .ok (.irem, 1) := by decide +kernel
theorem dX9_mayAsk_44 : decode cX9_mayAsk 44 = .ok (.iconst 1, 1) := by decide +kernel
theorem dX9_mayAsk_45 : decode cX9_mayAsk 45 = .ok (.if_icmp .ne 14, 3) := by decide +kernel
theorem dX9_mayAsk_48 : decode cX9_mayAsk 48 = .ok (.aload_n 0, 1) := by decide +kernel
theorem dX9_mayAsk_49 : decode cX9_mayAsk 49 = .ok (.iload_n 2, 1) := by decide +kernel
theorem dX9_mayAsk_50 : decode cX9_mayAsk 50 = .ok (.iload_n 3, 1) := by decide +kernel
theorem dX9_mayAsk_51 : decode cX9_mayAsk 51 = .ok (.iconst 3, 1) := by decide +kernel
theorem dX9_mayAsk_52 : decode cX9_mayAsk 52 = .ok (.iadd, 1) := by decide +kernel
theorem dX9_mayAsk_53 : decode cX9_mayAsk 53 = .ok (.invokevirtual 368, 3) := by decide +kernel
theorem dX9_mayAsk_56 : decode cX9_mayAsk 56 = .ok (.ifCond .ne 7, 3) := by decide +kernel
theorem dX9_mayAsk_59 : decode cX9_mayAsk 59 = .ok (.iconst 1, 1) := by decide +kernel
theorem dX9_mayAsk_60 : decode cX9_mayAsk 60 = .ok (.goto 4, 3) := by decide +kernel
theorem dX9_mayAsk_63 : decode cX9_mayAsk 63 = .ok (.iconst 0, 1) := by decide +kernel
theorem dX9_mayAsk_64 : decode cX9_mayAsk 64 = .ok (.ireturn, 1) := by decide +kernel
theorem dX9_mayMake_0 : decode cX9_mayMake 0 = .ok (.bipush 50, 2) := by decide +kernel
theorem dX9_mayMake_2 : decode cX9_mayMake 2 = .ok (.bipush 14, 2) := by decide +kernel
theorem dX9_mayMake_4 : decode cX9_mayMake 4 = .ok (.iload_n 1, 1) := by decide +kernel
theorem dX9_mayMake_5 : decode cX9_mayMake 5 = .ok (.imul, 1) := by decide +kernel
theorem dX9_mayMake_6 : decode cX9_mayMake 6 = .ok (.iadd, 1) := by decide +kernel
theorem dX9_mayMake_7 : decode cX9_mayMake 7 = .ok (.istore_n 3, 1) := by decide +kernel
theorem dX9_mayMake_8 : decode cX9_mayMake 8 = .ok (.aload_n 0, 1) := by decide +kernel
theorem dX9_mayMake_9 : decode cX9_mayMake 9 = .ok (.getfield 94, 3) := by decide +kernel
theorem dX9_mayMake_12 : decode cX9_mayMake 12 = .ok (.iload_n 3, 1) := by decide +kernel
theorem dX9_mayMake_13 : decode cX9_mayMake 13 = .ok (.iconst 0, 1) := by decide +kernel
theorem dX9_mayMake_14 : decode cX9_mayMake 14 = .ok (.iadd, 1) := by decide +kernel
theorem dX9_mayMake_15 : decode cX9_mayMake 15 = .ok (.iaload, 1) := by decide +kernel
theorem dX9_mayMake_16 : decode cX9_mayMake 16 = .ok (.istore 4, 2) := by decide +kernel
theorem dX9_mayMake_18 : decode cX9_mayMake 18 = .ok (.iload 4, 2) := by decide +kernel
theorem dX9_mayMake_20 : decode cX9_mayMake 20 = .ok (.iconst 4, 1) := by decide +kernel
theorem dX9_mayMake_21 : decode cX9_mayMake 21 = .ok (.idiv, 1) := by decide +kernel
theorem dX9_mayMake_22 : decode cX9_mayMake 22 = .ok (.iconst 2, 1) := by decide +kernel
theorem dX9_mayMake_23 : decode cX9_mayMake 23 = .ok (.irem, 1) := by decide +kernel
theorem dX9_mayMake_24 : decode cX9_mayMake 24 = .ok (.iconst 1, 1) := by decide +kernel
theorem dX9_mayMake_25 : decode cX9_mayMake 25 = .ok (.if_icmp .ne 14, 3) := by decide +kernel
theorem dX9_mayMake_28 : decode cX9_mayMake 28 = .ok (.aload_n 0, 1) := by decide +kernel
theorem dX9_mayMake_29 : decode cX9_mayMake 29 = .ok (.iload_n 2, 1) := by decide +kernel
theorem dX9_mayMake_30 : decode cX9_mayMake 30 = .ok (.iload_n 3, 1) := by decide +kernel
theorem dX9_mayMake_31 : decode cX9_mayMake 31 = .ok (.iconst 3, 1) := by decide +kernel
theorem dX9_mayMake_32 : decode cX9_mayMake 32 = .ok (.iadd, 1) := by decide +kernel
theorem dX9_mayMake_33 : decode cX9_mayMake 33 = .ok (.invokevirtual 368, 3) := by decide +kernel
theorem dX9_mayMake_36 : decode cX9_mayMake 36 = .ok (.ifCond .ne 28, 3) := by decide +kernel
theorem dX9_mayMake_39 : decode cX9_mayMake 39 = .ok (.iload 4, 2) := by decide +kernel
theorem dX9_mayMake_41 : decode cX9_mayMake 41 = .ok (.bipush 8, 2) := by decide +kernel
theorem dX9_mayMake_43 : decode cX9_mayMake 43 = .ok (.idiv, 1) := by decide +kernel
theorem dX9_mayMake_44 : decode cX9_mayMake 44 = .ok (.iconst 1, 1) := by decide +kernel
theorem dX9_mayMake_45 : decode cX9_mayMake 45 = .ok (.if_icmp .ne 15, 3) := by decide +kernel
theorem dX9_mayMake_48 : decode cX9_mayMake 48 = .ok (.aload_n 0, 1) := by decide +kernel
theorem dX9_mayMake_49 : decode cX9_mayMake 49 = .ok (.iload_n 2, 1) := by decide +kernel
theorem dX9_mayMake_50 : decode cX9_mayMake 50 = .ok (.iload_n 3, 1) := by decide +kernel
theorem dX9_mayMake_51 : decode cX9_mayMake 51 = .ok (.bipush 8, 2) := by decide +kernel
theorem dX9_mayMake_53 : decode cX9_mayMake 53 = .ok (.iadd, 1) := by decide +kernel
theorem dX9_mayMake_54 : decode cX9_mayMake 54 = .ok (.invokevirtual 368, 3) := by decide +kernel
theorem dX9_mayMake_57 : decode cX9_mayMake 57 = .ok (.ifCond .ne 7, 3) := by decide +kernel
theorem dX9_mayMake_60 : decode cX9_mayMake 60 = .ok (.iconst 1, 1) := by decide +kernel
theorem dX9_mayMake_61 : decode cX9_mayMake 61 = .ok (.goto 4, 3) := by decide +kernel
theorem dX9_mayMake_64 : decode cX9_mayMake 64 = .ok (.iconst 0, 1) := by decide +kernel
theorem dX9_mayMake_65 : decode cX9_mayMake 65 = .ok (.ireturn, 1) := by decide +kernel
theorem dX9_records_0 : decode cX9_records 0 = .ok (.aload_n 0, 1) := by decide +kernel
theorem dX9_records_1 : decode cX9_records 1 = .ok (.getfield 228, 3) := by decide +kernel
theorem dX9_records_4 : decode cX9_records 4 = .ok (.bipush 40, 2) := by decide +kernel
theorem dX9_records_6 : decode cX9_records 6 = .ok (.if_icmp .ne 44, 3) := by decide +kernel
theorem dX9_records_9 : decode cX9_records 9 = .ok (.iconst 0, 1) := by decide +kernel
theorem dX9_records_10 : decode cX9_records 10 = .ok (.istore_n 1, 1) := by decide +kernel
theorem dX9_records_11 : decode cX9_records 11 = .ok (.iload_n 1, 1) := by decide +kernel
theorem dX9_records_12 : decode cX9_records 12 = .ok (.sipush 30030, 3) := by decide +kernel
theorem dX9_records_15 : decode cX9_records 15 = .ok (.if_icmp .ge 25, 3) := by decide +kernel
theorem dX9_records_18 : decode cX9_records 18 = .ok (.aload_n 0, 1) := by decide +kernel
theorem dX9_records_19 : decode cX9_records 19 = .ok (.getfield 112, 3) := by decide +kernel
theorem dX9_records_22 : decode cX9_records 22 = .ok (.iload_n 1, 1) := by decide +kernel
theorem dX9_records_23 : decode cX9_records 23 = .ok (.aload_n 0, 1) := by decide +kernel
theorem dX9_records_24 : decode cX9_records 24 = .ok (.getfield 112, 3) := by decide +kernel
theorem dX9_records_27 : decode cX9_records 27 = .ok (.iload_n 1, 1) := by decide +kernel
theorem dX9_records_28 : decode cX9_records 28 = .ok (.sipush 770, 3) := by decide +kernel
theorem dX9_records_31 : decode cX9_records 31 = .ok (.iadd, 1) := by decide +kernel
theorem dX9_records_32 : decode cX9_records 32 = .ok (.iaload, 1) := by decide +kernel
theorem dX9_records_33 : decode cX9_records 33 = .ok (.iastore, 1) := by decide +kernel
theorem dX9_records_34 : decode cX9_records 34 = .ok (.iinc 1 1, 3) := by decide +kernel
theorem dX9_records_37 : decode cX9_records 37 = .ok (.goto (-26), 3) := by decide +kernel
theorem dX9_records_40 : decode cX9_records 40 = .ok (.aload_n 0, 1) := by decide +kernel
theorem dX9_records_41 : decode cX9_records 41 = .ok (.dup, 1) := by decide +kernel
theorem dX9_records_42 : decode cX9_records 42 = .ok (.getfield 228, 3) := by decide +kernel
theorem dX9_records_45 : decode cX9_records 45 = .ok (.iconst 1, 1) := by decide +kernel
theorem dX9_records_46 : decode cX9_records 46 = .ok (.isub, 1) := by decide +kernel
theorem dX9_records_47 : decode cX9_records 47 = .ok (.putfield 228, 3) := by decide +kernel
theorem dX9_records_50 : decode cX9_records 50 = .ok (.iconst 0, 1) := by decide +kernel
theorem dX9_records_51 : decode cX9_records 51 = .ok (.istore_n 1, 1) := by decide +kernel
theorem dX9_records_52 : decode cX9_records 52 = .ok (.iload_n 1, 1) := by decide +kernel
theorem dX9_records_53 : decode cX9_records 53 = .ok (.sipush 770, 3) := by decide +kernel
theorem dX9_records_56 : decode cX9_records 56 = .ok (.if_icmp .ge 30, 3) := by decide +kernel
theorem dX9_records_59 : decode cX9_records 59 = .ok (.aload_n 0, 1) := by decide +kernel
theorem dX9_records_60 : decode cX9_records 60 = .ok (.getfield 112, 3) := by decide +kernel
theorem dX9_records_63 : decode cX9_records 63 = .ok (.sipush 770, 3) := by decide +kernel
theorem dX9_records_66 : decode cX9_records 66 = .ok (.aload_n 0, 1) := by decide +kernel
theorem dX9_records_67 : decode cX9_records 67 = .ok (.getfield 228, 3) := by decide +kernel
theorem dX9_records_70 : decode cX9_records 70 = .ok (.imul, 1) := by decide +kernel
theorem dX9_records_71 : decode cX9_records 71 = .ok (.iload_n 1, 1) := by decide +kernel
theorem dX9_records_72 : decode cX9_records 72 = .ok (.iadd, 1) := by decide +kernel
theorem dX9_records_73 : decode cX9_records 73 = .ok (.aload_n 0, 1) := by decide +kernel
theorem dX9_records_74 : decode cX9_records 74 = .ok (.getfield 91, 3) := by decide +kernel
theorem dX9_records_77 : decode cX9_records 77 = .ok (.iload_n 1, 1) := by decide +kernel
theorem dX9_records_78 : decode cX9_records 78 = .ok (.iaload, 1) := by decide +kernel
theorem dX9_records_79 : decode cX9_records 79 = .ok (.iastore, 1) := by decide +kernel
theorem dX9_records_80 : decode cX9_records 80 = .ok (.iinc 1 1, 3) := by decide +kernel
theorem dX9_records_83 : decode cX9_records 83 = .ok (.goto (-31), 3) := by decide +kernel
theorem dX9_records_86 : decode cX9_records 86 = .ok (.aload_n 0, 1) := by decide +kernel
theorem dX9_records_87 : decode cX9_records 87 = .ok (.dup, 1) := by decide +kernel
theorem dX9_records_88 : decode cX9_records 88 = .ok (.getfield 228, 3) := by decide +kernel
theorem dX9_records_91 : decode cX9_records 91 = .ok (.iconst 1, 1) := by decide +kernel
theorem dX9_records_92 : decode cX9_records 92 = .ok (.iadd, 1) := by decide +kernel
theorem dX9_records_93 : decode cX9_records 93 = .ok (.putfield 228, 3) := by decide +kernel
theorem dX9_records_96 : decode cX9_records 96 = .ok (.aload_n 0, 1) := by decide +kernel
theorem dX9_records_97 : decode cX9_records 97 = .ok (.invokevirtual 139, 3) := by decide +kernel
theorem dX9_records_100 : decode cX9_records 100 = .ok (.return_, 1) := by decide +kernel
theorem dX9_refused_0 : decode cX9_refused 0 = .ok (.aload_n 0, 1) := by decide +kernel
theorem dX9_refused_1 : decode cX9_refused 1 = .ok (.getfield 94, 3) := by decide +kernel
theorem dX9_refused_4 : decode cX9_refused 4 = .ok (.bipush 50, 2) := by decide +kernel
theorem dX9_refused_6 : decode cX9_refused 6 = .ok (.bipush 14, 2) := by decide +kernel
theorem dX9_refused_8 : decode cX9_refused 8 = .ok (.iload_n 1, 1) := by decide +kernel
theorem dX9_refused_9 : decode cX9_refused 9 = .ok (.imul, 1) := by decide +kernel
theorem dX9_refused_10 : decode cX9_refused 10 = .ok (.iadd, 1) := by decide +kernel
theorem dX9_refused_11 : decode cX9_refused 11 = .ok (.iconst 1, 1) := by decide +kernel
theorem dX9_refused_12 : decode cX9_refused 12 = .ok (.iadd, 1) := by decide +kernel
theorem dX9_refused_13 : decode cX9_refused 13 = .ok (.dup2, 1) := by decide +kernel
theorem dX9_refused_14 : decode cX9_refused 14 = .ok (.iaload, 1) := by decide +kernel
theorem dX9_refused_15 : decode cX9_refused 15 = .ok (.iconst 1, 1) := by decide +kernel
theorem dX9_refused_16 : decode cX9_refused 16 = .ok (.iadd, 1) := by decide +kernel
theorem dX9_refused_17 : decode cX9_refused 17 = .ok (.iastore, 1) := by decide +kernel
theorem dX9_refused_18 : decode cX9_refused 18 = .ok (.bipush (-2), 2) := by decide +kernel
theorem dX9_refused_20 : decode cX9_refused 20 = .ok (.ireturn, 1) := by decide +kernel
theorem dX9_made_0 : decode cX9_made 0 = .ok (.iload_n 1, 1) := by decide +kernel
theorem dX9_made_1 : decode cX9_made 1 = .ok (.ifCond .lt 18, 3) := by decide +kernel
theorem dX9_made_4 : decode cX9_made 4 = .ok (.aload_n 0, 1) := by decide +kernel
theorem dX9_made_5 : decode cX9_made 5 = .ok (.iload_n 1, 1) := by decide +kernel
theorem dX9_made_6 : decode cX9_made 6 = .ok (.iload_n 2, 1) := by decide +kernel
theorem dX9_made_7 : decode cX9_made 7 = .ok (.invokevirtual 371, 3) := by decide +kernel
theorem dX9_made_10 : decode cX9_made 10 = .ok (.ifCond .ne 9, 3) := by decide +kernel
theorem dX9_made_13 : decode cX9_made 13 = .ok (.aload_n 0, 1) := by decide +kernel
theorem dX9_made_14 : decode cX9_made 14 = .ok (.iload_n 1, 1) := by decide +kernel
theorem dX9_made_15 : decode cX9_made 15 = .ok (.invokevirtual 374, 3) := by decide +kernel
theorem dX9_made_18 : decode cX9_made 18 = .ok (.ireturn, 1) := by decide +kernel
theorem dX9_made_19 : decode cX9_made 19 = .ok (.aload_n 0, 1) := by decide +kernel
theorem dX9_made_20 : decode cX9_made 20 = .ok (.getfield 94, 3) := by decide +kernel
theorem dX9_made_23 : decode cX9_made 23 = .ok (.iconst 0, 1) := by decide +kernel
theorem dX9_made_24 : decode cX9_made 24 = .ok (.iaload, 1) := by decide +kernel
theorem dX9_made_25 : decode cX9_made 25 = .ok (.bipush 60, 2) := by decide +kernel
theorem dX9_made_27 : decode cX9_made 27 = .ok (.if_icmp .ne 5, 3) := by decide +kernel
theorem dX9_made_30 : decode cX9_made 30 = .ok (.iconst (-1), 1) := by decide +kernel
theorem dX9_made_31 : decode cX9_made 31 = .ok (.ireturn, 1) := by decide +kernel
theorem dX9_made_32 : decode cX9_made 32 = .ok (.aload_n 0, 1) := by decide +kernel
theorem dX9_made_33 : decode cX9_made 33 = .ok (.iload_n 1, 1) := by decide +kernel
theorem dX9_made_34 : decode cX9_made 34 = .ok (.iload_n 2, 1) := by decide +kernel
theorem dX9_made_35 : decode cX9_made 35 = .ok (.iload_n 3, 1) := by decide +kernel
theorem dX9_made_36 : decode cX9_made 36 = .ok (.iload 4, 2) := by decide +kernel
theorem dX9_made_38 : decode cX9_made 38 = .ok (.invokevirtual 377, 3) := by decide +kernel
theorem dX9_made_41 : decode cX9_made 41 = .ok (.aload_n 0, 1) := by decide +kernel
theorem dX9_made_42 : decode cX9_made 42 = .ok (.getfield 94, 3) := by decide +kernel
theorem dX9_made_45 : decode cX9_made 45 = .ok (.iconst 0, 1) := by decide +kernel
theorem dX9_made_46 : decode cX9_made 46 = .ok (.iaload, 1) := by decide +kernel
theorem dX9_made_47 : decode cX9_made 47 = .ok (.iconst 1, 1) := by decide +kernel
theorem dX9_made_48 : decode cX9_made 48 = .ok (.isub, 1) := by decide +kernel
theorem dX9_made_49 : decode cX9_made 49 = .ok (.ireturn, 1) := by decide +kernel
theorem dX9_make_0 : decode cX9_make 0 = .ok (.iload_n 1, 1) := by decide +kernel
theorem dX9_make_1 : decode cX9_make 1 = .ok (.iconst (-1), 1) := by decide +kernel
theorem dX9_make_2 : decode cX9_make 2 = .ok (.if_icmp .eq 10, 3) := by decide +kernel
theorem dX9_make_5 : decode cX9_make 5 = .ok (.iload_n 1, 1) := by decide +kernel
theorem dX9_make_6 : decode cX9_make 6 = .ok (.invokestatic 381, 3) := by decide +kernel
theorem dX9_make_9 : decode cX9_make 9 = .ok (.ifCond .eq 30, 3) := by decide +kernel
theorem dX9_make_12 : decode cX9_make 12 = .ok (.aload_n 0, 1) := by decide +kernel
theorem dX9_make_13 : decode cX9_make 13 = .ok (.iload_n 2, 1) := by decide +kernel
theorem dX9_make_14 : decode cX9_make 14 = .ok (.invokevirtual 384, 3) := by decide +kernel
theorem dX9_make_17 : decode cX9_make 17 = .ok (.ifCond .eq 22, 3) := by decide +kernel
theorem dX9_make_20 : decode cX9_make 20 = .ok (.iload_n 3, 1) := by decide +kernel
theorem dX9_make_21 : decode cX9_make 21 = .ok (.iconst 0, 1) := by decide +kernel
theorem dX9_make_22 : decode cX9_make 22 = .ok (.aload_n 0, 1) := by decide +kernel
theorem dX9_make_23 : decode cX9_make 23 = .ok (.getfield 58, 3) := by decide +kernel
theorem dX9_make_26 : decode cX9_make 26 = .ok (.aload_n 0, 1) := by decide +kernel
theorem dX9_make_27 : decode cX9_make 27 = .ok (.getfield 209, 3) := by decide +kernel
theorem dX9_make_30 : decode cX9_make 30 = .ok (.iaload, 1) := by decide +kernel
theorem dX9_make_31 : decode cX9_make 31 = .ok (.iconst 1, 1) := by decide +kernel
theorem dX9_make_32 : decode cX9_make 32 = .ok (.isub, 1) := by decide +kernel
theorem dX9_make_33 : decode cX9_make 33 = .ok (.invokestatic 283, 3) := by decide +kernel
theorem dX9_make_36 : decode cX9_make 36 = .ok (.ifCond .ne 5, 3) := by decide +kernel
theorem dX9_make_39 : decode cX9_make 39 = .ok (.iconst (-1), 1) := by decide +kernel
theorem dX9_make_40 : decode cX9_make 40 = .ok (.ireturn, 1) := by decide +kernel
theorem dX9_make_41 : decode cX9_make 41 = .ok (.aload_n 0, 1) := by decide +kernel
theorem dX9_make_42 : decode cX9_make 42 = .ok (.invokevirtual 387, 3) := by decide +kernel
theorem dX9_make_45 : decode cX9_make 45 = .ok (.aload_n 0, 1) := by decide +kernel
theorem dX9_make_46 : decode cX9_make 46 = .ok (.iload_n 2, 1) := by decide +kernel
theorem dX9_make_47 : decode cX9_make 47 = .ok (.invokevirtual 338, 3) := by decide +kernel
theorem dX9_make_50 : decode cX9_make 50 = .ok (.aload_n 0, 1) := by decide +kernel
theorem dX9_make_51 : decode cX9_make 51 = .ok (.iload_n 1, 1) := by decide +kernel
theorem dX9_make_52 : decode cX9_make 52 = .ok (.iload_n 2, 1) := by decide +kernel
theorem dX9_make_53 : decode cX9_make 53 = .ok (.iload_n 3, 1) := by decide +kernel
theorem dX9_make_54 : decode cX9_make 54 = .ok (.iload 4, 2) := by decide +kernel
theorem dX9_make_56 : decode cX9_make 56 = .ok (.invokevirtual 390, 3) := by decide +kernel
theorem dX9_make_59 : decode cX9_make 59 = .ok (.istore 5, 2) := by decide +kernel
theorem dX9_make_61 : decode cX9_make 61 = .ok (.aload_n 0, 1) := by decide +kernel
theorem dX9_make_62 : decode cX9_make 62 = .ok (.iload_n 2, 1) := by decide +kernel
theorem dX9_make_63 : decode cX9_make 63 = .ok (.invokevirtual 353, 3) := by decide +kernel
theorem dX9_make_66 : decode cX9_make 66 = .ok (.aload_n 0, 1) := by decide +kernel
theorem dX9_make_67 : decode cX9_make 67 = .ok (.invokevirtual 394, 3) := by decide +kernel
theorem dX9_make_70 : decode cX9_make 70 = .ok (.iload 5, 2) := by decide +kernel
theorem dX9_make_72 : decode cX9_make 72 = .ok (.ireturn, 1) := by decide +kernel
theorem dX9_asked_0 : decode cX9_asked 0 = .ok (.aload_n 0, 1) := by decide +kernel
theorem dX9_asked_1 : decode cX9_asked 1 = .ok (.iload_n 1, 1) := by decide +kernel
theorem dX9_asked_2 : decode cX9_asked 2 = .ok (.iload_n 2, 1) := by decide +kernel
theorem dX9_asked_3 : decode cX9_asked 3 = .ok (.invokevirtual 397, 3) := by decide +kernel
theorem dX9_asked_6 : decode cX9_asked 6 = .ok (.ifCond .ne 11, 3) := by decide +kernel
theorem dX9_asked_9 : decode cX9_asked 9 = .ok (.aload_n 0, 1) := by decide +kernel
theorem dX9_asked_10 : decode cX9_asked 10 = .ok (.iload_n 1, 1) := by decide +kernel
theorem dX9_asked_11 : decode cX9_asked 11 = .ok (.invokevirtual 374, 3) := by decide +kernel
theorem dX9_asked_14 : decode cX9_asked 14 = .ok (.pop, 1) := by decide +kernel
theorem dX9_asked_15 : decode cX9_asked 15 = .ok (.iconst 0, 1) := by decide +kernel
theorem dX9_asked_16 : decode cX9_asked 16 = .ok (.ireturn, 1) := by decide +kernel
theorem dX9_asked_17 : decode cX9_asked 17 = .ok (.bipush 50, 2) := by decide +kernel
theorem dX9_asked_19 : decode cX9_asked 19 = .ok (.bipush 14, 2) := by decide +kernel
theorem dX9_asked_21 : decode cX9_asked 21 = .ok (.iload_n 1, 1) := by decide +kernel
theorem dX9_asked_22 : decode cX9_asked 22 = .ok (.imul, 1) := by decide +kernel
theorem dX9_asked_23 : decode cX9_asked 23 = .ok (.iadd, 1) := by decide +kernel
theorem dX9_asked_24 : decode cX9_asked 24 = .ok (.istore 4, 2) := by decide +kernel
theorem dX9_asked_26 : decode cX9_asked 26 = .ok (.iconst 0, 1) := by decide +kernel
theorem dX9_asked_27 : decode cX9_asked 27 = .ok (.istore 5, 2) := by decide +kernel
theorem dX9_asked_29 : decode cX9_asked 29 = .ok (.iload 5, 2) := by decide +kernel
theorem dX9_asked_31 : decode cX9_asked 31 = .ok (.aload_n 0, 1) := by decide +kernel
theorem dX9_asked_32 : decode cX9_asked 32 = .ok (.getfield 46, 3) := by decide +kernel
theorem dX9_asked_35 : decode cX9_asked 35 = .ok (.aload_n 0, 1) := by decide +kernel
theorem dX9_asked_36 : decode cX9_asked 36 = .ok (.getfield 209, 3) := by decide +kernel
theorem dX9_asked_39 : decode cX9_asked 39 = .ok (.iaload, 1) := by decide +kernel
theorem dX9_asked_40 : decode cX9_asked 40 = .ok (.if_icmp .ge 49, 3) := by decide +kernel
theorem dX9_asked_43 : decode cX9_asked 43 = .ok (.aload_n 0, 1) := by decide +kernel
theorem dX9_asked_44 : decode cX9_asked 44 = .ok (.iload_n 2, 1) := by decide +kernel
theorem dX9_asked_45 : decode cX9_asked 45 = .ok (.iload 5, 2) := by decide +kernel
theorem dX9_asked_47 : decode cX9_asked 47 = .ok (.invokevirtual 365, 3) := by decide +kernel
theorem dX9_asked_50 : decode cX9_asked 50 = .ok (.istore 6, 2) := by decide +kernel
theorem dX9_asked_52 : decode cX9_asked 52 = .ok (.iload 6, 2) := by decide +kernel
theorem dX9_asked_54 : decode cX9_asked 54 = .ok (.aload_n 0, 1) := by decide +kernel
theorem dX9_asked_55 : decode cX9_asked 55 = .ok (.getfield 94, 3) := by decide +kernel
theorem dX9_asked_58 : decode cX9_asked 58 = .ok (.iload 4, 2) := by decide +kernel
theorem dX9_asked_60 : decode cX9_asked 60 = .ok (.iconst 3, 1) := by decide +kernel
theorem dX9_asked_61 : decode cX9_asked 61 = .ok (.iadd, 1) := by decide +kernel
theorem dX9_asked_62 : decode cX9_asked 62 = .ok (.iload 5, 2) := by decide +kernel
theorem dX9_asked_64 : decode cX9_asked 64 = .ok (.iadd, 1) := by decide +kernel
theorem dX9_asked_65 : decode cX9_asked 65 = .ok (.iaload, 1) := by decide +kernel
theorem dX9_asked_66 : decode cX9_asked 66 = .ok (.if_icmp .le 17, 3) := by decide +kernel
theorem dX9_asked_69 : decode cX9_asked 69 = .ok (.aload_n 0, 1) := by decide +kernel
theorem dX9_asked_70 : decode cX9_asked 70 = .ok (.getfield 94, 3) := by decide +kernel
theorem dX9_asked_73 : decode cX9_asked 73 = .ok (.iload 4, 2) := by decide +kernel
theorem dX9_asked_75 : decode cX9_asked 75 = .ok (.iconst 3, 1) := by decide +kernel
theorem dX9_asked_76 : decode cX9_asked 76 = .ok (.iadd, 1) := by decide +kernel
theorem dX9_asked_77 : decode cX9_asked 77 = .ok (.iload 5, 2) := by decide +kernel
theorem dX9_asked_79 : decode cX9_asked 79 = .ok (.iadd, 1) := by decide +kernel
theorem dX9_asked_80 : decode cX9_asked 80 = .ok (.iload 6, 2) := by decide +kernel
theorem dX9_asked_82 : decode cX9_asked 82 = .ok (.iastore, 1) := by decide +kernel
theorem dX9_asked_83 : decode cX9_asked 83 = .ok (.iinc 5 1, 3) := by decide +kernel
theorem dX9_asked_86 : decode cX9_asked 86 = .ok (.goto (-57), 3) := by decide +kernel
theorem dX9_asked_89 : decode cX9_asked 89 = .ok (.aload_n 0, 1) := by decide +kernel
theorem dX9_asked_90 : decode cX9_asked 90 = .ok (.iload_n 2, 1) := by decide +kernel
theorem dX9_asked_91 : decode cX9_asked 91 = .ok (.invokevirtual 400, 3) := by decide +kernel
theorem dX9_asked_94 : decode cX9_asked 94 = .ok (.aload_n 0, 1) := by decide +kernel
theorem dX9_asked_95 : decode cX9_asked 95 = .ok (.getfield 94, 3) := by decide +kernel
theorem dX9_asked_98 : decode cX9_asked 98 = .ok (.iload 4, 2) := by decide +kernel
theorem dX9_asked_100 : decode cX9_asked 100 = .ok (.iconst 2, 1) := by decide +kernel
theorem dX9_asked_101 : decode cX9_asked 101 = .ok (.iadd, 1) := by decide +kernel
theorem dX9_asked_102 : decode cX9_asked 102 = .ok (.aload_n 0, 1) := by decide +kernel
theorem dX9_asked_103 : decode cX9_asked 103 = .ok (.getfield 103, 3) := by decide +kernel
theorem dX9_asked_106 : decode cX9_asked 106 = .ok (.iload_n 3, 1) := by decide +kernel
theorem dX9_asked_107 : decode cX9_asked 107 = .ok (.iaload, 1) := by decide +kernel
theorem dX9_asked_108 : decode cX9_asked 108 = .ok (.iastore, 1) := by decide +kernel
theorem dX9_asked_109 : decode cX9_asked 109 = .ok (.iconst 1, 1) := by decide +kernel
theorem dX9_asked_110 : decode cX9_asked 110 = .ok (.ireturn, 1) := by decide +kernel
theorem dX9_ask_0 : decode cX9_ask 0 = .ok (.iload_n 1, 1) := by decide +kernel
theorem dX9_ask_1 : decode cX9_ask 1 = .ok (.invokestatic 381, 3) := by decide +kernel
theorem dX9_ask_4 : decode cX9_ask 4 = .ok (.ifCond .eq 19, 3) := by decide +kernel
theorem dX9_ask_7 : decode cX9_ask 7 = .ok (.aload_n 0, 1) := by decide +kernel
theorem dX9_ask_8 : decode cX9_ask 8 = .ok (.iload_n 2, 1) := by decide +kernel
theorem dX9_ask_9 : decode cX9_ask 9 = .ok (.invokevirtual 384, 3) := by decide +kernel
theorem dX9_ask_12 : decode cX9_ask 12 = .ok (.ifCond .eq 11, 3) := by decide +kernel
theorem dX9_ask_15 : decode cX9_ask 15 = .ok (.aload_n 0, 1) := by decide +kernel
theorem dX9_ask_16 : decode cX9_ask 16 = .ok (.iload_n 3, 1) := by decide +kernel
theorem dX9_ask_17 : decode cX9_ask 17 = .ok (.invokevirtual 403, 3) := by decide +kernel
theorem dX9_ask_20 : decode cX9_ask 20 = .ok (.ifCond .ne 5, 3) := by decide +kernel
theorem dX9_ask_23 : decode cX9_ask 23 = .ok (.iconst (-1), 1) := by decide +kernel
theorem dX9_ask_24 : decode cX9_ask 24 = .ok (.ireturn, 1) := by decide +kernel
theorem dX9_ask_25 : decode cX9_ask 25 = .ok (.aload_n 0, 1) := by decide +kernel
theorem dX9_ask_26 : decode cX9_ask 26 = .ok (.invokevirtual 387, 3) := by decide +kernel
theorem dX9_ask_29 : decode cX9_ask 29 = .ok (.aload_n 0, 1) := by decide +kernel
theorem dX9_ask_30 : decode cX9_ask 30 = .ok (.iload_n 2, 1) := by decide +kernel
theorem dX9_ask_31 : decode cX9_ask 31 = .ok (.invokevirtual 338, 3) := by decide +kernel
theorem dX9_ask_34 : decode cX9_ask 34 = .ok (.aload_n 0, 1) := by decide +kernel
theorem dX9_ask_35 : decode cX9_ask 35 = .ok (.iload_n 1, 1) := by decide +kernel
theorem dX9_ask_36 : decode cX9_ask 36 = .ok (.iload_n 2, 1) := by decide +kernel
theorem dX9_ask_37 : decode cX9_ask 37 = .ok (.iload_n 3, 1) := by decide +kernel
theorem dX9_ask_38 : decode cX9_ask 38 = .ok (.invokevirtual 406, 3) := by decide +kernel
theorem dX9_ask_41 : decode cX9_ask 41 = .ok (.istore 4, 2) := by decide +kernel
theorem dX9_ask_43 : decode cX9_ask 43 = .ok (.aload_n 0, 1) := by decide +kernel
theorem dX9_ask_44 : decode cX9_ask 44 = .ok (.iload_n 2, 1) := by decide +kernel
theorem dX9_ask_45 : decode cX9_ask 45 = .ok (.invokevirtual 353, 3) := by decide +kernel
theorem dX9_ask_48 : decode cX9_ask 48 = .ok (.aload_n 0, 1) := by decide +kernel
theorem dX9_ask_49 : decode cX9_ask 49 = .ok (.invokevirtual 394, 3) := by decide +kernel
theorem dX9_ask_52 : decode cX9_ask 52 = .ok (.iload 4, 2) := by decide +kernel
theorem dX9_ask_54 : decode cX9_ask 54 = .ok (.ireturn, 1) := by decide +kernel
theorem dX9_got_0 : decode cX9_got 0 = .ok (.iload_n 1, 1) := by decide +kernel
theorem dX9_got_1 : decode cX9_got 1 = .ok (.invokestatic 381, 3) := by decide +kernel
theorem dX9_got_4 : decode cX9_got 4 = .ok (.ifCond .eq 20, 3) := by decide +kernel
theorem dX9_got_7 : decode cX9_got 7 = .ok (.aload_n 0, 1) := by decide +kernel
theorem dX9_got_8 : decode cX9_got 8 = .ok (.getfield 91, 3) := by decide +kernel
theorem dX9_got_11 : decode cX9_got 11 = .ok (.bipush 50, 2) := by decide +kernel
theorem dX9_got_13 : decode cX9_got 13 = .ok (.bipush 14, 2) := by decide +kernel
theorem dX9_got_15 : decode cX9_got 15 = .ok (.iload_n 1, 1) := by decide +kernel
theorem dX9_got_16 : decode cX9_got 16 = .ok (.imul, 1) := by decide +kernel
theorem dX9_got_17 : decode cX9_got 17 = .ok (.iadd, 1) := by decide +kernel
theorem dX9_got_18 : decode cX9_got 18 = .ok (.iconst 2, 1) := by decide +kernel
theorem dX9_got_19 : decode cX9_got 19 = .ok (.iadd, 1) := by decide +kernel
theorem dX9_got_20 : decode cX9_got 20 = .ok (.iaload, 1) := by decide +kernel
theorem dX9_got_21 : decode cX9_got 21 = .ok (.goto 4, 3) := by decide +kernel
theorem dX9_got_24 : decode cX9_got 24 = .ok (.iconst 0, 1) := by decide +kernel
theorem dX9_got_25 : decode cX9_got 25 = .ok (.ireturn, 1) := by decide +kernel
theorem dX9_promise_0 : decode cX9_promise 0 = .ok (.iload_n 1, 1) := by decide +kernel
theorem dX9_promise_1 : decode cX9_promise 1 = .ok (.invokestatic 381, 3) := by decide +kernel
theorem dX9_promise_4 : decode cX9_promise 4 = .ok (.ifCond .eq 29, 3) := by decide +kernel
theorem dX9_promise_7 : decode cX9_promise 7 = .ok (.iload_n 2, 1) := by decide +kernel
theorem dX9_promise_8 : decode cX9_promise 8 = .ok (.iconst 0, 1) := by decide +kernel
theorem dX9_promise_9 : decode cX9_promise 9 = .ok (.bipush 15, 2) := by decide +kernel
theorem dX9_promise_11 : decode cX9_promise 11 = .ok (.invokestatic 283, 3) := by decide +kernel
theorem dX9_promise_14 : decode cX9_promise 14 = .ok (.ifCond .eq 19, 3) := by decide +kernel
theorem dX9_promise_17 : decode cX9_promise 17 = .ok (.aload_n 0, 1) := by decide +kernel
theorem dX9_promise_18 : decode cX9_promise 18 = .ok (.getfield 91, 3) := by decide +kernel
theorem dX9_promise_21 : decode cX9_promise 21 = .ok (.bipush 50, 2) := by decide +kernel
theorem dX9_promise_23 : decode cX9_promise 23 = .ok (.bipush 14, 2) := by decide +kernel
theorem dX9_promise_25 : decode cX9_promise 25 = .ok (.iload_n 1, 1) := by decide +kernel
theorem dX9_promise_26 : decode cX9_promise 26 = .ok (.imul, 1) := by decide +kernel
theorem dX9_promise_27 : decode cX9_promise 27 = .ok (.iadd, 1) := by decide +kernel
theorem dX9_promise_28 : decode cX9_promise 28 = .ok (.iaload, 1) := by decide +kernel
theorem dX9_promise_29 : decode cX9_promise 29 = .ok (.iload_n 2, 1) := by decide +kernel
theorem dX9_promise_30 : decode cX9_promise 30 = .ok (.if_icmp .ne 5, 3) := by decide +kernel
theorem dX9_promise_33 : decode cX9_promise 33 = .ok (.iconst 0, 1) := by decide +kernel
theorem dX9_promise_34 : decode cX9_promise 34 = .ok (.ireturn, 1) := by decide +kernel
theorem dX9_promise_35 : decode cX9_promise 35 = .ok (.aload_n 0, 1) := by decide +kernel
theorem dX9_promise_36 : decode cX9_promise 36 = .ok (.invokevirtual 387, 3) := by decide +kernel
theorem dX9_promise_39 : decode cX9_promise 39 = .ok (.aload_n 0, 1) := by decide +kernel
theorem dX9_promise_40 : decode cX9_promise 40 = .ok (.getfield 94, 3) := by decide +kernel
theorem dX9_promise_43 : decode cX9_promise 43 = .ok (.bipush 50, 2) := by decide +kernel
theorem dX9_promise_45 : decode cX9_promise 45 = .ok (.bipush 14, 2) := by decide +kernel
theorem dX9_promise_47 : decode cX9_promise 47 = .ok (.iload_n 1, 1) := by decide +kernel
theorem dX9_promise_48 : decode cX9_promise 48 = .ok (.imul, 1) := by decide +kernel
theorem dX9_promise_49 : decode cX9_promise 49 = .ok (.iadd, 1) := by decide +kernel
theorem dX9_promise_50 : decode cX9_promise 50 = .ok (.iconst 0, 1) := by decide +kernel
theorem dX9_promise_51 : decode cX9_promise 51 = .ok (.iadd, 1) := by decide +kernel
theorem dX9_promise_52 : decode cX9_promise 52 = .ok (.iload_n 2, 1) := by decide +kernel
theorem dX9_promise_53 : decode cX9_promise 53 = .ok (.iastore, 1) := by decide +kernel
theorem dX9_promise_54 : decode cX9_promise 54 = .ok (.aload_n 0, 1) := by decide +kernel
theorem dX9_promise_55 : decode cX9_promise 55 = .ok (.invokevirtual 394, 3) := by decide +kernel
theorem dX9_promise_58 : decode cX9_promise 58 = .ok (.iconst 1, 1) := by decide +kernel
theorem dX9_promise_59 : decode cX9_promise 59 = .ok (.ireturn, 1) := by decide +kernel
theorem dX9_areTwo_0 : decode cX9_areTwo 0 = .ok (.aload_n 0, 1) := by decide +kernel
theorem dX9_areTwo_1 : decode cX9_areTwo 1 = .ok (.iload_n 1, 1) := by decide +kernel
theorem dX9_areTwo_2 : decode cX9_areTwo 2 = .ok (.invokevirtual 384, 3) := by decide +kernel
theorem dX9_areTwo_5 : decode cX9_areTwo 5 = .ok (.ifCond .eq 20, 3) := by decide +kernel
theorem dX9_areTwo_8 : decode cX9_areTwo 8 = .ok (.aload_n 0, 1) := by decide +kernel
theorem dX9_areTwo_9 : decode cX9_areTwo 9 = .ok (.iload_n 2, 1) := by decide +kernel
theorem dX9_areTwo_10 : decode cX9_areTwo 10 = .ok (.invokevirtual 384, 3) := by decide +kernel
theorem dX9_areTwo_13 : decode cX9_areTwo 13 = .ok (.ifCond .eq 12, 3) := by decide +kernel
theorem dX9_areTwo_16 : decode cX9_areTwo 16 = .ok (.iload_n 1, 1) := by decide +kernel
theorem dX9_areTwo_17 : decode cX9_areTwo 17 = .ok (.iload_n 2, 1) := by decide +kernel
theorem dX9_areTwo_18 : decode cX9_areTwo 18 = .ok (.if_icmp .eq 7, 3) := by decide +kernel
theorem dX9_areTwo_21 : decode cX9_areTwo 21 = .ok (.iconst 1, 1) := by decide +kernel
theorem dX9_areTwo_22 : decode cX9_areTwo 22 = .ok (.goto 4, 3) := by decide +kernel
theorem dX9_areTwo_25 : decode cX9_areTwo 25 = .ok (.iconst 0, 1) := by decide +kernel
theorem dX9_areTwo_26 : decode cX9_areTwo 26 = .ok (.ireturn, 1) := by decide +kernel
theorem dX9_meet_0 : decode cX9_meet 0 = .ok (.aload_n 0, 1) := by decide +kernel
theorem dX9_meet_1 : decode cX9_meet 1 = .ok (.iload_n 1, 1) := by decide +kernel
theorem dX9_meet_2 : decode cX9_meet 2 = .ok (.iload_n 2, 1) := by decide +kernel
theorem dX9_meet_3 : decode cX9_meet 3 = .ok (.invokevirtual 409, 3) := by decide +kernel
theorem dX9_meet_6 : decode cX9_meet 6 = .ok (.ifCond .ne 5, 3) := by decide +kernel
theorem dX9_meet_9 : decode cX9_meet 9 = .ok (.iconst (-1), 1) := by decide +kernel
theorem dX9_meet_10 : decode cX9_meet 10 = .ok (.ireturn, 1) := by decide +kernel
theorem dX9_meet_11 : decode cX9_meet 11 = .ok (.aload_n 0, 1) := by decide +kernel
theorem dX9_meet_12 : decode cX9_meet 12 = .ok (.invokevirtual 387, 3) := by decide +kernel
theorem dX9_meet_15 : decode cX9_meet 15 = .ok (.aload_n 0, 1) := by decide +kernel
theorem dX9_meet_16 : decode cX9_meet 16 = .ok (.iload_n 1, 1) := by decide +kernel
theorem dX9_meet_17 : decode cX9_meet 17 = .ok (.iload_n 2, 1) := by decide +kernel
theorem dX9_meet_18 : decode cX9_meet 18 = .ok (.invokevirtual 359, 3) := by decide +kernel
theorem dX9_meet_21 : decode cX9_meet 21 = .ok (.istore_n 3, 1) := by decide +kernel
theorem dX9_meet_22 : decode cX9_meet 22 = .ok (.aload_n 0, 1) := by decide +kernel
theorem dX9_meet_23 : decode cX9_meet 23 = .ok (.invokevirtual 394, 3) := by decide +kernel
theorem dX9_meet_26 : decode cX9_meet 26 = .ok (.iload_n 3, 1) := by decide +kernel
theorem dX9_meet_27 : decode cX9_meet 27 = .ok (.ireturn, 1) := by decide +kernel
theorem dX9_lead_0 : decode cX9_lead 0 = .ok (.aload_n 0, 1) := by decide +kernel
theorem dX9_lead_1 : decode cX9_lead 1 = .ok (.invokevirtual 387, 3) := by decide +kernel
theorem dX9_lead_4 : decode cX9_lead 4 = .ok (.aload_n 0, 1) := by decide +kernel
theorem dX9_lead_5 : decode cX9_lead 5 = .ok (.iload_n 1, 1) := by decide +kernel
theorem dX9_lead_6 : decode cX9_lead 6 = .ok (.invokevirtual 384, 3) := by decide +kernel
theorem dX9_lead_9 : decode cX9_lead 9 = .ok (.ifCond .eq 28, 3) := by decide +kernel
theorem dX9_lead_12 : decode cX9_lead 12 = .ok (.aload_n 0, 1) := by decide +kernel
theorem dX9_lead_13 : decode cX9_lead 13 = .ok (.getfield 94, 3) := by decide +kernel
theorem dX9_lead_16 : decode cX9_lead 16 = .ok (.iconst 2, 1) := by decide +kernel
theorem dX9_lead_17 : decode cX9_lead 17 = .ok (.iaload, 1) := by decide +kernel
theorem dX9_lead_18 : decode cX9_lead 18 = .ok (.iload_n 1, 1) := by decide +kernel
theorem dX9_lead_19 : decode cX9_lead 19 = .ok (.if_icmp .eq 18, 3) := by decide +kernel
theorem dX9_lead_22 : decode cX9_lead 22 = .ok (.aload_n 0, 1) := by decide +kernel
theorem dX9_lead_23 : decode cX9_lead 23 = .ok (.iload_n 1, 1) := by decide +kernel
theorem dX9_lead_24 : decode cX9_lead 24 = .ok (.iconst 0, 1) := by decide +kernel
theorem dX9_lead_25 : decode cX9_lead 25 = .ok (.invokevirtual 301, 3) := by decide +kernel
theorem dX9_lead_28 : decode cX9_lead 28 = .ok (.aload_n 0, 1) := by decide +kernel
theorem dX9_lead_29 : decode cX9_lead 29 = .ok (.getfield 94, 3) := by decide +kernel
theorem dX9_lead_32 : decode cX9_lead 32 = .ok (.iconst 1, 1) := by decide +kernel
theorem dX9_lead_33 : decode cX9_lead 33 = .ok (.iaload, 1) := by decide +kernel
theorem dX9_lead_34 : decode cX9_lead 34 = .ok (.if_icmp .ge 5, 3) := by decide +kernel
theorem dX9_lead_37 : decode cX9_lead 37 = .ok (.iconst 0, 1) := by decide +kernel
theorem dX9_lead_38 : decode cX9_lead 38 = .ok (.ireturn, 1) := by decide +kernel
theorem dX9_lead_39 : decode cX9_lead 39 = .ok (.aload_n 0, 1) := by decide +kernel
theorem dX9_lead_40 : decode cX9_lead 40 = .ok (.iload_n 1, 1) := by decide +kernel
theorem dX9_lead_41 : decode cX9_lead 41 = .ok (.invokevirtual 338, 3) := by decide +kernel
theorem dX9_lead_44 : decode cX9_lead 44 = .ok (.aload_n 0, 1) := by decide +kernel
theorem dX9_lead_45 : decode cX9_lead 45 = .ok (.getfield 94, 3) := by decide +kernel
theorem dX9_lead_48 : decode cX9_lead 48 = .ok (.iconst 2, 1) := by decide +kernel
theorem dX9_lead_49 : decode cX9_lead 49 = .ok (.iload_n 1, 1) := by decide +kernel
theorem dX9_lead_50 : decode cX9_lead 50 = .ok (.iastore, 1) := by decide +kernel
theorem dX9_lead_51 : decode cX9_lead 51 = .ok (.aload_n 0, 1) := by decide +kernel
theorem dX9_lead_52 : decode cX9_lead 52 = .ok (.iload_n 1, 1) := by decide +kernel
theorem dX9_lead_53 : decode cX9_lead 53 = .ok (.invokevirtual 353, 3) := by decide +kernel
theorem dX9_lead_56 : decode cX9_lead 56 = .ok (.aload_n 0, 1) := by decide +kernel
theorem dX9_lead_57 : decode cX9_lead 57 = .ok (.invokevirtual 394, 3) := by decide +kernel
theorem dX9_lead_60 : decode cX9_lead 60 = .ok (.iconst 1, 1) := by decide +kernel
theorem dX9_lead_61 : decode cX9_lead 61 = .ok (.ireturn, 1) := by decide +kernel
theorem dX9_isLong_0 : decode cX9_isLong 0 = .ok (.iload_n 0, 1) := by decide +kernel
theorem dX9_isLong_1 : decode cX9_isLong 1 = .ok (.iconst 0, 1) := by decide +kernel
theorem dX9_isLong_2 : decode cX9_isLong 2 = .ok (.bipush 60, 2) := by decide +kernel
theorem dX9_isLong_4 : decode cX9_isLong 4 = .ok (.invokestatic 283, 3) := by decide +kernel
theorem dX9_isLong_7 : decode cX9_isLong 7 = .ok (.ireturn, 1) := by decide +kernel
theorem dX9_chance_0 : decode cX9_chance 0 = .ok (.iload_n 1, 1) := by decide +kernel
theorem dX9_chance_1 : decode cX9_chance 1 = .ok (.invokestatic 412, 3) := by decide +kernel
theorem dX9_chance_4 : decode cX9_chance 4 = .ok (.ifCond .ne 5, 3) := by decide +kernel
theorem dX9_chance_7 : decode cX9_chance 7 = .ok (.iconst (-1), 1) := by decide +kernel
theorem dX9_chance_8 : decode cX9_chance 8 = .ok (.ireturn, 1) := by decide +kernel
theorem dX9_chance_9 : decode cX9_chance 9 = .ok (.iload_n 1, 1) := by decide +kernel
theorem dX9_chance_10 : decode cX9_chance 10 = .ok (.ifCond .ne 10, 3) := by decide +kernel
theorem dX9_chance_13 : decode cX9_chance 13 = .ok (.aload_n 0, 1) := by decide +kernel
theorem dX9_chance_14 : decode cX9_chance 14 = .ok (.getfield 91, 3) := by decide +kernel
theorem dX9_chance_17 : decode cX9_chance 17 = .ok (.iconst 3, 1) := by decide +kernel
theorem dX9_chance_18 : decode cX9_chance 18 = .ok (.iaload, 1) := by decide +kernel
theorem dX9_chance_19 : decode cX9_chance 19 = .ok (.ireturn, 1) := by decide +kernel
theorem dX9_chance_20 : decode cX9_chance 20 = .ok (.aload_n 0, 1) := by decide +kernel
theorem dX9_chance_21 : decode cX9_chance 21 = .ok (.invokevirtual 387, 3) := by decide +kernel
theorem dX9_chance_24 : decode cX9_chance 24 = .ok (.iconst 0, 1) := by decide +kernel
theorem dX9_chance_25 : decode cX9_chance 25 = .ok (.istore_n 2, 1) := by decide +kernel
theorem dX9_chance_26 : decode cX9_chance 26 = .ok (.iload_n 2, 1) := by decide +kernel
theorem dX9_chance_27 : decode cX9_chance 27 = .ok (.iload_n 1, 1) := by decide +kernel
theorem dX9_chance_28 : decode cX9_chance 28 = .ok (.if_icmp .ge 13, 3) := by decide +kernel
theorem dX9_chance_31 : decode cX9_chance 31 = .ok (.aload_n 0, 1) := by decide +kernel
theorem dX9_chance_32 : decode cX9_chance 32 = .ok (.invokevirtual 415, 3) := by decide +kernel
theorem dX9_chance_35 : decode cX9_chance 35 = .ok (.iinc 2 1, 3) := by decide +kernel
theorem dX9_chance_38 : decode cX9_chance 38 = .ok (.goto (-12), 3) := by decide +kernel
theorem dX9_chance_41 : decode cX9_chance 41 = .ok (.aload_n 0, 1) := by decide +kernel
theorem dX9_chance_42 : decode cX9_chance 42 = .ok (.invokevirtual 394, 3) := by decide +kernel
theorem dX9_chance_45 : decode cX9_chance 45 = .ok (.aload_n 0, 1) := by decide +kernel
theorem dX9_chance_46 : decode cX9_chance 46 = .ok (.getfield 91, 3) := by decide +kernel
theorem dX9_chance_49 : decode cX9_chance 49 = .ok (.iconst 3, 1) := by decide +kernel
theorem dX9_chance_50 : decode cX9_chance 50 = .ok (.iaload, 1) := by decide +kernel
theorem dX9_chance_51 : decode cX9_chance 51 = .ok (.ireturn, 1) := by decide +kernel
theorem dX9_undo_0 : decode cX9_undo 0 = .ok (.aload_n 0, 1) := by decide +kernel
theorem dX9_undo_1 : decode cX9_undo 1 = .ok (.getfield 228, 3) := by decide +kernel
theorem dX9_undo_4 : decode cX9_undo 4 = .ok (.ifCond .ne 5, 3) := by decide +kernel
theorem dX9_undo_7 : decode cX9_undo 7 = .ok (.iconst 0, 1) := by decide +kernel
theorem dX9_undo_8 : decode cX9_undo 8 = .ok (.ireturn, 1) := by decide +kernel
theorem dX9_undo_9 : decode cX9_undo 9 = .ok (.aload_n 0, 1) := by decide +kernel
theorem dX9_undo_10 : decode cX9_undo 10 = .ok (.dup, 1) := by decide +kernel
theorem dX9_undo_11 : decode cX9_undo 11 = .ok (.getfield 228, 3) := by decide +kernel
theorem dX9_undo_14 : decode cX9_undo 14 = .ok (.iconst 1, 1) := by decide +kernel
theorem dX9_undo_15 : decode cX9_undo 15 = .ok (.isub, 1) := by decide +kernel
theorem dX9_undo_16 : decode cX9_undo 16 = .ok (.putfield 228, 3) := by decide +kernel
theorem dX9_undo_19 : decode cX9_undo 19 = .ok (.iconst 0, 1) := by decide +kernel
theorem dX9_undo_20 : decode cX9_undo 20 = .ok (.istore_n 1, 1) := by decide +kernel
theorem dX9_undo_21 : decode cX9_undo 21 = .ok (.iload_n 1, 1) := by decide +kernel
theorem dX9_undo_22 : decode cX9_undo 22 = .ok (.sipush 770, 3) := by decide +kernel
theorem dX9_undo_25 : decode cX9_undo 25 = .ok (.if_icmp .ge 30, 3) := by decide +kernel
theorem dX9_undo_28 : decode cX9_undo 28 = .ok (.aload_n 0, 1) := by decide +kernel
theorem dX9_undo_29 : decode cX9_undo 29 = .ok (.getfield 91, 3) := by decide +kernel
theorem dX9_undo_32 : decode cX9_undo 32 = .ok (.iload_n 1, 1) := by decide +kernel
theorem dX9_undo_33 : decode cX9_undo 33 = .ok (.aload_n 0, 1) := by decide +kernel
theorem dX9_undo_34 : decode cX9_undo 34 = .ok (.getfield 112, 3) := by decide +kernel
theorem dX9_undo_37 : decode cX9_undo 37 = .ok (.sipush 770, 3) := by decide +kernel
theorem dX9_undo_40 : decode cX9_undo 40 = .ok (.aload_n 0, 1) := by decide +kernel
theorem dX9_undo_41 : decode cX9_undo 41 = .ok (.getfield 228, 3) := by decide +kernel
theorem dX9_undo_44 : decode cX9_undo 44 = .ok (.imul, 1) := by decide +kernel
theorem dX9_undo_45 : decode cX9_undo 45 = .ok (.iload_n 1, 1) := by decide +kernel
theorem dX9_undo_46 : decode cX9_undo 46 = .ok (.iadd, 1) := by decide +kernel
theorem dX9_undo_47 : decode cX9_undo 47 = .ok (.iaload, 1) := by decide +kernel
theorem dX9_undo_48 : decode cX9_undo 48 = .ok (.iastore, 1) := by decide +kernel
theorem dX9_undo_49 : decode cX9_undo 49 = .ok (.iinc 1 1, 3) := by decide +kernel
theorem dX9_undo_52 : decode cX9_undo 52 = .ok (.goto (-31), 3) := by decide +kernel
theorem dX9_undo_55 : decode cX9_undo 55 = .ok (.iconst 1, 1) := by decide +kernel
theorem dX9_undo_56 : decode cX9_undo 56 = .ok (.ireturn, 1) := by decide +kernel
theorem dX9_cell_0 : decode cX9_cell 0 = .ok (.aload_n 0, 1) := by decide +kernel
theorem dX9_cell_1 : decode cX9_cell 1 = .ok (.iload_n 1, 1) := by decide +kernel
theorem dX9_cell_2 : decode cX9_cell 2 = .ok (.invokevirtual 384, 3) := by decide +kernel
theorem dX9_cell_5 : decode cX9_cell 5 = .ok (.ifCond .eq 11, 3) := by decide +kernel
theorem dX9_cell_8 : decode cX9_cell 8 = .ok (.aload_n 0, 1) := by decide +kernel
theorem dX9_cell_9 : decode cX9_cell 9 = .ok (.iload_n 2, 1) := by decide +kernel
theorem dX9_cell_10 : decode cX9_cell 10 = .ok (.invokevirtual 403, 3) := by decide +kernel
theorem dX9_cell_13 : decode cX9_cell 13 = .ok (.ifCond .ne 5, 3) := by decide +kernel
theorem dX9_cell_16 : decode cX9_cell 16 = .ok (.iconst 0, 1) := by decide +kernel
theorem dX9_cell_17 : decode cX9_cell 17 = .ok (.ireturn, 1) := by decide +kernel
theorem dX9_cell_18 : decode cX9_cell 18 = .ok (.aload_n 0, 1) := by decide +kernel
theorem dX9_cell_19 : decode cX9_cell 19 = .ok (.invokevirtual 387, 3) := by decide +kernel
theorem dX9_cell_22 : decode cX9_cell 22 = .ok (.aload_n 0, 1) := by decide +kernel
theorem dX9_cell_23 : decode cX9_cell 23 = .ok (.iload_n 1, 1) := by decide +kernel
theorem dX9_cell_24 : decode cX9_cell 24 = .ok (.invokevirtual 328, 3) := by decide +kernel
theorem dX9_cell_27 : decode cX9_cell 27 = .ok (.aload_n 0, 1) := by decide +kernel
theorem dX9_cell_28 : decode cX9_cell 28 = .ok (.iload_n 3, 1) := by decide +kernel
theorem dX9_cell_29 : decode cX9_cell 29 = .ok (.ifCond .eq 12, 3) := by decide +kernel
theorem dX9_cell_32 : decode cX9_cell 32 = .ok (.aload_n 0, 1) := by decide +kernel
theorem dX9_cell_33 : decode cX9_cell 33 = .ok (.iload_n 1, 1) := by decide +kernel
theorem dX9_cell_34 : decode cX9_cell 34 = .ok (.iconst 0, 1) := by decide +kernel
theorem dX9_cell_35 : decode cX9_cell 35 = .ok (.invokevirtual 301, 3) := by decide +kernel
theorem dX9_cell_38 : decode cX9_cell 38 = .ok (.goto 7, 3) := by decide +kernel
theorem dX9_cell_41 : decode cX9_cell 41 = .ok (.aload_n 0, 1) := by decide +kernel
theorem dX9_cell_42 : decode cX9_cell 42 = .ok (.getfield 304, 3) := by decide +kernel
theorem dX9_cell_45 : decode cX9_cell 45 = .ok (.invokevirtual 331, 3) := by decide +kernel
theorem dX9_cell_48 : decode cX9_cell 48 = .ok (.aload_n 0, 1) := by decide +kernel
theorem dX9_cell_49 : decode cX9_cell 49 = .ok (.getfield 103, 3) := by decide +kernel
theorem dX9_cell_52 : decode cX9_cell 52 = .ok (.iload_n 2, 1) := by decide +kernel
theorem dX9_cell_53 : decode cX9_cell 53 = .ok (.iaload, 1) := by decide +kernel
theorem dX9_cell_54 : decode cX9_cell 54 = .ok (.ireturn, 1) := by decide +kernel
theorem dX9_log_0 : decode cX9_log 0 = .ok (.aload_n 0, 1) := by decide +kernel
theorem dX9_log_1 : decode cX9_log 1 = .ok (.iload_n 1, 1) := by decide +kernel
theorem dX9_log_2 : decode cX9_log 2 = .ok (.invokevirtual 384, 3) := by decide +kernel
theorem dX9_log_5 : decode cX9_log 5 = .ok (.ifCond .ne 5, 3) := by decide +kernel
theorem dX9_log_8 : decode cX9_log 8 = .ok (.iconst (-1), 1) := by decide +kernel
theorem dX9_log_9 : decode cX9_log 9 = .ok (.ireturn, 1) := by decide +kernel
theorem dX9_log_10 : decode cX9_log 10 = .ok (.aload_n 0, 1) := by decide +kernel
theorem dX9_log_11 : decode cX9_log 11 = .ok (.invokevirtual 387, 3) := by decide +kernel
theorem dX9_log_14 : decode cX9_log 14 = .ok (.aload_n 0, 1) := by decide +kernel
theorem dX9_log_15 : decode cX9_log 15 = .ok (.iload_n 1, 1) := by decide +kernel
theorem dX9_log_16 : decode cX9_log 16 = .ok (.invokevirtual 328, 3) := by decide +kernel
theorem dX9_log_19 : decode cX9_log 19 = .ok (.iload_n 2, 1) := by decide +kernel
theorem dX9_log_20 : decode cX9_log 20 = .ok (.iconst 0, 1) := by decide +kernel
theorem dX9_log_21 : decode cX9_log 21 = .ok (.aload_n 0, 1) := by decide +kernel
theorem dX9_log_22 : decode cX9_log 22 = .ok (.getfield 304, 3) := by decide +kernel
theorem dX9_log_25 : decode cX9_log 25 = .ok (.iconst 1, 1) := by decide +kernel
theorem dX9_log_26 : decode cX9_log 26 = .ok (.isub, 1) := by decide +kernel
theorem dX9_log_27 : decode cX9_log 27 = .ok (.invokestatic 283, 3) := by decide +kernel
theorem dX9_log_30 : decode cX9_log 30 = .ok (.ifCond .eq 12, 3) := by decide +kernel
theorem dX9_log_33 : decode cX9_log 33 = .ok (.aload_n 0, 1) := by decide +kernel
theorem dX9_log_34 : decode cX9_log 34 = .ok (.getfield 97, 3) := by decide +kernel
theorem dX9_log_37 : decode cX9_log 37 = .ok (.iload_n 2, 1) := by decide +kernel
theorem dX9_log_38 : decode cX9_log 38 = .ok (.iaload, 1) := by decide +kernel
theorem dX9_log_39 : decode cX9_log 39 = .ok (.goto 4, 3) := by decide +kernel
theorem dX9_log_42 : decode cX9_log 42 = .ok (.iconst (-1), 1) := by decide +kernel
theorem dX9_log_43 : decode cX9_log 43 = .ok (.ireturn, 1) := by decide +kernel
theorem dX9_whereOf_0 : decode cX9_whereOf 0 = .ok (.iconst 0, 1) := by decide +kernel
theorem dX9_whereOf_1 : decode cX9_whereOf 1 = .ok (.istore_n 2, 1) := by decide +kernel
theorem dX9_whereOf_2 : decode cX9_whereOf 2 = .ok (.iload_n 2, 1) := by decide +kernel
theorem dX9_whereOf_3 : decode cX9_whereOf 3 = .ok (.aload_n 0, 1) := by decide +kernel
theorem dX9_whereOf_4 : decode cX9_whereOf 4 = .ok (.getfield 304, 3) := by decide +kernel
theorem dX9_whereOf_7 : decode cX9_whereOf 7 = .ok (.if_icmp .ge 21, 3) := by decide +kernel
theorem dX9_whereOf_10 : decode cX9_whereOf 10 = .ok (.aload_n 0, 1) := by decide +kernel
theorem dX9_whereOf_11 : decode cX9_whereOf 11 = .ok (.getfield 97, 3) := by decide +kernel
theorem dX9_whereOf_14 : decode cX9_whereOf 14 = .ok (.iload_n 2, 1) := by decide +kernel
theorem dX9_whereOf_15 : decode cX9_whereOf 15 = .ok (.iaload, 1) := by decide +kernel
theorem dX9_whereOf_16 : decode cX9_whereOf 16 = .ok (.iload_n 1, 1) := by decide +kernel
theorem dX9_whereOf_17 : decode cX9_whereOf 17 = .ok (.if_icmp .ne 5, 3) := by decide +kernel
theorem dX9_whereOf_20 : decode cX9_whereOf 20 = .ok (.iload_n 2, 1) := by decide +kernel
theorem dX9_whereOf_21 : decode cX9_whereOf 21 = .ok (.ireturn, 1) := by decide +kernel
theorem dX9_whereOf_22 : decode cX9_whereOf 22 = .ok (.iinc 2 1, 3) := by decide +kernel
theorem dX9_whereOf_25 : decode cX9_whereOf 25 = .ok (.goto (-23), 3) := by decide +kernel
theorem dX9_whereOf_28 : decode cX9_whereOf 28 = .ok (.iconst (-1), 1) := by decide +kernel
theorem dX9_whereOf_29 : decode cX9_whereOf 29 = .ok (.ireturn, 1) := by decide +kernel
theorem dX9_outcome_0 : decode cX9_outcome 0 = .ok (.aload_n 0, 1) := by decide +kernel
theorem dX9_outcome_1 : decode cX9_outcome 1 = .ok (.iload_n 1, 1) := by decide +kernel
theorem dX9_outcome_2 : decode cX9_outcome 2 = .ok (.invokevirtual 384, 3) := by decide +kernel
theorem dX9_outcome_5 : decode cX9_outcome 5 = .ok (.ifCond .eq 11, 3) := by decide +kernel
theorem dX9_outcome_8 : decode cX9_outcome 8 = .ok (.aload_n 0, 1) := by decide +kernel
theorem dX9_outcome_9 : decode cX9_outcome 9 = .ok (.iload_n 2, 1) := by decide +kernel
theorem dX9_outcome_10 : decode cX9_outcome 10 = .ok (.invokevirtual 418, 3) := by decide +kernel
theorem dX9_outcome_13 : decode cX9_outcome 13 = .ok (.ifCond .ne 5, 3) := by decide +kernel
theorem dX9_outcome_16 : decode cX9_outcome 16 = .ok (.iconst (-1), 1) := by decide +kernel
theorem dX9_outcome_17 : decode cX9_outcome 17 = .ok (.ireturn, 1) := by decide +kernel
theorem dX9_outcome_18 : decode cX9_outcome 18 = .ok (.aload_n 0, 1) := by decide +kernel
theorem dX9_outcome_19 : decode cX9_outcome 19 = .ok (.invokevirtual 387, 3) := by decide +kernel
theorem dX9_outcome_22 : decode cX9_outcome 22 = .ok (.aload_n 0, 1) := by decide +kernel
theorem dX9_outcome_23 : decode cX9_outcome 23 = .ok (.iload_n 1, 1) := by decide +kernel
theorem dX9_outcome_24 : decode cX9_outcome 24 = .ok (.invokevirtual 400, 3) := by decide +kernel
theorem dX9_outcome_27 : decode cX9_outcome 27 = .ok (.aload_n 0, 1) := by decide +kernel
theorem dX9_outcome_28 : decode cX9_outcome 28 = .ok (.iload_n 2, 1) := by decide +kernel
theorem dX9_outcome_29 : decode cX9_outcome 29 = .ok (.invokevirtual 421, 3) := by decide +kernel
theorem dX9_outcome_32 : decode cX9_outcome 32 = .ok (.istore_n 3, 1) := by decide +kernel
theorem dX9_outcome_33 : decode cX9_outcome 33 = .ok (.iload_n 3, 1) := by decide +kernel
theorem dX9_outcome_34 : decode cX9_outcome 34 = .ok (.ifCond .ge 8, 3) := by decide +kernel
theorem dX9_outcome_37 : decode cX9_outcome 37 = .ok (.bipush (-2), 2) := by decide +kernel
theorem dX9_outcome_39 : decode cX9_outcome 39 = .ok (.goto 9, 3) := by decide +kernel
theorem dX9_outcome_42 : decode cX9_outcome 42 = .ok (.aload_n 0, 1) := by decide +kernel
theorem dX9_outcome_43 : decode cX9_outcome 43 = .ok (.getfield 106, 3) := by decide +kernel
theorem dX9_outcome_46 : decode cX9_outcome 46 = .ok (.iload_n 3, 1) := by decide +kernel
theorem dX9_outcome_47 : decode cX9_outcome 47 = .ok (.iaload, 1) := by decide +kernel
theorem dX9_outcome_48 : decode cX9_outcome 48 = .ok (.ireturn, 1) := by decide +kernel
theorem dX9_write_0 : decode cX9_write 0 = .ok (.aload_n 0, 1) := by decide +kernel
theorem dX9_write_1 : decode cX9_write 1 = .ok (.iload_n 1, 1) := by decide +kernel
theorem dX9_write_2 : decode cX9_write 2 = .ok (.invokevirtual 418, 3) := by decide +kernel
theorem dX9_write_5 : decode cX9_write 5 = .ok (.ifCond .ne 5, 3) := by decide +kernel
theorem dX9_write_8 : decode cX9_write 8 = .ok (.iconst (-1), 1) := by decide +kernel
theorem dX9_write_9 : decode cX9_write 9 = .ok (.ireturn, 1) := by decide +kernel
theorem dX9_write_10 : decode cX9_write 10 = .ok (.aload_n 0, 1) := by decide +kernel
theorem dX9_write_11 : decode cX9_write 11 = .ok (.invokevirtual 387, 3) := by decide +kernel
theorem dX9_write_14 : decode cX9_write 14 = .ok (.iconst 0, 1) := by decide +kernel
theorem dX9_write_15 : decode cX9_write 15 = .ok (.istore_n 3, 1) := by decide +kernel
theorem dX9_write_16 : decode cX9_write 16 = .ok (.iload_n 2, 1) := by decide +kernel
theorem dX9_write_17 : decode cX9_write 17 = .ok (.tableswitch 151 0 5 #[39, 46, 53, 60, 67, 109], 39) := by decide +kernel
theorem dX9_write_56 : decode cX9_write 56 = .ok (.aload_n 0, 1) := by decide +kernel
theorem dX9_write_57 : decode cX9_write 57 = .ok (.iload_n 1, 1) := by decide +kernel
theorem dX9_write_58 : decode cX9_write 58 = .ok (.iconst 0, 1) := by decide +kernel
theorem dX9_write_59 : decode cX9_write 59 = .ok (.invokevirtual 298, 3) := by decide +kernel
theorem dX9_write_62 : decode cX9_write 62 = .ok (.ireturn, 1) := by decide +kernel
theorem dX9_write_63 : decode cX9_write 63 = .ok (.aload_n 0, 1) := by decide +kernel
theorem dX9_write_64 : decode cX9_write 64 = .ok (.iload_n 1, 1) := by decide +kernel
theorem dX9_write_65 : decode cX9_write 65 = .ok (.iconst 2, 1) := by decide +kernel
theorem dX9_write_66 : decode cX9_write 66 = .ok (.invokevirtual 298, 3) := by decide +kernel
theorem dX9_write_69 : decode cX9_write 69 = .ok (.ireturn, 1) := by decide +kernel
theorem dX9_write_70 : decode cX9_write 70 = .ok (.aload_n 0, 1) := by decide +kernel
theorem dX9_write_71 : decode cX9_write 71 = .ok (.iload_n 1, 1) := by decide +kernel
theorem dX9_write_72 : decode cX9_write 72 = .ok (.iconst 3, 1) := by decide +kernel
theorem dX9_write_73 : decode cX9_write 73 = .ok (.invokevirtual 298, 3) := by decide +kernel
theorem dX9_write_76 : decode cX9_write 76 = .ok (.ireturn, 1) := by decide +kernel
theorem dX9_write_77 : decode cX9_write 77 = .ok (.aload_n 0, 1) := by decide +kernel
theorem dX9_write_78 : decode cX9_write 78 = .ok (.iload_n 1, 1) := by decide +kernel
theorem dX9_write_79 : decode cX9_write 79 = .ok (.iconst 4, 1) := by decide +kernel
theorem dX9_write_80 : decode cX9_write 80 = .ok (.invokevirtual 298, 3) := by decide +kernel
theorem dX9_write_83 : decode cX9_write 83 = .ok (.ireturn, 1) := by decide +kernel
theorem dX9_write_84 : decode cX9_write 84 = .ok (.iconst 0, 1) := by decide +kernel
theorem dX9_write_85 : decode cX9_write 85 = .ok (.istore 4, 2) := by decide +kernel
theorem dX9_write_87 : decode cX9_write 87 = .ok (.iload 4, 2) := by decide +kernel
theorem dX9_write_89 : decode cX9_write 89 = .ok (.aload_n 0, 1) := by decide +kernel
theorem dX9_write_90 : decode cX9_write 90 = .ok (.getfield 46, 3) := by decide +kernel
theorem dX9_write_93 : decode cX9_write 93 = .ok (.aload_n 0, 1) := by decide +kernel
theorem dX9_write_94 : decode cX9_write 94 = .ok (.getfield 209, 3) := by decide +kernel
theorem dX9_write_97 : decode cX9_write 97 = .ok (.iaload, 1) := by decide +kernel
theorem dX9_write_98 : decode cX9_write 98 = .ok (.if_icmp .ge 26, 3) := by decide +kernel
theorem dX9_write_101 : decode cX9_write 101 = .ok (.aload_n 0, 1) := by decide +kernel
theorem dX9_write_102 : decode cX9_write 102 = .ok (.iload 4, 2) := by decide +kernel
theorem dX9_write_104 : decode cX9_write 104 = .ok (.iload_n 1, 1) := by decide +kernel
theorem dX9_write_105 : decode cX9_write 105 = .ok (.invokevirtual 294, 3) := by decide +kernel
theorem dX9_write_108 : decode cX9_write 108 = .ok (.ifCond .eq 10, 3) := by decide +kernel
theorem dX9_write_111 : decode cX9_write 111 = .ok (.iload_n 3, 1) := by decide +kernel
theorem dX9_write_112 : decode cX9_write 112 = .ok (.iconst 1, 1) := by decide +kernel
theorem dX9_write_113 : decode cX9_write 113 = .ok (.iload 4, 2) := by decide +kernel
theorem dX9_write_115 : decode cX9_write 115 = .ok (.ishl, 1) := by decide +kernel
theorem dX9_write_116 : decode cX9_write 116 = .ok (.ior, 1) := by decide +kernel
theorem dX9_write_117 : decode cX9_write 117 = .ok (.istore_n 3, 1) := by decide +kernel
theorem dX9_write_118 : decode cX9_write 118 = .ok (.iinc 4 1, 3) := by decide +kernel
theorem dX9_write_121 : decode cX9_write 121 = .ok (.goto (-34), 3) := by decide +kernel
theorem dX9_write_124 : decode cX9_write 124 = .ok (.iload_n 3, 1) := by decide +kernel
theorem dX9_write_125 : decode cX9_write 125 = .ok (.ireturn, 1) := by decide +kernel
theorem dX9_write_126 : decode cX9_write 126 = .ok (.iconst 0, 1) := by decide +kernel
theorem dX9_write_127 : decode cX9_write 127 = .ok (.istore 4, 2) := by decide +kernel
theorem dX9_write_129 : decode cX9_write 129 = .ok (.iload 4, 2) := by decide +kernel
theorem dX9_write_131 : decode cX9_write 131 = .ok (.aload_n 0, 1) := by decide +kernel
theorem dX9_write_132 : decode cX9_write 132 = .ok (.getfield 46, 3) := by decide +kernel
theorem dX9_write_135 : decode cX9_write 135 = .ok (.aload_n 0, 1) := by decide +kernel
theorem dX9_write_136 : decode cX9_write 136 = .ok (.getfield 209, 3) := by decide +kernel
theorem dX9_write_139 : decode cX9_write 139 = .ok (.iaload, 1) := by decide +kernel
theorem dX9_write_140 : decode cX9_write 140 = .ok (.if_icmp .ge 26, 3) := by decide +kernel
theorem dX9_write_143 : decode cX9_write 143 = .ok (.aload_n 0, 1) := by decide +kernel
theorem dX9_write_144 : decode cX9_write 144 = .ok (.iload 4, 2) := by decide +kernel
theorem dX9_write_146 : decode cX9_write 146 = .ok (.iload_n 1, 1) := by decide +kernel
theorem dX9_write_147 : decode cX9_write 147 = .ok (.invokevirtual 307, 3) := by decide +kernel
theorem dX9_write_150 : decode cX9_write 150 = .ok (.ifCond .eq 10, 3) := by decide +kernel
theorem dX9_write_153 : decode cX9_write 153 = .ok (.iload_n 3, 1) := by decide +kernel
theorem dX9_write_154 : decode cX9_write 154 = .ok (.iconst 1, 1) := by decide +kernel
theorem dX9_write_155 : decode cX9_write 155 = .ok (.iload 4, 2) := by decide +kernel
theorem dX9_write_157 : decode cX9_write 157 = .ok (.ishl, 1) := by decide +kernel
theorem dX9_write_158 : decode cX9_write 158 = .ok (.ior, 1) := by decide +kernel
theorem dX9_write_159 : decode cX9_write 159 = .ok (.istore_n 3, 1) := by decide +kernel
theorem dX9_write_160 : decode cX9_write 160 = .ok (.iinc 4 1, 3) := by decide +kernel
theorem dX9_write_163 : decode cX9_write 163 = .ok (.goto (-34), 3) := by decide +kernel
theorem dX9_write_166 : decode cX9_write 166 = .ok (.iload_n 3, 1) := by decide +kernel
theorem dX9_write_167 : decode cX9_write 167 = .ok (.ireturn, 1) := by decide +kernel
theorem dX9_write_168 : decode cX9_write 168 = .ok (.iconst (-1), 1) := by decide +kernel
theorem dX9_write_169 : decode cX9_write 169 = .ok (.ireturn, 1) := by decide +kernel
theorem dX9_with_0 : decode cX9_with 0 = .ok (.aload_n 0, 1) := by decide +kernel
theorem dX9_with_1 : decode cX9_with 1 = .ok (.iload_n 1, 1) := by decide +kernel
theorem dX9_with_2 : decode cX9_with 2 = .ok (.invokevirtual 418, 3) := by decide +kernel
theorem dX9_with_5 : decode cX9_with 5 = .ok (.ifCond .eq 19, 3) := by decide +kernel
theorem dX9_with_8 : decode cX9_with 8 = .ok (.aload_n 0, 1) := by decide +kernel
theorem dX9_with_9 : decode cX9_with 9 = .ok (.getfield 91, 3) := by decide +kernel
theorem dX9_with_12 : decode cX9_with 12 = .ok (.bipush 110, 2) := by decide +kernel
theorem dX9_with_14 : decode cX9_with 14 = .ok (.iconst 5, 1) := by decide +kernel
theorem dX9_with_15 : decode cX9_with 15 = .ok (.iload_n 1, 1) := by decide +kernel
theorem dX9_with_16 : decode cX9_with 16 = .ok (.imul, 1) := by decide +kernel
theorem dX9_with_17 : decode cX9_with 17 = .ok (.iadd, 1) := by decide +kernel
theorem dX9_with_18 : decode cX9_with 18 = .ok (.iconst 1, 1) := by decide +kernel
theorem dX9_with_19 : decode cX9_with 19 = .ok (.iadd, 1) := by decide +kernel
theorem dX9_with_20 : decode cX9_with 20 = .ok (.iaload, 1) := by decide +kernel
theorem dX9_with_21 : decode cX9_with 21 = .ok (.goto 4, 3) := by decide +kernel
theorem dX9_with_24 : decode cX9_with 24 = .ok (.iconst 0, 1) := by decide +kernel
theorem dX9_with_25 : decode cX9_with 25 = .ok (.ireturn, 1) := by decide +kernel
theorem dX9_copy_0 : decode cX9_copy 0 = .ok (.aload_n 0, 1) := by decide +kernel
theorem dX9_copy_1 : decode cX9_copy 1 = .ok (.iload_n 1, 1) := by decide +kernel
theorem dX9_copy_2 : decode cX9_copy 2 = .ok (.invokevirtual 384, 3) := by decide +kernel
theorem dX9_copy_5 : decode cX9_copy 5 = .ok (.ifCond .eq 13, 3) := by decide +kernel
theorem dX9_copy_8 : decode cX9_copy 8 = .ok (.iload_n 2, 1) := by decide +kernel
theorem dX9_copy_9 : decode cX9_copy 9 = .ok (.iconst 0, 1) := by decide +kernel
theorem dX9_copy_10 : decode cX9_copy 10 = .ok (.bipush 8, 2) := by decide +kernel
theorem dX9_copy_12 : decode cX9_copy 12 = .ok (.invokestatic 283, 3) := by decide +kernel
theorem dX9_copy_15 : decode cX9_copy 15 = .ok (.ifCond .ne 5, 3) := by decide +kernel
theorem dX9_copy_18 : decode cX9_copy 18 = .ok (.iconst (-1), 1) := by decide +kernel
theorem dX9_copy_19 : decode cX9_copy 19 = .ok (.ireturn, 1) := by decide +kernel
theorem dX9_copy_20 : decode cX9_copy 20 = .ok (.aload_n 0, 1) := by decide +kernel
theorem dX9_copy_21 : decode cX9_copy 21 = .ok (.invokevirtual 387, 3) := by decide +kernel
theorem dX9_copy_24 : decode cX9_copy 24 = .ok (.aload_n 0, 1) := by decide +kernel
theorem dX9_copy_25 : decode cX9_copy 25 = .ok (.iload_n 1, 1) := by decide +kernel
theorem dX9_copy_26 : decode cX9_copy 26 = .ok (.invokevirtual 400, 3) := by decide +kernel
theorem dX9_copy_29 : decode cX9_copy 29 = .ok (.iload_n 2, 1) := by decide +kernel
theorem dX9_copy_30 : decode cX9_copy 30 = .ok (.tableswitch 75 0 8 #[50, 56, 75, 75, 75, 75, 75, 61, 68], 50) := by decide +kernel
theorem dX9_copy_80 : decode cX9_copy 80 = .ok (.aload_n 0, 1) := by decide +kernel
theorem dX9_copy_81 : decode cX9_copy 81 = .ok (.iload_n 1, 1) := by decide +kernel
theorem dX9_copy_82 : decode cX9_copy 82 = .ok (.invokevirtual 362, 3) := by decide +kernel
theorem dX9_copy_85 : decode cX9_copy 85 = .ok (.ireturn, 1) := by decide +kernel
theorem dX9_copy_86 : decode cX9_copy 86 = .ok (.aload_n 0, 1) := by decide +kernel
theorem dX9_copy_87 : decode cX9_copy 87 = .ok (.getfield 304, 3) := by decide +kernel
theorem dX9_copy_90 : decode cX9_copy 90 = .ok (.ireturn, 1) := by decide +kernel
theorem dX9_copy_91 : decode cX9_copy 91 = .ok (.aload_n 0, 1) := by decide +kernel
theorem dX9_copy_92 : decode cX9_copy 92 = .ok (.iconst 1, 1) := by decide +kernel
theorem dX9_copy_93 : decode cX9_copy 93 = .ok (.iconst 1, 1) := by decide +kernel
theorem dX9_copy_94 : decode cX9_copy 94 = .ok (.invokevirtual 424, 3) := by decide +kernel
theorem dX9_copy_97 : decode cX9_copy 97 = .ok (.ireturn, 1) := by decide +kernel
theorem dX9_copy_98 : decode cX9_copy 98 = .ok (.aload_n 0, 1) := by decide +kernel
theorem dX9_copy_99 : decode cX9_copy 99 = .ok (.iconst 2, 1) := by decide +kernel
theorem dX9_copy_100 : decode cX9_copy 100 = .ok (.iconst 3, 1) := by decide +kernel
theorem dX9_copy_101 : decode cX9_copy 101 = .ok (.invokevirtual 424, 3) := by decide +kernel
theorem dX9_copy_104 : decode cX9_copy 104 = .ok (.ireturn, 1) := by decide +kernel
theorem dX9_copy_105 : decode cX9_copy 105 = .ok (.aload_n 0, 1) := by decide +kernel
theorem dX9_copy_106 : decode cX9_copy 106 = .ok (.iload_n 1, 1) := by decide +kernel
theorem dX9_copy_107 : decode cX9_copy 107 = .ok (.iload_n 2, 1) := by decide +kernel
theorem dX9_copy_108 : decode cX9_copy 108 = .ok (.iconst 2, 1) := by decide +kernel
theorem dX9_copy_109 : decode cX9_copy 109 = .ok (.isub, 1) := by decide +kernel
theorem dX9_copy_110 : decode cX9_copy 110 = .ok (.invokevirtual 301, 3) := by decide +kernel
theorem dX9_copy_113 : decode cX9_copy 113 = .ok (.ireturn, 1) := by decide +kernel
theorem dX9_vector_0 : decode cX9_vector 0 = .ok (.aload_n 0, 1) := by decide +kernel
theorem dX9_vector_1 : decode cX9_vector 1 = .ok (.invokevirtual 387, 3) := by decide +kernel
theorem dX9_vector_4 : decode cX9_vector 4 = .ok (.aload_n 0, 1) := by decide +kernel
theorem dX9_vector_5 : decode cX9_vector 5 = .ok (.iload_n 1, 1) := by decide +kernel
theorem dX9_vector_6 : decode cX9_vector 6 = .ok (.invokevirtual 384, 3) := by decide +kernel
theorem dX9_vector_9 : decode cX9_vector 9 = .ok (.ifCond .eq 20, 3) := by decide +kernel
theorem dX9_vector_12 : decode cX9_vector 12 = .ok (.aload_n 0, 1) := by decide +kernel
theorem dX9_vector_13 : decode cX9_vector 13 = .ok (.iload_n 2, 1) := by decide +kernel
theorem dX9_vector_14 : decode cX9_vector 14 = .ok (.invokevirtual 384, 3) := by decide +kernel
theorem dX9_vector_17 : decode cX9_vector 17 = .ok (.ifCond .eq 12, 3) := by decide +kernel
theorem dX9_vector_20 : decode cX9_vector 20 = .ok (.aload_n 0, 1) := by decide +kernel
theorem dX9_vector_21 : decode cX9_vector 21 = .ok (.iload_n 1, 1) := by decide +kernel
theorem dX9_vector_22 : decode cX9_vector 22 = .ok (.iload_n 2, 1) := by decide +kernel
theorem dX9_vector_23 : decode cX9_vector 23 = .ok (.invokevirtual 365, 3) := by decide +kernel
theorem dX9_vector_26 : decode cX9_vector 26 = .ok (.goto 4, 3) := by decide +kernel
theorem dX9_vector_29 : decode cX9_vector 29 = .ok (.iconst (-1), 1) := by decide +kernel
theorem dX9_vector_30 : decode cX9_vector 30 = .ok (.ireturn, 1) := by decide +kernel
theorem dX9_session_0 : decode cX9_session 0 = .ok (.iload_n 1, 1) := by decide +kernel
theorem dX9_session_1 : decode cX9_session 1 = .ok (.invokestatic 381, 3) := by decide +kernel
theorem dX9_session_4 : decode cX9_session 4 = .ok (.ifCond .eq 29, 3) := by decide +kernel
theorem dX9_session_7 : decode cX9_session 7 = .ok (.iload_n 2, 1) := by decide +kernel
theorem dX9_session_8 : decode cX9_session 8 = .ok (.iconst 0, 1) := by decide +kernel
theorem dX9_session_9 : decode cX9_session 9 = .ok (.iconst 1, 1) := by decide +kernel
theorem dX9_session_10 : decode cX9_session 10 = .ok (.invokestatic 283, 3) := by decide +kernel
theorem dX9_session_13 : decode cX9_session 13 = .ok (.ifCond .eq 20, 3) := by decide +kernel
theorem dX9_session_16 : decode cX9_session 16 = .ok (.aload_n 0, 1) := by decide +kernel
theorem dX9_session_17 : decode cX9_session 17 = .ok (.getfield 91, 3) := by decide +kernel
theorem dX9_session_20 : decode cX9_session 20 = .ok (.bipush 50, 2) := by decide +kernel
theorem dX9_session_22 : decode cX9_session 22 = .ok (.bipush 14, 2) := by decide +kernel
theorem dX9_session_24 : decode cX9_session 24 = .ok (.iload_n 1, 1) := by decide +kernel
theorem dX9_session_25 : decode cX9_session 25 = .ok (.imul, 1) := by decide +kernel
theorem dX9_session_26 : decode cX9_session 26 = .ok (.iadd, 1) := by decide +kernel
theorem dX9_session_27 : decode cX9_session 27 = .ok (.iload_n 2, 1) := by decide +kernel
theorem dX9_session_28 : decode cX9_session 28 = .ok (.iadd, 1) := by decide +kernel
theorem dX9_session_29 : decode cX9_session 29 = .ok (.iaload, 1) := by decide +kernel
theorem dX9_session_30 : decode cX9_session 30 = .ok (.goto 4, 3) := by decide +kernel
theorem dX9_session_33 : decode cX9_session 33 = .ok (.iconst (-1), 1) := by decide +kernel
theorem dX9_session_34 : decode cX9_session 34 = .ok (.ireturn, 1) := by decide +kernel
theorem dX9_of_0 : decode cX9_of 0 = .ok (.iload_n 1, 1) := by decide +kernel
theorem dX9_of_1 : decode cX9_of 1 = .ok (.invokestatic 381, 3) := by decide +kernel
theorem dX9_of_4 : decode cX9_of 4 = .ok (.ifCond .eq 39, 3) := by decide +kernel
theorem dX9_of_7 : decode cX9_of 7 = .ok (.aload_n 0, 1) := by decide +kernel
theorem dX9_of_8 : decode cX9_of 8 = .ok (.iload_n 2, 1) := by decide +kernel
theorem dX9_of_9 : decode cX9_of 9 = .ok (.invokevirtual 384, 3) := by decide +kernel
theorem dX9_of_12 : decode cX9_of 12 = .ok (.ifCond .eq 31, 3) := by decide +kernel
theorem dX9_of_15 : decode cX9_of 15 = .ok (.aload_n 0, 1) := by decide +kernel
theorem dX9_of_16 : decode cX9_of 16 = .ok (.getfield 91, 3) := by decide +kernel
theorem dX9_of_19 : decode cX9_of 19 = .ok (.bipush 50, 2) := by decide +kernel
theorem dX9_of_21 : decode cX9_of 21 = .ok (.bipush 14, 2) := by decide +kernel
theorem dX9_of_23 : decode cX9_of 23 = .ok (.iload_n 1, 1) := by decide +kernel
theorem dX9_of_24 : decode cX9_of 24 = .ok (.imul, 1) := by decide +kernel
theorem dX9_of_25 : decode cX9_of 25 = .ok (.iadd, 1) := by decide +kernel
theorem dX9_of_26 : decode cX9_of 26 = .ok (.iload_n 3, 1) := by decide +kernel
theorem dX9_of_27 : decode cX9_of 27 = .ok (.ifCond .eq 8, 3) := by decide +kernel
theorem dX9_of_30 : decode cX9_of 30 = .ok (.bipush 8, 2) := by decide +kernel
theorem dX9_of_32 : decode cX9_of 32 = .ok (.goto 4, 3) := by decide +kernel
theorem dX9_of_35 : decode cX9_of 35 = .ok (.iconst 3, 1) := by decide +kernel
theorem dX9_of_36 : decode cX9_of 36 = .ok (.iadd, 1) := by decide +kernel
theorem dX9_of_37 : decode cX9_of 37 = .ok (.iload_n 2, 1) := by decide +kernel
theorem dX9_of_38 : decode cX9_of 38 = .ok (.iadd, 1) := by decide +kernel
theorem dX9_of_39 : decode cX9_of 39 = .ok (.iaload, 1) := by decide +kernel
theorem dX9_of_40 : decode cX9_of 40 = .ok (.goto 4, 3) := by decide +kernel
theorem dX9_of_43 : decode cX9_of 43 = .ok (.iconst (-1), 1) := by decide +kernel
theorem dX9_of_44 : decode cX9_of 44 = .ok (.ireturn, 1) := by decide +kernel
theorem dX9_shut_0 : decode cX9_shut 0 = .ok (.iload_n 1, 1) := by decide +kernel
theorem dX9_shut_1 : decode cX9_shut 1 = .ok (.iconst 0, 1) := by decide +kernel
theorem dX9_shut_2 : decode cX9_shut 2 = .ok (.bipush 7, 2) := by decide +kernel
theorem dX9_shut_4 : decode cX9_shut 4 = .ok (.invokestatic 283, 3) := by decide +kernel
theorem dX9_shut_7 : decode cX9_shut 7 = .ok (.ifCond .ne 7, 3) := by decide +kernel
theorem dX9_shut_10 : decode cX9_shut 10 = .ok (.iconst (-1), 1) := by decide +kernel
theorem dX9_shut_11 : decode cX9_shut 11 = .ok (.goto 26, 3) := by decide +kernel
theorem dX9_shut_14 : decode cX9_shut 14 = .ok (.iload_n 1, 1) := by decide +kernel
theorem dX9_shut_15 : decode cX9_shut 15 = .ok (.aload_n 0, 1) := by decide +kernel
theorem dX9_shut_16 : decode cX9_shut 16 = .ok (.getfield 91, 3) := by decide +kernel
theorem dX9_shut_19 : decode cX9_shut 19 = .ok (.iconst 4, 1) := by decide +kernel
theorem dX9_shut_20 : decode cX9_shut 20 = .ok (.iaload, 1) := by decide +kernel
theorem dX9_shut_21 : decode cX9_shut 21 = .ok (.if_icmp .ge 14, 3) := by decide +kernel
theorem dX9_shut_24 : decode cX9_shut 24 = .ok (.aload_n 0, 1) := by decide +kernel
theorem dX9_shut_25 : decode cX9_shut 25 = .ok (.getfield 91, 3) := by decide +kernel
theorem dX9_shut_28 : decode cX9_shut 28 = .ok (.iconst 5, 1) := by decide +kernel
theorem dX9_shut_29 : decode cX9_shut 29 = .ok (.iload_n 1, 1) := by decide +kernel
theorem dX9_shut_30 : decode cX9_shut 30 = .ok (.iadd, 1) := by decide +kernel
theorem dX9_shut_31 : decode cX9_shut 31 = .ok (.iaload, 1) := by decide +kernel
theorem dX9_shut_32 : decode cX9_shut 32 = .ok (.goto 5, 3) := by decide +kernel
theorem dX9_shut_35 : decode cX9_shut 35 = .ok (.bipush (-2), 2) := by decide +kernel
theorem dX9_shut_37 : decode cX9_shut 37 = .ok (.ireturn, 1) := by decide +kernel
theorem dX9_lacksOf_0 : decode cX9_lacksOf 0 = .ok (.iconst 0, 1) := by decide +kernel
theorem dX9_lacksOf_1 : decode cX9_lacksOf 1 = .ok (.istore_n 3, 1) := by decide +kernel
theorem dX9_lacksOf_2 : decode cX9_lacksOf 2 = .ok (.iconst 0, 1) := by decide +kernel
theorem dX9_lacksOf_3 : decode cX9_lacksOf 3 = .ok (.istore 4, 2) := by decide +kernel
theorem dX9_lacksOf_5 : decode cX9_lacksOf 5 = .ok (.iload 4, 2) := by decide +kernel
theorem dX9_lacksOf_7 : decode cX9_lacksOf 7 = .ok (.aload_n 0, 1) := by decide +kernel
theorem dX9_lacksOf_8 : decode cX9_lacksOf 8 = .ok (.getfield 94, 3) := by decide +kernel
theorem dX9_lacksOf_11 : decode cX9_lacksOf 11 = .ok (.iconst 0, 1) := by decide +kernel
theorem dX9_lacksOf_12 : decode cX9_lacksOf 12 = .ok (.iaload, 1) := by decide +kernel
theorem dX9_lacksOf_13 : decode cX9_lacksOf 13 = .ok (.if_icmp .ge 32, 3) := by decide +kernel
theorem dX9_lacksOf_16 : decode cX9_lacksOf 16 = .ok (.aload_n 0, 1) := by decide +kernel
theorem dX9_lacksOf_17 : decode cX9_lacksOf 17 = .ok (.iload_n 1, 1) := by decide +kernel
theorem dX9_lacksOf_18 : decode cX9_lacksOf 18 = .ok (.iload 4, 2) := by decide +kernel
theorem dX9_lacksOf_20 : decode cX9_lacksOf 20 = .ok (.invokevirtual 294, 3) := by decide +kernel
theorem dX9_lacksOf_23 : decode cX9_lacksOf 23 = .ok (.ifCond .eq 16, 3) := by decide +kernel
theorem dX9_lacksOf_26 : decode cX9_lacksOf 26 = .ok (.aload_n 0, 1) := by decide +kernel
theorem dX9_lacksOf_27 : decode cX9_lacksOf 27 = .ok (.iload_n 2, 1) := by decide +kernel
theorem dX9_lacksOf_28 : decode cX9_lacksOf 28 = .ok (.iload 4, 2) := by decide +kernel
theorem dX9_lacksOf_30 : decode cX9_lacksOf 30 = .ok (.invokevirtual 294, 3) := by decide +kernel
theorem dX9_lacksOf_33 : decode cX9_lacksOf 33 = .ok (.ifCond .ne 6, 3) := by decide +kernel
theorem dX9_lacksOf_36 : decode cX9_lacksOf 36 = .ok (.iinc 3 1, 3) := by decide +kernel
theorem dX9_lacksOf_39 : decode cX9_lacksOf 39 = .ok (.iinc 4 1, 3) := by decide +kernel
theorem dX9_lacksOf_42 : decode cX9_lacksOf 42 = .ok (.goto (-37), 3) := by decide +kernel
theorem dX9_lacksOf_45 : decode cX9_lacksOf 45 = .ok (.iload_n 3, 1) := by decide +kernel
theorem dX9_lacksOf_46 : decode cX9_lacksOf 46 = .ok (.ireturn, 1) := by decide +kernel
theorem dX9_areAlike_0 : decode cX9_areAlike 0 = .ok (.aload_n 0, 1) := by decide +kernel
theorem dX9_areAlike_1 : decode cX9_areAlike 1 = .ok (.iload_n 1, 1) := by decide +kernel
theorem dX9_areAlike_2 : decode cX9_areAlike 2 = .ok (.iload_n 2, 1) := by decide +kernel
theorem dX9_areAlike_3 : decode cX9_areAlike 3 = .ok (.invokevirtual 427, 3) := by decide +kernel
theorem dX9_areAlike_6 : decode cX9_areAlike 6 = .ok (.ifCond .ne 31, 3) := by decide +kernel
theorem dX9_areAlike_9 : decode cX9_areAlike 9 = .ok (.aload_n 0, 1) := by decide +kernel
theorem dX9_areAlike_10 : decode cX9_areAlike 10 = .ok (.iload_n 2, 1) := by decide +kernel
theorem dX9_areAlike_11 : decode cX9_areAlike 11 = .ok (.iload_n 1, 1) := by decide +kernel
theorem dX9_areAlike_12 : decode cX9_areAlike 12 = .ok (.invokevirtual 427, 3) := by decide +kernel
theorem dX9_areAlike_15 : decode cX9_areAlike 15 = .ok (.ifCond .ne 22, 3) := by decide +kernel
theorem dX9_areAlike_18 : decode cX9_areAlike 18 = .ok (.aload_n 0, 1) := by decide +kernel
theorem dX9_areAlike_19 : decode cX9_areAlike 19 = .ok (.iload_n 1, 1) := by decide +kernel
theorem dX9_areAlike_20 : decode cX9_areAlike 20 = .ok (.iconst 0, 1) := by decide +kernel
theorem dX9_areAlike_21 : decode cX9_areAlike 21 = .ok (.invokevirtual 301, 3) := by decide +kernel
theorem dX9_areAlike_24 : decode cX9_areAlike 24 = .ok (.aload_n 0, 1) := by decide +kernel
theorem dX9_areAlike_25 : decode cX9_areAlike 25 = .ok (.iload_n 2, 1) := by decide +kernel
theorem dX9_areAlike_26 : decode cX9_areAlike 26 = .ok (.iconst 0, 1) := by decide +kernel
theorem dX9_areAlike_27 : decode cX9_areAlike 27 = .ok (.invokevirtual 301, 3) := by decide +kernel
theorem dX9_areAlike_30 : decode cX9_areAlike 30 = .ok (.if_icmp .ne 7, 3) := by decide +kernel
theorem dX9_areAlike_33 : decode cX9_areAlike 33 = .ok (.iconst 1, 1) := by decide +kernel
theorem dX9_areAlike_34 : decode cX9_areAlike 34 = .ok (.goto 4, 3) := by decide +kernel
theorem dX9_areAlike_37 : decode cX9_areAlike 37 = .ok (.iconst 0, 1) := by decide +kernel
theorem dX9_areAlike_38 : decode cX9_areAlike 38 = .ok (.ireturn, 1) := by decide +kernel
theorem dX9_areAllAlike_0 : decode cX9_areAllAlike 0 = .ok (.iconst 1, 1) := by decide +kernel
theorem dX9_areAllAlike_1 : decode cX9_areAllAlike 1 = .ok (.istore_n 1, 1) := by decide +kernel
theorem dX9_areAllAlike_2 : decode cX9_areAllAlike 2 = .ok (.iload_n 1, 1) := by decide +kernel
theorem dX9_areAllAlike_3 : decode cX9_areAllAlike 3 = .ok (.aload_n 0, 1) := by decide +kernel
theorem dX9_areAllAlike_4 : decode cX9_areAllAlike 4 = .ok (.getfield 46, 3) := by decide +kernel
theorem dX9_areAllAlike_7 : decode cX9_areAllAlike 7 = .ok (.aload_n 0, 1) := by decide +kernel
theorem dX9_areAllAlike_8 : decode cX9_areAllAlike 8 = .ok (.getfield 209, 3) := by decide +kernel
theorem dX9_areAllAlike_11 : decode cX9_areAllAlike 11 = .ok (.iaload, 1) := by decide +kernel
theorem dX9_areAllAlike_12 : decode cX9_areAllAlike 12 = .ok (.if_icmp .ge 20, 3) := by decide +kernel
theorem dX9_areAllAlike_15 : decode cX9_areAllAlike 15 = .ok (.aload_n 0, 1) := by decide +kernel
theorem dX9_areAllAlike_16 : decode cX9_areAllAlike 16 = .ok (.iconst 0, 1) := by decide +kernel
theorem dX9_areAllAlike_17 : decode cX9_areAllAlike 17 = .ok (.iload_n 1, 1) := by decide +kernel
theorem dX9_areAllAlike_18 : decode cX9_areAllAlike 18 = .ok (.invokevirtual 430, 3) := by decide +kernel
theorem dX9_areAllAlike_21 : decode cX9_areAllAlike 21 = .ok (.ifCond .ne 5, 3) := by decide +kernel
theorem dX9_areAllAlike_24 : decode cX9_areAllAlike 24 = .ok (.iconst 0, 1) := by decide +kernel
theorem dX9_areAllAlike_25 : decode cX9_areAllAlike 25 = .ok (.ireturn, 1) := by decide +kernel
theorem dX9_areAllAlike_26 : decode cX9_areAllAlike 26 = .ok (.iinc 1 1, 3) := by decide +kernel
theorem dX9_areAllAlike_29 : decode cX9_areAllAlike 29 = .ok (.goto (-27), 3) := by decide +kernel
theorem dX9_areAllAlike_32 : decode cX9_areAllAlike 32 = .ok (.iconst 1, 1) := by decide +kernel
theorem dX9_areAllAlike_33 : decode cX9_areAllAlike 33 = .ok (.ireturn, 1) := by decide +kernel
theorem dX9_lacks_0 : decode cX9_lacks 0 = .ok (.aload_n 0, 1) := by decide +kernel
theorem dX9_lacks_1 : decode cX9_lacks 1 = .ok (.invokevirtual 387, 3) := by decide +kernel
theorem dX9_lacks_4 : decode cX9_lacks 4 = .ok (.aload_n 0, 1) := by decide +kernel
theorem dX9_lacks_5 : decode cX9_lacks 5 = .ok (.iload_n 1, 1) := by decide +kernel
theorem dX9_lacks_6 : decode cX9_lacks 6 = .ok (.invokevirtual 384, 3) := by decide +kernel
theorem dX9_lacks_9 : decode cX9_lacks 9 = .ok (.ifCond .eq 20, 3) := by decide +kernel
theorem dX9_lacks_12 : decode cX9_lacks 12 = .ok (.aload_n 0, 1) := by decide +kernel
theorem dX9_lacks_13 : decode cX9_lacks 13 = .ok (.iload_n 2, 1) := by decide +kernel
theorem dX9_lacks_14 : decode cX9_lacks 14 = .ok (.invokevirtual 384, 3) := by decide +kernel
theorem dX9_lacks_17 : decode cX9_lacks 17 = .ok (.ifCond .eq 12, 3) := by decide +kernel
theorem dX9_lacks_20 : decode cX9_lacks 20 = .ok (.aload_n 0, 1) := by decide +kernel
theorem dX9_lacks_21 : decode cX9_lacks 21 = .ok (.iload_n 1, 1) := by decide +kernel
theorem dX9_lacks_22 : decode cX9_lacks 22 = .ok (.iload_n 2, 1) := by decide +kernel
theorem dX9_lacks_23 : decode cX9_lacks 23 = .ok (.invokevirtual 427, 3) := by decide +kernel
theorem dX9_lacks_26 : decode cX9_lacks 26 = .ok (.goto 4, 3) := by decide +kernel
theorem dX9_lacks_29 : decode cX9_lacks 29 = .ok (.iconst (-1), 1) := by decide +kernel
theorem dX9_lacks_30 : decode cX9_lacks 30 = .ok (.ireturn, 1) := by decide +kernel
theorem dX9_would_0 : decode cX9_would 0 = .ok (.aload_n 0, 1) := by decide +kernel
theorem dX9_would_1 : decode cX9_would 1 = .ok (.iload_n 1, 1) := by decide +kernel
theorem dX9_would_2 : decode cX9_would 2 = .ok (.iload_n 2, 1) := by decide +kernel
theorem dX9_would_3 : decode cX9_would 3 = .ok (.invokevirtual 409, 3) := by decide +kernel
theorem dX9_would_6 : decode cX9_would 6 = .ok (.ifCond .ne 5, 3) := by decide +kernel
theorem dX9_would_9 : decode cX9_would 9 = .ok (.iconst (-1), 1) := by decide +kernel
theorem dX9_would_10 : decode cX9_would 10 = .ok (.ireturn, 1) := by decide +kernel
theorem dX9_would_11 : decode cX9_would 11 = .ok (.aload_n 0, 1) := by decide +kernel
theorem dX9_would_12 : decode cX9_would 12 = .ok (.invokevirtual 387, 3) := by decide +kernel
theorem dX9_would_15 : decode cX9_would 15 = .ok (.aload_n 0, 1) := by decide +kernel
theorem dX9_would_16 : decode cX9_would 16 = .ok (.iload_n 1, 1) := by decide +kernel
theorem dX9_would_17 : decode cX9_would 17 = .ok (.iload_n 2, 1) := by decide +kernel
theorem dX9_would_18 : decode cX9_would 18 = .ok (.invokevirtual 359, 3) := by decide +kernel
theorem dX9_would_21 : decode cX9_would 21 = .ok (.ireturn, 1) := by decide +kernel
theorem dX9_differ_0 : decode cX9_differ 0 = .ok (.aload_n 0, 1) := by decide +kernel
theorem dX9_differ_1 : decode cX9_differ 1 = .ok (.iload_n 1, 1) := by decide +kernel
theorem dX9_differ_2 : decode cX9_differ 2 = .ok (.invokevirtual 384, 3) := by decide +kernel
theorem dX9_differ_5 : decode cX9_differ 5 = .ok (.ifCond .eq 11, 3) := by decide +kernel
theorem dX9_differ_8 : decode cX9_differ 8 = .ok (.aload_n 0, 1) := by decide +kernel
theorem dX9_differ_9 : decode cX9_differ 9 = .ok (.iload_n 2, 1) := by decide +kernel
theorem dX9_differ_10 : decode cX9_differ 10 = .ok (.invokevirtual 384, 3) := by decide +kernel
theorem dX9_differ_13 : decode cX9_differ 13 = .ok (.ifCond .ne 5, 3) := by decide +kernel
theorem dX9_differ_16 : decode cX9_differ 16 = .ok (.iconst (-1), 1) := by decide +kernel
theorem dX9_differ_17 : decode cX9_differ 17 = .ok (.ireturn, 1) := by decide +kernel
theorem dX9_differ_18 : decode cX9_differ 18 = .ok (.aload_n 0, 1) := by decide +kernel
theorem dX9_differ_19 : decode cX9_differ 19 = .ok (.invokevirtual 387, 3) := by decide +kernel
theorem dX9_differ_22 : decode cX9_differ 22 = .ok (.aload_n 0, 1) := by decide +kernel
theorem dX9_differ_23 : decode cX9_differ 23 = .ok (.iload_n 1, 1) := by decide +kernel
theorem dX9_differ_24 : decode cX9_differ 24 = .ok (.invokevirtual 400, 3) := by decide +kernel
theorem dX9_differ_27 : decode cX9_differ 27 = .ok (.iconst 0, 1) := by decide +kernel
theorem dX9_differ_28 : decode cX9_differ 28 = .ok (.istore_n 3, 1) := by decide +kernel
theorem dX9_differ_29 : decode cX9_differ 29 = .ok (.iload_n 3, 1) := by decide +kernel
theorem dX9_differ_30 : decode cX9_differ 30 = .ok (.bipush 6, 2) := by decide +kernel
theorem dX9_differ_32 : decode cX9_differ 32 = .ok (.if_icmp .ge 21, 3) := by decide +kernel
theorem dX9_differ_35 : decode cX9_differ 35 = .ok (.aload_n 0, 1) := by decide +kernel
theorem dX9_differ_36 : decode cX9_differ 36 = .ok (.getfield 115, 3) := by decide +kernel
theorem dX9_differ_39 : decode cX9_differ 39 = .ok (.iload_n 3, 1) := by decide +kernel
theorem dX9_differ_40 : decode cX9_differ 40 = .ok (.aload_n 0, 1) := by decide +kernel
theorem dX9_differ_41 : decode cX9_differ 41 = .ok (.getfield 103, 3) := by decide +kernel
theorem dX9_differ_44 : decode cX9_differ 44 = .ok (.iload_n 3, 1) := by decide +kernel
theorem dX9_differ_45 : decode cX9_differ 45 = .ok (.iaload, 1) := by decide +kernel
theorem dX9_differ_46 : decode cX9_differ 46 = .ok (.iastore, 1) := by decide +kernel
theorem dX9_differ_47 : decode cX9_differ 47 = .ok (.iinc 3 1, 3) := by decide +kernel
theorem dX9_differ_50 : decode cX9_differ 50 = .ok (.goto (-21), 3) := by decide +kernel
theorem dX9_differ_53 : decode cX9_differ 53 = .ok (.aload_n 0, 1) := by decide +kernel
theorem dX9_differ_54 : decode cX9_differ 54 = .ok (.iload_n 2, 1) := by decide +kernel
theorem dX9_differ_55 : decode cX9_differ 55 = .ok (.invokevirtual 400, 3) := by decide +kernel
theorem dX9_differ_58 : decode cX9_differ 58 = .ok (.iconst 0, 1) := by decide +kernel
theorem dX9_differ_59 : decode cX9_differ 59 = .ok (.istore_n 3, 1) := by decide +kernel
theorem dX9_differ_60 : decode cX9_differ 60 = .ok (.iconst 0, 1) := by decide +kernel
theorem dX9_differ_61 : decode cX9_differ 61 = .ok (.istore 4, 2) := by decide +kernel
theorem dX9_differ_63 : decode cX9_differ 63 = .ok (.iload 4, 2) := by decide +kernel
theorem dX9_differ_65 : decode cX9_differ 65 = .ok (.aload_n 0, 1) := by decide +kernel
theorem dX9_differ_66 : decode cX9_differ 66 = .ok (.getfield 52, 3) := by decide +kernel
theorem dX9_differ_69 : decode cX9_differ 69 = .ok (.aload_n 0, 1) := by decide +kernel
theorem dX9_differ_70 : decode cX9_differ 70 = .ok (.getfield 209, 3) := by decide +kernel
theorem dX9_differ_73 : decode cX9_differ 73 = .ok (.iaload, 1) := by decide +kernel
theorem dX9_differ_74 : decode cX9_differ 74 = .ok (.if_icmp .ge 33, 3) := by decide +kernel
theorem dX9_differ_77 : decode cX9_differ 77 = .ok (.aload_n 0, 1) := by decide +kernel
theorem dX9_differ_78 : decode cX9_differ 78 = .ok (.getfield 115, 3) := by decide +kernel
theorem dX9_differ_81 : decode cX9_differ 81 = .ok (.iload 4, 2) := by decide +kernel
theorem dX9_differ_83 : decode cX9_differ 83 = .ok (.iaload, 1) := by decide +kernel
theorem dX9_differ_84 : decode cX9_differ 84 = .ok (.aload_n 0, 1) := by decide +kernel
theorem dX9_differ_85 : decode cX9_differ 85 = .ok (.getfield 103, 3) := by decide +kernel
theorem dX9_differ_88 : decode cX9_differ 88 = .ok (.iload 4, 2) := by decide +kernel
theorem dX9_differ_90 : decode cX9_differ 90 = .ok (.iaload, 1) := by decide +kernel
theorem dX9_differ_91 : decode cX9_differ 91 = .ok (.if_icmp .eq 10, 3) := by decide +kernel
theorem dX9_differ_94 : decode cX9_differ 94 = .ok (.iload_n 3, 1) := by decide +kernel
theorem dX9_differ_95 : decode cX9_differ 95 = .ok (.iconst 1, 1) := by decide +kernel
theorem dX9_differ_96 : decode cX9_differ 96 = .ok (.iload 4, 2) := by decide +kernel
theorem dX9_differ_98 : decode cX9_differ 98 = .ok (.ishl, 1) := by decide +kernel
theorem dX9_differ_99 : decode cX9_differ 99 = .ok (.ior, 1) := by decide +kernel
theorem dX9_differ_100 : decode cX9_differ 100 = .ok (.istore_n 3, 1) := by decide +kernel
theorem dX9_differ_101 : decode cX9_differ 101 = .ok (.iinc 4 1, 3) := by decide +kernel
theorem dX9_differ_104 : decode cX9_differ 104 = .ok (.goto (-41), 3) := by decide +kernel
theorem dX9_differ_107 : decode cX9_differ 107 = .ok (.iload_n 3, 1) := by decide +kernel
theorem dX9_differ_108 : decode cX9_differ 108 = .ok (.ireturn, 1) := by decide +kernel
theorem dX9_alike_0 : decode cX9_alike 0 = .ok (.aload_n 0, 1) := by decide +kernel
theorem dX9_alike_1 : decode cX9_alike 1 = .ok (.invokevirtual 387, 3) := by decide +kernel
theorem dX9_alike_4 : decode cX9_alike 4 = .ok (.aload_n 0, 1) := by decide +kernel
theorem dX9_alike_5 : decode cX9_alike 5 = .ok (.iload_n 1, 1) := by decide +kernel
theorem dX9_alike_6 : decode cX9_alike 6 = .ok (.invokevirtual 384, 3) := by decide +kernel
theorem dX9_alike_9 : decode cX9_alike 9 = .ok (.ifCond .eq 11, 3) := by decide +kernel
theorem dX9_alike_12 : decode cX9_alike 12 = .ok (.aload_n 0, 1) := by decide +kernel
theorem dX9_alike_13 : decode cX9_alike 13 = .ok (.iload_n 2, 1) := by decide +kernel
theorem dX9_alike_14 : decode cX9_alike 14 = .ok (.invokevirtual 384, 3) := by decide +kernel
theorem dX9_alike_17 : decode cX9_alike 17 = .ok (.ifCond .ne 7, 3) := by decide +kernel
theorem dX9_alike_20 : decode cX9_alike 20 = .ok (.iconst (-1), 1) := by decide +kernel
theorem dX9_alike_21 : decode cX9_alike 21 = .ok (.goto 17, 3) := by decide +kernel
theorem dX9_alike_24 : decode cX9_alike 24 = .ok (.aload_n 0, 1) := by decide +kernel
theorem dX9_alike_25 : decode cX9_alike 25 = .ok (.iload_n 1, 1) := by decide +kernel
theorem dX9_alike_26 : decode cX9_alike 26 = .ok (.iload_n 2, 1) := by decide +kernel
theorem dX9_alike_27 : decode cX9_alike 27 = .ok (.invokevirtual 430, 3) := by decide +kernel
theorem dX9_alike_30 : decode cX9_alike 30 = .ok (.ifCond .eq 7, 3) := by decide +kernel
theorem dX9_alike_33 : decode cX9_alike 33 = .ok (.iconst 1, 1) := by decide +kernel
theorem dX9_alike_34 : decode cX9_alike 34 = .ok (.goto 4, 3) := by decide +kernel
theorem dX9_alike_37 : decode cX9_alike 37 = .ok (.iconst 0, 1) := by decide +kernel
theorem dX9_alike_38 : decode cX9_alike 38 = .ok (.ireturn, 1) := by decide +kernel
theorem dX9_fork_0 : decode cX9_fork 0 = .ok (.aload_n 0, 1) := by decide +kernel
theorem dX9_fork_1 : decode cX9_fork 1 = .ok (.iload_n 1, 1) := by decide +kernel
theorem dX9_fork_2 : decode cX9_fork 2 = .ok (.invokevirtual 384, 3) := by decide +kernel
theorem dX9_fork_5 : decode cX9_fork 5 = .ok (.ifCond .eq 11, 3) := by decide +kernel
theorem dX9_fork_8 : decode cX9_fork 8 = .ok (.aload_n 0, 1) := by decide +kernel
theorem dX9_fork_9 : decode cX9_fork 9 = .ok (.iload_n 2, 1) := by decide +kernel
theorem dX9_fork_10 : decode cX9_fork 10 = .ok (.invokevirtual 384, 3) := by decide +kernel
theorem dX9_fork_13 : decode cX9_fork 13 = .ok (.ifCond .ne 5, 3) := by decide +kernel
theorem dX9_fork_16 : decode cX9_fork 16 = .ok (.iconst (-1), 1) := by decide +kernel
theorem dX9_fork_17 : decode cX9_fork 17 = .ok (.ireturn, 1) := by decide +kernel
theorem dX9_fork_18 : decode cX9_fork 18 = .ok (.aload_n 0, 1) := by decide +kernel
theorem dX9_fork_19 : decode cX9_fork 19 = .ok (.invokevirtual 387, 3) := by decide +kernel
theorem dX9_fork_22 : decode cX9_fork 22 = .ok (.aload_n 0, 1) := by decide +kernel
theorem dX9_fork_23 : decode cX9_fork 23 = .ok (.iload_n 1, 1) := by decide +kernel
theorem dX9_fork_24 : decode cX9_fork 24 = .ok (.invokevirtual 328, 3) := by decide +kernel
theorem dX9_fork_27 : decode cX9_fork 27 = .ok (.aload_n 0, 1) := by decide +kernel
theorem dX9_fork_28 : decode cX9_fork 28 = .ok (.invokevirtual 341, 3) := by decide +kernel
theorem dX9_fork_31 : decode cX9_fork 31 = .ok (.aload_n 0, 1) := by decide +kernel
theorem dX9_fork_32 : decode cX9_fork 32 = .ok (.iload_n 2, 1) := by decide +kernel
theorem dX9_fork_33 : decode cX9_fork 33 = .ok (.invokevirtual 328, 3) := by decide +kernel
theorem dX9_fork_36 : decode cX9_fork 36 = .ok (.aload_n 0, 1) := by decide +kernel
theorem dX9_fork_37 : decode cX9_fork 37 = .ok (.invokevirtual 350, 3) := by decide +kernel
theorem dX9_fork_40 : decode cX9_fork 40 = .ok (.ireturn, 1) := by decide +kernel
theorem dX9_fillsHangs_0 : decode cX9_fillsHangs 0 = .ok (.iconst 0, 1) := by decide +kernel
theorem dX9_fillsHangs_1 : decode cX9_fillsHangs 1 = .ok (.istore_n 2, 1) := by decide +kernel
theorem dX9_fillsHangs_2 : decode cX9_fillsHangs 2 = .ok (.iload_n 2, 1) := by decide +kernel
theorem dX9_fillsHangs_3 : decode cX9_fillsHangs 3 = .ok (.aload_n 0, 1) := by decide +kernel
theorem dX9_fillsHangs_4 : decode cX9_fillsHangs 4 = .ok (.getfield 304, 3) := by decide +kernel
theorem dX9_fillsHangs_7 : decode cX9_fillsHangs 7 = .ok (.if_icmp .ge 21, 3) := by decide +kernel
theorem dX9_fillsHangs_10 : decode cX9_fillsHangs 10 = .ok (.aload_n 0, 1) := by decide +kernel
theorem dX9_fillsHangs_11 : decode cX9_fillsHangs 11 = .ok (.getfield 118, 3) := by decide +kernel
theorem dX9_fillsHangs_14 : decode cX9_fillsHangs 14 = .ok (.iload_n 2, 1) := by decide +kernel
theorem dX9_fillsHangs_15 : decode cX9_fillsHangs 15 = .ok (.aload_n 0, 1) := by decide +kernel
theorem dX9_fillsHangs_16 : decode cX9_fillsHangs 16 = .ok (.getfield 106, 3) := by decide +kernel
theorem dX9_fillsHangs_19 : decode cX9_fillsHangs 19 = .ok (.iload_n 2, 1) := by decide +kernel
theorem dX9_fillsHangs_20 : decode cX9_fillsHangs 20 = .ok (.iaload, 1) := by decide +kernel
theorem dX9_fillsHangs_21 : decode cX9_fillsHangs 21 = .ok (.iastore, 1) := by decide +kernel
theorem dX9_fillsHangs_22 : decode cX9_fillsHangs 22 = .ok (.iinc 2 1, 3) := by decide +kernel
theorem dX9_fillsHangs_25 : decode cX9_fillsHangs 25 = .ok (.goto (-23), 3) := by decide +kernel
theorem dX9_fillsHangs_28 : decode cX9_fillsHangs 28 = .ok (.aload_n 0, 1) := by decide +kernel
theorem dX9_fillsHangs_29 : decode cX9_fillsHangs 29 = .ok (.invokevirtual 322, 3) := by decide +kernel
theorem dX9_fillsHangs_32 : decode cX9_fillsHangs 32 = .ok (.aload_n 0, 1) := by decide +kernel
theorem dX9_fillsHangs_33 : decode cX9_fillsHangs 33 = .ok (.iconst 0, 1) := by decide +kernel
theorem dX9_fillsHangs_34 : decode cX9_fillsHangs 34 = .ok (.putfield 433, 3) := by decide +kernel
theorem dX9_fillsHangs_37 : decode cX9_fillsHangs 37 = .ok (.aload_n 0, 1) := by decide +kernel
theorem dX9_fillsHangs_38 : decode cX9_fillsHangs 38 = .ok (.bipush (-2), 2) := by decide +kernel
theorem dX9_fillsHangs_40 : decode cX9_fillsHangs 40 = .ok (.putfield 436, 3) := by decide +kernel
theorem dX9_fillsHangs_43 : decode cX9_fillsHangs 43 = .ok (.iconst 0, 1) := by decide +kernel
theorem dX9_fillsHangs_44 : decode cX9_fillsHangs 44 = .ok (.istore_n 2, 1) := by decide +kernel
theorem dX9_fillsHangs_45 : decode cX9_fillsHangs 45 = .ok (.iload_n 2, 1) := by decide +kernel
theorem dX9_fillsHangs_46 : decode cX9_fillsHangs 46 = .ok (.aload_n 0, 1) := by decide +kernel
theorem dX9_fillsHangs_47 : decode cX9_fillsHangs 47 = .ok (.getfield 304, 3) := by decide +kernel
theorem dX9_fillsHangs_50 : decode cX9_fillsHangs 50 = .ok (.if_icmp .ge 74, 3) := by decide +kernel
theorem dX9_fillsHangs_53 : decode cX9_fillsHangs 53 = .ok (.iload_n 2, 1) := by decide +kernel
theorem dX9_fillsHangs_54 : decode cX9_fillsHangs 54 = .ok (.iload_n 1, 1) := by decide +kernel
theorem dX9_fillsHangs_55 : decode cX9_fillsHangs 55 = .ok (.if_icmp .ne 6, 3) := by decide +kernel
theorem dX9_fillsHangs_58 : decode cX9_fillsHangs 58 = .ok (.goto 60, 3) := by decide +kernel
theorem dX9_fillsHangs_61 : decode cX9_fillsHangs 61 = .ok (.aload_n 0, 1) := by decide +kernel
theorem dX9_fillsHangs_62 : decode cX9_fillsHangs 62 = .ok (.aload_n 0, 1) := by decide +kernel
theorem dX9_fillsHangs_63 : decode cX9_fillsHangs 63 = .ok (.getfield 97, 3) := by decide +kernel
theorem dX9_fillsHangs_66 : decode cX9_fillsHangs 66 = .ok (.iload_n 2, 1) := by decide +kernel
theorem dX9_fillsHangs_67 : decode cX9_fillsHangs 67 = .ok (.iaload, 1) := by decide +kernel
theorem dX9_fillsHangs_68 : decode cX9_fillsHangs 68 = .ok (.iload_n 2, 1) := by decide +kernel
theorem dX9_fillsHangs_69 : decode cX9_fillsHangs 69 = .ok (.invokevirtual 325, 3) := by decide +kernel
theorem dX9_fillsHangs_72 : decode cX9_fillsHangs 72 = .ok (.istore_n 3, 1) := by decide +kernel
theorem dX9_fillsHangs_73 : decode cX9_fillsHangs 73 = .ok (.iload_n 2, 1) := by decide +kernel
theorem dX9_fillsHangs_74 : decode cX9_fillsHangs 74 = .ok (.iload_n 1, 1) := by decide +kernel
theorem dX9_fillsHangs_75 : decode cX9_fillsHangs 75 = .ok (.if_icmp .lt 43, 3) := by decide +kernel
theorem dX9_fillsHangs_78 : decode cX9_fillsHangs 78 = .ok (.iload_n 3, 1) := by decide +kernel
theorem dX9_fillsHangs_79 : decode cX9_fillsHangs 79 = .ok (.aload_n 0, 1) := by decide +kernel
theorem dX9_fillsHangs_80 : decode cX9_fillsHangs 80 = .ok (.getfield 118, 3) := by decide +kernel
theorem dX9_fillsHangs_83 : decode cX9_fillsHangs 83 = .ok (.iload_n 2, 1) := by decide +kernel
theorem dX9_fillsHangs_84 : decode cX9_fillsHangs 84 = .ok (.iaload, 1) := by decide +kernel
theorem dX9_fillsHangs_85 : decode cX9_fillsHangs 85 = .ok (.if_icmp .ne 6, 3) := by decide +kernel
theorem dX9_fillsHangs_88 : decode cX9_fillsHangs 88 = .ok (.goto 30, 3) := by decide +kernel
theorem dX9_fillsHangs_91 : decode cX9_fillsHangs 91 = .ok (.aload_n 0, 1) := by decide +kernel
theorem dX9_fillsHangs_92 : decode cX9_fillsHangs 92 = .ok (.getfield 433, 3) := by decide +kernel
theorem dX9_fillsHangs_95 : decode cX9_fillsHangs 95 = .ok (.ifCond .ne 13, 3) := by decide +kernel
theorem dX9_fillsHangs_98 : decode cX9_fillsHangs 98 = .ok (.aload_n 0, 1) := by decide +kernel
theorem dX9_fillsHangs_99 : decode cX9_fillsHangs 99 = .ok (.aload_n 0, 1) := by decide +kernel
theorem dX9_fillsHangs_100 : decode cX9_fillsHangs 100 = .ok (.getfield 97, 3) := by decide +kernel
theorem dX9_fillsHangs_103 : decode cX9_fillsHangs 103 = .ok (.iload_n 2, 1) := by decide +kernel
theorem dX9_fillsHangs_104 : decode cX9_fillsHangs 104 = .ok (.iaload, 1) := by decide +kernel
theorem dX9_fillsHangs_105 : decode cX9_fillsHangs 105 = .ok (.putfield 436, 3) := by decide +kernel
theorem dX9_fillsHangs_108 : decode cX9_fillsHangs 108 = .ok (.aload_n 0, 1) := by decide +kernel
theorem dX9_fillsHangs_109 : decode cX9_fillsHangs 109 = .ok (.dup, 1) := by decide +kernel
theorem dX9_fillsHangs_110 : decode cX9_fillsHangs 110 = .ok (.getfield 433, 3) := by decide +kernel
theorem dX9_fillsHangs_113 : decode cX9_fillsHangs 113 = .ok (.iconst 1, 1) := by decide +kernel
theorem dX9_fillsHangs_114 : decode cX9_fillsHangs 114 = .ok (.iadd, 1) := by decide +kernel
theorem dX9_fillsHangs_115 : decode cX9_fillsHangs 115 = .ok (.putfield 433, 3) := by decide +kernel
theorem dX9_fillsHangs_118 : decode cX9_fillsHangs 118 = .ok (.iinc 2 1, 3) := by decide +kernel
theorem dX9_fillsHangs_121 : decode cX9_fillsHangs 121 = .ok (.goto (-76), 3) := by decide +kernel
theorem dX9_fillsHangs_124 : decode cX9_fillsHangs 124 = .ok (.iconst 0, 1) := by decide +kernel
theorem dX9_fillsHangs_125 : decode cX9_fillsHangs 125 = .ok (.istore_n 2, 1) := by decide +kernel
theorem dX9_fillsHangs_126 : decode cX9_fillsHangs 126 = .ok (.iload_n 2, 1) := by decide +kernel
theorem dX9_fillsHangs_127 : decode cX9_fillsHangs 127 = .ok (.aload_n 0, 1) := by decide +kernel
theorem dX9_fillsHangs_128 : decode cX9_fillsHangs 128 = .ok (.getfield 304, 3) := by decide +kernel
theorem dX9_fillsHangs_131 : decode cX9_fillsHangs 131 = .ok (.if_icmp .ge 21, 3) := by decide +kernel
theorem dX9_fillsHangs_134 : decode cX9_fillsHangs 134 = .ok (.aload_n 0, 1) := by decide +kernel
theorem dX9_fillsHangs_135 : decode cX9_fillsHangs 135 = .ok (.getfield 106, 3) := by decide +kernel
theorem dX9_fillsHangs_138 : decode cX9_fillsHangs 138 = .ok (.iload_n 2, 1) := by decide +kernel
theorem dX9_fillsHangs_139 : decode cX9_fillsHangs 139 = .ok (.aload_n 0, 1) := by decide +kernel
theorem dX9_fillsHangs_140 : decode cX9_fillsHangs 140 = .ok (.getfield 118, 3) := by decide +kernel
theorem dX9_fillsHangs_143 : decode cX9_fillsHangs 143 = .ok (.iload_n 2, 1) := by decide +kernel
theorem dX9_fillsHangs_144 : decode cX9_fillsHangs 144 = .ok (.iaload, 1) := by decide +kernel
theorem dX9_fillsHangs_145 : decode cX9_fillsHangs 145 = .ok (.iastore, 1) := by decide +kernel
theorem dX9_fillsHangs_146 : decode cX9_fillsHangs 146 = .ok (.iinc 2 1, 3) := by decide +kernel
theorem dX9_fillsHangs_149 : decode cX9_fillsHangs 149 = .ok (.goto (-23), 3) := by decide +kernel
theorem dX9_fillsHangs_152 : decode cX9_fillsHangs 152 = .ok (.return_, 1) := by decide +kernel
theorem dX9_hangs_0 : decode cX9_hangs 0 = .ok (.aload_n 0, 1) := by decide +kernel
theorem dX9_hangs_1 : decode cX9_hangs 1 = .ok (.iload_n 1, 1) := by decide +kernel
theorem dX9_hangs_2 : decode cX9_hangs 2 = .ok (.invokevirtual 384, 3) := by decide +kernel
theorem dX9_hangs_5 : decode cX9_hangs 5 = .ok (.ifCond .eq 20, 3) := by decide +kernel
theorem dX9_hangs_8 : decode cX9_hangs 8 = .ok (.aload_n 0, 1) := by decide +kernel
theorem dX9_hangs_9 : decode cX9_hangs 9 = .ok (.iload_n 2, 1) := by decide +kernel
theorem dX9_hangs_10 : decode cX9_hangs 10 = .ok (.invokevirtual 418, 3) := by decide +kernel
theorem dX9_hangs_13 : decode cX9_hangs 13 = .ok (.ifCond .eq 12, 3) := by decide +kernel
theorem dX9_hangs_16 : decode cX9_hangs 16 = .ok (.iload_n 3, 1) := by decide +kernel
theorem dX9_hangs_17 : decode cX9_hangs 17 = .ok (.iconst 0, 1) := by decide +kernel
theorem dX9_hangs_18 : decode cX9_hangs 18 = .ok (.iconst 1, 1) := by decide +kernel
theorem dX9_hangs_19 : decode cX9_hangs 19 = .ok (.invokestatic 283, 3) := by decide +kernel
theorem dX9_hangs_22 : decode cX9_hangs 22 = .ok (.ifCond .ne 5, 3) := by decide +kernel
theorem dX9_hangs_25 : decode cX9_hangs 25 = .ok (.iconst (-1), 1) := by decide +kernel
theorem dX9_hangs_26 : decode cX9_hangs 26 = .ok (.ireturn, 1) := by decide +kernel
theorem dX9_hangs_27 : decode cX9_hangs 27 = .ok (.aload_n 0, 1) := by decide +kernel
theorem dX9_hangs_28 : decode cX9_hangs 28 = .ok (.invokevirtual 387, 3) := by decide +kernel
theorem dX9_hangs_31 : decode cX9_hangs 31 = .ok (.aload_n 0, 1) := by decide +kernel
theorem dX9_hangs_32 : decode cX9_hangs 32 = .ok (.iload_n 1, 1) := by decide +kernel
theorem dX9_hangs_33 : decode cX9_hangs 33 = .ok (.invokevirtual 400, 3) := by decide +kernel
theorem dX9_hangs_36 : decode cX9_hangs 36 = .ok (.aload_n 0, 1) := by decide +kernel
theorem dX9_hangs_37 : decode cX9_hangs 37 = .ok (.iload_n 2, 1) := by decide +kernel
theorem dX9_hangs_38 : decode cX9_hangs 38 = .ok (.invokevirtual 421, 3) := by decide +kernel
theorem dX9_hangs_41 : decode cX9_hangs 41 = .ok (.istore 4, 2) := by decide +kernel
theorem dX9_hangs_43 : decode cX9_hangs 43 = .ok (.iload 4, 2) := by decide +kernel
theorem dX9_hangs_45 : decode cX9_hangs 45 = .ok (.ifCond .ge 6, 3) := by decide +kernel
theorem dX9_hangs_48 : decode cX9_hangs 48 = .ok (.bipush (-3), 2) := by decide +kernel
theorem dX9_hangs_50 : decode cX9_hangs 50 = .ok (.ireturn, 1) := by decide +kernel
theorem dX9_hangs_51 : decode cX9_hangs 51 = .ok (.aload_n 0, 1) := by decide +kernel
theorem dX9_hangs_52 : decode cX9_hangs 52 = .ok (.iload 4, 2) := by decide +kernel
theorem dX9_hangs_54 : decode cX9_hangs 54 = .ok (.invokevirtual 439, 3) := by decide +kernel
theorem dX9_hangs_57 : decode cX9_hangs 57 = .ok (.iload_n 3, 1) := by decide +kernel
theorem dX9_hangs_58 : decode cX9_hangs 58 = .ok (.ifCond .ne 10, 3) := by decide +kernel
theorem dX9_hangs_61 : decode cX9_hangs 61 = .ok (.aload_n 0, 1) := by decide +kernel
theorem dX9_hangs_62 : decode cX9_hangs 62 = .ok (.getfield 433, 3) := by decide +kernel
theorem dX9_hangs_65 : decode cX9_hangs 65 = .ok (.goto 7, 3) := by decide +kernel
theorem dX9_hangs_68 : decode cX9_hangs 68 = .ok (.aload_n 0, 1) := by decide +kernel
theorem dX9_hangs_69 : decode cX9_hangs 69 = .ok (.getfield 436, 3) := by decide +kernel
theorem dX9_hangs_72 : decode cX9_hangs 72 = .ok (.ireturn, 1) := by decide +kernel
theorem dX9_key_0 : decode cX9_key 0 = .ok (.aload_n 0, 1) := by decide +kernel
theorem dX9_key_1 : decode cX9_key 1 = .ok (.iload_n 1, 1) := by decide +kernel
theorem dX9_key_2 : decode cX9_key 2 = .ok (.invokevirtual 384, 3) := by decide +kernel
theorem dX9_key_5 : decode cX9_key 5 = .ok (.ifCond .eq 12, 3) := by decide +kernel
theorem dX9_key_8 : decode cX9_key 8 = .ok (.iload_n 2, 1) := by decide +kernel
theorem dX9_key_9 : decode cX9_key 9 = .ok (.iconst 0, 1) := by decide +kernel
theorem dX9_key_10 : decode cX9_key 10 = .ok (.iconst 1, 1) := by decide +kernel
theorem dX9_key_11 : decode cX9_key 11 = .ok (.invokestatic 283, 3) := by decide +kernel
theorem dX9_key_14 : decode cX9_key 14 = .ok (.ifCond .ne 5, 3) := by decide +kernel
theorem dX9_key_17 : decode cX9_key 17 = .ok (.iconst (-1), 1) := by decide +kernel
theorem dX9_key_18 : decode cX9_key 18 = .ok (.ireturn, 1) := by decide +kernel
theorem dX9_key_19 : decode cX9_key 19 = .ok (.aload_n 0, 1) := by decide +kernel
theorem dX9_key_20 : decode cX9_key 20 = .ok (.invokevirtual 387, 3) := by decide +kernel
theorem dX9_key_23 : decode cX9_key 23 = .ok (.aload_n 0, 1) := by decide +kernel
theorem dX9_key_24 : decode cX9_key 24 = .ok (.iload_n 1, 1) := by decide +kernel
theorem dX9_key_25 : decode cX9_key 25 = .ok (.invokevirtual 400, 3) := by decide +kernel
theorem dX9_key_28 : decode cX9_key 28 = .ok (.bipush (-2), 2) := by decide +kernel
theorem dX9_key_30 : decode cX9_key 30 = .ok (.istore_n 3, 1) := by decide +kernel
theorem dX9_key_31 : decode cX9_key 31 = .ok (.bipush (-2), 2) := by decide +kernel
theorem dX9_key_33 : decode cX9_key 33 = .ok (.istore 4, 2) := by decide +kernel
theorem dX9_key_35 : decode cX9_key 35 = .ok (.iconst 0, 1) := by decide +kernel
theorem dX9_key_36 : decode cX9_key 36 = .ok (.istore 5, 2) := by decide +kernel
theorem dX9_key_38 : decode cX9_key 38 = .ok (.iload 5, 2) := by decide +kernel
theorem dX9_key_40 : decode cX9_key 40 = .ok (.aload_n 0, 1) := by decide +kernel
theorem dX9_key_41 : decode cX9_key 41 = .ok (.getfield 304, 3) := by decide +kernel
theorem dX9_key_44 : decode cX9_key 44 = .ok (.if_icmp .ge 48, 3) := by decide +kernel
theorem dX9_key_47 : decode cX9_key 47 = .ok (.aload_n 0, 1) := by decide +kernel
theorem dX9_key_48 : decode cX9_key 48 = .ok (.iload 5, 2) := by decide +kernel
theorem dX9_key_50 : decode cX9_key 50 = .ok (.invokevirtual 439, 3) := by decide +kernel
theorem dX9_key_53 : decode cX9_key 53 = .ok (.aload_n 0, 1) := by decide +kernel
theorem dX9_key_54 : decode cX9_key 54 = .ok (.getfield 433, 3) := by decide +kernel
theorem dX9_key_57 : decode cX9_key 57 = .ok (.ifCond .eq 29, 3) := by decide +kernel
theorem dX9_key_60 : decode cX9_key 60 = .ok (.aload_n 0, 1) := by decide +kernel
theorem dX9_key_61 : decode cX9_key 61 = .ok (.getfield 433, 3) := by decide +kernel
theorem dX9_key_64 : decode cX9_key 64 = .ok (.iload 4, 2) := by decide +kernel
theorem dX9_key_66 : decode cX9_key 66 = .ok (.if_icmp .gt 6, 3) := by decide +kernel
theorem dX9_key_69 : decode cX9_key 69 = .ok (.goto 17, 3) := by decide +kernel
theorem dX9_key_72 : decode cX9_key 72 = .ok (.aload_n 0, 1) := by decide +kernel
theorem dX9_key_73 : decode cX9_key 73 = .ok (.getfield 97, 3) := by decide +kernel
theorem dX9_key_76 : decode cX9_key 76 = .ok (.iload 5, 2) := by decide +kernel
theorem dX9_key_78 : decode cX9_key 78 = .ok (.iaload, 1) := by decide +kernel
theorem dX9_key_79 : decode cX9_key 79 = .ok (.istore_n 3, 1) := by decide +kernel
theorem dX9_key_80 : decode cX9_key 80 = .ok (.aload_n 0, 1) := by decide +kernel
theorem dX9_key_81 : decode cX9_key 81 = .ok (.getfield 433, 3) := by decide +kernel
theorem dX9_key_84 : decode cX9_key 84 = .ok (.istore 4, 2) := by decide +kernel
theorem dX9_key_86 : decode cX9_key 86 = .ok (.iinc 5 1, 3) := by decide +kernel
theorem dX9_key_89 : decode cX9_key 89 = .ok (.goto (-51), 3) := by decide +kernel
theorem dX9_key_92 : decode cX9_key 92 = .ok (.iload_n 2, 1) := by decide +kernel
theorem dX9_key_93 : decode cX9_key 93 = .ok (.ifCond .ne 7, 3) := by decide +kernel
theorem dX9_key_96 : decode cX9_key 96 = .ok (.iload_n 3, 1) := by decide +kernel
theorem dX9_key_97 : decode cX9_key 97 = .ok (.goto 5, 3) := by decide +kernel
theorem dX9_key_100 : decode cX9_key 100 = .ok (.iload 4, 2) := by decide +kernel
theorem dX9_key_102 : decode cX9_key 102 = .ok (.ireturn, 1) := by decide +kernel
theorem dX9_behind_0 : decode cX9_behind 0 = .ok (.aload_n 0, 1) := by decide +kernel
theorem dX9_behind_1 : decode cX9_behind 1 = .ok (.iload_n 1, 1) := by decide +kernel
theorem dX9_behind_2 : decode cX9_behind 2 = .ok (.invokevirtual 384, 3) := by decide +kernel
theorem dX9_behind_5 : decode cX9_behind 5 = .ok (.ifCond .eq 15, 3) := by decide +kernel
theorem dX9_behind_8 : decode cX9_behind 8 = .ok (.aload_n 0, 1) := by decide +kernel
theorem dX9_behind_9 : decode cX9_behind 9 = .ok (.iload_n 2, 1) := by decide +kernel
theorem dX9_behind_10 : decode cX9_behind 10 = .ok (.invokevirtual 403, 3) := by decide +kernel
theorem dX9_behind_13 : decode cX9_behind 13 = .ok (.ifCond .eq 7, 3) := by decide +kernel
theorem dX9_behind_16 : decode cX9_behind 16 = .ok (.iload_n 3, 1) := by decide +kernel
theorem dX9_behind_17 : decode cX9_behind 17 = .ok (.ifCond .ge 5, 3) := by decide +kernel
theorem dX9_behind_20 : decode cX9_behind 20 = .ok (.iconst 0, 1) := by decide +kernel
theorem dX9_behind_21 : decode cX9_behind 21 = .ok (.ireturn, 1) := by decide +kernel
theorem dX9_behind_22 : decode cX9_behind 22 = .ok (.aload_n 0, 1) := by decide +kernel
theorem dX9_behind_23 : decode cX9_behind 23 = .ok (.invokevirtual 387, 3) := by decide +kernel
theorem dX9_behind_26 : decode cX9_behind 26 = .ok (.aload_n 0, 1) := by decide +kernel
theorem dX9_behind_27 : decode cX9_behind 27 = .ok (.iload_n 1, 1) := by decide +kernel
theorem dX9_behind_28 : decode cX9_behind 28 = .ok (.invokevirtual 328, 3) := by decide +kernel
theorem dX9_behind_31 : decode cX9_behind 31 = .ok (.aload_n 0, 1) := by decide +kernel
theorem dX9_behind_32 : decode cX9_behind 32 = .ok (.iload_n 3, 1) := by decide +kernel
theorem dX9_behind_33 : decode cX9_behind 33 = .ok (.aload_n 0, 1) := by decide +kernel
theorem dX9_behind_34 : decode cX9_behind 34 = .ok (.getfield 304, 3) := by decide +kernel
theorem dX9_behind_37 : decode cX9_behind 37 = .ok (.if_icmp .ge 7, 3) := by decide +kernel
theorem dX9_behind_40 : decode cX9_behind 40 = .ok (.iload_n 3, 1) := by decide +kernel
theorem dX9_behind_41 : decode cX9_behind 41 = .ok (.goto 7, 3) := by decide +kernel
theorem dX9_behind_44 : decode cX9_behind 44 = .ok (.aload_n 0, 1) := by decide +kernel
theorem dX9_behind_45 : decode cX9_behind 45 = .ok (.getfield 304, 3) := by decide +kernel
theorem dX9_behind_48 : decode cX9_behind 48 = .ok (.invokevirtual 331, 3) := by decide +kernel
theorem dX9_behind_51 : decode cX9_behind 51 = .ok (.aload_n 0, 1) := by decide +kernel
theorem dX9_behind_52 : decode cX9_behind 52 = .ok (.getfield 103, 3) := by decide +kernel
theorem dX9_behind_55 : decode cX9_behind 55 = .ok (.iload_n 2, 1) := by decide +kernel
theorem dX9_behind_56 : decode cX9_behind 56 = .ok (.iaload, 1) := by decide +kernel
theorem dX9_behind_57 : decode cX9_behind 57 = .ok (.ireturn, 1) := by decide +kernel
theorem dX9_share_0 : decode cX9_share 0 = .ok (.aload_n 0, 1) := by decide +kernel
theorem dX9_share_1 : decode cX9_share 1 = .ok (.iload_n 1, 1) := by decide +kernel
theorem dX9_share_2 : decode cX9_share 2 = .ok (.invokevirtual 384, 3) := by decide +kernel
theorem dX9_share_5 : decode cX9_share 5 = .ok (.ifCond .ne 5, 3) := by decide +kernel
theorem dX9_share_8 : decode cX9_share 8 = .ok (.iconst (-1), 1) := by decide +kernel
theorem dX9_share_9 : decode cX9_share 9 = .ok (.ireturn, 1) := by decide +kernel
theorem dX9_share_10 : decode cX9_share 10 = .ok (.aload_n 0, 1) := by decide +kernel
theorem dX9_share_11 : decode cX9_share 11 = .ok (.invokevirtual 387, 3) := by decide +kernel
theorem dX9_share_14 : decode cX9_share 14 = .ok (.aload_n 0, 1) := by decide +kernel
theorem dX9_share_15 : decode cX9_share 15 = .ok (.iload_n 1, 1) := by decide +kernel
theorem dX9_share_16 : decode cX9_share 16 = .ok (.invokevirtual 328, 3) := by decide +kernel
theorem dX9_share_19 : decode cX9_share 19 = .ok (.aload_n 0, 1) := by decide +kernel
theorem dX9_share_20 : decode cX9_share 20 = .ok (.getfield 94, 3) := by decide +kernel
theorem dX9_share_23 : decode cX9_share 23 = .ok (.iconst 0, 1) := by decide +kernel
theorem dX9_share_24 : decode cX9_share 24 = .ok (.iaload, 1) := by decide +kernel
theorem dX9_share_25 : decode cX9_share 25 = .ok (.ifCond .ne 7, 3) := by decide +kernel
theorem dX9_share_28 : decode cX9_share 28 = .ok (.iconst 0, 1) := by decide +kernel
theorem dX9_share_29 : decode cX9_share 29 = .ok (.goto 18, 3) := by decide +kernel
theorem dX9_share_32 : decode cX9_share 32 = .ok (.sipush 1000, 3) := by decide +kernel
theorem dX9_share_35 : decode cX9_share 35 = .ok (.aload_n 0, 1) := by decide +kernel
theorem dX9_share_36 : decode cX9_share 36 = .ok (.getfield 304, 3) := by decide +kernel
theorem dX9_share_39 : decode cX9_share 39 = .ok (.imul, 1) := by decide +kernel
theorem dX9_share_40 : decode cX9_share 40 = .ok (.aload_n 0, 1) := by decide +kernel
theorem dX9_share_41 : decode cX9_share 41 = .ok (.getfield 94, 3) := by decide +kernel
theorem dX9_share_44 : decode cX9_share 44 = .ok (.iconst 0, 1) := by decide +kernel
theorem dX9_share_45 : decode cX9_share 45 = .ok (.iaload, 1) := by decide +kernel
theorem dX9_share_46 : decode cX9_share 46 = .ok (.idiv, 1) := by decide +kernel
theorem dX9_share_47 : decode cX9_share 47 = .ok (.ireturn, 1) := by decide +kernel
theorem dX9_setter_0 : decode cX9_setter 0 = .ok (.aload_n 0, 1) := by decide +kernel
theorem dX9_setter_1 : decode cX9_setter 1 = .ok (.iload_n 1, 1) := by decide +kernel
theorem dX9_setter_2 : decode cX9_setter 2 = .ok (.invokevirtual 384, 3) := by decide +kernel
theorem dX9_setter_5 : decode cX9_setter 5 = .ok (.ifCond .eq 11, 3) := by decide +kernel
theorem dX9_setter_8 : decode cX9_setter 8 = .ok (.aload_n 0, 1) := by decide +kernel
theorem dX9_setter_9 : decode cX9_setter 9 = .ok (.iload_n 2, 1) := by decide +kernel
theorem dX9_setter_10 : decode cX9_setter 10 = .ok (.invokevirtual 403, 3) := by decide +kernel
theorem dX9_setter_13 : decode cX9_setter 13 = .ok (.ifCond .ne 5, 3) := by decide +kernel
theorem dX9_setter_16 : decode cX9_setter 16 = .ok (.iconst (-1), 1) := by decide +kernel
theorem dX9_setter_17 : decode cX9_setter 17 = .ok (.ireturn, 1) := by decide +kernel
theorem dX9_setter_18 : decode cX9_setter 18 = .ok (.aload_n 0, 1) := by decide +kernel
theorem dX9_setter_19 : decode cX9_setter 19 = .ok (.invokevirtual 387, 3) := by decide +kernel
theorem dX9_setter_22 : decode cX9_setter 22 = .ok (.aload_n 0, 1) := by decide +kernel
theorem dX9_setter_23 : decode cX9_setter 23 = .ok (.iload_n 1, 1) := by decide +kernel
theorem dX9_setter_24 : decode cX9_setter 24 = .ok (.invokevirtual 400, 3) := by decide +kernel
theorem dX9_setter_27 : decode cX9_setter 27 = .ok (.bipush (-2), 2) := by decide +kernel
theorem dX9_setter_29 : decode cX9_setter 29 = .ok (.istore_n 3, 1) := by decide +kernel
theorem dX9_setter_30 : decode cX9_setter 30 = .ok (.iconst 0, 1) := by decide +kernel
theorem dX9_setter_31 : decode cX9_setter 31 = .ok (.istore 4, 2) := by decide +kernel
theorem dX9_setter_33 : decode cX9_setter 33 = .ok (.iload 4, 2) := by decide +kernel
theorem dX9_setter_35 : decode cX9_setter 35 = .ok (.aload_n 0, 1) := by decide +kernel
theorem dX9_setter_36 : decode cX9_setter 36 = .ok (.getfield 304, 3) := by decide +kernel
theorem dX9_setter_39 : decode cX9_setter 39 = .ok (.if_icmp .ge 28, 3) := by decide +kernel
theorem dX9_setter_42 : decode cX9_setter 42 = .ok (.aload_n 0, 1) := by decide +kernel
theorem dX9_setter_43 : decode cX9_setter 43 = .ok (.getfield 109, 3) := by decide +kernel
theorem dX9_setter_46 : decode cX9_setter 46 = .ok (.iload 4, 2) := by decide +kernel
theorem dX9_setter_48 : decode cX9_setter 48 = .ok (.iaload, 1) := by decide +kernel
theorem dX9_setter_49 : decode cX9_setter 49 = .ok (.iload_n 2, 1) := by decide +kernel
theorem dX9_setter_50 : decode cX9_setter 50 = .ok (.if_icmp .ne 11, 3) := by decide +kernel
theorem dX9_setter_53 : decode cX9_setter 53 = .ok (.aload_n 0, 1) := by decide +kernel
theorem dX9_setter_54 : decode cX9_setter 54 = .ok (.getfield 97, 3) := by decide +kernel
theorem dX9_setter_57 : decode cX9_setter 57 = .ok (.iload 4, 2) := by decide +kernel
theorem dX9_setter_59 : decode cX9_setter 59 = .ok (.iaload, 1) := by decide +kernel
theorem dX9_setter_60 : decode cX9_setter 60 = .ok (.istore_n 3, 1) := by decide +kernel
theorem dX9_setter_61 : decode cX9_setter 61 = .ok (.iinc 4 1, 3) := by decide +kernel
theorem dX9_setter_64 : decode cX9_setter 64 = .ok (.goto (-31), 3) := by decide +kernel
theorem dX9_setter_67 : decode cX9_setter 67 = .ok (.iload_n 3, 1) := by decide +kernel
theorem dX9_setter_68 : decode cX9_setter 68 = .ok (.ireturn, 1) := by decide +kernel
theorem dX9_ahead_0 : decode cX9_ahead 0 = .ok (.aload_n 0, 1) := by decide +kernel
theorem dX9_ahead_1 : decode cX9_ahead 1 = .ok (.iload_n 1, 1) := by decide +kernel
theorem dX9_ahead_2 : decode cX9_ahead 2 = .ok (.invokevirtual 384, 3) := by decide +kernel
theorem dX9_ahead_5 : decode cX9_ahead 5 = .ok (.ifCond .eq 24, 3) := by decide +kernel
theorem dX9_ahead_8 : decode cX9_ahead 8 = .ok (.aload_n 0, 1) := by decide +kernel
theorem dX9_ahead_9 : decode cX9_ahead 9 = .ok (.iload_n 2, 1) := by decide +kernel
theorem dX9_ahead_10 : decode cX9_ahead 10 = .ok (.invokevirtual 418, 3) := by decide +kernel
theorem dX9_ahead_13 : decode cX9_ahead 13 = .ok (.ifCond .eq 16, 3) := by decide +kernel
theorem dX9_ahead_16 : decode cX9_ahead 16 = .ok (.aload_n 0, 1) := by decide +kernel
theorem dX9_ahead_17 : decode cX9_ahead 17 = .ok (.iload_n 3, 1) := by decide +kernel
theorem dX9_ahead_18 : decode cX9_ahead 18 = .ok (.invokevirtual 418, 3) := by decide +kernel
theorem dX9_ahead_21 : decode cX9_ahead 21 = .ok (.ifCond .eq 8, 3) := by decide +kernel
theorem dX9_ahead_24 : decode cX9_ahead 24 = .ok (.iload_n 2, 1) := by decide +kernel
theorem dX9_ahead_25 : decode cX9_ahead 25 = .ok (.iload_n 3, 1) := by decide +kernel
theorem dX9_ahead_26 : decode cX9_ahead 26 = .ok (.if_icmp .ne 5, 3) := by decide +kernel
theorem dX9_ahead_29 : decode cX9_ahead 29 = .ok (.iconst (-1), 1) := by decide +kernel
theorem dX9_ahead_30 : decode cX9_ahead 30 = .ok (.ireturn, 1) := by decide +kernel
theorem dX9_ahead_31 : decode cX9_ahead 31 = .ok (.aload_n 0, 1) := by decide +kernel
theorem dX9_ahead_32 : decode cX9_ahead 32 = .ok (.invokevirtual 387, 3) := by decide +kernel
theorem dX9_ahead_35 : decode cX9_ahead 35 = .ok (.aload_n 0, 1) := by decide +kernel
theorem dX9_ahead_36 : decode cX9_ahead 36 = .ok (.iload_n 1, 1) := by decide +kernel
theorem dX9_ahead_37 : decode cX9_ahead 37 = .ok (.invokevirtual 328, 3) := by decide +kernel
theorem dX9_ahead_40 : decode cX9_ahead 40 = .ok (.aload_n 0, 1) := by decide +kernel
theorem dX9_ahead_41 : decode cX9_ahead 41 = .ok (.iload_n 2, 1) := by decide +kernel
theorem dX9_ahead_42 : decode cX9_ahead 42 = .ok (.invokevirtual 421, 3) := by decide +kernel
theorem dX9_ahead_45 : decode cX9_ahead 45 = .ok (.ifCond .lt 11, 3) := by decide +kernel
theorem dX9_ahead_48 : decode cX9_ahead 48 = .ok (.aload_n 0, 1) := by decide +kernel
theorem dX9_ahead_49 : decode cX9_ahead 49 = .ok (.iload_n 3, 1) := by decide +kernel
theorem dX9_ahead_50 : decode cX9_ahead 50 = .ok (.invokevirtual 421, 3) := by decide +kernel
theorem dX9_ahead_53 : decode cX9_ahead 53 = .ok (.ifCond .ge 6, 3) := by decide +kernel
theorem dX9_ahead_56 : decode cX9_ahead 56 = .ok (.bipush (-2), 2) := by decide +kernel
theorem dX9_ahead_58 : decode cX9_ahead 58 = .ok (.ireturn, 1) := by decide +kernel
theorem dX9_ahead_59 : decode cX9_ahead 59 = .ok (.aload_n 0, 1) := by decide +kernel
theorem dX9_ahead_60 : decode cX9_ahead 60 = .ok (.iload_n 2, 1) := by decide +kernel
theorem dX9_ahead_61 : decode cX9_ahead 61 = .ok (.invokevirtual 421, 3) := by decide +kernel
theorem dX9_ahead_64 : decode cX9_ahead 64 = .ok (.aload_n 0, 1) := by decide +kernel
theorem dX9_ahead_65 : decode cX9_ahead 65 = .ok (.iload_n 3, 1) := by decide +kernel
theorem dX9_ahead_66 : decode cX9_ahead 66 = .ok (.invokevirtual 421, 3) := by decide +kernel
theorem dX9_ahead_69 : decode cX9_ahead 69 = .ok (.if_icmp .ge 7, 3) := by decide +kernel
theorem dX9_ahead_72 : decode cX9_ahead 72 = .ok (.iconst 1, 1) := by decide +kernel
theorem dX9_ahead_73 : decode cX9_ahead 73 = .ok (.goto 4, 3) := by decide +kernel
theorem dX9_ahead_76 : decode cX9_ahead 76 = .ok (.iconst 0, 1) := by decide +kernel
theorem dX9_ahead_77 : decode cX9_ahead 77 = .ok (.ireturn, 1) := by decide +kernel
theorem dX9_clash_0 : decode cX9_clash 0 = .ok (.aload_n 0, 1) := by decide +kernel
theorem dX9_clash_1 : decode cX9_clash 1 = .ok (.iload_n 1, 1) := by decide +kernel
theorem dX9_clash_2 : decode cX9_clash 2 = .ok (.invokevirtual 384, 3) := by decide +kernel
theorem dX9_clash_5 : decode cX9_clash 5 = .ok (.ifCond .ne 5, 3) := by decide +kernel
theorem dX9_clash_8 : decode cX9_clash 8 = .ok (.iconst (-1), 1) := by decide +kernel
theorem dX9_clash_9 : decode cX9_clash 9 = .ok (.ireturn, 1) := by decide +kernel
theorem dX9_clash_10 : decode cX9_clash 10 = .ok (.aload_n 0, 1) := by decide +kernel
theorem dX9_clash_11 : decode cX9_clash 11 = .ok (.invokevirtual 387, 3) := by decide +kernel
theorem dX9_clash_14 : decode cX9_clash 14 = .ok (.aload_n 0, 1) := by decide +kernel
theorem dX9_clash_15 : decode cX9_clash 15 = .ok (.iload_n 1, 1) := by decide +kernel
theorem dX9_clash_16 : decode cX9_clash 16 = .ok (.invokevirtual 400, 3) := by decide +kernel
theorem dX9_clash_19 : decode cX9_clash 19 = .ok (.iconst 0, 1) := by decide +kernel
theorem dX9_clash_20 : decode cX9_clash 20 = .ok (.istore_n 2, 1) := by decide +kernel
theorem dX9_clash_21 : decode cX9_clash 21 = .ok (.iload_n 2, 1) := by decide +kernel
theorem dX9_clash_22 : decode cX9_clash 22 = .ok (.aload_n 0, 1) := by decide +kernel
theorem dX9_clash_23 : decode cX9_clash 23 = .ok (.getfield 304, 3) := by decide +kernel
theorem dX9_clash_26 : decode cX9_clash 26 = .ok (.if_icmp .ge 25, 3) := by decide +kernel
theorem dX9_clash_29 : decode cX9_clash 29 = .ok (.aload_n 0, 1) := by decide +kernel
theorem dX9_clash_30 : decode cX9_clash 30 = .ok (.getfield 106, 3) := by decide +kernel
theorem dX9_clash_33 : decode cX9_clash 33 = .ok (.iload_n 2, 1) := by decide +kernel
theorem dX9_clash_34 : decode cX9_clash 34 = .ok (.iaload, 1) := by decide +kernel
theorem dX9_clash_35 : decode cX9_clash 35 = .ok (.ifCond .le 10, 3) := by decide +kernel
theorem dX9_clash_38 : decode cX9_clash 38 = .ok (.aload_n 0, 1) := by decide +kernel
theorem dX9_clash_39 : decode cX9_clash 39 = .ok (.getfield 97, 3) := by decide +kernel
theorem dX9_clash_42 : decode cX9_clash 42 = .ok (.iload_n 2, 1) := by decide +kernel
theorem dX9_clash_43 : decode cX9_clash 43 = .ok (.iaload, 1) := by decide +kernel
theorem dX9_clash_44 : decode cX9_clash 44 = .ok (.ireturn, 1) := by decide +kernel
theorem dX9_clash_45 : decode cX9_clash 45 = .ok (.iinc 2 1, 3) := by decide +kernel
theorem dX9_clash_48 : decode cX9_clash 48 = .ok (.goto (-27), 3) := by decide +kernel
theorem dX9_clash_51 : decode cX9_clash 51 = .ok (.bipush (-2), 2) := by decide +kernel
theorem dX9_clash_53 : decode cX9_clash 53 = .ok (.ireturn, 1) := by decide +kernel
theorem dX9_may_0 : decode cX9_may 0 = .ok (.iload_n 1, 1) := by decide +kernel
theorem dX9_may_1 : decode cX9_may 1 = .ok (.invokestatic 381, 3) := by decide +kernel
theorem dX9_may_4 : decode cX9_may 4 = .ok (.ifCond .ne 5, 3) := by decide +kernel
theorem dX9_may_7 : decode cX9_may 7 = .ok (.iconst (-1), 1) := by decide +kernel
theorem dX9_may_8 : decode cX9_may 8 = .ok (.ireturn, 1) := by decide +kernel
theorem dX9_may_9 : decode cX9_may 9 = .ok (.aload_n 0, 1) := by decide +kernel
theorem dX9_may_10 : decode cX9_may 10 = .ok (.invokevirtual 387, 3) := by decide +kernel
theorem dX9_may_13 : decode cX9_may 13 = .ok (.iconst 0, 1) := by decide +kernel
theorem dX9_may_14 : decode cX9_may 14 = .ok (.istore_n 3, 1) := by decide +kernel
theorem dX9_may_15 : decode cX9_may 15 = .ok (.iconst 0, 1) := by decide +kernel
theorem dX9_may_16 : decode cX9_may 16 = .ok (.istore 4, 2) := by decide +kernel
theorem dX9_may_18 : decode cX9_may 18 = .ok (.iload 4, 2) := by decide +kernel
theorem dX9_may_20 : decode cX9_may 20 = .ok (.aload_n 0, 1) := by decide +kernel
theorem dX9_may_21 : decode cX9_may 21 = .ok (.getfield 46, 3) := by decide +kernel
theorem dX9_may_24 : decode cX9_may 24 = .ok (.aload_n 0, 1) := by decide +kernel
theorem dX9_may_25 : decode cX9_may 25 = .ok (.getfield 209, 3) := by decide +kernel
theorem dX9_may_28 : decode cX9_may 28 = .ok (.iaload, 1) := by decide +kernel
theorem dX9_may_29 : decode cX9_may 29 = .ok (.if_icmp .ge 43, 3) := by decide +kernel
theorem dX9_may_32 : decode cX9_may 32 = .ok (.iload_n 2, 1) := by decide +kernel
theorem dX9_may_33 : decode cX9_may 33 = .ok (.ifCond .eq 16, 3) := by decide +kernel
theorem dX9_may_36 : decode cX9_may 36 = .ok (.aload_n 0, 1) := by decide +kernel
theorem dX9_may_37 : decode cX9_may 37 = .ok (.iload_n 1, 1) := by decide +kernel
theorem dX9_may_38 : decode cX9_may 38 = .ok (.iload 4, 2) := by decide +kernel
theorem dX9_may_40 : decode cX9_may 40 = .ok (.invokevirtual 371, 3) := by decide +kernel
theorem dX9_may_43 : decode cX9_may 43 = .ok (.ifCond .eq 23, 3) := by decide +kernel
theorem dX9_may_46 : decode cX9_may 46 = .ok (.goto 13, 3) := by decide +kernel
theorem dX9_may_49 : decode cX9_may 49 = .ok (.aload_n 0, 1) := by decide +kernel
theorem dX9_may_50 : decode cX9_may 50 = .ok (.iload_n 1, 1) := by decide +kernel
theorem dX9_may_51 : decode cX9_may 51 = .ok (.iload 4, 2) := by decide +kernel
theorem dX9_may_53 : decode cX9_may 53 = .ok (.invokevirtual 397, 3) := by decide +kernel
theorem dX9_may_56 : decode cX9_may 56 = .ok (.ifCond .eq 10, 3) := by decide +kernel
theorem dX9_may_59 : decode cX9_may 59 = .ok (.iload_n 3, 1) := by decide +kernel
theorem dX9_may_60 : decode cX9_may 60 = .ok (.iconst 1, 1) := by decide +kernel
theorem dX9_may_61 : decode cX9_may 61 = .ok (.iload 4, 2) := by decide +kernel
theorem dX9_may_63 : decode cX9_may 63 = .ok (.ishl, 1) := by decide +kernel
theorem dX9_may_64 : decode cX9_may 64 = .ok (.ior, 1) := by decide +kernel
theorem dX9_may_65 : decode cX9_may 65 = .ok (.istore_n 3, 1) := by decide +kernel
theorem dX9_may_66 : decode cX9_may 66 = .ok (.iinc 4 1, 3) := by decide +kernel
theorem dX9_may_69 : decode cX9_may 69 = .ok (.goto (-51), 3) := by decide +kernel
theorem dX9_may_72 : decode cX9_may 72 = .ok (.iload_n 3, 1) := by decide +kernel
theorem dX9_may_73 : decode cX9_may 73 = .ok (.ireturn, 1) := by decide +kernel
theorem dX9_bits_0 : decode cX9_bits 0 = .ok (.iconst 0, 1) := by decide +kernel
theorem dX9_bits_1 : decode cX9_bits 1 = .ok (.istore_n 1, 1) := by decide +kernel
theorem dX9_bits_2 : decode cX9_bits 2 = .ok (.iconst 0, 1) := by decide +kernel
theorem dX9_bits_3 : decode cX9_bits 3 = .ok (.istore_n 2, 1) := by decide +kernel
theorem dX9_bits_4 : decode cX9_bits 4 = .ok (.iload_n 2, 1) := by decide +kernel
theorem dX9_bits_5 : decode cX9_bits 5 = .ok (.iconst 5, 1) := by decide +kernel
theorem dX9_bits_6 : decode cX9_bits 6 = .ok (.if_icmp .ge 17, 3) := by decide +kernel
theorem dX9_bits_9 : decode cX9_bits 9 = .ok (.iload_n 1, 1) := by decide +kernel
theorem dX9_bits_10 : decode cX9_bits 10 = .ok (.iload_n 0, 1) := by decide +kernel
theorem dX9_bits_11 : decode cX9_bits 11 = .ok (.iload_n 2, 1) := by decide +kernel
theorem dX9_bits_12 : decode cX9_bits 12 = .ok (.ishr, 1) := by decide +kernel
theorem dX9_bits_13 : decode cX9_bits 13 = .ok (.iconst 1, 1) := by decide +kernel
theorem dX9_bits_14 : decode cX9_bits 14 = .ok (.iand, 1) := by decide +kernel
theorem dX9_bits_15 : decode cX9_bits 15 = .ok (.iadd, 1) := by decide +kernel
theorem dX9_bits_16 : decode cX9_bits 16 = .ok (.istore_n 1, 1) := by decide +kernel
theorem dX9_bits_17 : decode cX9_bits 17 = .ok (.iinc 2 1, 3) := by decide +kernel
theorem dX9_bits_20 : decode cX9_bits 20 = .ok (.goto (-16), 3) := by decide +kernel
theorem dX9_bits_23 : decode cX9_bits 23 = .ok (.iload_n 1, 1) := by decide +kernel
theorem dX9_bits_24 : decode cX9_bits 24 = .ok (.ireturn, 1) := by decide +kernel
theorem dX9_isBrought_0 : decode cX9_isBrought 0 = .ok (.iconst 0, 1) := by decide +kernel
theorem dX9_isBrought_1 : decode cX9_isBrought 1 = .ok (.istore_n 2, 1) := by decide +kernel
theorem dX9_isBrought_2 : decode cX9_isBrought 2 = .ok (.iload_n 2, 1) := by decide +kernel
theorem dX9_isBrought_3 : decode cX9_isBrought 3 = .ok (.aload_n 0, 1) := by decide +kernel
theorem dX9_isBrought_4 : decode cX9_isBrought 4 = .ok (.getfield 94, 3) := by decide +kernel
theorem dX9_isBrought_7 : decode cX9_isBrought 7 = .ok (.iconst 0, 1) := by decide +kernel
theorem dX9_isBrought_8 : decode cX9_isBrought 8 = .ok (.iaload, 1) := by decide +kernel
theorem dX9_isBrought_9 : decode cX9_isBrought 9 = .ok (.if_icmp .ge 86, 3) := by decide +kernel
theorem dX9_isBrought_12 : decode cX9_isBrought 12 = .ok (.aload_n 0, 1) := by decide +kernel
theorem dX9_isBrought_13 : decode cX9_isBrought 13 = .ok (.aload_n 0, 1) := by decide +kernel
theorem dX9_isBrought_14 : decode cX9_isBrought 14 = .ok (.getfield 94, 3) := by decide +kernel
theorem dX9_isBrought_17 : decode cX9_isBrought 17 = .ok (.iconst 2, 1) := by decide +kernel
theorem dX9_isBrought_18 : decode cX9_isBrought 18 = .ok (.iaload, 1) := by decide +kernel
theorem dX9_isBrought_19 : decode cX9_isBrought 19 = .ok (.iload_n 2, 1) := by decide +kernel
theorem dX9_isBrought_20 : decode cX9_isBrought 20 = .ok (.invokevirtual 294, 3) := by decide +kernel
theorem dX9_isBrought_23 : decode cX9_isBrought 23 = .ok (.istore_n 3, 1) := by decide +kernel
theorem dX9_isBrought_24 : decode cX9_isBrought 24 = .ok (.iload_n 3, 1) := by decide +kernel
theorem dX9_isBrought_25 : decode cX9_isBrought 25 = .ok (.istore 4, 2) := by decide +kernel
theorem dX9_isBrought_27 : decode cX9_isBrought 27 = .ok (.iconst 0, 1) := by decide +kernel
theorem dX9_isBrought_28 : decode cX9_isBrought 28 = .ok (.istore 5, 2) := by decide +kernel
theorem dX9_isBrought_30 : decode cX9_isBrought 30 = .ok (.iload 5, 2) := by decide +kernel
theorem dX9_isBrought_32 : decode cX9_isBrought 32 = .ok (.aload_n 0, 1) := by decide +kernel
theorem dX9_isBrought_33 : decode cX9_isBrought 33 = .ok (.getfield 46, 3) := by decide +kernel
theorem dX9_isBrought_36 : decode cX9_isBrought 36 = .ok (.aload_n 0, 1) := by decide +kernel
theorem dX9_isBrought_37 : decode cX9_isBrought 37 = .ok (.getfield 209, 3) := by decide +kernel
theorem dX9_isBrought_40 : decode cX9_isBrought 40 = .ok (.iaload, 1) := by decide +kernel
theorem dX9_isBrought_41 : decode cX9_isBrought 41 = .ok (.if_icmp .ge 37, 3) := by decide +kernel
theorem dX9_isBrought_44 : decode cX9_isBrought 44 = .ok (.aload_n 0, 1) := by decide +kernel
theorem dX9_isBrought_45 : decode cX9_isBrought 45 = .ok (.iload 5, 2) := by decide +kernel
theorem dX9_isBrought_47 : decode cX9_isBrought 47 = .ok (.iload_n 2, 1) := by decide +kernel
theorem dX9_isBrought_48 : decode cX9_isBrought 48 = .ok (.invokevirtual 294, 3) := by decide +kernel
theorem dX9_isBrought_51 : decode cX9_isBrought 51 = .ok (.ifCond .ne 6, 3) := by decide +kernel
theorem dX9_isBrought_54 : decode cX9_isBrought 54 = .ok (.goto 18, 3) := by decide +kernel
theorem dX9_isBrought_57 : decode cX9_isBrought 57 = .ok (.iconst 1, 1) := by decide +kernel
theorem dX9_isBrought_58 : decode cX9_isBrought 58 = .ok (.istore 4, 2) := by decide +kernel
theorem dX9_isBrought_60 : decode cX9_isBrought 60 = .ok (.iload_n 1, 1) := by decide +kernel
theorem dX9_isBrought_61 : decode cX9_isBrought 61 = .ok (.iload 5, 2) := by decide +kernel
theorem dX9_isBrought_63 : decode cX9_isBrought 63 = .ok (.ishr, 1) := by decide +kernel
theorem dX9_isBrought_64 : decode cX9_isBrought 64 = .ok (.iconst 1, 1) := by decide +kernel
theorem dX9_isBrought_65 : decode cX9_isBrought 65 = .ok (.iand, 1) := by decide +kernel
theorem dX9_isBrought_66 : decode cX9_isBrought 66 = .ok (.iconst 1, 1) := by decide +kernel
theorem dX9_isBrought_67 : decode cX9_isBrought 67 = .ok (.if_icmp .ne 5, 3) := by decide +kernel
theorem dX9_isBrought_70 : decode cX9_isBrought 70 = .ok (.iconst 1, 1) := by decide +kernel
theorem dX9_isBrought_71 : decode cX9_isBrought 71 = .ok (.istore_n 3, 1) := by decide +kernel
theorem dX9_isBrought_72 : decode cX9_isBrought 72 = .ok (.iinc 5 1, 3) := by decide +kernel
theorem dX9_isBrought_75 : decode cX9_isBrought 75 = .ok (.goto (-45), 3) := by decide +kernel
theorem dX9_isBrought_78 : decode cX9_isBrought 78 = .ok (.iload 4, 2) := by decide +kernel
theorem dX9_isBrought_80 : decode cX9_isBrought 80 = .ok (.ifCond .eq 9, 3) := by decide +kernel
theorem dX9_isBrought_83 : decode cX9_isBrought 83 = .ok (.iload_n 3, 1) := by decide +kernel
theorem dX9_isBrought_84 : decode cX9_isBrought 84 = .ok (.ifCond .ne 5, 3) := by decide +kernel
theorem dX9_isBrought_87 : decode cX9_isBrought 87 = .ok (.iconst 0, 1) := by decide +kernel
theorem dX9_isBrought_88 : decode cX9_isBrought 88 = .ok (.ireturn, 1) := by decide +kernel
theorem dX9_isBrought_89 : decode cX9_isBrought 89 = .ok (.iinc 2 1, 3) := by decide +kernel
theorem dX9_isBrought_92 : decode cX9_isBrought 92 = .ok (.goto (-90), 3) := by decide +kernel
theorem dX9_isBrought_95 : decode cX9_isBrought 95 = .ok (.iconst 1, 1) := by decide +kernel
theorem dX9_isBrought_96 : decode cX9_isBrought 96 = .ok (.ireturn, 1) := by decide +kernel
theorem dX9_bringers_0 : decode cX9_bringers 0 = .ok (.iconst (-1), 1) := by decide +kernel
theorem dX9_bringers_1 : decode cX9_bringers 1 = .ok (.istore_n 1, 1) := by decide +kernel
theorem dX9_bringers_2 : decode cX9_bringers 2 = .ok (.iconst 0, 1) := by decide +kernel
theorem dX9_bringers_3 : decode cX9_bringers 3 = .ok (.istore_n 2, 1) := by decide +kernel
theorem dX9_bringers_4 : decode cX9_bringers 4 = .ok (.iload_n 2, 1) := by decide +kernel
theorem dX9_bringers_5 : decode cX9_bringers 5 = .ok (.iconst 1, 1) := by decide +kernel
theorem dX9_bringers_6 : decode cX9_bringers 6 = .ok (.aload_n 0, 1) := by decide +kernel
theorem dX9_bringers_7 : decode cX9_bringers 7 = .ok (.getfield 46, 3) := by decide +kernel
theorem dX9_bringers_10 : decode cX9_bringers 10 = .ok (.aload_n 0, 1) := by decide +kernel
theorem dX9_bringers_11 : decode cX9_bringers 11 = .ok (.getfield 209, 3) := by decide +kernel
theorem dX9_bringers_14 : decode cX9_bringers 14 = .ok (.iaload, 1) := by decide +kernel
theorem dX9_bringers_15 : decode cX9_bringers 15 = .ok (.ishl, 1) := by decide +kernel
theorem dX9_bringers_16 : decode cX9_bringers 16 = .ok (.if_icmp .ge 51, 3) := by decide +kernel
theorem dX9_bringers_19 : decode cX9_bringers 19 = .ok (.iload_n 2, 1) := by decide +kernel
theorem dX9_bringers_20 : decode cX9_bringers 20 = .ok (.aload_n 0, 1) := by decide +kernel
theorem dX9_bringers_21 : decode cX9_bringers 21 = .ok (.getfield 94, 3) := by decide +kernel
theorem dX9_bringers_24 : decode cX9_bringers 24 = .ok (.iconst 2, 1) := by decide +kernel
theorem dX9_bringers_25 : decode cX9_bringers 25 = .ok (.iaload, 1) := by decide +kernel
theorem dX9_bringers_26 : decode cX9_bringers 26 = .ok (.ishr, 1) := by decide +kernel
theorem dX9_bringers_27 : decode cX9_bringers 27 = .ok (.iconst 1, 1) := by decide +kernel
theorem dX9_bringers_28 : decode cX9_bringers 28 = .ok (.iand, 1) := by decide +kernel
theorem dX9_bringers_29 : decode cX9_bringers 29 = .ok (.iconst 1, 1) := by decide +kernel
theorem dX9_bringers_30 : decode cX9_bringers 30 = .ok (.if_icmp .eq 31, 3) := by decide +kernel
theorem dX9_bringers_33 : decode cX9_bringers 33 = .ok (.aload_n 0, 1) := by decide +kernel
theorem dX9_bringers_34 : decode cX9_bringers 34 = .ok (.iload_n 2, 1) := by decide +kernel
theorem dX9_bringers_35 : decode cX9_bringers 35 = .ok (.invokevirtual 442, 3) := by decide +kernel
theorem dX9_bringers_38 : decode cX9_bringers 38 = .ok (.ifCond .ne 6, 3) := by decide +kernel
theorem dX9_bringers_41 : decode cX9_bringers 41 = .ok (.goto 20, 3) := by decide +kernel
theorem dX9_bringers_44 : decode cX9_bringers 44 = .ok (.iload_n 1, 1) := by decide +kernel
theorem dX9_bringers_45 : decode cX9_bringers 45 = .ok (.ifCond .lt 14, 3) := by decide +kernel
theorem dX9_bringers_48 : decode cX9_bringers 48 = .ok (.iload_n 2, 1) := by decide +kernel
theorem dX9_bringers_49 : decode cX9_bringers 49 = .ok (.invokestatic 445, 3) := by decide +kernel
theorem dX9_bringers_52 : decode cX9_bringers 52 = .ok (.iload_n 1, 1) := by decide +kernel
theorem dX9_bringers_53 : decode cX9_bringers 53 = .ok (.invokestatic 445, 3) := by decide +kernel
theorem dX9_bringers_56 : decode cX9_bringers 56 = .ok (.if_icmp .ge 5, 3) := by decide +kernel
theorem dX9_bringers_59 : decode cX9_bringers 59 = .ok (.iload_n 2, 1) := by decide +kernel
theorem dX9_bringers_60 : decode cX9_bringers 60 = .ok (.istore_n 1, 1) := by decide +kernel
theorem dX9_bringers_61 : decode cX9_bringers 61 = .ok (.iinc 2 1, 3) := by decide +kernel
theorem dX9_bringers_64 : decode cX9_bringers 64 = .ok (.goto (-60), 3) := by decide +kernel
theorem dX9_bringers_67 : decode cX9_bringers 67 = .ok (.iload_n 1, 1) := by decide +kernel
theorem dX9_bringers_68 : decode cX9_bringers 68 = .ok (.ireturn, 1) := by decide +kernel
theorem dX9_plan_0 : decode cX9_plan 0 = .ok (.iload_n 1, 1) := by decide +kernel
theorem dX9_plan_1 : decode cX9_plan 1 = .ok (.iconst 0, 1) := by decide +kernel
theorem dX9_plan_2 : decode cX9_plan 2 = .ok (.iconst 2, 1) := by decide +kernel
theorem dX9_plan_3 : decode cX9_plan 3 = .ok (.invokestatic 283, 3) := by decide +kernel
theorem dX9_plan_6 : decode cX9_plan 6 = .ok (.ifCond .ne 5, 3) := by decide +kernel
theorem dX9_plan_9 : decode cX9_plan 9 = .ok (.iconst (-1), 1) := by decide +kernel
theorem dX9_plan_10 : decode cX9_plan 10 = .ok (.ireturn, 1) := by decide +kernel
theorem dX9_plan_11 : decode cX9_plan 11 = .ok (.aload_n 0, 1) := by decide +kernel
theorem dX9_plan_12 : decode cX9_plan 12 = .ok (.invokevirtual 387, 3) := by decide +kernel
theorem dX9_plan_15 : decode cX9_plan 15 = .ok (.aload_n 0, 1) := by decide +kernel
theorem dX9_plan_16 : decode cX9_plan 16 = .ok (.invokevirtual 448, 3) := by decide +kernel
theorem dX9_plan_19 : decode cX9_plan 19 = .ok (.istore_n 2, 1) := by decide +kernel
theorem dX9_plan_20 : decode cX9_plan 20 = .ok (.aload_n 0, 1) := by decide +kernel
theorem dX9_plan_21 : decode cX9_plan 21 = .ok (.getfield 94, 3) := by decide +kernel
theorem dX9_plan_24 : decode cX9_plan 24 = .ok (.iconst 2, 1) := by decide +kernel
theorem dX9_plan_25 : decode cX9_plan 25 = .ok (.iaload, 1) := by decide +kernel
theorem dX9_plan_26 : decode cX9_plan 26 = .ok (.istore_n 3, 1) := by decide +kernel
theorem dX9_plan_27 : decode cX9_plan 27 = .ok (.iconst 0, 1) := by decide +kernel
theorem dX9_plan_28 : decode cX9_plan 28 = .ok (.istore 4, 2) := by decide +kernel
theorem dX9_plan_30 : decode cX9_plan 30 = .ok (.iload 4, 2) := by decide +kernel
theorem dX9_plan_32 : decode cX9_plan 32 = .ok (.aload_n 0, 1) := by decide +kernel
theorem dX9_plan_33 : decode cX9_plan 33 = .ok (.getfield 46, 3) := by decide +kernel
theorem dX9_plan_36 : decode cX9_plan 36 = .ok (.aload_n 0, 1) := by decide +kernel
theorem dX9_plan_37 : decode cX9_plan 37 = .ok (.getfield 209, 3) := by decide +kernel
theorem dX9_plan_40 : decode cX9_plan 40 = .ok (.iaload, 1) := by decide +kernel
theorem dX9_plan_41 : decode cX9_plan 41 = .ok (.if_icmp .ge 27, 3) := by decide +kernel
theorem dX9_plan_44 : decode cX9_plan 44 = .ok (.iload_n 2, 1) := by decide +kernel
theorem dX9_plan_45 : decode cX9_plan 45 = .ok (.iload 4, 2) := by decide +kernel
theorem dX9_plan_47 : decode cX9_plan 47 = .ok (.ishr, 1) := by decide +kernel
theorem dX9_plan_48 : decode cX9_plan 48 = .ok (.iconst 1, 1) := by decide +kernel
theorem dX9_plan_49 : decode cX9_plan 49 = .ok (.iand, 1) := by decide +kernel
theorem dX9_plan_50 : decode cX9_plan 50 = .ok (.iconst 1, 1) := by decide +kernel
theorem dX9_plan_51 : decode cX9_plan 51 = .ok (.if_icmp .ne 11, 3) := by decide +kernel
theorem dX9_plan_54 : decode cX9_plan 54 = .ok (.aload_n 0, 1) := by decide +kernel
theorem dX9_plan_55 : decode cX9_plan 55 = .ok (.iload 4, 2) := by decide +kernel
theorem dX9_plan_57 : decode cX9_plan 57 = .ok (.iload_n 3, 1) := by decide +kernel
theorem dX9_plan_58 : decode cX9_plan 58 = .ok (.invokevirtual 359, 3) := by decide +kernel
theorem dX9_plan_61 : decode cX9_plan 61 = .ok (.pop, 1) := by decide +kernel
theorem dX9_plan_62 : decode cX9_plan 62 = .ok (.iinc 4 1, 3) := by decide +kernel
theorem dX9_plan_65 : decode cX9_plan 65 = .ok (.goto (-35), 3) := by decide +kernel
theorem dX9_plan_68 : decode cX9_plan 68 = .ok (.iconst 0, 1) := by decide +kernel
theorem dX9_plan_69 : decode cX9_plan 69 = .ok (.istore 4, 2) := by decide +kernel
theorem dX9_plan_71 : decode cX9_plan 71 = .ok (.iconst 0, 1) := by decide +kernel
theorem dX9_plan_72 : decode cX9_plan 72 = .ok (.istore 5, 2) := by decide +kernel
theorem dX9_plan_74 : decode cX9_plan 74 = .ok (.iload 5, 2) := by decide +kernel
theorem dX9_plan_76 : decode cX9_plan 76 = .ok (.aload_n 0, 1) := by decide +kernel
theorem dX9_plan_77 : decode cX9_plan 77 = .ok (.getfield 46, 3) := by decide +kernel
theorem dX9_plan_80 : decode cX9_plan 80 = .ok (.aload_n 0, 1) := by decide +kernel
theorem dX9_plan_81 : decode cX9_plan 81 = .ok (.getfield 209, 3) := by decide +kernel
theorem dX9_plan_84 : decode cX9_plan 84 = .ok (.iaload, 1) := by decide +kernel
theorem dX9_plan_85 : decode cX9_plan 85 = .ok (.if_icmp .ge 28, 3) := by decide +kernel
theorem dX9_plan_88 : decode cX9_plan 88 = .ok (.aload_n 0, 1) := by decide +kernel
theorem dX9_plan_89 : decode cX9_plan 89 = .ok (.iload 5, 2) := by decide +kernel
theorem dX9_plan_91 : decode cX9_plan 91 = .ok (.iload_n 3, 1) := by decide +kernel
theorem dX9_plan_92 : decode cX9_plan 92 = .ok (.invokevirtual 430, 3) := by decide +kernel
theorem dX9_plan_95 : decode cX9_plan 95 = .ok (.ifCond .ne 12, 3) := by decide +kernel
theorem dX9_plan_98 : decode cX9_plan 98 = .ok (.iload 4, 2) := by decide +kernel
theorem dX9_plan_100 : decode cX9_plan 100 = .ok (.iconst 1, 1) := by decide +kernel
theorem dX9_plan_101 : decode cX9_plan 101 = .ok (.iload 5, 2) := by decide +kernel
theorem dX9_plan_103 : decode cX9_plan 103 = .ok (.ishl, 1) := by decide +kernel
theorem dX9_plan_104 : decode cX9_plan 104 = .ok (.ior, 1) := by decide +kernel
theorem dX9_plan_105 : decode cX9_plan 105 = .ok (.istore 4, 2) := by decide +kernel
theorem dX9_plan_107 : decode cX9_plan 107 = .ok (.iinc 5 1, 3) := by decide +kernel
theorem dX9_plan_110 : decode cX9_plan 110 = .ok (.goto (-36), 3) := by decide +kernel
theorem dX9_plan_113 : decode cX9_plan 113 = .ok (.iload_n 1, 1) := by decide +kernel
theorem dX9_plan_114 : decode cX9_plan 114 = .ok (.ifCond .ne 16, 3) := by decide +kernel
theorem dX9_plan_117 : decode cX9_plan 117 = .ok (.iload_n 2, 1) := by decide +kernel
theorem dX9_plan_118 : decode cX9_plan 118 = .ok (.invokestatic 445, 3) := by decide +kernel
theorem dX9_plan_121 : decode cX9_plan 121 = .ok (.iload 4, 2) := by decide +kernel
theorem dX9_plan_123 : decode cX9_plan 123 = .ok (.invokestatic 445, 3) := by decide +kernel
theorem dX9_plan_126 : decode cX9_plan 126 = .ok (.iadd, 1) := by decide +kernel
theorem dX9_plan_127 : decode cX9_plan 127 = .ok (.goto 14, 3) := by decide +kernel
theorem dX9_plan_130 : decode cX9_plan 130 = .ok (.iload_n 1, 1) := by decide +kernel
theorem dX9_plan_131 : decode cX9_plan 131 = .ok (.iconst 1, 1) := by decide +kernel
theorem dX9_plan_132 : decode cX9_plan 132 = .ok (.if_icmp .ne 7, 3) := by decide +kernel
theorem dX9_plan_135 : decode cX9_plan 135 = .ok (.iload_n 2, 1) := by decide +kernel
theorem dX9_plan_136 : decode cX9_plan 136 = .ok (.goto 5, 3) := by decide +kernel
theorem dX9_plan_139 : decode cX9_plan 139 = .ok (.iload 4, 2) := by decide +kernel
theorem dX9_plan_141 : decode cX9_plan 141 = .ok (.ireturn, 1) := by decide +kernel
theorem dX9_isSettled_0 : decode cX9_isSettled 0 = .ok (.aload_n 0, 1) := by decide +kernel
theorem dX9_isSettled_1 : decode cX9_isSettled 1 = .ok (.invokevirtual 451, 3) := by decide +kernel
theorem dX9_isSettled_4 : decode cX9_isSettled 4 = .ok (.ifCond .eq 22, 3) := by decide +kernel
theorem dX9_isSettled_7 : decode cX9_isSettled 7 = .ok (.aload_n 0, 1) := by decide +kernel
theorem dX9_isSettled_8 : decode cX9_isSettled 8 = .ok (.getfield 94, 3) := by decide +kernel
theorem dX9_isSettled_11 : decode cX9_isSettled 11 = .ok (.iconst 1, 1) := by decide +kernel
theorem dX9_isSettled_12 : decode cX9_isSettled 12 = .ok (.iaload, 1) := by decide +kernel
theorem dX9_isSettled_13 : decode cX9_isSettled 13 = .ok (.aload_n 0, 1) := by decide +kernel
theorem dX9_isSettled_14 : decode cX9_isSettled 14 = .ok (.getfield 94, 3) := by decide +kernel
theorem dX9_isSettled_17 : decode cX9_isSettled 17 = .ok (.iconst 0, 1) := by decide +kernel
theorem dX9_isSettled_18 : decode cX9_isSettled 18 = .ok (.iaload, 1) := by decide +kernel
theorem dX9_isSettled_19 : decode cX9_isSettled 19 = .ok (.if_icmp .ne 7, 3) := by decide +kernel
theorem dX9_isSettled_22 : decode cX9_isSettled 22 = .ok (.iconst 1, 1) := by decide +kernel
theorem dX9_isSettled_23 : decode cX9_isSettled 23 = .ok (.goto 4, 3) := by decide +kernel
theorem dX9_isSettled_26 : decode cX9_isSettled 26 = .ok (.iconst 0, 1) := by decide +kernel
theorem dX9_isSettled_27 : decode cX9_isSettled 27 = .ok (.ireturn, 1) := by decide +kernel
theorem dX9_soon_0 : decode cX9_soon 0 = .ok (.aload_n 0, 1) := by decide +kernel
theorem dX9_soon_1 : decode cX9_soon 1 = .ok (.invokevirtual 387, 3) := by decide +kernel
theorem dX9_soon_4 : decode cX9_soon 4 = .ok (.iconst 0, 1) := by decide +kernel
theorem dX9_soon_5 : decode cX9_soon 5 = .ok (.istore_n 1, 1) := by decide +kernel
theorem dX9_soon_6 : decode cX9_soon 6 = .ok (.iload_n 1, 1) := by decide +kernel
theorem dX9_soon_7 : decode cX9_soon 7 = .ok (.bipush 60, 2) := by decide +kernel
theorem dX9_soon_9 : decode cX9_soon 9 = .ok (.if_icmp .gt 22, 3) := by decide +kernel
theorem dX9_soon_12 : decode cX9_soon 12 = .ok (.aload_n 0, 1) := by decide +kernel
theorem dX9_soon_13 : decode cX9_soon 13 = .ok (.invokevirtual 455, 3) := by decide +kernel
theorem dX9_soon_16 : decode cX9_soon 16 = .ok (.ifCond .eq 5, 3) := by decide +kernel
theorem dX9_soon_19 : decode cX9_soon 19 = .ok (.iload_n 1, 1) := by decide +kernel
theorem dX9_soon_20 : decode cX9_soon 20 = .ok (.ireturn, 1) := by decide +kernel
theorem dX9_soon_21 : decode cX9_soon 21 = .ok (.aload_n 0, 1) := by decide +kernel
theorem dX9_soon_22 : decode cX9_soon 22 = .ok (.invokevirtual 415, 3) := by decide +kernel
theorem dX9_soon_25 : decode cX9_soon 25 = .ok (.iinc 1 1, 3) := by decide +kernel
theorem dX9_soon_28 : decode cX9_soon 28 = .ok (.goto (-22), 3) := by decide +kernel
theorem dX9_soon_31 : decode cX9_soon 31 = .ok (.bipush (-2), 2) := by decide +kernel
theorem dX9_soon_33 : decode cX9_soon 33 = .ok (.ireturn, 1) := by decide +kernel
theorem dX9_year_0 : decode cX9_year 0 = .ok (.iload_n 1, 1) := by decide +kernel
theorem dX9_year_1 : decode cX9_year 1 = .ok (.invokestatic 412, 3) := by decide +kernel
theorem dX9_year_4 : decode cX9_year 4 = .ok (.ifCond .eq 13, 3) := by decide +kernel
theorem dX9_year_7 : decode cX9_year 7 = .ok (.iload_n 2, 1) := by decide +kernel
theorem dX9_year_8 : decode cX9_year 8 = .ok (.iconst 1, 1) := by decide +kernel
theorem dX9_year_9 : decode cX9_year 9 = .ok (.bipush 20, 2) := by decide +kernel
theorem dX9_year_11 : decode cX9_year 11 = .ok (.invokestatic 283, 3) := by decide +kernel
theorem dX9_year_14 : decode cX9_year 14 = .ok (.ifCond .ne 5, 3) := by decide +kernel
theorem dX9_year_17 : decode cX9_year 17 = .ok (.iconst (-1), 1) := by decide +kernel
theorem dX9_year_18 : decode cX9_year 18 = .ok (.ireturn, 1) := by decide +kernel
theorem dX9_year_19 : decode cX9_year 19 = .ok (.iconst 0, 1) := by decide +kernel
theorem dX9_year_20 : decode cX9_year 20 = .ok (.istore_n 3, 1) := by decide +kernel
theorem dX9_year_21 : decode cX9_year 21 = .ok (.iconst 0, 1) := by decide +kernel
theorem dX9_year_22 : decode cX9_year 22 = .ok (.istore 4, 2) := by decide +kernel
theorem dX9_year_24 : decode cX9_year 24 = .ok (.iload 4, 2) := by decide +kernel
theorem dX9_year_26 : decode cX9_year 26 = .ok (.iload_n 2, 1) := by decide +kernel
theorem dX9_year_27 : decode cX9_year 27 = .ok (.if_icmp .ge 53, 3) := by decide +kernel
theorem dX9_year_30 : decode cX9_year 30 = .ok (.aload_n 0, 1) := by decide +kernel
theorem dX9_year_31 : decode cX9_year 31 = .ok (.invokevirtual 387, 3) := by decide +kernel
theorem dX9_year_34 : decode cX9_year 34 = .ok (.aload_n 0, 1) := by decide +kernel
theorem dX9_year_35 : decode cX9_year 35 = .ok (.dup, 1) := by decide +kernel
theorem dX9_year_36 : decode cX9_year 36 = .ok (.getfield 287, 3) := by decide +kernel
theorem dX9_year_39 : decode cX9_year 39 = .ok (.iload 4, 2) := by decide +kernel
theorem dX9_year_41 : decode cX9_year 41 = .ok (.iadd, 1) := by decide +kernel
theorem dX9_year_42 : decode cX9_year 42 = .ok (.putfield 287, 3) := by decide +kernel
theorem dX9_year_45 : decode cX9_year 45 = .ok (.iconst 0, 1) := by decide +kernel
theorem dX9_year_46 : decode cX9_year 46 = .ok (.istore 5, 2) := by decide +kernel
theorem dX9_year_48 : decode cX9_year 48 = .ok (.iload 5, 2) := by decide +kernel
theorem dX9_year_50 : decode cX9_year 50 = .ok (.iload_n 1, 1) := by decide +kernel
theorem dX9_year_51 : decode cX9_year 51 = .ok (.if_icmp .ge 13, 3) := by decide +kernel
theorem dX9_year_54 : decode cX9_year 54 = .ok (.aload_n 0, 1) := by decide +kernel
theorem dX9_year_55 : decode cX9_year 55 = .ok (.invokevirtual 415, 3) := by decide +kernel
theorem dX9_year_58 : decode cX9_year 58 = .ok (.iinc 5 1, 3) := by decide +kernel
theorem dX9_year_61 : decode cX9_year 61 = .ok (.goto (-13), 3) := by decide +kernel
theorem dX9_year_64 : decode cX9_year 64 = .ok (.aload_n 0, 1) := by decide +kernel
theorem dX9_year_65 : decode cX9_year 65 = .ok (.invokevirtual 455, 3) := by decide +kernel
theorem dX9_year_68 : decode cX9_year 68 = .ok (.ifCond .eq 6, 3) := by decide +kernel
theorem dX9_year_71 : decode cX9_year 71 = .ok (.iinc 3 1, 3) := by decide +kernel
theorem dX9_year_74 : decode cX9_year 74 = .ok (.iinc 4 1, 3) := by decide +kernel
theorem dX9_year_77 : decode cX9_year 77 = .ok (.goto (-53), 3) := by decide +kernel
theorem dX9_year_80 : decode cX9_year 80 = .ok (.iload_n 3, 1) := by decide +kernel
theorem dX9_year_81 : decode cX9_year 81 = .ok (.ireturn, 1) := by decide +kernel
theorem dX9_hold_0 : decode cX9_hold 0 = .ok (.iload_n 1, 1) := by decide +kernel
theorem dX9_hold_1 : decode cX9_hold 1 = .ok (.iconst 0, 1) := by decide +kernel
theorem dX9_hold_2 : decode cX9_hold 2 = .ok (.iconst 2, 1) := by decide +kernel
theorem dX9_hold_3 : decode cX9_hold 3 = .ok (.invokestatic 283, 3) := by decide +kernel
theorem dX9_hold_6 : decode cX9_hold 6 = .ok (.ifCond .ne 5, 3) := by decide +kernel
theorem dX9_hold_9 : decode cX9_hold 9 = .ok (.iconst 0, 1) := by decide +kernel
theorem dX9_hold_10 : decode cX9_hold 10 = .ok (.ireturn, 1) := by decide +kernel
theorem dX9_hold_11 : decode cX9_hold 11 = .ok (.aload_n 0, 1) := by decide +kernel
theorem dX9_hold_12 : decode cX9_hold 12 = .ok (.getfield 121, 3) := by decide +kernel
theorem dX9_hold_15 : decode cX9_hold 15 = .ok (.iload_n 1, 1) := by decide +kernel
theorem dX9_hold_16 : decode cX9_hold 16 = .ok (.iconst 1, 1) := by decide +kernel
theorem dX9_hold_17 : decode cX9_hold 17 = .ok (.bastore, 1) := by decide +kernel
theorem dX9_hold_18 : decode cX9_hold 18 = .ok (.iconst 0, 1) := by decide +kernel
theorem dX9_hold_19 : decode cX9_hold 19 = .ok (.istore_n 2, 1) := by decide +kernel
theorem dX9_hold_20 : decode cX9_hold 20 = .ok (.iload_n 2, 1) := by decide +kernel
theorem dX9_hold_21 : decode cX9_hold 21 = .ok (.sipush 770, 3) := by decide +kernel
theorem dX9_hold_24 : decode cX9_hold 24 = .ok (.if_icmp .ge 27, 3) := by decide +kernel
theorem dX9_hold_27 : decode cX9_hold 27 = .ok (.aload_n 0, 1) := by decide +kernel
theorem dX9_hold_28 : decode cX9_hold 28 = .ok (.getfield 125, 3) := by decide +kernel
theorem dX9_hold_31 : decode cX9_hold 31 = .ok (.sipush 770, 3) := by decide +kernel
theorem dX9_hold_34 : decode cX9_hold 34 = .ok (.iload_n 1, 1) := by decide +kernel
theorem dX9_hold_35 : decode cX9_hold 35 = .ok (.imul, 1) := by decide +kernel
theorem dX9_hold_36 : decode cX9_hold 36 = .ok (.iload_n 2, 1) := by decide +kernel
theorem dX9_hold_37 : decode cX9_hold 37 = .ok (.iadd, 1) := by decide +kernel
theorem dX9_hold_38 : decode cX9_hold 38 = .ok (.aload_n 0, 1) := by decide +kernel
theorem dX9_hold_39 : decode cX9_hold 39 = .ok (.getfield 91, 3) := by decide +kernel
theorem dX9_hold_42 : decode cX9_hold 42 = .ok (.iload_n 2, 1) := by decide +kernel
theorem dX9_hold_43 : decode cX9_hold 43 = .ok (.iaload, 1) := by decide +kernel
theorem dX9_hold_44 : decode cX9_hold 44 = .ok (.iastore, 1) := by decide +kernel
theorem dX9_hold_45 : decode cX9_hold 45 = .ok (.iinc 2 1, 3) := by decide +kernel
theorem dX9_hold_48 : decode cX9_hold 48 = .ok (.goto (-28), 3) := by decide +kernel
theorem dX9_hold_51 : decode cX9_hold 51 = .ok (.iconst 1, 1) := by decide +kernel
theorem dX9_hold_52 : decode cX9_hold 52 = .ok (.ireturn, 1) := by decide +kernel
theorem dX9_restore_0 : decode cX9_restore 0 = .ok (.iload_n 1, 1) := by decide +kernel
theorem dX9_restore_1 : decode cX9_restore 1 = .ok (.iconst 0, 1) := by decide +kernel
theorem dX9_restore_2 : decode cX9_restore 2 = .ok (.iconst 2, 1) := by decide +kernel
theorem dX9_restore_3 : decode cX9_restore 3 = .ok (.invokestatic 283, 3) := by decide +kernel
theorem dX9_restore_6 : decode cX9_restore 6 = .ok (.ifCond .eq 12, 3) := by decide +kernel
theorem dX9_restore_9 : decode cX9_restore 9 = .ok (.aload_n 0, 1) := by decide +kernel
theorem dX9_restore_10 : decode cX9_restore 10 = .ok (.getfield 121, 3) := by decide +kernel
theorem dX9_restore_13 : decode cX9_restore 13 = .ok (.iload_n 1, 1) := by decide +kernel
theorem dX9_restore_14 : decode cX9_restore 14 = .ok (.baload, 1) := by decide +kernel
theorem dX9_restore_15 : decode cX9_restore 15 = .ok (.ifCond .ne 5, 3) := by decide +kernel
theorem dX9_restore_18 : decode cX9_restore 18 = .ok (.iconst 0, 1) := by decide +kernel
theorem dX9_restore_19 : decode cX9_restore 19 = .ok (.ireturn, 1) := by decide +kernel
theorem dX9_restore_20 : decode cX9_restore 20 = .ok (.iconst 0, 1) := by decide +kernel
theorem dX9_restore_21 : decode cX9_restore 21 = .ok (.istore_n 2, 1) := by decide +kernel
theorem dX9_restore_22 : decode cX9_restore 22 = .ok (.iload_n 2, 1) := by decide +kernel
theorem dX9_restore_23 : decode cX9_restore 23 = .ok (.sipush 770, 3) := by decide +kernel
theorem dX9_restore_26 : decode cX9_restore 26 = .ok (.if_icmp .ge 27, 3) := by decide +kernel
theorem dX9_restore_29 : decode cX9_restore 29 = .ok (.aload_n 0, 1) := by decide +kernel
theorem dX9_restore_30 : decode cX9_restore 30 = .ok (.getfield 91, 3) := by decide +kernel
theorem dX9_restore_33 : decode cX9_restore 33 = .ok (.iload_n 2, 1) := by decide +kernel
theorem dX9_restore_34 : decode cX9_restore 34 = .ok (.aload_n 0, 1) := by decide +kernel
theorem dX9_restore_35 : decode cX9_restore 35 = .ok (.getfield 125, 3) := by decide +kernel
theorem dX9_restore_38 : decode cX9_restore 38 = .ok (.sipush 770, 3) := by decide +kernel
theorem dX9_restore_41 : decode cX9_restore 41 = .ok (.iload_n 1, 1) := by decide +kernel
theorem dX9_restore_42 : decode cX9_restore 42 = .ok (.imul, 1) := by decide +kernel
theorem dX9_restore_43 : decode cX9_restore 43 = .ok (.iload_n 2, 1) := by decide +kernel
theorem dX9_restore_44 : decode cX9_restore 44 = .ok (.iadd, 1) := by decide +kernel
theorem dX9_restore_45 : decode cX9_restore 45 = .ok (.iaload, 1) := by decide +kernel
theorem dX9_restore_46 : decode cX9_restore 46 = .ok (.iastore, 1) := by decide +kernel
theorem dX9_restore_47 : decode cX9_restore 47 = .ok (.iinc 2 1, 3) := by decide +kernel
theorem dX9_restore_50 : decode cX9_restore 50 = .ok (.goto (-28), 3) := by decide +kernel
theorem dX9_restore_53 : decode cX9_restore 53 = .ok (.aload_n 0, 1) := by decide +kernel
theorem dX9_restore_54 : decode cX9_restore 54 = .ok (.iconst 0, 1) := by decide +kernel
theorem dX9_restore_55 : decode cX9_restore 55 = .ok (.putfield 228, 3) := by decide +kernel
theorem dX9_restore_58 : decode cX9_restore 58 = .ok (.iconst 1, 1) := by decide +kernel
theorem dX9_restore_59 : decode cX9_restore 59 = .ok (.ireturn, 1) := by decide +kernel
theorem dX9_sumCopies_0 : decode cX9_sumCopies 0 = .ok (.iconst 0, 1) := by decide +kernel
theorem dX9_sumCopies_1 : decode cX9_sumCopies 1 = .ok (.istore_n 2, 1) := by decide +kernel
theorem dX9_sumCopies_2 : decode cX9_sumCopies 2 = .ok (.iconst 0, 1) := by decide +kernel
theorem dX9_sumCopies_3 : decode cX9_sumCopies 3 = .ok (.istore_n 3, 1) := by decide +kernel
theorem dX9_sumCopies_4 : decode cX9_sumCopies 4 = .ok (.iload_n 3, 1) := by decide +kernel
theorem dX9_sumCopies_5 : decode cX9_sumCopies 5 = .ok (.iconst 5, 1) := by decide +kernel
theorem dX9_sumCopies_6 : decode cX9_sumCopies 6 = .ok (.if_icmp .ge 18, 3) := by decide +kernel
theorem dX9_sumCopies_9 : decode cX9_sumCopies 9 = .ok (.iload_n 2, 1) := by decide +kernel
theorem dX9_sumCopies_10 : decode cX9_sumCopies 10 = .ok (.aload_n 0, 1) := by decide +kernel
theorem dX9_sumCopies_11 : decode cX9_sumCopies 11 = .ok (.iload_n 3, 1) := by decide +kernel
theorem dX9_sumCopies_12 : decode cX9_sumCopies 12 = .ok (.iload_n 1, 1) := by decide +kernel
theorem dX9_sumCopies_13 : decode cX9_sumCopies 13 = .ok (.invokevirtual 301, 3) := by decide +kernel
theorem dX9_sumCopies_16 : decode cX9_sumCopies 16 = .ok (.iadd, 1) := by decide +kernel
theorem dX9_sumCopies_17 : decode cX9_sumCopies 17 = .ok (.istore_n 2, 1) := by decide +kernel
theorem dX9_sumCopies_18 : decode cX9_sumCopies 18 = .ok (.iinc 3 1, 3) := by decide +kernel
theorem dX9_sumCopies_21 : decode cX9_sumCopies 21 = .ok (.goto (-17), 3) := by decide +kernel
theorem dX9_sumCopies_24 : decode cX9_sumCopies 24 = .ok (.iload_n 2, 1) := by decide +kernel
theorem dX9_sumCopies_25 : decode cX9_sumCopies 25 = .ok (.ireturn, 1) := by decide +kernel
theorem dX9_knownByAll_0 : decode cX9_knownByAll 0 = .ok (.bipush 60, 2) := by decide +kernel
theorem dX9_knownByAll_2 : decode cX9_knownByAll 2 = .ok (.istore_n 1, 1) := by decide +kernel
theorem dX9_knownByAll_3 : decode cX9_knownByAll 3 = .ok (.iconst 0, 1) := by decide +kernel
theorem dX9_knownByAll_4 : decode cX9_knownByAll 4 = .ok (.istore_n 2, 1) := by decide +kernel
theorem dX9_knownByAll_5 : decode cX9_knownByAll 5 = .ok (.iload_n 2, 1) := by decide +kernel
theorem dX9_knownByAll_6 : decode cX9_knownByAll 6 = .ok (.aload_n 0, 1) := by decide +kernel
theorem dX9_knownByAll_7 : decode cX9_knownByAll 7 = .ok (.getfield 46, 3) := by decide +kernel
theorem dX9_knownByAll_10 : decode cX9_knownByAll 10 = .ok (.aload_n 0, 1) := by decide +kernel
theorem dX9_knownByAll_11 : decode cX9_knownByAll 11 = .ok (.getfield 209, 3) := by decide +kernel
theorem dX9_knownByAll_14 : decode cX9_knownByAll 14 = .ok (.iaload, 1) := by decide +kernel
theorem dX9_knownByAll_15 : decode cX9_knownByAll 15 = .ok (.if_icmp .ge 26, 3) := by decide +kernel
theorem dX9_knownByAll_18 : decode cX9_knownByAll 18 = .ok (.aload_n 0, 1) := by decide +kernel
theorem dX9_knownByAll_19 : decode cX9_knownByAll 19 = .ok (.iload_n 2, 1) := by decide +kernel
theorem dX9_knownByAll_20 : decode cX9_knownByAll 20 = .ok (.iconst 0, 1) := by decide +kernel
theorem dX9_knownByAll_21 : decode cX9_knownByAll 21 = .ok (.invokevirtual 301, 3) := by decide +kernel
theorem dX9_knownByAll_24 : decode cX9_knownByAll 24 = .ok (.iload_n 1, 1) := by decide +kernel
theorem dX9_knownByAll_25 : decode cX9_knownByAll 25 = .ok (.if_icmp .ge 10, 3) := by decide +kernel
theorem dX9_knownByAll_28 : decode cX9_knownByAll 28 = .ok (.aload_n 0, 1) := by decide +kernel
theorem dX9_knownByAll_29 : decode cX9_knownByAll 29 = .ok (.iload_n 2, 1) := by decide +kernel
theorem dX9_knownByAll_30 : decode cX9_knownByAll 30 = .ok (.iconst 0, 1) := by decide +kernel
theorem dX9_knownByAll_31 : decode cX9_knownByAll 31 = .ok (.invokevirtual 301, 3) := by decide +kernel
theorem dX9_knownByAll_34 : decode cX9_knownByAll 34 = .ok (.istore_n 1, 1) := by decide +kernel
theorem dX9_knownByAll_35 : decode cX9_knownByAll 35 = .ok (.iinc 2 1, 3) := by decide +kernel
theorem dX9_knownByAll_38 : decode cX9_knownByAll 38 = .ok (.goto (-33), 3) := by decide +kernel
theorem dX9_knownByAll_41 : decode cX9_knownByAll 41 = .ok (.iload_n 1, 1) := by decide +kernel
theorem dX9_knownByAll_42 : decode cX9_knownByAll 42 = .ok (.ireturn, 1) := by decide +kernel
theorem dX9_hadByAll_0 : decode cX9_hadByAll 0 = .ok (.iconst 0, 1) := by decide +kernel
theorem dX9_hadByAll_1 : decode cX9_hadByAll 1 = .ok (.istore_n 1, 1) := by decide +kernel
theorem dX9_hadByAll_2 : decode cX9_hadByAll 2 = .ok (.iconst 0, 1) := by decide +kernel
theorem dX9_hadByAll_3 : decode cX9_hadByAll 3 = .ok (.istore_n 2, 1) := by decide +kernel
theorem dX9_hadByAll_4 : decode cX9_hadByAll 4 = .ok (.iload_n 2, 1) := by decide +kernel
theorem dX9_hadByAll_5 : decode cX9_hadByAll 5 = .ok (.aload_n 0, 1) := by decide +kernel
theorem dX9_hadByAll_6 : decode cX9_hadByAll 6 = .ok (.getfield 94, 3) := by decide +kernel
theorem dX9_hadByAll_9 : decode cX9_hadByAll 9 = .ok (.iconst 0, 1) := by decide +kernel
theorem dX9_hadByAll_10 : decode cX9_hadByAll 10 = .ok (.iaload, 1) := by decide +kernel
theorem dX9_hadByAll_11 : decode cX9_hadByAll 11 = .ok (.if_icmp .ge 53, 3) := by decide +kernel
theorem dX9_hadByAll_14 : decode cX9_hadByAll 14 = .ok (.iconst 1, 1) := by decide +kernel
theorem dX9_hadByAll_15 : decode cX9_hadByAll 15 = .ok (.istore_n 3, 1) := by decide +kernel
theorem dX9_hadByAll_16 : decode cX9_hadByAll 16 = .ok (.iconst 0, 1) := by decide +kernel
theorem dX9_hadByAll_17 : decode cX9_hadByAll 17 = .ok (.istore 4, 2) := by decide +kernel
theorem dX9_hadByAll_19 : decode cX9_hadByAll 19 = .ok (.iload 4, 2) := by decide +kernel
theorem dX9_hadByAll_21 : decode cX9_hadByAll 21 = .ok (.aload_n 0, 1) := by decide +kernel
theorem dX9_hadByAll_22 : decode cX9_hadByAll 22 = .ok (.getfield 46, 3) := by decide +kernel
theorem dX9_hadByAll_25 : decode cX9_hadByAll 25 = .ok (.aload_n 0, 1) := by decide +kernel
theorem dX9_hadByAll_26 : decode cX9_hadByAll 26 = .ok (.getfield 209, 3) := by decide +kernel
theorem dX9_hadByAll_29 : decode cX9_hadByAll 29 = .ok (.iaload, 1) := by decide +kernel
theorem dX9_hadByAll_30 : decode cX9_hadByAll 30 = .ok (.if_icmp .ge 21, 3) := by decide +kernel
theorem dX9_hadByAll_33 : decode cX9_hadByAll 33 = .ok (.aload_n 0, 1) := by decide +kernel
theorem dX9_hadByAll_34 : decode cX9_hadByAll 34 = .ok (.iload 4, 2) := by decide +kernel
theorem dX9_hadByAll_36 : decode cX9_hadByAll 36 = .ok (.iload_n 2, 1) := by decide +kernel
theorem dX9_hadByAll_37 : decode cX9_hadByAll 37 = .ok (.invokevirtual 294, 3) := by decide +kernel
theorem dX9_hadByAll_40 : decode cX9_hadByAll 40 = .ok (.ifCond .ne 5, 3) := by decide +kernel
theorem dX9_hadByAll_43 : decode cX9_hadByAll 43 = .ok (.iconst 0, 1) := by decide +kernel
theorem dX9_hadByAll_44 : decode cX9_hadByAll 44 = .ok (.istore_n 3, 1) := by decide +kernel
theorem dX9_hadByAll_45 : decode cX9_hadByAll 45 = .ok (.iinc 4 1, 3) := by decide +kernel
theorem dX9_hadByAll_48 : decode cX9_hadByAll 48 = .ok (.goto (-29), 3) := by decide +kernel
theorem dX9_hadByAll_51 : decode cX9_hadByAll 51 = .ok (.iload_n 3, 1) := by decide +kernel
theorem dX9_hadByAll_52 : decode cX9_hadByAll 52 = .ok (.ifCond .eq 6, 3) := by decide +kernel
theorem dX9_hadByAll_55 : decode cX9_hadByAll 55 = .ok (.iinc 1 1, 3) := by decide +kernel
theorem dX9_hadByAll_58 : decode cX9_hadByAll 58 = .ok (.iinc 2 1, 3) := by decide +kernel
theorem dX9_hadByAll_61 : decode cX9_hadByAll 61 = .ok (.goto (-57), 3) := by decide +kernel
theorem dX9_hadByAll_64 : decode cX9_hadByAll 64 = .ok (.iload_n 1, 1) := by decide +kernel
theorem dX9_hadByAll_65 : decode cX9_hadByAll 65 = .ok (.ireturn, 1) := by decide +kernel
theorem dX9_count_0 : decode cX9_count 0 = .ok (.aload_n 0, 1) := by decide +kernel
theorem dX9_count_1 : decode cX9_count 1 = .ok (.invokevirtual 387, 3) := by decide +kernel
theorem dX9_count_4 : decode cX9_count 4 = .ok (.iconst 0, 1) := by decide +kernel
theorem dX9_count_5 : decode cX9_count 5 = .ok (.istore_n 2, 1) := by decide +kernel
theorem dX9_count_6 : decode cX9_count 6 = .ok (.iload_n 1, 1) := by decide +kernel
theorem dX9_count_7 : decode cX9_count 7 = .ok (.tableswitch 301 0 18 #[89, 99, 109, 119, 126, 133, 140, 147, 153, 158, 163, 176, 221, 227, 233, 238, 243, 275, 288], 89) := by decide +kernel
theorem dX9_count_96 : decode cX9_count 96 = .ok (.aload_n 0, 1) := by decide +kernel
theorem dX9_count_97 : decode cX9_count 97 = .ok (.getfield 46, 3) := by decide +kernel
theorem dX9_count_100 : decode cX9_count 100 = .ok (.aload_n 0, 1) := by decide +kernel
theorem dX9_count_101 : decode cX9_count 101 = .ok (.getfield 209, 3) := by decide +kernel
theorem dX9_count_104 : decode cX9_count 104 = .ok (.iaload, 1) := by decide +kernel
theorem dX9_count_105 : decode cX9_count 105 = .ok (.ireturn, 1) := by decide +kernel
theorem dX9_count_106 : decode cX9_count 106 = .ok (.aload_n 0, 1) := by decide +kernel
theorem dX9_count_107 : decode cX9_count 107 = .ok (.getfield 52, 3) := by decide +kernel
theorem dX9_count_110 : decode cX9_count 110 = .ok (.aload_n 0, 1) := by decide +kernel
theorem dX9_count_111 : decode cX9_count 111 = .ok (.getfield 209, 3) := by decide +kernel
theorem dX9_count_114 : decode cX9_count 114 = .ok (.iaload, 1) := by decide +kernel
theorem dX9_count_115 : decode cX9_count 115 = .ok (.ireturn, 1) := by decide +kernel
theorem dX9_count_116 : decode cX9_count 116 = .ok (.aload_n 0, 1) := by decide +kernel
theorem dX9_count_117 : decode cX9_count 117 = .ok (.getfield 58, 3) := by decide +kernel
theorem dX9_count_120 : decode cX9_count 120 = .ok (.aload_n 0, 1) := by decide +kernel
theorem dX9_count_121 : decode cX9_count 121 = .ok (.getfield 209, 3) := by decide +kernel
theorem dX9_count_124 : decode cX9_count 124 = .ok (.iaload, 1) := by decide +kernel
theorem dX9_count_125 : decode cX9_count 125 = .ok (.ireturn, 1) := by decide +kernel
theorem dX9_count_126 : decode cX9_count 126 = .ok (.aload_n 0, 1) := by decide +kernel
theorem dX9_count_127 : decode cX9_count 127 = .ok (.getfield 94, 3) := by decide +kernel
theorem dX9_count_130 : decode cX9_count 130 = .ok (.iconst 0, 1) := by decide +kernel
theorem dX9_count_131 : decode cX9_count 131 = .ok (.iaload, 1) := by decide +kernel
theorem dX9_count_132 : decode cX9_count 132 = .ok (.ireturn, 1) := by decide +kernel
theorem dX9_count_133 : decode cX9_count 133 = .ok (.aload_n 0, 1) := by decide +kernel
theorem dX9_count_134 : decode cX9_count 134 = .ok (.getfield 94, 3) := by decide +kernel
theorem dX9_count_137 : decode cX9_count 137 = .ok (.iconst 1, 1) := by decide +kernel
theorem dX9_count_138 : decode cX9_count 138 = .ok (.iaload, 1) := by decide +kernel
theorem dX9_count_139 : decode cX9_count 139 = .ok (.ireturn, 1) := by decide +kernel
theorem dX9_count_140 : decode cX9_count 140 = .ok (.aload_n 0, 1) := by decide +kernel
theorem dX9_count_141 : decode cX9_count 141 = .ok (.getfield 94, 3) := by decide +kernel
theorem dX9_count_144 : decode cX9_count 144 = .ok (.iconst 2, 1) := by decide +kernel
theorem dX9_count_145 : decode cX9_count 145 = .ok (.iaload, 1) := by decide +kernel
theorem dX9_count_146 : decode cX9_count 146 = .ok (.ireturn, 1) := by decide +kernel
theorem dX9_count_147 : decode cX9_count 147 = .ok (.aload_n 0, 1) := by decide +kernel
theorem dX9_count_148 : decode cX9_count 148 = .ok (.getfield 94, 3) := by decide +kernel
theorem dX9_count_151 : decode cX9_count 151 = .ok (.iconst 3, 1) := by decide +kernel
theorem dX9_count_152 : decode cX9_count 152 = .ok (.iaload, 1) := by decide +kernel
theorem dX9_count_153 : decode cX9_count 153 = .ok (.ireturn, 1) := by decide +kernel
theorem dX9_count_154 : decode cX9_count 154 = .ok (.aload_n 0, 1) := by decide +kernel
theorem dX9_count_155 : decode cX9_count 155 = .ok (.iconst 1, 1) := by decide +kernel
theorem dX9_count_156 : decode cX9_count 156 = .ok (.invokevirtual 458, 3) := by decide +kernel
theorem dX9_count_159 : decode cX9_count 159 = .ok (.ireturn, 1) := by decide +kernel
theorem dX9_count_160 : decode cX9_count 160 = .ok (.aload_n 0, 1) := by decide +kernel
theorem dX9_count_161 : decode cX9_count 161 = .ok (.getfield 142, 3) := by decide +kernel
theorem dX9_count_164 : decode cX9_count 164 = .ok (.ireturn, 1) := by decide +kernel
theorem dX9_count_165 : decode cX9_count 165 = .ok (.aload_n 0, 1) := by decide +kernel
theorem dX9_count_166 : decode cX9_count 166 = .ok (.getfield 228, 3) := by decide +kernel
theorem dX9_count_169 : decode cX9_count 169 = .ok (.ireturn, 1) := by decide +kernel
theorem dX9_count_170 : decode cX9_count 170 = .ok (.aload_n 0, 1) := by decide +kernel
theorem dX9_count_171 : decode cX9_count 171 = .ok (.invokevirtual 451, 3) := by decide +kernel
theorem dX9_count_174 : decode cX9_count 174 = .ok (.ifCond .eq 7, 3) := by decide +kernel
theorem dX9_count_177 : decode cX9_count 177 = .ok (.iconst 1, 1) := by decide +kernel
theorem dX9_count_178 : decode cX9_count 178 = .ok (.goto 4, 3) := by decide +kernel
theorem dX9_count_181 : decode cX9_count 181 = .ok (.iconst 0, 1) := by decide +kernel
theorem dX9_count_182 : decode cX9_count 182 = .ok (.ireturn, 1) := by decide +kernel
theorem dX9_count_183 : decode cX9_count 183 = .ok (.aload_n 0, 1) := by decide +kernel
theorem dX9_count_184 : decode cX9_count 184 = .ok (.getfield 121, 3) := by decide +kernel
theorem dX9_count_187 : decode cX9_count 187 = .ok (.iconst 0, 1) := by decide +kernel
theorem dX9_count_188 : decode cX9_count 188 = .ok (.baload, 1) := by decide +kernel
theorem dX9_count_189 : decode cX9_count 189 = .ok (.ifCond .eq 7, 3) := by decide +kernel
theorem dX9_count_192 : decode cX9_count 192 = .ok (.iconst 1, 1) := by decide +kernel
theorem dX9_count_193 : decode cX9_count 193 = .ok (.goto 4, 3) := by decide +kernel
theorem dX9_count_196 : decode cX9_count 196 = .ok (.iconst 0, 1) := by decide +kernel
theorem dX9_count_197 : decode cX9_count 197 = .ok (.aload_n 0, 1) := by decide +kernel
theorem dX9_count_198 : decode cX9_count 198 = .ok (.getfield 121, 3) := by decide +kernel
theorem dX9_count_201 : decode cX9_count 201 = .ok (.iconst 1, 1) := by decide +kernel
theorem dX9_count_202 : decode cX9_count 202 = .ok (.baload, 1) := by decide +kernel
theorem dX9_count_203 : decode cX9_count 203 = .ok (.ifCond .eq 7, 3) := by decide +kernel
theorem dX9_count_206 : decode cX9_count 206 = .ok (.iconst 1, 1) := by decide +kernel
theorem dX9_count_207 : decode cX9_count 207 = .ok (.goto 4, 3) := by decide +kernel
theorem dX9_count_210 : decode cX9_count 210 = .ok (.iconst 0, 1) := by decide +kernel
theorem dX9_count_211 : decode cX9_count 211 = .ok (.iadd, 1) := by decide +kernel
theorem dX9_count_212 : decode cX9_count 212 = .ok (.aload_n 0, 1) := by decide +kernel
theorem dX9_count_213 : decode cX9_count 213 = .ok (.getfield 121, 3) := by decide +kernel
theorem dX9_count_216 : decode cX9_count 216 = .ok (.iconst 2, 1) := by decide +kernel
theorem dX9_count_217 : decode cX9_count 217 = .ok (.baload, 1) := by decide +kernel
theorem dX9_count_218 : decode cX9_count 218 = .ok (.ifCond .eq 7, 3) := by decide +kernel
theorem dX9_count_221 : decode cX9_count 221 = .ok (.iconst 1, 1) := by decide +kernel
theorem dX9_count_222 : decode cX9_count 222 = .ok (.goto 4, 3) := by decide +kernel
theorem dX9_count_225 : decode cX9_count 225 = .ok (.iconst 0, 1) := by decide +kernel
theorem dX9_count_226 : decode cX9_count 226 = .ok (.iadd, 1) := by decide +kernel
theorem dX9_count_227 : decode cX9_count 227 = .ok (.ireturn, 1) := by decide +kernel
theorem dX9_count_228 : decode cX9_count 228 = .ok (.aload_n 0, 1) := by decide +kernel
theorem dX9_count_229 : decode cX9_count 229 = .ok (.iconst 3, 1) := by decide +kernel
theorem dX9_count_230 : decode cX9_count 230 = .ok (.invokevirtual 458, 3) := by decide +kernel
theorem dX9_count_233 : decode cX9_count 233 = .ok (.ireturn, 1) := by decide +kernel
theorem dX9_count_234 : decode cX9_count 234 = .ok (.aload_n 0, 1) := by decide +kernel
theorem dX9_count_235 : decode cX9_count 235 = .ok (.iconst 4, 1) := by decide +kernel
theorem dX9_count_236 : decode cX9_count 236 = .ok (.invokevirtual 458, 3) := by decide +kernel
theorem dX9_count_239 : decode cX9_count 239 = .ok (.ireturn, 1) := by decide +kernel
theorem dX9_count_240 : decode cX9_count 240 = .ok (.aload_n 0, 1) := by decide +kernel
theorem dX9_count_241 : decode cX9_count 241 = .ok (.invokevirtual 461, 3) := by decide +kernel
theorem dX9_count_244 : decode cX9_count 244 = .ok (.ireturn, 1) := by decide +kernel
theorem dX9_count_245 : decode cX9_count 245 = .ok (.aload_n 0, 1) := by decide +kernel
theorem dX9_count_246 : decode cX9_count 246 = .ok (.invokevirtual 464, 3) := by decide +kernel
theorem dX9_count_249 : decode cX9_count 249 = .ok (.ireturn, 1) := by decide +kernel
theorem dX9_count_250 : decode cX9_count 250 = .ok (.iconst 0, 1) := by decide +kernel
theorem dX9_count_251 : decode cX9_count 251 = .ok (.istore_n 3, 1) := by decide +kernel
theorem dX9_count_252 : decode cX9_count 252 = .ok (.iload_n 3, 1) := by decide +kernel
theorem dX9_count_253 : decode cX9_count 253 = .ok (.iconst 4, 1) := by decide +kernel
theorem dX9_count_254 : decode cX9_count 254 = .ok (.if_icmp .ge 26, 3) := by decide +kernel
theorem dX9_count_257 : decode cX9_count 257 = .ok (.iload_n 2, 1) := by decide +kernel
theorem dX9_count_258 : decode cX9_count 258 = .ok (.aload_n 0, 1) := by decide +kernel
theorem dX9_count_259 : decode cX9_count 259 = .ok (.getfield 94, 3) := by decide +kernel
theorem dX9_count_262 : decode cX9_count 262 = .ok (.bipush 50, 2) := by decide +kernel
theorem dX9_count_264 : decode cX9_count 264 = .ok (.bipush 14, 2) := by decide +kernel
theorem dX9_count_266 : decode cX9_count 266 = .ok (.iload_n 3, 1) := by decide +kernel
theorem dX9_count_267 : decode cX9_count 267 = .ok (.imul, 1) := by decide +kernel
theorem dX9_count_268 : decode cX9_count 268 = .ok (.iadd, 1) := by decide +kernel
theorem dX9_count_269 : decode cX9_count 269 = .ok (.iconst 1, 1) := by decide +kernel
theorem dX9_count_270 : decode cX9_count 270 = .ok (.iadd, 1) := by decide +kernel
theorem dX9_count_271 : decode cX9_count 271 = .ok (.iaload, 1) := by decide +kernel
theorem dX9_count_272 : decode cX9_count 272 = .ok (.iadd, 1) := by decide +kernel
theorem dX9_count_273 : decode cX9_count 273 = .ok (.istore_n 2, 1) := by decide +kernel
theorem dX9_count_274 : decode cX9_count 274 = .ok (.iinc 3 1, 3) := by decide +kernel
theorem dX9_count_277 : decode cX9_count 277 = .ok (.goto (-25), 3) := by decide +kernel
theorem dX9_count_280 : decode cX9_count 280 = .ok (.iload_n 2, 1) := by decide +kernel
theorem dX9_count_281 : decode cX9_count 281 = .ok (.ireturn, 1) := by decide +kernel
theorem dX9_count_282 : decode cX9_count 282 = .ok (.aload_n 0, 1) := by decide +kernel
theorem dX9_count_283 : decode cX9_count 283 = .ok (.aload_n 0, 1) := by decide +kernel
theorem dX9_count_284 : decode cX9_count 284 = .ok (.getfield 94, 3) := by decide +kernel
theorem dX9_count_287 : decode cX9_count 287 = .ok (.iconst 2, 1) := by decide +kernel
theorem dX9_count_288 : decode cX9_count 288 = .ok (.iaload, 1) := by decide +kernel
theorem dX9_count_289 : decode cX9_count 289 = .ok (.bipush 7, 2) := by decide +kernel
theorem dX9_count_291 : decode cX9_count 291 = .ok (.invokevirtual 467, 3) := by decide +kernel
theorem dX9_count_294 : decode cX9_count 294 = .ok (.ireturn, 1) := by decide +kernel
theorem dX9_count_295 : decode cX9_count 295 = .ok (.aload_n 0, 1) := by decide +kernel
theorem dX9_count_296 : decode cX9_count 296 = .ok (.aload_n 0, 1) := by decide +kernel
theorem dX9_count_297 : decode cX9_count 297 = .ok (.getfield 94, 3) := by decide +kernel
theorem dX9_count_300 : decode cX9_count 300 = .ok (.iconst 2, 1) := by decide +kernel
theorem dX9_count_301 : decode cX9_count 301 = .ok (.iaload, 1) := by decide +kernel
theorem dX9_count_302 : decode cX9_count 302 = .ok (.bipush 8, 2) := by decide +kernel
theorem dX9_count_304 : decode cX9_count 304 = .ok (.invokevirtual 467, 3) := by decide +kernel
theorem dX9_count_307 : decode cX9_count 307 = .ok (.ireturn, 1) := by decide +kernel
theorem dX9_count_308 : decode cX9_count 308 = .ok (.iconst (-1), 1) := by decide +kernel
theorem dX9_count_309 : decode cX9_count 309 = .ok (.ireturn, 1) := by decide +kernel
