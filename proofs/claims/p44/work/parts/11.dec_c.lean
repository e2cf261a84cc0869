/-! the class's bytecode, row by row -/
theorem dX0_push_0 : decode cX0_push 0 = .ok (.aload_n 0, 1) := by decide +kernel
theorem dX0_push_1 : decode cX0_push 1 = .ok (.getfield 44, 3) := by decide +kernel
theorem dX0_push_4 : decode cX0_push 4 = .ok (.bipush 32, 2) := by decide +kernel
theorem dX0_push_6 : decode cX0_push 6 = .ok (.if_icmp .ge 23, 3) := by decide +kernel
theorem dX0_push_9 : decode cX0_push 9 = .ok (.aload_n 0, 1) := by decide +kernel
theorem dX0_push_10 : decode cX0_push 10 = .ok (.getfield 11, 3) := by decide +kernel
theorem dX0_push_13 : decode cX0_push 13 = .ok (.aload_n 0, 1) := by decide +kernel
theorem dX0_push_14 : decode cX0_push 14 = .ok (.getfield 44, 3) := by decide +kernel
theorem dX0_push_17 : decode cX0_push 17 = .ok (.iload_n 1, 1) := by decide +kernel
theorem dX0_push_18 : decode cX0_push 18 = .ok (.iastore, 1) := by decide +kernel
theorem dX0_push_19 : decode cX0_push 19 = .ok (.aload_n 0, 1) := by decide +kernel
theorem dX0_push_20 : decode cX0_push 20 = .ok (.dup, 1) := by decide +kernel
theorem dX0_push_21 : decode cX0_push 21 = .ok (.getfield 44, 3) := by decide +kernel
theorem dX0_push_24 : decode cX0_push 24 = .ok (.iconst 1, 1) := by decide +kernel
theorem dX0_push_25 : decode cX0_push 25 = .ok (.iadd, 1) := by decide +kernel
theorem dX0_push_26 : decode cX0_push 26 = .ok (.putfield 44, 3) := by decide +kernel
theorem dX0_push_29 : decode cX0_push 29 = .ok (.return_, 1) := by decide +kernel
theorem dX0_operate_0 : decode cX0_operate 0 = .ok (.aload_n 0, 1) := by decide +kernel
theorem dX0_operate_1 : decode cX0_operate 1 = .ok (.getfield 44, 3) := by decide +kernel
theorem dX0_operate_4 : decode cX0_operate 4 = .ok (.iconst 2, 1) := by decide +kernel
theorem dX0_operate_5 : decode cX0_operate 5 = .ok (.if_icmp .ge 4, 3) := by decide +kernel
theorem dX0_operate_8 : decode cX0_operate 8 = .ok (.return_, 1) := by decide +kernel
theorem dX0_operate_9 : decode cX0_operate 9 = .ok (.aload_n 0, 1) := by decide +kernel
theorem dX0_operate_10 : decode cX0_operate 10 = .ok (.dup, 1) := by decide +kernel
theorem dX0_operate_11 : decode cX0_operate 11 = .ok (.getfield 44, 3) := by decide +kernel
theorem dX0_operate_14 : decode cX0_operate 14 = .ok (.iconst 1, 1) := by decide +kernel
theorem dX0_operate_15 : decode cX0_operate 15 = .ok (.isub, 1) := by decide +kernel
theorem dX0_operate_16 : decode cX0_operate 16 = .ok (.putfield 44, 3) := by decide +kernel
theorem dX0_operate_19 : decode cX0_operate 19 = .ok (.aload_n 0, 1) := by decide +kernel
theorem dX0_operate_20 : decode cX0_operate 20 = .ok (.getfield 11, 3) := by decide +kernel
theorem dX0_operate_23 : decode cX0_operate 23 = .ok (.aload_n 0, 1) := by decide +kernel
theorem dX0_operate_24 : decode cX0_operate 24 = .ok (.getfield 44, 3) := by decide +kernel
theorem dX0_operate_27 : decode cX0_operate 27 = .ok (.iconst 1, 1) := by decide +kernel
theorem dX0_operate_28 : decode cX0_operate 28 = .ok (.isub, 1) := by decide +kernel
theorem dX0_operate_29 : decode cX0_operate 29 = .ok (.iaload, 1) := by decide +kernel
theorem dX0_operate_30 : decode cX0_operate 30 = .ok (.istore_n 2, 1) := by decide +kernel
theorem dX0_operate_31 : decode cX0_operate 31 = .ok (.aload_n 0, 1) := by decide +kernel
theorem dX0_operate_32 : decode cX0_operate 32 = .ok (.getfield 11, 3) := by decide +kernel
theorem dX0_operate_35 : decode cX0_operate 35 = .ok (.aload_n 0, 1) := by decide +kernel
theorem dX0_operate_36 : decode cX0_operate 36 = .ok (.getfield 44, 3) := by decide +kernel
theorem dX0_operate_39 : decode cX0_operate 39 = .ok (.iaload, 1) := by decide +kernel
theorem dX0_operate_40 : decode cX0_operate 40 = .ok (.istore_n 3, 1) := by decide +kernel
theorem dX0_operate_41 : decode cX0_operate 41 = .ok (.iload_n 1, 1) := by decide +kernel
theorem dX0_operate_42 : decode cX0_operate 42 = .ok (.bipush 43, 2) := by decide +kernel
theorem dX0_operate_44 : decode cX0_operate 44 = .ok (.if_icmp .ne 20, 3) := by decide +kernel
theorem dX0_operate_47 : decode cX0_operate 47 = .ok (.aload_n 0, 1) := by decide +kernel
theorem dX0_operate_48 : decode cX0_operate 48 = .ok (.getfield 11, 3) := by decide +kernel
theorem dX0_operate_51 : decode cX0_operate 51 = .ok (.aload_n 0, 1) := by decide +kernel
theorem dX0_operate_52 : decode cX0_operate 52 = .ok (.getfield 44, 3) := by decide +kernel
theorem dX0_operate_55 : decode cX0_operate 55 = .ok (.iconst 1, 1) := by decide +kernel
theorem dX0_operate_56 : decode cX0_operate 56 = .ok (.isub, 1) := by decide +kernel
theorem dX0_operate_57 : decode cX0_operate 57 = .ok (.iload_n 2, 1) := by decide +kernel
theorem dX0_operate_58 : decode cX0_operate 58 = .ok (.iload_n 3, 1) := by decide +kernel
theorem dX0_operate_59 : decode cX0_operate 59 = .ok (.iadd, 1) := by decide +kernel
theorem dX0_operate_60 : decode cX0_operate 60 = .ok (.iastore, 1) := by decide +kernel
theorem dX0_operate_61 : decode cX0_operate 61 = .ok (.goto 75, 3) := by decide +kernel
theorem dX0_operate_64 : decode cX0_operate 64 = .ok (.iload_n 1, 1) := by decide +kernel
theorem dX0_operate_65 : decode cX0_operate 65 = .ok (.bipush 45, 2) := by decide +kernel
theorem dX0_operate_67 : decode cX0_operate 67 = .ok (.if_icmp .ne 20, 3) := by decide +kernel
theorem dX0_operate_70 : decode cX0_operate 70 = .ok (.aload_n 0, 1) := by decide +kernel
theorem dX0_operate_71 : decode cX0_operate 71 = .ok (.getfield 11, 3) := by decide +kernel
theorem dX0_operate_74 : decode cX0_operate 74 = .ok (.aload_n 0, 1) := by decide +kernel
theorem dX0_operate_75 : decode cX0_operate 75 = .ok (.getfield 44, 3) := by decide +kernel
theorem dX0_operate_78 : decode cX0_operate 78 = .ok (.iconst 1, 1) := by decide +kernel
theorem dX0_operate_79 : decode cX0_operate 79 = .ok (.isub, 1) := by decide +kernel
theorem dX0_operate_80 : decode cX0_operate 80 = .ok (.iload_n 2, 1) := by decide +kernel
theorem dX0_operate_81 : decode cX0_operate 81 = .ok (.iload_n 3, 1) := by decide +kernel
theorem dX0_operate_82 : decode cX0_operate 82 = .ok (.isub, 1) := by decide +kernel
theorem dX0_operate_83 : decode cX0_operate 83 = .ok (.iastore, 1) := by decide +kernel
theorem dX0_operate_84 : decode cX0_operate 84 = .ok (.goto 52, 3) := by decide +kernel
theorem dX0_operate_87 : decode cX0_operate 87 = .ok (.iload_n 1, 1) := by decide +kernel
theorem dX0_operate_88 : decode cX0_operate 88 = .ok (.bipush 42, 2) := by decide +kernel
theorem dX0_operate_90 : decode cX0_operate 90 = .ok (.if_icmp .ne 20, 3) := by decide +kernel
theorem dX0_operate_93 : decode cX0_operate 93 = .ok (.aload_n 0, 1) := by decide +kernel
theorem dX0_operate_94 : decode cX0_operate 94 = .ok (.getfield 11, 3) := by decide +kernel
theorem dX0_operate_97 : decode cX0_operate 97 = .ok (.aload_n 0, 1) := by decide +kernel
theorem dX0_operate_98 : decode cX0_operate 98 = .ok (.getfield 44, 3) := by decide +kernel
theorem dX0_operate_101 : decode cX0_operate 101 = .ok (.iconst 1, 1) := by decide +kernel
theorem dX0_operate_102 : decode cX0_operate 102 = .ok (.isub, 1) := by decide +kernel
theorem dX0_operate_103 : decode cX0_operate 103 = .ok (.iload_n 2, 1) := by decide +kernel
theorem dX0_operate_104 : decode cX0_operate 104 = .ok (.iload_n 3, 1) := by decide +kernel
theorem dX0_operate_105 : decode cX0_operate 105 = .ok (.imul, 1) := by decide +kernel
theorem dX0_operate_106 : decode cX0_operate 106 = .ok (.iastore, 1) := by decide +kernel
theorem dX0_operate_107 : decode cX0_operate 107 = .ok (.goto 29, 3) := by decide +kernel
theorem dX0_operate_110 : decode cX0_operate 110 = .ok (.iload_n 3, 1) := by decide +kernel
theorem dX0_operate_111 : decode cX0_operate 111 = .ok (.ifCond .ne 11, 3) := by decide +kernel
theorem dX0_operate_114 : decode cX0_operate 114 = .ok (.aload_n 0, 1) := by decide +kernel
theorem dX0_operate_115 : decode cX0_operate 115 = .ok (.iconst 1, 1) := by decide +kernel
theorem dX0_operate_116 : decode cX0_operate 116 = .ok (.putfield 15, 3) := by decide +kernel
theorem dX0_operate_119 : decode cX0_operate 119 = .ok (.goto 17, 3) := by decide +kernel
theorem dX0_operate_122 : decode cX0_operate 122 = .ok (.aload_n 0, 1) := by decide +kernel
theorem dX0_operate_123 : decode cX0_operate 123 = .ok (.getfield 11, 3) := by decide +kernel
theorem dX0_operate_126 : decode cX0_operate 126 = .ok (.aload_n 0, 1) := by decide +kernel
theorem dX0_operate_127 : decode cX0_operate 127 = .ok (.getfield 44, 3) := by decide +kernel
theorem dX0_operate_130 : decode cX0_operate 130 = .ok (.iconst 1, 1) := by decide +kernel
theorem dX0_operate_131 : decode cX0_operate 131 = .ok (.isub, 1) := by decide +kernel
theorem dX0_operate_132 : decode cX0_operate 132 = .ok (.iload_n 2, 1) := by decide +kernel
theorem dX0_operate_133 : decode cX0_operate 133 = .ok (.iload_n 3, 1) := by decide +kernel
theorem dX0_operate_134 : decode cX0_operate 134 = .ok (.idiv, 1) := by decide +kernel
theorem dX0_operate_135 : decode cX0_operate 135 = .ok (.iastore, 1) := by decide +kernel
theorem dX0_operate_136 : decode cX0_operate 136 = .ok (.return_, 1) := by decide +kernel
theorem dX0_worth_0 : decode cX0_worth 0 = .ok (.aload_n 0, 1) := by decide +kernel
theorem dX0_worth_1 : decode cX0_worth 1 = .ok (.iconst 0, 1) := by decide +kernel
theorem dX0_worth_2 : decode cX0_worth 2 = .ok (.putfield 44, 3) := by decide +kernel
theorem dX0_worth_5 : decode cX0_worth 5 = .ok (.aload_n 1, 1) := by decide +kernel
theorem dX0_worth_6 : decode cX0_worth 6 = .ok (.getfield 47, 3) := by decide +kernel
theorem dX0_worth_9 : decode cX0_worth 9 = .ok (.iload_n 2, 1) := by decide +kernel
theorem dX0_worth_10 : decode cX0_worth 10 = .ok (.iaload, 1) := by decide +kernel
theorem dX0_worth_11 : decode cX0_worth 11 = .ok (.istore 7, 2) := by decide +kernel
theorem dX0_worth_13 : decode cX0_worth 13 = .ok (.iload 7, 2) := by decide +kernel
theorem dX0_worth_15 : decode cX0_worth 15 = .ok (.aload_n 1, 1) := by decide +kernel
theorem dX0_worth_16 : decode cX0_worth 16 = .ok (.getfield 50, 3) := by decide +kernel
theorem dX0_worth_19 : decode cX0_worth 19 = .ok (.iload_n 2, 1) := by decide +kernel
theorem dX0_worth_20 : decode cX0_worth 20 = .ok (.iaload, 1) := by decide +kernel
theorem dX0_worth_21 : decode cX0_worth 21 = .ok (.if_icmp .ge 137, 3) := by decide +kernel
theorem dX0_worth_24 : decode cX0_worth 24 = .ok (.aload_n 0, 1) := by decide +kernel
theorem dX0_worth_25 : decode cX0_worth 25 = .ok (.getfield 15, 3) := by decide +kernel
theorem dX0_worth_28 : decode cX0_worth 28 = .ok (.ifCond .ne 130, 3) := by decide +kernel
theorem dX0_worth_31 : decode cX0_worth 31 = .ok (.aload_n 1, 1) := by decide +kernel
theorem dX0_worth_32 : decode cX0_worth 32 = .ok (.getfield 53, 3) := by decide +kernel
theorem dX0_worth_35 : decode cX0_worth 35 = .ok (.iload 7, 2) := by decide +kernel
theorem dX0_worth_37 : decode cX0_worth 37 = .ok (.iaload, 1) := by decide +kernel
theorem dX0_worth_38 : decode cX0_worth 38 = .ok (.istore 8, 2) := by decide +kernel
theorem dX0_worth_40 : decode cX0_worth 40 = .ok (.aload_n 1, 1) := by decide +kernel
theorem dX0_worth_41 : decode cX0_worth 41 = .ok (.getfield 56, 3) := by decide +kernel
theorem dX0_worth_44 : decode cX0_worth 44 = .ok (.iload 7, 2) := by decide +kernel
theorem dX0_worth_46 : decode cX0_worth 46 = .ok (.iaload, 1) := by decide +kernel
theorem dX0_worth_47 : decode cX0_worth 47 = .ok (.tableswitch 99 0 4 #[33, 42, 57, 71, 85], 33) := by decide +kernel
theorem dX0_worth_80 : decode cX0_worth 80 = .ok (.aload_n 0, 1) := by decide +kernel
theorem dX0_worth_81 : decode cX0_worth 81 = .ok (.iload 8, 2) := by decide +kernel
theorem dX0_worth_83 : decode cX0_worth 83 = .ok (.invokevirtual 59, 3) := by decide +kernel
theorem dX0_worth_86 : decode cX0_worth 86 = .ok (.goto 66, 3) := by decide +kernel
theorem dX0_worth_89 : decode cX0_worth 89 = .ok (.aload_n 0, 1) := by decide +kernel
theorem dX0_worth_90 : decode cX0_worth 90 = .ok (.aload 5, 2) := by decide +kernel
theorem dX0_worth_92 : decode cX0_worth 92 = .ok (.iload 6, 2) := by decide +kernel
theorem dX0_worth_94 : decode cX0_worth 94 = .ok (.iload 8, 2) := by decide +kernel
theorem dX0_worth_96 : decode cX0_worth 96 = .ok (.iadd, 1) := by decide +kernel
theorem dX0_worth_97 : decode cX0_worth 97 = .ok (.iaload, 1) := by decide +kernel
theorem dX0_worth_98 : decode cX0_worth 98 = .ok (.invokevirtual 59, 3) := by decide +kernel
theorem dX0_worth_101 : decode cX0_worth 101 = .ok (.goto 51, 3) := by decide +kernel
theorem dX0_worth_104 : decode cX0_worth 104 = .ok (.aload_n 0, 1) := by decide +kernel
theorem dX0_worth_105 : decode cX0_worth 105 = .ok (.aload_n 3, 1) := by decide +kernel
theorem dX0_worth_106 : decode cX0_worth 106 = .ok (.getfield 63, 3) := by decide +kernel
theorem dX0_worth_109 : decode cX0_worth 109 = .ok (.iload 4, 2) := by decide +kernel
theorem dX0_worth_111 : decode cX0_worth 111 = .ok (.iaload, 1) := by decide +kernel
theorem dX0_worth_112 : decode cX0_worth 112 = .ok (.invokevirtual 59, 3) := by decide +kernel
theorem dX0_worth_115 : decode cX0_worth 115 = .ok (.goto 37, 3) := by decide +kernel
theorem dX0_worth_118 : decode cX0_worth 118 = .ok (.aload_n 0, 1) := by decide +kernel
theorem dX0_worth_119 : decode cX0_worth 119 = .ok (.aload_n 3, 1) := by decide +kernel
theorem dX0_worth_120 : decode cX0_worth 120 = .ok (.getfield 66, 3) := by decide +kernel
theorem dX0_worth_123 : decode cX0_worth 123 = .ok (.iload 4, 2) := by decide +kernel
theorem dX0_worth_125 : decode cX0_worth 125 = .ok (.iaload, 1) := by decide +kernel
theorem dX0_worth_126 : decode cX0_worth 126 = .ok (.invokevirtual 59, 3) := by decide +kernel
theorem dX0_worth_129 : decode cX0_worth 129 = .ok (.goto 23, 3) := by decide +kernel
theorem dX0_worth_132 : decode cX0_worth 132 = .ok (.aload_n 0, 1) := by decide +kernel
theorem dX0_worth_133 : decode cX0_worth 133 = .ok (.aload_n 3, 1) := by decide +kernel
theorem dX0_worth_134 : decode cX0_worth 134 = .ok (.getfield 69, 3) := by decide +kernel
theorem dX0_worth_137 : decode cX0_worth 137 = .ok (.iload 4, 2) := by decide +kernel
theorem dX0_worth_139 : decode cX0_worth 139 = .ok (.iaload, 1) := by decide +kernel
theorem dX0_worth_140 : decode cX0_worth 140 = .ok (.invokevirtual 59, 3) := by decide +kernel
theorem dX0_worth_143 : decode cX0_worth 143 = .ok (.goto 9, 3) := by decide +kernel
theorem dX0_worth_146 : decode cX0_worth 146 = .ok (.aload_n 0, 1) := by decide +kernel
theorem dX0_worth_147 : decode cX0_worth 147 = .ok (.iload 8, 2) := by decide +kernel
theorem dX0_worth_149 : decode cX0_worth 149 = .ok (.invokevirtual 72, 3) := by decide +kernel
theorem dX0_worth_152 : decode cX0_worth 152 = .ok (.iinc 7 1, 3) := by decide +kernel
theorem dX0_worth_155 : decode cX0_worth 155 = .ok (.goto (-142), 3) := by decide +kernel
theorem dX0_worth_158 : decode cX0_worth 158 = .ok (.aload_n 0, 1) := by decide +kernel
theorem dX0_worth_159 : decode cX0_worth 159 = .ok (.getfield 44, 3) := by decide +kernel
theorem dX0_worth_162 : decode cX0_worth 162 = .ok (.ifCond .le 17, 3) := by decide +kernel
theorem dX0_worth_165 : decode cX0_worth 165 = .ok (.aload_n 0, 1) := by decide +kernel
theorem dX0_worth_166 : decode cX0_worth 166 = .ok (.getfield 11, 3) := by decide +kernel
theorem dX0_worth_169 : decode cX0_worth 169 = .ok (.aload_n 0, 1) := by decide +kernel
theorem dX0_worth_170 : decode cX0_worth 170 = .ok (.getfield 44, 3) := by decide +kernel
theorem dX0_worth_173 : decode cX0_worth 173 = .ok (.iconst 1, 1) := by decide +kernel
theorem dX0_worth_174 : decode cX0_worth 174 = .ok (.isub, 1) := by decide +kernel
theorem dX0_worth_175 : decode cX0_worth 175 = .ok (.iaload, 1) := by decide +kernel
theorem dX0_worth_176 : decode cX0_worth 176 = .ok (.goto 4, 3) := by decide +kernel
theorem dX0_worth_179 : decode cX0_worth 179 = .ok (.iconst 0, 1) := by decide +kernel
theorem dX0_worth_180 : decode cX0_worth 180 = .ok (.ireturn, 1) := by decide +kernel
theorem dX0_perform_0 : decode cX0_perform 0 = .ok (.aload_n 0, 1) := by decide +kernel
theorem dX0_perform_1 : decode cX0_perform 1 = .ok (.iconst 0, 1) := by decide +kernel
theorem dX0_perform_2 : decode cX0_perform 2 = .ok (.putfield 15, 3) := by decide +kernel
theorem dX0_perform_5 : decode cX0_perform 5 = .ok (.aload_n 0, 1) := by decide +kernel
theorem dX0_perform_6 : decode cX0_perform 6 = .ok (.iconst (-1), 1) := by decide +kernel
theorem dX0_perform_7 : decode cX0_perform 7 = .ok (.putfield 19, 3) := by decide +kernel
theorem dX0_perform_10 : decode cX0_perform 10 = .ok (.aload_n 2, 1) := by decide +kernel
theorem dX0_perform_11 : decode cX0_perform 11 = .ok (.getfield 23, 3) := by decide +kernel
theorem dX0_perform_14 : decode cX0_perform 14 = .ok (.iload_n 3, 1) := by decide +kernel
theorem dX0_perform_15 : decode cX0_perform 15 = .ok (.iaload, 1) := by decide +kernel
theorem dX0_perform_16 : decode cX0_perform 16 = .ok (.istore 6, 2) := by decide +kernel
theorem dX0_perform_18 : decode cX0_perform 18 = .ok (.iload 6, 2) := by decide +kernel
theorem dX0_perform_20 : decode cX0_perform 20 = .ok (.iconst 4, 1) := by decide +kernel
theorem dX0_perform_21 : decode cX0_perform 21 = .ok (.imul, 1) := by decide +kernel
theorem dX0_perform_22 : decode cX0_perform 22 = .ok (.istore 7, 2) := by decide +kernel
theorem dX0_perform_24 : decode cX0_perform 24 = .ok (.aload_n 0, 1) := by decide +kernel
theorem dX0_perform_25 : decode cX0_perform 25 = .ok (.aload_n 1, 1) := by decide +kernel
theorem dX0_perform_26 : decode cX0_perform 26 = .ok (.iload 7, 2) := by decide +kernel
theorem dX0_perform_28 : decode cX0_perform 28 = .ok (.aload_n 2, 1) := by decide +kernel
theorem dX0_perform_29 : decode cX0_perform 29 = .ok (.iload_n 3, 1) := by decide +kernel
theorem dX0_perform_30 : decode cX0_perform 30 = .ok (.aload 4, 2) := by decide +kernel
theorem dX0_perform_32 : decode cX0_perform 32 = .ok (.iload 5, 2) := by decide +kernel
theorem dX0_perform_34 : decode cX0_perform 34 = .ok (.invokevirtual 30, 3) := by decide +kernel
theorem dX0_perform_37 : decode cX0_perform 37 = .ok (.istore 8, 2) := by decide +kernel
theorem dX0_perform_39 : decode cX0_perform 39 = .ok (.aload_n 0, 1) := by decide +kernel
theorem dX0_perform_40 : decode cX0_perform 40 = .ok (.aload_n 1, 1) := by decide +kernel
theorem dX0_perform_41 : decode cX0_perform 41 = .ok (.iload 7, 2) := by decide +kernel
theorem dX0_perform_43 : decode cX0_perform 43 = .ok (.iconst 1, 1) := by decide +kernel
theorem dX0_perform_44 : decode cX0_perform 44 = .ok (.iadd, 1) := by decide +kernel
theorem dX0_perform_45 : decode cX0_perform 45 = .ok (.aload_n 2, 1) := by decide +kernel
theorem dX0_perform_46 : decode cX0_perform 46 = .ok (.iload_n 3, 1) := by decide +kernel
theorem dX0_perform_47 : decode cX0_perform 47 = .ok (.aload 4, 2) := by decide +kernel
theorem dX0_perform_49 : decode cX0_perform 49 = .ok (.iload 5, 2) := by decide +kernel
theorem dX0_perform_51 : decode cX0_perform 51 = .ok (.invokevirtual 30, 3) := by decide +kernel
theorem dX0_perform_54 : decode cX0_perform 54 = .ok (.istore 9, 2) := by decide +kernel
theorem dX0_perform_56 : decode cX0_perform 56 = .ok (.aload_n 0, 1) := by decide +kernel
theorem dX0_perform_57 : decode cX0_perform 57 = .ok (.getfield 15, 3) := by decide +kernel
theorem dX0_perform_60 : decode cX0_perform 60 = .ok (.ifCond .eq 5, 3) := by decide +kernel
theorem dX0_perform_63 : decode cX0_perform 63 = .ok (.iconst 3, 1) := by decide +kernel
theorem dX0_perform_64 : decode cX0_perform 64 = .ok (.ireturn, 1) := by decide +kernel
theorem dX0_perform_65 : decode cX0_perform 65 = .ok (.aload_n 1, 1) := by decide +kernel
theorem dX0_perform_66 : decode cX0_perform 66 = .ok (.getfield 34, 3) := by decide +kernel
theorem dX0_perform_69 : decode cX0_perform 69 = .ok (.iload 6, 2) := by decide +kernel
theorem dX0_perform_71 : decode cX0_perform 71 = .ok (.baload, 1) := by decide +kernel
theorem dX0_perform_72 : decode cX0_perform 72 = .ok (.ifCond .eq 18, 3) := by decide +kernel
theorem dX0_perform_75 : decode cX0_perform 75 = .ok (.iload 8, 2) := by decide +kernel
theorem dX0_perform_77 : decode cX0_perform 77 = .ok (.iload 9, 2) := by decide +kernel
theorem dX0_perform_79 : decode cX0_perform 79 = .ok (.if_icmp .ge 7, 3) := by decide +kernel
theorem dX0_perform_82 : decode cX0_perform 82 = .ok (.iconst 1, 1) := by decide +kernel
theorem dX0_perform_83 : decode cX0_perform 83 = .ok (.goto 19, 3) := by decide +kernel
theorem dX0_perform_86 : decode cX0_perform 86 = .ok (.iconst 0, 1) := by decide +kernel
theorem dX0_perform_87 : decode cX0_perform 87 = .ok (.goto 15, 3) := by decide +kernel
theorem dX0_perform_90 : decode cX0_perform 90 = .ok (.iload 8, 2) := by decide +kernel
theorem dX0_perform_92 : decode cX0_perform 92 = .ok (.iload 9, 2) := by decide +kernel
theorem dX0_perform_94 : decode cX0_perform 94 = .ok (.if_icmp .ne 7, 3) := by decide +kernel
theorem dX0_perform_97 : decode cX0_perform 97 = .ok (.iconst 1, 1) := by decide +kernel
theorem dX0_perform_98 : decode cX0_perform 98 = .ok (.goto 4, 3) := by decide +kernel
theorem dX0_perform_101 : decode cX0_perform 101 = .ok (.iconst 0, 1) := by decide +kernel
theorem dX0_perform_102 : decode cX0_perform 102 = .ok (.istore 10, 2) := by decide +kernel
theorem dX0_perform_104 : decode cX0_perform 104 = .ok (.iload 10, 2) := by decide +kernel
theorem dX0_perform_106 : decode cX0_perform 106 = .ok (.ifCond .eq 13, 3) := by decide +kernel
theorem dX0_perform_109 : decode cX0_perform 109 = .ok (.aload_n 1, 1) := by decide +kernel
theorem dX0_perform_110 : decode cX0_perform 110 = .ok (.getfield 38, 3) := by decide +kernel
theorem dX0_perform_113 : decode cX0_perform 113 = .ok (.iload 6, 2) := by decide +kernel
theorem dX0_perform_115 : decode cX0_perform 115 = .ok (.iaload, 1) := by decide +kernel
theorem dX0_perform_116 : decode cX0_perform 116 = .ok (.goto 10, 3) := by decide +kernel
theorem dX0_perform_119 : decode cX0_perform 119 = .ok (.aload_n 1, 1) := by decide +kernel
theorem dX0_perform_120 : decode cX0_perform 120 = .ok (.getfield 41, 3) := by decide +kernel
theorem dX0_perform_123 : decode cX0_perform 123 = .ok (.iload 6, 2) := by decide +kernel
theorem dX0_perform_125 : decode cX0_perform 125 = .ok (.iaload, 1) := by decide +kernel
theorem dX0_perform_126 : decode cX0_perform 126 = .ok (.istore 11, 2) := by decide +kernel
theorem dX0_perform_128 : decode cX0_perform 128 = .ok (.iload 11, 2) := by decide +kernel
theorem dX0_perform_130 : decode cX0_perform 130 = .ok (.iconst (-1), 1) := by decide +kernel
theorem dX0_perform_131 : decode cX0_perform 131 = .ok (.if_icmp .ne 5, 3) := by decide +kernel
theorem dX0_perform_134 : decode cX0_perform 134 = .ok (.iconst 2, 1) := by decide +kernel
theorem dX0_perform_135 : decode cX0_perform 135 = .ok (.ireturn, 1) := by decide +kernel
theorem dX0_perform_136 : decode cX0_perform 136 = .ok (.aload_n 0, 1) := by decide +kernel
theorem dX0_perform_137 : decode cX0_perform 137 = .ok (.aload_n 1, 1) := by decide +kernel
theorem dX0_perform_138 : decode cX0_perform 138 = .ok (.iload 10, 2) := by decide +kernel
theorem dX0_perform_140 : decode cX0_perform 140 = .ok (.ifCond .eq 10, 3) := by decide +kernel
theorem dX0_perform_143 : decode cX0_perform 143 = .ok (.iload 7, 2) := by decide +kernel
theorem dX0_perform_145 : decode cX0_perform 145 = .ok (.iconst 2, 1) := by decide +kernel
theorem dX0_perform_146 : decode cX0_perform 146 = .ok (.iadd, 1) := by decide +kernel
theorem dX0_perform_147 : decode cX0_perform 147 = .ok (.goto 7, 3) := by decide +kernel
theorem dX0_perform_150 : decode cX0_perform 150 = .ok (.iload 7, 2) := by decide +kernel
theorem dX0_perform_152 : decode cX0_perform 152 = .ok (.iconst 3, 1) := by decide +kernel
theorem dX0_perform_153 : decode cX0_perform 153 = .ok (.iadd, 1) := by decide +kernel
theorem dX0_perform_154 : decode cX0_perform 154 = .ok (.aload_n 2, 1) := by decide +kernel
theorem dX0_perform_155 : decode cX0_perform 155 = .ok (.iload_n 3, 1) := by decide +kernel
theorem dX0_perform_156 : decode cX0_perform 156 = .ok (.aload 4, 2) := by decide +kernel
theorem dX0_perform_158 : decode cX0_perform 158 = .ok (.iload 5, 2) := by decide +kernel
theorem dX0_perform_160 : decode cX0_perform 160 = .ok (.invokevirtual 30, 3) := by decide +kernel
theorem dX0_perform_163 : decode cX0_perform 163 = .ok (.istore 12, 2) := by decide +kernel
theorem dX0_perform_165 : decode cX0_perform 165 = .ok (.aload_n 0, 1) := by decide +kernel
theorem dX0_perform_166 : decode cX0_perform 166 = .ok (.getfield 15, 3) := by decide +kernel
theorem dX0_perform_169 : decode cX0_perform 169 = .ok (.ifCond .eq 5, 3) := by decide +kernel
theorem dX0_perform_172 : decode cX0_perform 172 = .ok (.iconst 3, 1) := by decide +kernel
theorem dX0_perform_173 : decode cX0_perform 173 = .ok (.ireturn, 1) := by decide +kernel
theorem dX0_perform_174 : decode cX0_perform 174 = .ok (.aload 4, 2) := by decide +kernel
theorem dX0_perform_176 : decode cX0_perform 176 = .ok (.iload 5, 2) := by decide +kernel
theorem dX0_perform_178 : decode cX0_perform 178 = .ok (.iload 11, 2) := by decide +kernel
theorem dX0_perform_180 : decode cX0_perform 180 = .ok (.iadd, 1) := by decide +kernel
theorem dX0_perform_181 : decode cX0_perform 181 = .ok (.iload 12, 2) := by decide +kernel
theorem dX0_perform_183 : decode cX0_perform 183 = .ok (.iastore, 1) := by decide +kernel
theorem dX0_perform_184 : decode cX0_perform 184 = .ok (.aload_n 0, 1) := by decide +kernel
theorem dX0_perform_185 : decode cX0_perform 185 = .ok (.iload 11, 2) := by decide +kernel
theorem dX0_perform_187 : decode cX0_perform 187 = .ok (.putfield 19, 3) := by decide +kernel
theorem dX0_perform_190 : decode cX0_perform 190 = .ok (.iload 10, 2) := by decide +kernel
theorem dX0_perform_192 : decode cX0_perform 192 = .ok (.ifCond .eq 7, 3) := by decide +kernel
theorem dX0_perform_195 : decode cX0_perform 195 = .ok (.iconst 0, 1) := by decide +kernel
theorem dX0_perform_196 : decode cX0_perform 196 = .ok (.goto 4, 3) := by decide +kernel
theorem dX0_perform_199 : decode cX0_perform 199 = .ok (.iconst 1, 1) := by decide +kernel
theorem dX0_perform_200 : decode cX0_perform 200 = .ok (.ireturn, 1) := by decide +kernel
theorem dX1_begin_0 : decode cX1_begin 0 = .ok (.iconst 0, 1) := by decide +kernel
theorem dX1_begin_1 : decode cX1_begin 1 = .ok (.istore_n 3, 1) := by decide +kernel
theorem dX1_begin_2 : decode cX1_begin 2 = .ok (.iload_n 3, 1) := by decide +kernel
theorem dX1_begin_3 : decode cX1_begin 3 = .ok (.bipush 96, 2) := by decide +kernel
theorem dX1_begin_5 : decode cX1_begin 5 = .ok (.if_icmp .ge 16, 3) := by decide +kernel
theorem dX1_begin_8 : decode cX1_begin 8 = .ok (.aload_n 0, 1) := by decide +kernel
theorem dX1_begin_9 : decode cX1_begin 9 = .ok (.getfield 11, 3) := by decide +kernel
theorem dX1_begin_12 : decode cX1_begin 12 = .ok (.iload_n 3, 1) := by decide +kernel
theorem dX1_begin_13 : decode cX1_begin 13 = .ok (.lconst 0, 1) := by decide +kernel
theorem dX1_begin_14 : decode cX1_begin 14 = .ok (.lastore, 1) := by decide +kernel
theorem dX1_begin_15 : decode cX1_begin 15 = .ok (.iinc 3 1, 3) := by decide +kernel
theorem dX1_begin_18 : decode cX1_begin 18 = .ok (.goto (-16), 3) := by decide +kernel
theorem dX1_begin_21 : decode cX1_begin 21 = .ok (.aload_n 0, 1) := by decide +kernel
theorem dX1_begin_22 : decode cX1_begin 22 = .ok (.getfield 11, 3) := by decide +kernel
theorem dX1_begin_25 : decode cX1_begin 25 = .ok (.iconst 0, 1) := by decide +kernel
theorem dX1_begin_26 : decode cX1_begin 26 = .ok (.iload_n 1, 1) := by decide +kernel
theorem dX1_begin_27 : decode cX1_begin 27 = .ok (.i2l, 1) := by decide +kernel
theorem dX1_begin_28 : decode cX1_begin 28 = .ok (.lastore, 1) := by decide +kernel
theorem dX1_begin_29 : decode cX1_begin 29 = .ok (.aload_n 0, 1) := by decide +kernel
theorem dX1_begin_30 : decode cX1_begin 30 = .ok (.getfield 11, 3) := by decide +kernel
theorem dX1_begin_33 : decode cX1_begin 33 = .ok (.iconst 1, 1) := by decide +kernel
theorem dX1_begin_34 : decode cX1_begin 34 = .ok (.iload_n 2, 1) := by decide +kernel
theorem dX1_begin_35 : decode cX1_begin 35 = .ok (.i2l, 1) := by decide +kernel
theorem dX1_begin_36 : decode cX1_begin 36 = .ok (.lastore, 1) := by decide +kernel
theorem dX1_begin_37 : decode cX1_begin 37 = .ok (.return_, 1) := by decide +kernel
theorem dX1_takeOver_0 : decode cX1_takeOver 0 = .ok (.aload_n 1, 1) := by decide +kernel
theorem dX1_takeOver_1 : decode cX1_takeOver 1 = .ok (.getfield 11, 3) := by decide +kernel
theorem dX1_takeOver_4 : decode cX1_takeOver 4 = .ok (.iconst 0, 1) := by decide +kernel
theorem dX1_takeOver_5 : decode cX1_takeOver 5 = .ok (.aload_n 0, 1) := by decide +kernel
theorem dX1_takeOver_6 : decode cX1_takeOver 6 = .ok (.getfield 11, 3) := by decide +kernel
theorem dX1_takeOver_9 : decode cX1_takeOver 9 = .ok (.iconst 0, 1) := by decide +kernel
theorem dX1_takeOver_10 : decode cX1_takeOver 10 = .ok (.bipush 96, 2) := by decide +kernel
theorem dX1_takeOver_12 : decode cX1_takeOver 12 = .ok (.invokestatic 37, 3) := by decide +kernel
theorem dX1_takeOver_15 : decode cX1_takeOver 15 = .ok (.aload_n 1, 1) := by decide +kernel
theorem dX1_takeOver_16 : decode cX1_takeOver 16 = .ok (.getfield 15, 3) := by decide +kernel
theorem dX1_takeOver_19 : decode cX1_takeOver 19 = .ok (.iconst 0, 1) := by decide +kernel
theorem dX1_takeOver_20 : decode cX1_takeOver 20 = .ok (.aload_n 0, 1) := by decide +kernel
theorem dX1_takeOver_21 : decode cX1_takeOver 21 = .ok (.getfield 15, 3) := by decide +kernel
theorem dX1_takeOver_24 : decode cX1_takeOver 24 = .ok (.iconst 0, 1) := by decide +kernel
theorem dX1_takeOver_25 : decode cX1_takeOver 25 = .ok (.bipush 60, 2) := by decide +kernel
theorem dX1_takeOver_27 : decode cX1_takeOver 27 = .ok (.invokestatic 37, 3) := by decide +kernel
theorem dX1_takeOver_30 : decode cX1_takeOver 30 = .ok (.aload_n 1, 1) := by decide +kernel
theorem dX1_takeOver_31 : decode cX1_takeOver 31 = .ok (.getfield 19, 3) := by decide +kernel
theorem dX1_takeOver_34 : decode cX1_takeOver 34 = .ok (.iconst 0, 1) := by decide +kernel
theorem dX1_takeOver_35 : decode cX1_takeOver 35 = .ok (.aload_n 0, 1) := by decide +kernel
theorem dX1_takeOver_36 : decode cX1_takeOver 36 = .ok (.getfield 19, 3) := by decide +kernel
theorem dX1_takeOver_39 : decode cX1_takeOver 39 = .ok (.iconst 0, 1) := by decide +kernel
theorem dX1_takeOver_40 : decode cX1_takeOver 40 = .ok (.bipush 60, 2) := by decide +kernel
theorem dX1_takeOver_42 : decode cX1_takeOver 42 = .ok (.invokestatic 37, 3) := by decide +kernel
theorem dX1_takeOver_45 : decode cX1_takeOver 45 = .ok (.aload_n 1, 1) := by decide +kernel
theorem dX1_takeOver_46 : decode cX1_takeOver 46 = .ok (.getfield 22, 3) := by decide +kernel
theorem dX1_takeOver_49 : decode cX1_takeOver 49 = .ok (.iconst 0, 1) := by decide +kernel
theorem dX1_takeOver_50 : decode cX1_takeOver 50 = .ok (.aload_n 0, 1) := by decide +kernel
theorem dX1_takeOver_51 : decode cX1_takeOver 51 = .ok (.getfield 22, 3) := by decide +kernel
theorem dX1_takeOver_54 : decode cX1_takeOver 54 = .ok (.iconst 0, 1) := by decide +kernel
theorem dX1_takeOver_55 : decode cX1_takeOver 55 = .ok (.bipush 60, 2) := by decide +kernel
theorem dX1_takeOver_57 : decode cX1_takeOver 57 = .ok (.invokestatic 37, 3) := by decide +kernel
theorem dX1_takeOver_60 : decode cX1_takeOver 60 = .ok (.aload_n 1, 1) := by decide +kernel
theorem dX1_takeOver_61 : decode cX1_takeOver 61 = .ok (.getfield 25, 3) := by decide +kernel
theorem dX1_takeOver_64 : decode cX1_takeOver 64 = .ok (.iconst 0, 1) := by decide +kernel
theorem dX1_takeOver_65 : decode cX1_takeOver 65 = .ok (.aload_n 0, 1) := by decide +kernel
theorem dX1_takeOver_66 : decode cX1_takeOver 66 = .ok (.getfield 25, 3) := by decide +kernel
theorem dX1_takeOver_69 : decode cX1_takeOver 69 = .ok (.iconst 0, 1) := by decide +kernel
theorem dX1_takeOver_70 : decode cX1_takeOver 70 = .ok (.bipush 60, 2) := by decide +kernel
theorem dX1_takeOver_72 : decode cX1_takeOver 72 = .ok (.invokestatic 37, 3) := by decide +kernel
theorem dX1_takeOver_75 : decode cX1_takeOver 75 = .ok (.aload_n 1, 1) := by decide +kernel
theorem dX1_takeOver_76 : decode cX1_takeOver 76 = .ok (.getfield 28, 3) := by decide +kernel
theorem dX1_takeOver_79 : decode cX1_takeOver 79 = .ok (.iconst 0, 1) := by decide +kernel
theorem dX1_takeOver_80 : decode cX1_takeOver 80 = .ok (.aload_n 0, 1) := by decide +kernel
theorem dX1_takeOver_81 : decode cX1_takeOver 81 = .ok (.getfield 28, 3) := by decide +kernel
theorem dX1_takeOver_84 : decode cX1_takeOver 84 = .ok (.iconst 0, 1) := by decide +kernel
theorem dX1_takeOver_85 : decode cX1_takeOver 85 = .ok (.bipush 60, 2) := by decide +kernel
theorem dX1_takeOver_87 : decode cX1_takeOver 87 = .ok (.invokestatic 37, 3) := by decide +kernel
theorem dX1_takeOver_90 : decode cX1_takeOver 90 = .ok (.return_, 1) := by decide +kernel
theorem dX1_copies_0 : decode cX1_copies 0 = .ok (.aload_n 0, 1) := by decide +kernel
theorem dX1_copies_1 : decode cX1_copies 1 = .ok (.getfield 11, 3) := by decide +kernel
theorem dX1_copies_4 : decode cX1_copies 4 = .ok (.iconst 0, 1) := by decide +kernel
theorem dX1_copies_5 : decode cX1_copies 5 = .ok (.laload, 1) := by decide +kernel
theorem dX1_copies_6 : decode cX1_copies 6 = .ok (.l2i, 1) := by decide +kernel
theorem dX1_copies_7 : decode cX1_copies 7 = .ok (.ireturn, 1) := by decide +kernel
theorem dX1_primary_0 : decode cX1_primary 0 = .ok (.aload_n 0, 1) := by decide +kernel
theorem dX1_primary_1 : decode cX1_primary 1 = .ok (.getfield 11, 3) := by decide +kernel
theorem dX1_primary_4 : decode cX1_primary 4 = .ok (.iconst 1, 1) := by decide +kernel
theorem dX1_primary_5 : decode cX1_primary 5 = .ok (.laload, 1) := by decide +kernel
theorem dX1_primary_6 : decode cX1_primary 6 = .ok (.l2i, 1) := by decide +kernel
theorem dX1_primary_7 : decode cX1_primary 7 = .ok (.ireturn, 1) := by decide +kernel
theorem dX1_writes_0 : decode cX1_writes 0 = .ok (.aload_n 0, 1) := by decide +kernel
theorem dX1_writes_1 : decode cX1_writes 1 = .ok (.getfield 11, 3) := by decide +kernel
theorem dX1_writes_4 : decode cX1_writes 4 = .ok (.iconst 2, 1) := by decide +kernel
theorem dX1_writes_5 : decode cX1_writes 5 = .ok (.laload, 1) := by decide +kernel
theorem dX1_writes_6 : decode cX1_writes 6 = .ok (.l2i, 1) := by decide +kernel
theorem dX1_writes_7 : decode cX1_writes 7 = .ok (.ireturn, 1) := by decide +kernel
theorem dX1_ordered_0 : decode cX1_ordered 0 = .ok (.aload_n 0, 1) := by decide +kernel
theorem dX1_ordered_1 : decode cX1_ordered 1 = .ok (.getfield 11, 3) := by decide +kernel
theorem dX1_ordered_4 : decode cX1_ordered 4 = .ok (.iconst 3, 1) := by decide +kernel
theorem dX1_ordered_5 : decode cX1_ordered 5 = .ok (.laload, 1) := by decide +kernel
theorem dX1_ordered_6 : decode cX1_ordered 6 = .ok (.l2i, 1) := by decide +kernel
theorem dX1_ordered_7 : decode cX1_ordered 7 = .ok (.ireturn, 1) := by decide +kernel
theorem dX1_chances_0 : decode cX1_chances 0 = .ok (.aload_n 0, 1) := by decide +kernel
theorem dX1_chances_1 : decode cX1_chances 1 = .ok (.getfield 11, 3) := by decide +kernel
theorem dX1_chances_4 : decode cX1_chances 4 = .ok (.iconst 4, 1) := by decide +kernel
theorem dX1_chances_5 : decode cX1_chances 5 = .ok (.laload, 1) := by decide +kernel
theorem dX1_chances_6 : decode cX1_chances 6 = .ok (.l2i, 1) := by decide +kernel
theorem dX1_chances_7 : decode cX1_chances 7 = .ok (.ireturn, 1) := by decide +kernel
theorem dX1_copyNumber_0 : decode cX1_copyNumber 0 = .ok (.aload_n 0, 1) := by decide +kernel
theorem dX1_copyNumber_1 : decode cX1_copyNumber 1 = .ok (.getfield 11, 3) := by decide +kernel
theorem dX1_copyNumber_4 : decode cX1_copyNumber 4 = .ok (.iload_n 1, 1) := by decide +kernel
theorem dX1_copyNumber_5 : decode cX1_copyNumber 5 = .ok (.iload_n 2, 1) := by decide +kernel
theorem dX1_copyNumber_6 : decode cX1_copyNumber 6 = .ok (.iadd, 1) := by decide +kernel
theorem dX1_copyNumber_7 : decode cX1_copyNumber 7 = .ok (.laload, 1) := by decide +kernel
theorem dX1_copyNumber_8 : decode cX1_copyNumber 8 = .ok (.l2i, 1) := by decide +kernel
theorem dX1_copyNumber_9 : decode cX1_copyNumber 9 = .ok (.ireturn, 1) := by decide +kernel
theorem dX1_sessionNumber_0 : decode cX1_sessionNumber 0 = .ok (.aload_n 0, 1) := by decide +kernel
theorem dX1_sessionNumber_1 : decode cX1_sessionNumber 1 = .ok (.getfield 11, 3) := by decide +kernel
theorem dX1_sessionNumber_4 : decode cX1_sessionNumber 4 = .ok (.iload_n 1, 1) := by decide +kernel
theorem dX1_sessionNumber_5 : decode cX1_sessionNumber 5 = .ok (.iload_n 2, 1) := by decide +kernel
theorem dX1_sessionNumber_6 : decode cX1_sessionNumber 6 = .ok (.iadd, 1) := by decide +kernel
theorem dX1_sessionNumber_7 : decode cX1_sessionNumber 7 = .ok (.laload, 1) := by decide +kernel
theorem dX1_sessionNumber_8 : decode cX1_sessionNumber 8 = .ok (.l2i, 1) := by decide +kernel
theorem dX1_sessionNumber_9 : decode cX1_sessionNumber 9 = .ok (.ireturn, 1) := by decide +kernel
theorem dX1_sessionVector_0 : decode cX1_sessionVector 0 = .ok (.aload_n 0, 1) := by decide +kernel
theorem dX1_sessionVector_1 : decode cX1_sessionVector 1 = .ok (.getfield 11, 3) := by decide +kernel
theorem dX1_sessionVector_4 : decode cX1_sessionVector 4 = .ok (.iload_n 1, 1) := by decide +kernel
theorem dX1_sessionVector_5 : decode cX1_sessionVector 5 = .ok (.iload_n 2, 1) := by decide +kernel
theorem dX1_sessionVector_6 : decode cX1_sessionVector 6 = .ok (.iconst 5, 1) := by decide +kernel
theorem dX1_sessionVector_7 : decode cX1_sessionVector 7 = .ok (.imul, 1) := by decide +kernel
theorem dX1_sessionVector_8 : decode cX1_sessionVector 8 = .ok (.iadd, 1) := by decide +kernel
theorem dX1_sessionVector_9 : decode cX1_sessionVector 9 = .ok (.iload_n 3, 1) := by decide +kernel
theorem dX1_sessionVector_10 : decode cX1_sessionVector 10 = .ok (.iadd, 1) := by decide +kernel
theorem dX1_sessionVector_11 : decode cX1_sessionVector 11 = .ok (.laload, 1) := by decide +kernel
theorem dX1_sessionVector_12 : decode cX1_sessionVector 12 = .ok (.l2i, 1) := by decide +kernel
theorem dX1_sessionVector_13 : decode cX1_sessionVector 13 = .ok (.ireturn, 1) := by decide +kernel
theorem dX1_setOf_0 : decode cX1_setOf 0 = .ok (.aload_n 0, 1) := by decide +kernel
theorem dX1_setOf_1 : decode cX1_setOf 1 = .ok (.getfield 11, 3) := by decide +kernel
theorem dX1_setOf_4 : decode cX1_setOf 4 = .ok (.bipush 6, 2) := by decide +kernel
theorem dX1_setOf_6 : decode cX1_setOf 6 = .ok (.iload_n 1, 1) := by decide +kernel
theorem dX1_setOf_7 : decode cX1_setOf 7 = .ok (.iadd, 1) := by decide +kernel
theorem dX1_setOf_8 : decode cX1_setOf 8 = .ok (.laload, 1) := by decide +kernel
theorem dX1_setOf_9 : decode cX1_setOf 9 = .ok (.lreturn, 1) := by decide +kernel
theorem dX1_knownOf_0 : decode cX1_knownOf 0 = .ok (.aload_n 0, 1) := by decide +kernel
theorem dX1_knownOf_1 : decode cX1_knownOf 1 = .ok (.getfield 11, 3) := by decide +kernel
theorem dX1_knownOf_4 : decode cX1_knownOf 4 = .ok (.bipush 11, 2) := by decide +kernel
theorem dX1_knownOf_6 : decode cX1_knownOf 6 = .ok (.iload_n 1, 1) := by decide +kernel
theorem dX1_knownOf_7 : decode cX1_knownOf 7 = .ok (.iadd, 1) := by decide +kernel
theorem dX1_knownOf_8 : decode cX1_knownOf 8 = .ok (.laload, 1) := by decide +kernel
theorem dX1_knownOf_9 : decode cX1_knownOf 9 = .ok (.l2i, 1) := by decide +kernel
theorem dX1_knownOf_10 : decode cX1_knownOf 10 = .ok (.ireturn, 1) := by decide +kernel
theorem dX1_hasIt_0 : decode cX1_hasIt 0 = .ok (.aload_n 0, 1) := by decide +kernel
theorem dX1_hasIt_1 : decode cX1_hasIt 1 = .ok (.iload_n 1, 1) := by decide +kernel
theorem dX1_hasIt_2 : decode cX1_hasIt 2 = .ok (.invokevirtual 43, 3) := by decide +kernel
theorem dX1_hasIt_5 : decode cX1_hasIt 5 = .ok (.iload_n 2, 1) := by decide +kernel
theorem dX1_hasIt_6 : decode cX1_hasIt 6 = .ok (.lshr, 1) := by decide +kernel
theorem dX1_hasIt_7 : decode cX1_hasIt 7 = .ok (.lconst 1, 1) := by decide +kernel
theorem dX1_hasIt_8 : decode cX1_hasIt 8 = .ok (.land, 1) := by decide +kernel
theorem dX1_hasIt_9 : decode cX1_hasIt 9 = .ok (.lconst 0, 1) := by decide +kernel
theorem dX1_hasIt_10 : decode cX1_hasIt 10 = .ok (.lcmp, 1) := by decide +kernel
theorem dX1_hasIt_11 : decode cX1_hasIt 11 = .ok (.ifCond .eq 7, 3) := by decide +kernel
theorem dX1_hasIt_14 : decode cX1_hasIt 14 = .ok (.iconst 1, 1) := by decide +kernel
theorem dX1_hasIt_15 : decode cX1_hasIt 15 = .ok (.goto 4, 3) := by decide +kernel
theorem dX1_hasIt_18 : decode cX1_hasIt 18 = .ok (.iconst 0, 1) := by decide +kernel
theorem dX1_hasIt_19 : decode cX1_hasIt 19 = .ok (.ireturn, 1) := by decide +kernel
theorem dX1_placeInOrder_0 : decode cX1_placeInOrder 0 = .ok (.iconst 0, 1) := by decide +kernel
theorem dX1_placeInOrder_1 : decode cX1_placeInOrder 1 = .ok (.istore_n 2, 1) := by decide +kernel
theorem dX1_placeInOrder_2 : decode cX1_placeInOrder 2 = .ok (.iload_n 2, 1) := by decide +kernel
theorem dX1_placeInOrder_3 : decode cX1_placeInOrder 3 = .ok (.aload_n 0, 1) := by decide +kernel
theorem dX1_placeInOrder_4 : decode cX1_placeInOrder 4 = .ok (.invokevirtual 47, 3) := by decide +kernel
theorem dX1_placeInOrder_7 : decode cX1_placeInOrder 7 = .ok (.if_icmp .ge 21, 3) := by decide +kernel
theorem dX1_placeInOrder_10 : decode cX1_placeInOrder 10 = .ok (.aload_n 0, 1) := by decide +kernel
theorem dX1_placeInOrder_11 : decode cX1_placeInOrder 11 = .ok (.getfield 28, 3) := by decide +kernel
theorem dX1_placeInOrder_14 : decode cX1_placeInOrder 14 = .ok (.iload_n 2, 1) := by decide +kernel
theorem dX1_placeInOrder_15 : decode cX1_placeInOrder 15 = .ok (.iaload, 1) := by decide +kernel
theorem dX1_placeInOrder_16 : decode cX1_placeInOrder 16 = .ok (.iload_n 1, 1) := by decide +kernel
theorem dX1_placeInOrder_17 : decode cX1_placeInOrder 17 = .ok (.if_icmp .ne 5, 3) := by decide +kernel
theorem dX1_placeInOrder_20 : decode cX1_placeInOrder 20 = .ok (.iload_n 2, 1) := by decide +kernel
theorem dX1_placeInOrder_21 : decode cX1_placeInOrder 21 = .ok (.ireturn, 1) := by decide +kernel
theorem dX1_placeInOrder_22 : decode cX1_placeInOrder 22 = .ok (.iinc 2 1, 3) := by decide +kernel
theorem dX1_placeInOrder_25 : decode cX1_placeInOrder 25 = .ok (.goto (-23), 3) := by decide +kernel
theorem dX1_placeInOrder_28 : decode cX1_placeInOrder 28 = .ok (.bipush (-2), 2) := by decide +kernel
theorem dX1_placeInOrder_30 : decode cX1_placeInOrder 30 = .ok (.ireturn, 1) := by decide +kernel
theorem dX1_holders_0 : decode cX1_holders 0 = .ok (.iconst 0, 1) := by decide +kernel
theorem dX1_holders_1 : decode cX1_holders 1 = .ok (.istore_n 2, 1) := by decide +kernel
theorem dX1_holders_2 : decode cX1_holders 2 = .ok (.iconst 0, 1) := by decide +kernel
theorem dX1_holders_3 : decode cX1_holders 3 = .ok (.istore_n 3, 1) := by decide +kernel
theorem dX1_holders_4 : decode cX1_holders 4 = .ok (.iload_n 3, 1) := by decide +kernel
theorem dX1_holders_5 : decode cX1_holders 5 = .ok (.aload_n 0, 1) := by decide +kernel
theorem dX1_holders_6 : decode cX1_holders 6 = .ok (.invokevirtual 51, 3) := by decide +kernel
theorem dX1_holders_9 : decode cX1_holders 9 = .ok (.if_icmp .ge 24, 3) := by decide +kernel
theorem dX1_holders_12 : decode cX1_holders 12 = .ok (.aload_n 0, 1) := by decide +kernel
theorem dX1_holders_13 : decode cX1_holders 13 = .ok (.iload_n 3, 1) := by decide +kernel
theorem dX1_holders_14 : decode cX1_holders 14 = .ok (.iload_n 1, 1) := by decide +kernel
theorem dX1_holders_15 : decode cX1_holders 15 = .ok (.invokevirtual 54, 3) := by decide +kernel
theorem dX1_holders_18 : decode cX1_holders 18 = .ok (.ifCond .eq 9, 3) := by decide +kernel
theorem dX1_holders_21 : decode cX1_holders 21 = .ok (.iload_n 2, 1) := by decide +kernel
theorem dX1_holders_22 : decode cX1_holders 22 = .ok (.iconst 1, 1) := by decide +kernel
theorem dX1_holders_23 : decode cX1_holders 23 = .ok (.iload_n 3, 1) := by decide +kernel
theorem dX1_holders_24 : decode cX1_holders 24 = .ok (.ishl, 1) := by decide +kernel
theorem dX1_holders_25 : decode cX1_holders 25 = .ok (.ior, 1) := by decide +kernel
theorem dX1_holders_26 : decode cX1_holders 26 = .ok (.istore_n 2, 1) := by decide +kernel
theorem dX1_holders_27 : decode cX1_holders 27 = .ok (.iinc 3 1, 3) := by decide +kernel
theorem dX1_holders_30 : decode cX1_holders 30 = .ok (.goto (-26), 3) := by decide +kernel
theorem dX1_holders_33 : decode cX1_holders 33 = .ok (.iload_n 2, 1) := by decide +kernel
theorem dX1_holders_34 : decode cX1_holders 34 = .ok (.ireturn, 1) := by decide +kernel
theorem dX1_knowers_0 : decode cX1_knowers 0 = .ok (.aload_n 0, 1) := by decide +kernel
theorem dX1_knowers_1 : decode cX1_knowers 1 = .ok (.iload_n 1, 1) := by decide +kernel
theorem dX1_knowers_2 : decode cX1_knowers 2 = .ok (.invokevirtual 58, 3) := by decide +kernel
theorem dX1_knowers_5 : decode cX1_knowers 5 = .ok (.istore_n 2, 1) := by decide +kernel
theorem dX1_knowers_6 : decode cX1_knowers 6 = .ok (.iconst 0, 1) := by decide +kernel
theorem dX1_knowers_7 : decode cX1_knowers 7 = .ok (.istore_n 3, 1) := by decide +kernel
theorem dX1_knowers_8 : decode cX1_knowers 8 = .ok (.iconst 0, 1) := by decide +kernel
theorem dX1_knowers_9 : decode cX1_knowers 9 = .ok (.istore 4, 2) := by decide +kernel
theorem dX1_knowers_11 : decode cX1_knowers 11 = .ok (.iload 4, 2) := by decide +kernel
theorem dX1_knowers_13 : decode cX1_knowers 13 = .ok (.aload_n 0, 1) := by decide +kernel
theorem dX1_knowers_14 : decode cX1_knowers 14 = .ok (.invokevirtual 51, 3) := by decide +kernel
theorem dX1_knowers_17 : decode cX1_knowers 17 = .ok (.if_icmp .ge 32, 3) := by decide +kernel
theorem dX1_knowers_20 : decode cX1_knowers 20 = .ok (.iload_n 2, 1) := by decide +kernel
theorem dX1_knowers_21 : decode cX1_knowers 21 = .ok (.bipush (-2), 2) := by decide +kernel
theorem dX1_knowers_23 : decode cX1_knowers 23 = .ok (.if_icmp .eq 26, 3) := by decide +kernel
theorem dX1_knowers_26 : decode cX1_knowers 26 = .ok (.iload_n 2, 1) := by decide +kernel
theorem dX1_knowers_27 : decode cX1_knowers 27 = .ok (.aload_n 0, 1) := by decide +kernel
theorem dX1_knowers_28 : decode cX1_knowers 28 = .ok (.iload 4, 2) := by decide +kernel
theorem dX1_knowers_30 : decode cX1_knowers 30 = .ok (.invokevirtual 62, 3) := by decide +kernel
theorem dX1_knowers_33 : decode cX1_knowers 33 = .ok (.if_icmp .ge 10, 3) := by decide +kernel
theorem dX1_knowers_36 : decode cX1_knowers 36 = .ok (.iload_n 3, 1) := by decide +kernel
theorem dX1_knowers_37 : decode cX1_knowers 37 = .ok (.iconst 1, 1) := by decide +kernel
theorem dX1_knowers_38 : decode cX1_knowers 38 = .ok (.iload 4, 2) := by decide +kernel
theorem dX1_knowers_40 : decode cX1_knowers 40 = .ok (.ishl, 1) := by decide +kernel
theorem dX1_knowers_41 : decode cX1_knowers 41 = .ok (.ior, 1) := by decide +kernel
theorem dX1_knowers_42 : decode cX1_knowers 42 = .ok (.istore_n 3, 1) := by decide +kernel
theorem dX1_knowers_43 : decode cX1_knowers 43 = .ok (.iinc 4 1, 3) := by decide +kernel
theorem dX1_knowers_46 : decode cX1_knowers 46 = .ok (.goto (-35), 3) := by decide +kernel
theorem dX1_knowers_49 : decode cX1_knowers 49 = .ok (.iload_n 3, 1) := by decide +kernel
theorem dX1_knowers_50 : decode cX1_knowers 50 = .ok (.ireturn, 1) := by decide +kernel
theorem dX1_vectorOf_0 : decode cX1_vectorOf 0 = .ok (.aload_n 0, 1) := by decide +kernel
theorem dX1_vectorOf_1 : decode cX1_vectorOf 1 = .ok (.invokevirtual 65, 3) := by decide +kernel
theorem dX1_vectorOf_4 : decode cX1_vectorOf 4 = .ok (.iconst 1, 1) := by decide +kernel
theorem dX1_vectorOf_5 : decode cX1_vectorOf 5 = .ok (.isub, 1) := by decide +kernel
theorem dX1_vectorOf_6 : decode cX1_vectorOf 6 = .ok (.istore_n 3, 1) := by decide +kernel
theorem dX1_vectorOf_7 : decode cX1_vectorOf 7 = .ok (.iload_n 3, 1) := by decide +kernel
theorem dX1_vectorOf_8 : decode cX1_vectorOf 8 = .ok (.ifCond .lt 35, 3) := by decide +kernel
theorem dX1_vectorOf_11 : decode cX1_vectorOf 11 = .ok (.aload_n 0, 1) := by decide +kernel
theorem dX1_vectorOf_12 : decode cX1_vectorOf 12 = .ok (.getfield 22, 3) := by decide +kernel
theorem dX1_vectorOf_15 : decode cX1_vectorOf 15 = .ok (.iload_n 3, 1) := by decide +kernel
theorem dX1_vectorOf_16 : decode cX1_vectorOf 16 = .ok (.iaload, 1) := by decide +kernel
theorem dX1_vectorOf_17 : decode cX1_vectorOf 17 = .ok (.iload_n 2, 1) := by decide +kernel
theorem dX1_vectorOf_18 : decode cX1_vectorOf 18 = .ok (.if_icmp .ne 19, 3) := by decide +kernel
theorem dX1_vectorOf_21 : decode cX1_vectorOf 21 = .ok (.aload_n 0, 1) := by decide +kernel
theorem dX1_vectorOf_22 : decode cX1_vectorOf 22 = .ok (.iload_n 1, 1) := by decide +kernel
theorem dX1_vectorOf_23 : decode cX1_vectorOf 23 = .ok (.iload_n 3, 1) := by decide +kernel
theorem dX1_vectorOf_24 : decode cX1_vectorOf 24 = .ok (.invokevirtual 54, 3) := by decide +kernel
theorem dX1_vectorOf_27 : decode cX1_vectorOf 27 = .ok (.ifCond .eq 10, 3) := by decide +kernel
theorem dX1_vectorOf_30 : decode cX1_vectorOf 30 = .ok (.aload_n 0, 1) := by decide +kernel
theorem dX1_vectorOf_31 : decode cX1_vectorOf 31 = .ok (.getfield 25, 3) := by decide +kernel
theorem dX1_vectorOf_34 : decode cX1_vectorOf 34 = .ok (.iload_n 3, 1) := by decide +kernel
theorem dX1_vectorOf_35 : decode cX1_vectorOf 35 = .ok (.iaload, 1) := by decide +kernel
theorem dX1_vectorOf_36 : decode cX1_vectorOf 36 = .ok (.ireturn, 1) := by decide +kernel
theorem dX1_vectorOf_37 : decode cX1_vectorOf 37 = .ok (.iinc 3 (-1), 3) := by decide +kernel
theorem dX1_vectorOf_40 : decode cX1_vectorOf 40 = .ok (.goto (-33), 3) := by decide +kernel
theorem dX1_vectorOf_43 : decode cX1_vectorOf 43 = .ok (.iconst 0, 1) := by decide +kernel
theorem dX1_vectorOf_44 : decode cX1_vectorOf 44 = .ok (.ireturn, 1) := by decide +kernel
theorem dX1_clockOf_0 : decode cX1_clockOf 0 = .ok (.iconst 0, 1) := by decide +kernel
theorem dX1_clockOf_1 : decode cX1_clockOf 1 = .ok (.istore_n 2, 1) := by decide +kernel
theorem dX1_clockOf_2 : decode cX1_clockOf 2 = .ok (.iconst 0, 1) := by decide +kernel
theorem dX1_clockOf_3 : decode cX1_clockOf 3 = .ok (.istore_n 3, 1) := by decide +kernel
theorem dX1_clockOf_4 : decode cX1_clockOf 4 = .ok (.iload_n 3, 1) := by decide +kernel
theorem dX1_clockOf_5 : decode cX1_clockOf 5 = .ok (.aload_n 0, 1) := by decide +kernel
theorem dX1_clockOf_6 : decode cX1_clockOf 6 = .ok (.invokevirtual 51, 3) := by decide +kernel
theorem dX1_clockOf_9 : decode cX1_clockOf 9 = .ok (.if_icmp .ge 20, 3) := by decide +kernel
theorem dX1_clockOf_12 : decode cX1_clockOf 12 = .ok (.iload_n 2, 1) := by decide +kernel
theorem dX1_clockOf_13 : decode cX1_clockOf 13 = .ok (.aload_n 0, 1) := by decide +kernel
theorem dX1_clockOf_14 : decode cX1_clockOf 14 = .ok (.iload_n 1, 1) := by decide +kernel
theorem dX1_clockOf_15 : decode cX1_clockOf 15 = .ok (.iload_n 3, 1) := by decide +kernel
theorem dX1_clockOf_16 : decode cX1_clockOf 16 = .ok (.invokevirtual 68, 3) := by decide +kernel
theorem dX1_clockOf_19 : decode cX1_clockOf 19 = .ok (.invokestatic 72, 3) := by decide +kernel
theorem dX1_clockOf_22 : decode cX1_clockOf 22 = .ok (.istore_n 2, 1) := by decide +kernel
theorem dX1_clockOf_23 : decode cX1_clockOf 23 = .ok (.iinc 3 1, 3) := by decide +kernel
theorem dX1_clockOf_26 : decode cX1_clockOf 26 = .ok (.goto (-22), 3) := by decide +kernel
theorem dX1_clockOf_29 : decode cX1_clockOf 29 = .ok (.iload_n 2, 1) := by decide +kernel
theorem dX1_clockOf_30 : decode cX1_clockOf 30 = .ok (.ireturn, 1) := by decide +kernel
theorem dX1_isLater_0 : decode cX1_isLater 0 = .ok (.aload_n 0, 1) := by decide +kernel
theorem dX1_isLater_1 : decode cX1_isLater 1 = .ok (.getfield 25, 3) := by decide +kernel
theorem dX1_isLater_4 : decode cX1_isLater 4 = .ok (.iload_n 1, 1) := by decide +kernel
theorem dX1_isLater_5 : decode cX1_isLater 5 = .ok (.iaload, 1) := by decide +kernel
theorem dX1_isLater_6 : decode cX1_isLater 6 = .ok (.aload_n 0, 1) := by decide +kernel
theorem dX1_isLater_7 : decode cX1_isLater 7 = .ok (.getfield 25, 3) := by decide +kernel
theorem dX1_isLater_10 : decode cX1_isLater 10 = .ok (.iload_n 2, 1) := by decide +kernel
theorem dX1_isLater_11 : decode cX1_isLater 11 = .ok (.iaload, 1) := by decide +kernel
theorem dX1_isLater_12 : decode cX1_isLater 12 = .ok (.if_icmp .eq 24, 3) := by decide +kernel
theorem dX1_isLater_15 : decode cX1_isLater 15 = .ok (.aload_n 0, 1) := by decide +kernel
theorem dX1_isLater_16 : decode cX1_isLater 16 = .ok (.getfield 25, 3) := by decide +kernel
theorem dX1_isLater_19 : decode cX1_isLater 19 = .ok (.iload_n 1, 1) := by decide +kernel
theorem dX1_isLater_20 : decode cX1_isLater 20 = .ok (.iaload, 1) := by decide +kernel
theorem dX1_isLater_21 : decode cX1_isLater 21 = .ok (.aload_n 0, 1) := by decide +kernel
theorem dX1_isLater_22 : decode cX1_isLater 22 = .ok (.getfield 25, 3) := by decide +kernel
theorem dX1_isLater_25 : decode cX1_isLater 25 = .ok (.iload_n 2, 1) := by decide +kernel
theorem dX1_isLater_26 : decode cX1_isLater 26 = .ok (.iaload, 1) := by decide +kernel
theorem dX1_isLater_27 : decode cX1_isLater 27 = .ok (.if_icmp .le 7, 3) := by decide +kernel
theorem dX1_isLater_30 : decode cX1_isLater 30 = .ok (.iconst 1, 1) := by decide +kernel
theorem dX1_isLater_31 : decode cX1_isLater 31 = .ok (.goto 4, 3) := by decide +kernel
theorem dX1_isLater_34 : decode cX1_isLater 34 = .ok (.iconst 0, 1) := by decide +kernel
theorem dX1_isLater_35 : decode cX1_isLater 35 = .ok (.ireturn, 1) := by decide +kernel
theorem dX1_isLater_36 : decode cX1_isLater 36 = .ok (.aload_n 0, 1) := by decide +kernel
theorem dX1_isLater_37 : decode cX1_isLater 37 = .ok (.getfield 22, 3) := by decide +kernel
theorem dX1_isLater_40 : decode cX1_isLater 40 = .ok (.iload_n 1, 1) := by decide +kernel
theorem dX1_isLater_41 : decode cX1_isLater 41 = .ok (.iaload, 1) := by decide +kernel
theorem dX1_isLater_42 : decode cX1_isLater 42 = .ok (.aload_n 0, 1) := by decide +kernel
theorem dX1_isLater_43 : decode cX1_isLater 43 = .ok (.getfield 22, 3) := by decide +kernel
theorem dX1_isLater_46 : decode cX1_isLater 46 = .ok (.iload_n 2, 1) := by decide +kernel
theorem dX1_isLater_47 : decode cX1_isLater 47 = .ok (.iaload, 1) := by decide +kernel
theorem dX1_isLater_48 : decode cX1_isLater 48 = .ok (.if_icmp .le 7, 3) := by decide +kernel
theorem dX1_isLater_51 : decode cX1_isLater 51 = .ok (.iconst 1, 1) := by decide +kernel
theorem dX1_isLater_52 : decode cX1_isLater 52 = .ok (.goto 4, 3) := by decide +kernel
theorem dX1_isLater_55 : decode cX1_isLater 55 = .ok (.iconst 0, 1) := by decide +kernel
theorem dX1_isLater_56 : decode cX1_isLater 56 = .ok (.ireturn, 1) := by decide +kernel
theorem dX1_layLog_0 : decode cX1_layLog 0 = .ok (.lload_n 1, 1) := by decide +kernel
theorem dX1_layLog_1 : decode cX1_layLog 1 = .ok (.lstore 5, 2) := by decide +kernel
theorem dX1_layLog_3 : decode cX1_layLog 3 = .ok (.iconst 0, 1) := by decide +kernel
theorem dX1_layLog_4 : decode cX1_layLog 4 = .ok (.istore 7, 2) := by decide +kernel
theorem dX1_layLog_6 : decode cX1_layLog 6 = .ok (.iload 7, 2) := by decide +kernel
theorem dX1_layLog_8 : decode cX1_layLog 8 = .ok (.iload_n 3, 1) := by decide +kernel
theorem dX1_layLog_9 : decode cX1_layLog 9 = .ok (.if_icmp .ge 46, 3) := by decide +kernel
theorem dX1_layLog_12 : decode cX1_layLog 12 = .ok (.iload 7, 2) := by decide +kernel
theorem dX1_layLog_14 : decode cX1_layLog 14 = .ok (.bipush 60, 2) := by decide +kernel
theorem dX1_layLog_16 : decode cX1_layLog 16 = .ok (.if_icmp .ge 39, 3) := by decide +kernel
theorem dX1_layLog_19 : decode cX1_layLog 19 = .ok (.aload 4, 2) := by decide +kernel
theorem dX1_layLog_21 : decode cX1_layLog 21 = .ok (.iload 7, 2) := by decide +kernel
theorem dX1_layLog_23 : decode cX1_layLog 23 = .ok (.aload_n 0, 1) := by decide +kernel
theorem dX1_layLog_24 : decode cX1_layLog 24 = .ok (.getfield 28, 3) := by decide +kernel
theorem dX1_layLog_27 : decode cX1_layLog 27 = .ok (.iload 7, 2) := by decide +kernel
theorem dX1_layLog_29 : decode cX1_layLog 29 = .ok (.iaload, 1) := by decide +kernel
theorem dX1_layLog_30 : decode cX1_layLog 30 = .ok (.iastore, 1) := by decide +kernel
theorem dX1_layLog_31 : decode cX1_layLog 31 = .ok (.lload 5, 2) := by decide +kernel
theorem dX1_layLog_33 : decode cX1_layLog 33 = .ok (.lconst 1, 1) := by decide +kernel
theorem dX1_layLog_34 : decode cX1_layLog 34 = .ok (.aload_n 0, 1) := by decide +kernel
theorem dX1_layLog_35 : decode cX1_layLog 35 = .ok (.getfield 28, 3) := by decide +kernel
theorem dX1_layLog_38 : decode cX1_layLog 38 = .ok (.iload 7, 2) := by decide +kernel
theorem dX1_layLog_40 : decode cX1_layLog 40 = .ok (.iaload, 1) := by decide +kernel
theorem dX1_layLog_41 : decode cX1_layLog 41 = .ok (.lshl, 1) := by decide +kernel
theorem dX1_layLog_42 : decode cX1_layLog 42 = .ok (.ldc2_w 77, 3) := by decide +kernel
theorem dX1_layLog_45 : decode cX1_layLog 45 = .ok (.lxor, 1) := by decide +kernel
theorem dX1_layLog_46 : decode cX1_layLog 46 = .ok (.land, 1) := by decide +kernel
theorem dX1_layLog_47 : decode cX1_layLog 47 = .ok (.lstore 5, 2) := by decide +kernel
theorem dX1_layLog_49 : decode cX1_layLog 49 = .ok (.iinc 7 1, 3) := by decide +kernel
theorem dX1_layLog_52 : decode cX1_layLog 52 = .ok (.goto (-46), 3) := by decide +kernel
theorem dX1_layLog_55 : decode cX1_layLog 55 = .ok (.iconst 0, 1) := by decide +kernel
theorem dX1_layLog_56 : decode cX1_layLog 56 = .ok (.istore 8, 2) := by decide +kernel
theorem dX1_layLog_58 : decode cX1_layLog 58 = .ok (.iload 8, 2) := by decide +kernel
theorem dX1_layLog_60 : decode cX1_layLog 60 = .ok (.aload_n 0, 1) := by decide +kernel
theorem dX1_layLog_61 : decode cX1_layLog 61 = .ok (.invokevirtual 65, 3) := by decide +kernel
theorem dX1_layLog_64 : decode cX1_layLog 64 = .ok (.if_icmp .ge 82, 3) := by decide +kernel
theorem dX1_layLog_67 : decode cX1_layLog 67 = .ok (.lload 5, 2) := by decide +kernel
theorem dX1_layLog_69 : decode cX1_layLog 69 = .ok (.iload 8, 2) := by decide +kernel
theorem dX1_layLog_71 : decode cX1_layLog 71 = .ok (.lshr, 1) := by decide +kernel
theorem dX1_layLog_72 : decode cX1_layLog 72 = .ok (.lconst 1, 1) := by decide +kernel
theorem dX1_layLog_73 : decode cX1_layLog 73 = .ok (.land, 1) := by decide +kernel
theorem dX1_layLog_74 : decode cX1_layLog 74 = .ok (.lconst 0, 1) := by decide +kernel
theorem dX1_layLog_75 : decode cX1_layLog 75 = .ok (.lcmp, 1) := by decide +kernel
theorem dX1_layLog_76 : decode cX1_layLog 76 = .ok (.ifCond .eq 64, 3) := by decide +kernel
theorem dX1_layLog_79 : decode cX1_layLog 79 = .ok (.iload 7, 2) := by decide +kernel
theorem dX1_layLog_81 : decode cX1_layLog 81 = .ok (.bipush 60, 2) := by decide +kernel
theorem dX1_layLog_83 : decode cX1_layLog 83 = .ok (.if_icmp .ge 57, 3) := by decide +kernel
theorem dX1_layLog_86 : decode cX1_layLog 86 = .ok (.iload 7, 2) := by decide +kernel
theorem dX1_layLog_88 : decode cX1_layLog 88 = .ok (.istore 9, 2) := by decide +kernel
theorem dX1_layLog_90 : decode cX1_layLog 90 = .ok (.iload 9, 2) := by decide +kernel
theorem dX1_layLog_92 : decode cX1_layLog 92 = .ok (.iload_n 3, 1) := by decide +kernel
theorem dX1_layLog_93 : decode cX1_layLog 93 = .ok (.if_icmp .le 37, 3) := by decide +kernel
theorem dX1_layLog_96 : decode cX1_layLog 96 = .ok (.aload_n 0, 1) := by decide +kernel
theorem dX1_layLog_97 : decode cX1_layLog 97 = .ok (.aload 4, 2) := by decide +kernel
theorem dX1_layLog_99 : decode cX1_layLog 99 = .ok (.iload 9, 2) := by decide +kernel
theorem dX1_layLog_101 : decode cX1_layLog 101 = .ok (.iconst 1, 1) := by decide +kernel
theorem dX1_layLog_102 : decode cX1_layLog 102 = .ok (.isub, 1) := by decide +kernel
theorem dX1_layLog_103 : decode cX1_layLog 103 = .ok (.iaload, 1) := by decide +kernel
theorem dX1_layLog_104 : decode cX1_layLog 104 = .ok (.iload 8, 2) := by decide +kernel
theorem dX1_layLog_106 : decode cX1_layLog 106 = .ok (.invokevirtual 79, 3) := by decide +kernel
theorem dX1_layLog_109 : decode cX1_layLog 109 = .ok (.ifCond .eq 21, 3) := by decide +kernel
theorem dX1_layLog_112 : decode cX1_layLog 112 = .ok (.aload 4, 2) := by decide +kernel
theorem dX1_layLog_114 : decode cX1_layLog 114 = .ok (.iload 9, 2) := by decide +kernel
theorem dX1_layLog_116 : decode cX1_layLog 116 = .ok (.aload 4, 2) := by decide +kernel
theorem dX1_layLog_118 : decode cX1_layLog 118 = .ok (.iload 9, 2) := by decide +kernel
theorem dX1_layLog_120 : decode cX1_layLog 120 = .ok (.iconst 1, 1) := by decide +kernel
theorem dX1_layLog_121 : decode cX1_layLog 121 = .ok (.isub, 1) := by decide +kernel
theorem dX1_layLog_122 : decode cX1_layLog 122 = .ok (.iaload, 1) := by decide +kernel
theorem dX1_layLog_123 : decode cX1_layLog 123 = .ok (.iastore, 1) := by decide +kernel
theorem dX1_layLog_124 : decode cX1_layLog 124 = .ok (.iinc 9 (-1), 3) := by decide +kernel
theorem dX1_layLog_127 : decode cX1_layLog 127 = .ok (.goto (-37), 3) := by decide +kernel
theorem dX1_layLog_130 : decode cX1_layLog 130 = .ok (.aload 4, 2) := by decide +kernel
theorem dX1_layLog_132 : decode cX1_layLog 132 = .ok (.iload 9, 2) := by decide +kernel
theorem dX1_layLog_134 : decode cX1_layLog 134 = .ok (.iload 8, 2) := by decide +kernel
theorem dX1_layLog_136 : decode cX1_layLog 136 = .ok (.iastore, 1) := by decide +kernel
theorem dX1_layLog_137 : decode cX1_layLog 137 = .ok (.iinc 7 1, 3) := by decide +kernel
theorem dX1_layLog_140 : decode cX1_layLog 140 = .ok (.iinc 8 1, 3) := by decide +kernel
theorem dX1_layLog_143 : decode cX1_layLog 143 = .ok (.goto (-85), 3) := by decide +kernel
theorem dX1_layLog_146 : decode cX1_layLog 146 = .ok (.iload 7, 2) := by decide +kernel
theorem dX1_layLog_148 : decode cX1_layLog 148 = .ok (.ireturn, 1) := by decide +kernel
theorem dX1_alikeFromStart_0 : decode cX1_alikeFromStart 0 = .ok (.iconst 0, 1) := by decide +kernel
theorem dX1_alikeFromStart_1 : decode cX1_alikeFromStart 1 = .ok (.istore 4, 2) := by decide +kernel
theorem dX1_alikeFromStart_3 : decode cX1_alikeFromStart 3 = .ok (.iload 4, 2) := by decide +kernel
theorem dX1_alikeFromStart_5 : decode cX1_alikeFromStart 5 = .ok (.iload_n 1, 1) := by decide +kernel
theorem dX1_alikeFromStart_6 : decode cX1_alikeFromStart 6 = .ok (.if_icmp .ge 26, 3) := by decide +kernel
theorem dX1_alikeFromStart_9 : decode cX1_alikeFromStart 9 = .ok (.iload 4, 2) := by decide +kernel
theorem dX1_alikeFromStart_11 : decode cX1_alikeFromStart 11 = .ok (.iload_n 3, 1) := by decide +kernel
theorem dX1_alikeFromStart_12 : decode cX1_alikeFromStart 12 = .ok (.if_icmp .ge 20, 3) := by decide +kernel
theorem dX1_alikeFromStart_15 : decode cX1_alikeFromStart 15 = .ok (.aload_n 0, 1) := by decide +kernel
theorem dX1_alikeFromStart_16 : decode cX1_alikeFromStart 16 = .ok (.iload 4, 2) := by decide +kernel
theorem dX1_alikeFromStart_18 : decode cX1_alikeFromStart 18 = .ok (.iaload, 1) := by decide +kernel
theorem dX1_alikeFromStart_19 : decode cX1_alikeFromStart 19 = .ok (.aload_n 2, 1) := by decide +kernel
theorem dX1_alikeFromStart_20 : decode cX1_alikeFromStart 20 = .ok (.iload 4, 2) := by decide +kernel
theorem dX1_alikeFromStart_22 : decode cX1_alikeFromStart 22 = .ok (.iaload, 1) := by decide +kernel
theorem dX1_alikeFromStart_23 : decode cX1_alikeFromStart 23 = .ok (.if_icmp .ne 9, 3) := by decide +kernel
theorem dX1_alikeFromStart_26 : decode cX1_alikeFromStart 26 = .ok (.iinc 4 1, 3) := by decide +kernel
theorem dX1_alikeFromStart_29 : decode cX1_alikeFromStart 29 = .ok (.goto (-26), 3) := by decide +kernel
theorem dX1_alikeFromStart_32 : decode cX1_alikeFromStart 32 = .ok (.iload 4, 2) := by decide +kernel
theorem dX1_alikeFromStart_34 : decode cX1_alikeFromStart 34 = .ok (.ireturn, 1) := by decide +kernel
theorem dX1_giveOrder_0 : decode cX1_giveOrder 0 = .ok (.aload_n 0, 1) := by decide +kernel
theorem dX1_giveOrder_1 : decode cX1_giveOrder 1 = .ok (.invokevirtual 47, 3) := by decide +kernel
theorem dX1_giveOrder_4 : decode cX1_giveOrder 4 = .ok (.istore_n 3, 1) := by decide +kernel
theorem dX1_giveOrder_5 : decode cX1_giveOrder 5 = .ok (.iload_n 3, 1) := by decide +kernel
theorem dX1_giveOrder_6 : decode cX1_giveOrder 6 = .ok (.iload_n 2, 1) := by decide +kernel
theorem dX1_giveOrder_7 : decode cX1_giveOrder 7 = .ok (.if_icmp .ge 18, 3) := by decide +kernel
theorem dX1_giveOrder_10 : decode cX1_giveOrder 10 = .ok (.aload_n 0, 1) := by decide +kernel
theorem dX1_giveOrder_11 : decode cX1_giveOrder 11 = .ok (.getfield 28, 3) := by decide +kernel
theorem dX1_giveOrder_14 : decode cX1_giveOrder 14 = .ok (.iload_n 3, 1) := by decide +kernel
theorem dX1_giveOrder_15 : decode cX1_giveOrder 15 = .ok (.aload_n 1, 1) := by decide +kernel
theorem dX1_giveOrder_16 : decode cX1_giveOrder 16 = .ok (.iload_n 3, 1) := by decide +kernel
theorem dX1_giveOrder_17 : decode cX1_giveOrder 17 = .ok (.iaload, 1) := by decide +kernel
theorem dX1_giveOrder_18 : decode cX1_giveOrder 18 = .ok (.iastore, 1) := by decide +kernel
theorem dX1_giveOrder_19 : decode cX1_giveOrder 19 = .ok (.iinc 3 1, 3) := by decide +kernel
theorem dX1_giveOrder_22 : decode cX1_giveOrder 22 = .ok (.goto (-17), 3) := by decide +kernel
theorem dX1_giveOrder_25 : decode cX1_giveOrder 25 = .ok (.aload_n 0, 1) := by decide +kernel
theorem dX1_giveOrder_26 : decode cX1_giveOrder 26 = .ok (.getfield 11, 3) := by decide +kernel
theorem dX1_giveOrder_29 : decode cX1_giveOrder 29 = .ok (.iconst 3, 1) := by decide +kernel
theorem dX1_giveOrder_30 : decode cX1_giveOrder 30 = .ok (.iload_n 2, 1) := by decide +kernel
theorem dX1_giveOrder_31 : decode cX1_giveOrder 31 = .ok (.i2l, 1) := by decide +kernel
theorem dX1_giveOrder_32 : decode cX1_giveOrder 32 = .ok (.lastore, 1) := by decide +kernel
theorem dX1_giveOrder_33 : decode cX1_giveOrder 33 = .ok (.aload_n 0, 1) := by decide +kernel
theorem dX1_giveOrder_34 : decode cX1_giveOrder 34 = .ok (.getfield 11, 3) := by decide +kernel
theorem dX1_giveOrder_37 : decode cX1_giveOrder 37 = .ok (.bipush 11, 2) := by decide +kernel
theorem dX1_giveOrder_39 : decode cX1_giveOrder 39 = .ok (.aload_n 0, 1) := by decide +kernel
theorem dX1_giveOrder_40 : decode cX1_giveOrder 40 = .ok (.invokevirtual 85, 3) := by decide +kernel
theorem dX1_giveOrder_43 : decode cX1_giveOrder 43 = .ok (.iadd, 1) := by decide +kernel
theorem dX1_giveOrder_44 : decode cX1_giveOrder 44 = .ok (.iload_n 2, 1) := by decide +kernel
theorem dX1_giveOrder_45 : decode cX1_giveOrder 45 = .ok (.i2l, 1) := by decide +kernel
theorem dX1_giveOrder_46 : decode cX1_giveOrder 46 = .ok (.lastore, 1) := by decide +kernel
theorem dX1_giveOrder_47 : decode cX1_giveOrder 47 = .ok (.return_, 1) := by decide +kernel
theorem dX1_addWrite_0 : decode cX1_addWrite 0 = .ok (.aload_n 0, 1) := by decide +kernel
theorem dX1_addWrite_1 : decode cX1_addWrite 1 = .ok (.invokevirtual 65, 3) := by decide +kernel
theorem dX1_addWrite_4 : decode cX1_addWrite 4 = .ok (.istore 5, 2) := by decide +kernel
theorem dX1_addWrite_6 : decode cX1_addWrite 6 = .ok (.aload_n 0, 1) := by decide +kernel
theorem dX1_addWrite_7 : decode cX1_addWrite 7 = .ok (.getfield 15, 3) := by decide +kernel
theorem dX1_addWrite_10 : decode cX1_addWrite 10 = .ok (.iload 5, 2) := by decide +kernel
theorem dX1_addWrite_12 : decode cX1_addWrite 12 = .ok (.iload_n 3, 1) := by decide +kernel
theorem dX1_addWrite_13 : decode cX1_addWrite 13 = .ok (.iastore, 1) := by decide +kernel
theorem dX1_addWrite_14 : decode cX1_addWrite 14 = .ok (.aload_n 0, 1) := by decide +kernel
theorem dX1_addWrite_15 : decode cX1_addWrite 15 = .ok (.getfield 19, 3) := by decide +kernel
theorem dX1_addWrite_18 : decode cX1_addWrite 18 = .ok (.iload 5, 2) := by decide +kernel
theorem dX1_addWrite_20 : decode cX1_addWrite 20 = .ok (.iload 4, 2) := by decide +kernel
theorem dX1_addWrite_22 : decode cX1_addWrite 22 = .ok (.iastore, 1) := by decide +kernel
theorem dX1_addWrite_23 : decode cX1_addWrite 23 = .ok (.aload_n 0, 1) := by decide +kernel
theorem dX1_addWrite_24 : decode cX1_addWrite 24 = .ok (.getfield 22, 3) := by decide +kernel
theorem dX1_addWrite_27 : decode cX1_addWrite 27 = .ok (.iload 5, 2) := by decide +kernel
theorem dX1_addWrite_29 : decode cX1_addWrite 29 = .ok (.iload_n 2, 1) := by decide +kernel
theorem dX1_addWrite_30 : decode cX1_addWrite 30 = .ok (.iastore, 1) := by decide +kernel
theorem dX1_addWrite_31 : decode cX1_addWrite 31 = .ok (.aload_n 0, 1) := by decide +kernel
theorem dX1_addWrite_32 : decode cX1_addWrite 32 = .ok (.getfield 25, 3) := by decide +kernel
theorem dX1_addWrite_35 : decode cX1_addWrite 35 = .ok (.iload 5, 2) := by decide +kernel
theorem dX1_addWrite_37 : decode cX1_addWrite 37 = .ok (.aload_n 0, 1) := by decide +kernel
theorem dX1_addWrite_38 : decode cX1_addWrite 38 = .ok (.iload_n 2, 1) := by decide +kernel
theorem dX1_addWrite_39 : decode cX1_addWrite 39 = .ok (.invokevirtual 82, 3) := by decide +kernel
theorem dX1_addWrite_42 : decode cX1_addWrite 42 = .ok (.iconst 1, 1) := by decide +kernel
theorem dX1_addWrite_43 : decode cX1_addWrite 43 = .ok (.iadd, 1) := by decide +kernel
theorem dX1_addWrite_44 : decode cX1_addWrite 44 = .ok (.iastore, 1) := by decide +kernel
theorem dX1_addWrite_45 : decode cX1_addWrite 45 = .ok (.aload_n 0, 1) := by decide +kernel
theorem dX1_addWrite_46 : decode cX1_addWrite 46 = .ok (.getfield 11, 3) := by decide +kernel
theorem dX1_addWrite_49 : decode cX1_addWrite 49 = .ok (.iconst 2, 1) := by decide +kernel
theorem dX1_addWrite_50 : decode cX1_addWrite 50 = .ok (.dup2, 1) := by decide +kernel
theorem dX1_addWrite_51 : decode cX1_addWrite 51 = .ok (.laload, 1) := by decide +kernel
theorem dX1_addWrite_52 : decode cX1_addWrite 52 = .ok (.lconst 1, 1) := by decide +kernel
theorem dX1_addWrite_53 : decode cX1_addWrite 53 = .ok (.ladd, 1) := by decide +kernel
theorem dX1_addWrite_54 : decode cX1_addWrite 54 = .ok (.lastore, 1) := by decide +kernel
theorem dX1_addWrite_55 : decode cX1_addWrite 55 = .ok (.aload_n 0, 1) := by decide +kernel
theorem dX1_addWrite_56 : decode cX1_addWrite 56 = .ok (.getfield 11, 3) := by decide +kernel
theorem dX1_addWrite_59 : decode cX1_addWrite 59 = .ok (.bipush 6, 2) := by decide +kernel
theorem dX1_addWrite_61 : decode cX1_addWrite 61 = .ok (.iload_n 2, 1) := by decide +kernel
theorem dX1_addWrite_62 : decode cX1_addWrite 62 = .ok (.iadd, 1) := by decide +kernel
theorem dX1_addWrite_63 : decode cX1_addWrite 63 = .ok (.dup2, 1) := by decide +kernel
theorem dX1_addWrite_64 : decode cX1_addWrite 64 = .ok (.laload, 1) := by decide +kernel
theorem dX1_addWrite_65 : decode cX1_addWrite 65 = .ok (.lconst 1, 1) := by decide +kernel
theorem dX1_addWrite_66 : decode cX1_addWrite 66 = .ok (.iload 5, 2) := by decide +kernel
theorem dX1_addWrite_68 : decode cX1_addWrite 68 = .ok (.lshl, 1) := by decide +kernel
theorem dX1_addWrite_69 : decode cX1_addWrite 69 = .ok (.lor, 1) := by decide +kernel
theorem dX1_addWrite_70 : decode cX1_addWrite 70 = .ok (.lastore, 1) := by decide +kernel
theorem dX1_addWrite_71 : decode cX1_addWrite 71 = .ok (.iload_n 1, 1) := by decide +kernel
theorem dX1_addWrite_72 : decode cX1_addWrite 72 = .ok (.iconst (-1), 1) := by decide +kernel
theorem dX1_addWrite_73 : decode cX1_addWrite 73 = .ok (.if_icmp .eq 24, 3) := by decide +kernel
theorem dX1_addWrite_76 : decode cX1_addWrite 76 = .ok (.aload_n 0, 1) := by decide +kernel
theorem dX1_addWrite_77 : decode cX1_addWrite 77 = .ok (.getfield 11, 3) := by decide +kernel
theorem dX1_addWrite_80 : decode cX1_addWrite 80 = .ok (.bipush 76, 2) := by decide +kernel
theorem dX1_addWrite_82 : decode cX1_addWrite 82 = .ok (.iload_n 1, 1) := by decide +kernel
theorem dX1_addWrite_83 : decode cX1_addWrite 83 = .ok (.iconst 5, 1) := by decide +kernel
theorem dX1_addWrite_84 : decode cX1_addWrite 84 = .ok (.imul, 1) := by decide +kernel
theorem dX1_addWrite_85 : decode cX1_addWrite 85 = .ok (.iadd, 1) := by decide +kernel
theorem dX1_addWrite_86 : decode cX1_addWrite 86 = .ok (.iload_n 2, 1) := by decide +kernel
theorem dX1_addWrite_87 : decode cX1_addWrite 87 = .ok (.iadd, 1) := by decide +kernel
theorem dX1_addWrite_88 : decode cX1_addWrite 88 = .ok (.aload_n 0, 1) := by decide +kernel
theorem dX1_addWrite_89 : decode cX1_addWrite 89 = .ok (.getfield 25, 3) := by decide +kernel
theorem dX1_addWrite_92 : decode cX1_addWrite 92 = .ok (.iload 5, 2) := by decide +kernel
theorem dX1_addWrite_94 : decode cX1_addWrite 94 = .ok (.iaload, 1) := by decide +kernel
theorem dX1_addWrite_95 : decode cX1_addWrite 95 = .ok (.i2l, 1) := by decide +kernel
theorem dX1_addWrite_96 : decode cX1_addWrite 96 = .ok (.lastore, 1) := by decide +kernel
theorem dX1_addWrite_97 : decode cX1_addWrite 97 = .ok (.iload_n 2, 1) := by decide +kernel
theorem dX1_addWrite_98 : decode cX1_addWrite 98 = .ok (.aload_n 0, 1) := by decide +kernel
theorem dX1_addWrite_99 : decode cX1_addWrite 99 = .ok (.invokevirtual 85, 3) := by decide +kernel
theorem dX1_addWrite_102 : decode cX1_addWrite 102 = .ok (.if_icmp .ne 29, 3) := by decide +kernel
theorem dX1_addWrite_105 : decode cX1_addWrite 105 = .ok (.aload_n 0, 1) := by decide +kernel
theorem dX1_addWrite_106 : decode cX1_addWrite 106 = .ok (.aload_n 0, 1) := by decide +kernel
theorem dX1_addWrite_107 : decode cX1_addWrite 107 = .ok (.getfield 34, 3) := by decide +kernel
theorem dX1_addWrite_110 : decode cX1_addWrite 110 = .ok (.aload_n 0, 1) := by decide +kernel
theorem dX1_addWrite_111 : decode cX1_addWrite 111 = .ok (.aload_n 0, 1) := by decide +kernel
theorem dX1_addWrite_112 : decode cX1_addWrite 112 = .ok (.iload_n 2, 1) := by decide +kernel
theorem dX1_addWrite_113 : decode cX1_addWrite 113 = .ok (.invokevirtual 43, 3) := by decide +kernel
theorem dX1_addWrite_116 : decode cX1_addWrite 116 = .ok (.aload_n 0, 1) := by decide +kernel
theorem dX1_addWrite_117 : decode cX1_addWrite 117 = .ok (.iload_n 2, 1) := by decide +kernel
theorem dX1_addWrite_118 : decode cX1_addWrite 118 = .ok (.invokevirtual 62, 3) := by decide +kernel
theorem dX1_addWrite_121 : decode cX1_addWrite 121 = .ok (.aload_n 0, 1) := by decide +kernel
theorem dX1_addWrite_122 : decode cX1_addWrite 122 = .ok (.getfield 34, 3) := by decide +kernel
theorem dX1_addWrite_125 : decode cX1_addWrite 125 = .ok (.invokevirtual 88, 3) := by decide +kernel
theorem dX1_addWrite_128 : decode cX1_addWrite 128 = .ok (.invokevirtual 92, 3) := by decide +kernel
theorem dX1_addWrite_131 : decode cX1_addWrite 131 = .ok (.iload 5, 2) := by decide +kernel
theorem dX1_addWrite_133 : decode cX1_addWrite 133 = .ok (.ireturn, 1) := by decide +kernel
theorem dX1_openLog_0 : decode cX1_openLog 0 = .ok (.aload_n 0, 1) := by decide +kernel
theorem dX1_openLog_1 : decode cX1_openLog 1 = .ok (.getfield 11, 3) := by decide +kernel
theorem dX1_openLog_4 : decode cX1_openLog 4 = .ok (.bipush 26, 2) := by decide +kernel
theorem dX1_openLog_6 : decode cX1_openLog 6 = .ok (.iload_n 1, 1) := by decide +kernel
theorem dX1_openLog_7 : decode cX1_openLog 7 = .ok (.iadd, 1) := by decide +kernel
theorem dX1_openLog_8 : decode cX1_openLog 8 = .ok (.dup2, 1) := by decide +kernel
theorem dX1_openLog_9 : decode cX1_openLog 9 = .ok (.laload, 1) := by decide +kernel
theorem dX1_openLog_10 : decode cX1_openLog 10 = .ok (.lconst 1, 1) := by decide +kernel
theorem dX1_openLog_11 : decode cX1_openLog 11 = .ok (.ladd, 1) := by decide +kernel
theorem dX1_openLog_12 : decode cX1_openLog 12 = .ok (.lastore, 1) := by decide +kernel
theorem dX1_openLog_13 : decode cX1_openLog 13 = .ok (.return_, 1) := by decide +kernel
theorem dX1_closeLog_0 : decode cX1_closeLog 0 = .ok (.aload_n 0, 1) := by decide +kernel
theorem dX1_closeLog_1 : decode cX1_closeLog 1 = .ok (.getfield 11, 3) := by decide +kernel
theorem dX1_closeLog_4 : decode cX1_closeLog 4 = .ok (.bipush 31, 2) := by decide +kernel
theorem dX1_closeLog_6 : decode cX1_closeLog 6 = .ok (.iload_n 1, 1) := by decide +kernel
theorem dX1_closeLog_7 : decode cX1_closeLog 7 = .ok (.iadd, 1) := by decide +kernel
theorem dX1_closeLog_8 : decode cX1_closeLog 8 = .ok (.dup2, 1) := by decide +kernel
theorem dX1_closeLog_9 : decode cX1_closeLog 9 = .ok (.laload, 1) := by decide +kernel
theorem dX1_closeLog_10 : decode cX1_closeLog 10 = .ok (.lconst 1, 1) := by decide +kernel
theorem dX1_closeLog_11 : decode cX1_closeLog 11 = .ok (.ladd, 1) := by decide +kernel
theorem dX1_closeLog_12 : decode cX1_closeLog 12 = .ok (.lastore, 1) := by decide +kernel
theorem dX1_closeLog_13 : decode cX1_closeLog 13 = .ok (.bipush 7, 2) := by decide +kernel
theorem dX1_closeLog_15 : decode cX1_closeLog 15 = .ok (.istore_n 2, 1) := by decide +kernel
theorem dX1_closeLog_16 : decode cX1_closeLog 16 = .ok (.iload_n 2, 1) := by decide +kernel
theorem dX1_closeLog_17 : decode cX1_closeLog 17 = .ok (.ifCond .le 29, 3) := by decide +kernel
theorem dX1_closeLog_20 : decode cX1_closeLog 20 = .ok (.aload_n 0, 1) := by decide +kernel
theorem dX1_closeLog_21 : decode cX1_closeLog 21 = .ok (.getfield 11, 3) := by decide +kernel
theorem dX1_closeLog_24 : decode cX1_closeLog 24 = .ok (.bipush 36, 2) := by decide +kernel
theorem dX1_closeLog_26 : decode cX1_closeLog 26 = .ok (.iload_n 2, 1) := by decide +kernel
theorem dX1_closeLog_27 : decode cX1_closeLog 27 = .ok (.iadd, 1) := by decide +kernel
theorem dX1_closeLog_28 : decode cX1_closeLog 28 = .ok (.aload_n 0, 1) := by decide +kernel
theorem dX1_closeLog_29 : decode cX1_closeLog 29 = .ok (.getfield 11, 3) := by decide +kernel
theorem dX1_closeLog_32 : decode cX1_closeLog 32 = .ok (.bipush 36, 2) := by decide +kernel
theorem dX1_closeLog_34 : decode cX1_closeLog 34 = .ok (.iload_n 2, 1) := by decide +kernel
theorem dX1_closeLog_35 : decode cX1_closeLog 35 = .ok (.iadd, 1) := by decide +kernel
theorem dX1_closeLog_36 : decode cX1_closeLog 36 = .ok (.iconst 1, 1) := by decide +kernel
theorem dX1_closeLog_37 : decode cX1_closeLog 37 = .ok (.isub, 1) := by decide +kernel
theorem dX1_closeLog_38 : decode cX1_closeLog 38 = .ok (.laload, 1) := by decide +kernel
theorem dX1_closeLog_39 : decode cX1_closeLog 39 = .ok (.lastore, 1) := by decide +kernel
theorem dX1_closeLog_40 : decode cX1_closeLog 40 = .ok (.iinc 2 (-1), 3) := by decide +kernel
theorem dX1_closeLog_43 : decode cX1_closeLog 43 = .ok (.goto (-27), 3) := by decide +kernel
theorem dX1_closeLog_46 : decode cX1_closeLog 46 = .ok (.aload_n 0, 1) := by decide +kernel
theorem dX1_closeLog_47 : decode cX1_closeLog 47 = .ok (.getfield 11, 3) := by decide +kernel
theorem dX1_closeLog_50 : decode cX1_closeLog 50 = .ok (.bipush 36, 2) := by decide +kernel
theorem dX1_closeLog_52 : decode cX1_closeLog 52 = .ok (.iload_n 1, 1) := by decide +kernel
theorem dX1_closeLog_53 : decode cX1_closeLog 53 = .ok (.i2l, 1) := by decide +kernel
theorem dX1_closeLog_54 : decode cX1_closeLog 54 = .ok (.lastore, 1) := by decide +kernel
theorem dX1_closeLog_55 : decode cX1_closeLog 55 = .ok (.aload_n 0, 1) := by decide +kernel
theorem dX1_closeLog_56 : decode cX1_closeLog 56 = .ok (.getfield 11, 3) := by decide +kernel
theorem dX1_closeLog_59 : decode cX1_closeLog 59 = .ok (.iconst 5, 1) := by decide +kernel
theorem dX1_closeLog_60 : decode cX1_closeLog 60 = .ok (.aload_n 0, 1) := by decide +kernel
theorem dX1_closeLog_61 : decode cX1_closeLog 61 = .ok (.getfield 11, 3) := by decide +kernel
theorem dX1_closeLog_64 : decode cX1_closeLog 64 = .ok (.iconst 5, 1) := by decide +kernel
theorem dX1_closeLog_65 : decode cX1_closeLog 65 = .ok (.laload, 1) := by decide +kernel
theorem dX1_closeLog_66 : decode cX1_closeLog 66 = .ok (.lconst 1, 1) := by decide +kernel
theorem dX1_closeLog_67 : decode cX1_closeLog 67 = .ok (.ladd, 1) := by decide +kernel
theorem dX1_closeLog_68 : decode cX1_closeLog 68 = .ok (.ldc2_w 110, 3) := by decide +kernel
theorem dX1_closeLog_71 : decode cX1_closeLog 71 = .ok (.invokestatic 112, 3) := by decide +kernel
theorem dX1_closeLog_74 : decode cX1_closeLog 74 = .ok (.lastore, 1) := by decide +kernel
theorem dX1_closeLog_75 : decode cX1_closeLog 75 = .ok (.return_, 1) := by decide +kernel
theorem dX1_holdMeeting_0 : decode cX1_holdMeeting 0 = .ok (.aload_n 0, 1) := by decide +kernel
theorem dX1_holdMeeting_1 : decode cX1_holdMeeting 1 = .ok (.iload_n 2, 1) := by decide +kernel
theorem dX1_holdMeeting_2 : decode cX1_holdMeeting 2 = .ok (.invokevirtual 96, 3) := by decide +kernel
theorem dX1_holdMeeting_5 : decode cX1_holdMeeting 5 = .ok (.aload_n 0, 1) := by decide +kernel
theorem dX1_holdMeeting_6 : decode cX1_holdMeeting 6 = .ok (.iload_n 1, 1) := by decide +kernel
theorem dX1_holdMeeting_7 : decode cX1_holdMeeting 7 = .ok (.invokevirtual 96, 3) := by decide +kernel
theorem dX1_holdMeeting_10 : decode cX1_holdMeeting 10 = .ok (.aload_n 0, 1) := by decide +kernel
theorem dX1_holdMeeting_11 : decode cX1_holdMeeting 11 = .ok (.aload_n 0, 1) := by decide +kernel
theorem dX1_holdMeeting_12 : decode cX1_holdMeeting 12 = .ok (.iload_n 2, 1) := by decide +kernel
theorem dX1_holdMeeting_13 : decode cX1_holdMeeting 13 = .ok (.invokevirtual 43, 3) := by decide +kernel
theorem dX1_holdMeeting_16 : decode cX1_holdMeeting 16 = .ok (.aload_n 0, 1) := by decide +kernel
theorem dX1_holdMeeting_17 : decode cX1_holdMeeting 17 = .ok (.iload_n 2, 1) := by decide +kernel
theorem dX1_holdMeeting_18 : decode cX1_holdMeeting 18 = .ok (.invokevirtual 62, 3) := by decide +kernel
theorem dX1_holdMeeting_21 : decode cX1_holdMeeting 21 = .ok (.aload_n 0, 1) := by decide +kernel
theorem dX1_holdMeeting_22 : decode cX1_holdMeeting 22 = .ok (.getfield 31, 3) := by decide +kernel
theorem dX1_holdMeeting_25 : decode cX1_holdMeeting 25 = .ok (.invokevirtual 88, 3) := by decide +kernel
theorem dX1_holdMeeting_28 : decode cX1_holdMeeting 28 = .ok (.istore_n 3, 1) := by decide +kernel
theorem dX1_holdMeeting_29 : decode cX1_holdMeeting 29 = .ok (.aload_n 0, 1) := by decide +kernel
theorem dX1_holdMeeting_30 : decode cX1_holdMeeting 30 = .ok (.iload_n 1, 1) := by decide +kernel
theorem dX1_holdMeeting_31 : decode cX1_holdMeeting 31 = .ok (.invokevirtual 43, 3) := by decide +kernel
theorem dX1_holdMeeting_34 : decode cX1_holdMeeting 34 = .ok (.aload_n 0, 1) := by decide +kernel
theorem dX1_holdMeeting_35 : decode cX1_holdMeeting 35 = .ok (.iload_n 2, 1) := by decide +kernel
theorem dX1_holdMeeting_36 : decode cX1_holdMeeting 36 = .ok (.invokevirtual 43, 3) := by decide +kernel
theorem dX1_holdMeeting_39 : decode cX1_holdMeeting 39 = .ok (.ldc2_w 77, 3) := by decide +kernel
theorem dX1_holdMeeting_42 : decode cX1_holdMeeting 42 = .ok (.lxor, 1) := by decide +kernel
theorem dX1_holdMeeting_43 : decode cX1_holdMeeting 43 = .ok (.land, 1) := by decide +kernel
theorem dX1_holdMeeting_44 : decode cX1_holdMeeting 44 = .ok (.lconst 0, 1) := by decide +kernel
theorem dX1_holdMeeting_45 : decode cX1_holdMeeting 45 = .ok (.lcmp, 1) := by decide +kernel
theorem dX1_holdMeeting_46 : decode cX1_holdMeeting 46 = .ok (.ifCond .eq 7, 3) := by decide +kernel
theorem dX1_holdMeeting_49 : decode cX1_holdMeeting 49 = .ok (.iconst 1, 1) := by decide +kernel
theorem dX1_holdMeeting_50 : decode cX1_holdMeeting 50 = .ok (.goto 4, 3) := by decide +kernel
theorem dX1_holdMeeting_53 : decode cX1_holdMeeting 53 = .ok (.iconst 0, 1) := by decide +kernel
theorem dX1_holdMeeting_54 : decode cX1_holdMeeting 54 = .ok (.istore 4, 2) := by decide +kernel
theorem dX1_holdMeeting_56 : decode cX1_holdMeeting 56 = .ok (.aload_n 0, 1) := by decide +kernel
theorem dX1_holdMeeting_57 : decode cX1_holdMeeting 57 = .ok (.getfield 11, 3) := by decide +kernel
theorem dX1_holdMeeting_60 : decode cX1_holdMeeting 60 = .ok (.bipush 6, 2) := by decide +kernel
theorem dX1_holdMeeting_62 : decode cX1_holdMeeting 62 = .ok (.iload_n 2, 1) := by decide +kernel
theorem dX1_holdMeeting_63 : decode cX1_holdMeeting 63 = .ok (.iadd, 1) := by decide +kernel
theorem dX1_holdMeeting_64 : decode cX1_holdMeeting 64 = .ok (.dup2, 1) := by decide +kernel
theorem dX1_holdMeeting_65 : decode cX1_holdMeeting 65 = .ok (.laload, 1) := by decide +kernel
theorem dX1_holdMeeting_66 : decode cX1_holdMeeting 66 = .ok (.aload_n 0, 1) := by decide +kernel
theorem dX1_holdMeeting_67 : decode cX1_holdMeeting 67 = .ok (.getfield 11, 3) := by decide +kernel
theorem dX1_holdMeeting_70 : decode cX1_holdMeeting 70 = .ok (.bipush 6, 2) := by decide +kernel
theorem dX1_holdMeeting_72 : decode cX1_holdMeeting 72 = .ok (.iload_n 1, 1) := by decide +kernel
theorem dX1_holdMeeting_73 : decode cX1_holdMeeting 73 = .ok (.iadd, 1) := by decide +kernel
theorem dX1_holdMeeting_74 : decode cX1_holdMeeting 74 = .ok (.laload, 1) := by decide +kernel
theorem dX1_holdMeeting_75 : decode cX1_holdMeeting 75 = .ok (.lor, 1) := by decide +kernel
theorem dX1_holdMeeting_76 : decode cX1_holdMeeting 76 = .ok (.lastore, 1) := by decide +kernel
theorem dX1_holdMeeting_77 : decode cX1_holdMeeting 77 = .ok (.aload_n 0, 1) := by decide +kernel
theorem dX1_holdMeeting_78 : decode cX1_holdMeeting 78 = .ok (.getfield 11, 3) := by decide +kernel
theorem dX1_holdMeeting_81 : decode cX1_holdMeeting 81 = .ok (.bipush 11, 2) := by decide +kernel
theorem dX1_holdMeeting_83 : decode cX1_holdMeeting 83 = .ok (.iload_n 2, 1) := by decide +kernel
theorem dX1_holdMeeting_84 : decode cX1_holdMeeting 84 = .ok (.iadd, 1) := by decide +kernel
theorem dX1_holdMeeting_85 : decode cX1_holdMeeting 85 = .ok (.aload_n 0, 1) := by decide +kernel
theorem dX1_holdMeeting_86 : decode cX1_holdMeeting 86 = .ok (.getfield 11, 3) := by decide +kernel
theorem dX1_holdMeeting_89 : decode cX1_holdMeeting 89 = .ok (.bipush 11, 2) := by decide +kernel
theorem dX1_holdMeeting_91 : decode cX1_holdMeeting 91 = .ok (.iload_n 2, 1) := by decide +kernel
theorem dX1_holdMeeting_92 : decode cX1_holdMeeting 92 = .ok (.iadd, 1) := by decide +kernel
theorem dX1_holdMeeting_93 : decode cX1_holdMeeting 93 = .ok (.laload, 1) := by decide +kernel
theorem dX1_holdMeeting_94 : decode cX1_holdMeeting 94 = .ok (.aload_n 0, 1) := by decide +kernel
theorem dX1_holdMeeting_95 : decode cX1_holdMeeting 95 = .ok (.getfield 11, 3) := by decide +kernel
theorem dX1_holdMeeting_98 : decode cX1_holdMeeting 98 = .ok (.bipush 11, 2) := by decide +kernel
theorem dX1_holdMeeting_100 : decode cX1_holdMeeting 100 = .ok (.iload_n 1, 1) := by decide +kernel
theorem dX1_holdMeeting_101 : decode cX1_holdMeeting 101 = .ok (.iadd, 1) := by decide +kernel
theorem dX1_holdMeeting_102 : decode cX1_holdMeeting 102 = .ok (.laload, 1) := by decide +kernel
theorem dX1_holdMeeting_103 : decode cX1_holdMeeting 103 = .ok (.invokestatic 100, 3) := by decide +kernel
theorem dX1_holdMeeting_106 : decode cX1_holdMeeting 106 = .ok (.lastore, 1) := by decide +kernel
theorem dX1_holdMeeting_107 : decode cX1_holdMeeting 107 = .ok (.aload_n 0, 1) := by decide +kernel
theorem dX1_holdMeeting_108 : decode cX1_holdMeeting 108 = .ok (.aload_n 0, 1) := by decide +kernel
theorem dX1_holdMeeting_109 : decode cX1_holdMeeting 109 = .ok (.iload_n 2, 1) := by decide +kernel
theorem dX1_holdMeeting_110 : decode cX1_holdMeeting 110 = .ok (.invokevirtual 43, 3) := by decide +kernel
theorem dX1_holdMeeting_113 : decode cX1_holdMeeting 113 = .ok (.aload_n 0, 1) := by decide +kernel
theorem dX1_holdMeeting_114 : decode cX1_holdMeeting 114 = .ok (.iload_n 2, 1) := by decide +kernel
theorem dX1_holdMeeting_115 : decode cX1_holdMeeting 115 = .ok (.invokevirtual 62, 3) := by decide +kernel
theorem dX1_holdMeeting_118 : decode cX1_holdMeeting 118 = .ok (.aload_n 0, 1) := by decide +kernel
theorem dX1_holdMeeting_119 : decode cX1_holdMeeting 119 = .ok (.getfield 34, 3) := by decide +kernel
theorem dX1_holdMeeting_122 : decode cX1_holdMeeting 122 = .ok (.invokevirtual 88, 3) := by decide +kernel
theorem dX1_holdMeeting_125 : decode cX1_holdMeeting 125 = .ok (.istore 5, 2) := by decide +kernel
theorem dX1_holdMeeting_127 : decode cX1_holdMeeting 127 = .ok (.iload_n 2, 1) := by decide +kernel
theorem dX1_holdMeeting_128 : decode cX1_holdMeeting 128 = .ok (.aload_n 0, 1) := by decide +kernel
theorem dX1_holdMeeting_129 : decode cX1_holdMeeting 129 = .ok (.invokevirtual 85, 3) := by decide +kernel
theorem dX1_holdMeeting_132 : decode cX1_holdMeeting 132 = .ok (.if_icmp .ne 18, 3) := by decide +kernel
theorem dX1_holdMeeting_135 : decode cX1_holdMeeting 135 = .ok (.iload 4, 2) := by decide +kernel
theorem dX1_holdMeeting_137 : decode cX1_holdMeeting 137 = .ok (.ifCond .eq 13, 3) := by decide +kernel
theorem dX1_holdMeeting_140 : decode cX1_holdMeeting 140 = .ok (.aload_n 0, 1) := by decide +kernel
theorem dX1_holdMeeting_141 : decode cX1_holdMeeting 141 = .ok (.aload_n 0, 1) := by decide +kernel
theorem dX1_holdMeeting_142 : decode cX1_holdMeeting 142 = .ok (.getfield 34, 3) := by decide +kernel
theorem dX1_holdMeeting_145 : decode cX1_holdMeeting 145 = .ok (.iload 5, 2) := by decide +kernel
theorem dX1_holdMeeting_147 : decode cX1_holdMeeting 147 = .ok (.invokevirtual 92, 3) := by decide +kernel
theorem dX1_holdMeeting_150 : decode cX1_holdMeeting 150 = .ok (.aload_n 0, 1) := by decide +kernel
theorem dX1_holdMeeting_151 : decode cX1_holdMeeting 151 = .ok (.getfield 31, 3) := by decide +kernel
theorem dX1_holdMeeting_154 : decode cX1_holdMeeting 154 = .ok (.iload_n 3, 1) := by decide +kernel
theorem dX1_holdMeeting_155 : decode cX1_holdMeeting 155 = .ok (.aload_n 0, 1) := by decide +kernel
theorem dX1_holdMeeting_156 : decode cX1_holdMeeting 156 = .ok (.getfield 34, 3) := by decide +kernel
theorem dX1_holdMeeting_159 : decode cX1_holdMeeting 159 = .ok (.iload 5, 2) := by decide +kernel
theorem dX1_holdMeeting_161 : decode cX1_holdMeeting 161 = .ok (.invokestatic 103, 3) := by decide +kernel
theorem dX1_holdMeeting_164 : decode cX1_holdMeeting 164 = .ok (.istore 6, 2) := by decide +kernel
theorem dX1_holdMeeting_166 : decode cX1_holdMeeting 166 = .ok (.aload_n 0, 1) := by decide +kernel
theorem dX1_holdMeeting_167 : decode cX1_holdMeeting 167 = .ok (.getfield 11, 3) := by decide +kernel
theorem dX1_holdMeeting_170 : decode cX1_holdMeeting 170 = .ok (.bipush 16, 2) := by decide +kernel
theorem dX1_holdMeeting_172 : decode cX1_holdMeeting 172 = .ok (.iload_n 2, 1) := by decide +kernel
theorem dX1_holdMeeting_173 : decode cX1_holdMeeting 173 = .ok (.iadd, 1) := by decide +kernel
theorem dX1_holdMeeting_174 : decode cX1_holdMeeting 174 = .ok (.dup2, 1) := by decide +kernel
theorem dX1_holdMeeting_175 : decode cX1_holdMeeting 175 = .ok (.laload, 1) := by decide +kernel
theorem dX1_holdMeeting_176 : decode cX1_holdMeeting 176 = .ok (.iload_n 3, 1) := by decide +kernel
theorem dX1_holdMeeting_177 : decode cX1_holdMeeting 177 = .ok (.iload 6, 2) := by decide +kernel
theorem dX1_holdMeeting_179 : decode cX1_holdMeeting 179 = .ok (.isub, 1) := by decide +kernel
theorem dX1_holdMeeting_180 : decode cX1_holdMeeting 180 = .ok (.i2l, 1) := by decide +kernel
theorem dX1_holdMeeting_181 : decode cX1_holdMeeting 181 = .ok (.ladd, 1) := by decide +kernel
theorem dX1_holdMeeting_182 : decode cX1_holdMeeting 182 = .ok (.lastore, 1) := by decide +kernel
theorem dX1_holdMeeting_183 : decode cX1_holdMeeting 183 = .ok (.aload_n 0, 1) := by decide +kernel
theorem dX1_holdMeeting_184 : decode cX1_holdMeeting 184 = .ok (.getfield 11, 3) := by decide +kernel
theorem dX1_holdMeeting_187 : decode cX1_holdMeeting 187 = .ok (.bipush 21, 2) := by decide +kernel
theorem dX1_holdMeeting_189 : decode cX1_holdMeeting 189 = .ok (.iload_n 2, 1) := by decide +kernel
theorem dX1_holdMeeting_190 : decode cX1_holdMeeting 190 = .ok (.iadd, 1) := by decide +kernel
theorem dX1_holdMeeting_191 : decode cX1_holdMeeting 191 = .ok (.dup2, 1) := by decide +kernel
theorem dX1_holdMeeting_192 : decode cX1_holdMeeting 192 = .ok (.laload, 1) := by decide +kernel
theorem dX1_holdMeeting_193 : decode cX1_holdMeeting 193 = .ok (.iload 5, 2) := by decide +kernel
theorem dX1_holdMeeting_195 : decode cX1_holdMeeting 195 = .ok (.iload 6, 2) := by decide +kernel
theorem dX1_holdMeeting_197 : decode cX1_holdMeeting 197 = .ok (.isub, 1) := by decide +kernel
theorem dX1_holdMeeting_198 : decode cX1_holdMeeting 198 = .ok (.i2l, 1) := by decide +kernel
theorem dX1_holdMeeting_199 : decode cX1_holdMeeting 199 = .ok (.ladd, 1) := by decide +kernel
theorem dX1_holdMeeting_200 : decode cX1_holdMeeting 200 = .ok (.lastore, 1) := by decide +kernel
theorem dX1_holdMeeting_201 : decode cX1_holdMeeting 201 = .ok (.aload_n 0, 1) := by decide +kernel
theorem dX1_holdMeeting_202 : decode cX1_holdMeeting 202 = .ok (.iload_n 1, 1) := by decide +kernel
theorem dX1_holdMeeting_203 : decode cX1_holdMeeting 203 = .ok (.invokevirtual 107, 3) := by decide +kernel
theorem dX1_holdMeeting_206 : decode cX1_holdMeeting 206 = .ok (.aload_n 0, 1) := by decide +kernel
theorem dX1_holdMeeting_207 : decode cX1_holdMeeting 207 = .ok (.iload_n 2, 1) := by decide +kernel
theorem dX1_holdMeeting_208 : decode cX1_holdMeeting 208 = .ok (.invokevirtual 107, 3) := by decide +kernel
theorem dX1_holdMeeting_211 : decode cX1_holdMeeting 211 = .ok (.iload_n 3, 1) := by decide +kernel
theorem dX1_holdMeeting_212 : decode cX1_holdMeeting 212 = .ok (.iload 6, 2) := by decide +kernel
theorem dX1_holdMeeting_214 : decode cX1_holdMeeting 214 = .ok (.isub, 1) := by decide +kernel
theorem dX1_holdMeeting_215 : decode cX1_holdMeeting 215 = .ok (.ireturn, 1) := by decide +kernel
theorem dX1_wouldRoll_0 : decode cX1_wouldRoll 0 = .ok (.aload_n 0, 1) := by decide +kernel
theorem dX1_wouldRoll_1 : decode cX1_wouldRoll 1 = .ok (.aload_n 0, 1) := by decide +kernel
theorem dX1_wouldRoll_2 : decode cX1_wouldRoll 2 = .ok (.iload_n 2, 1) := by decide +kernel
theorem dX1_wouldRoll_3 : decode cX1_wouldRoll 3 = .ok (.invokevirtual 43, 3) := by decide +kernel
theorem dX1_wouldRoll_6 : decode cX1_wouldRoll 6 = .ok (.aload_n 0, 1) := by decide +kernel
theorem dX1_wouldRoll_7 : decode cX1_wouldRoll 7 = .ok (.iload_n 2, 1) := by decide +kernel
theorem dX1_wouldRoll_8 : decode cX1_wouldRoll 8 = .ok (.invokevirtual 62, 3) := by decide +kernel
theorem dX1_wouldRoll_11 : decode cX1_wouldRoll 11 = .ok (.aload_n 0, 1) := by decide +kernel
theorem dX1_wouldRoll_12 : decode cX1_wouldRoll 12 = .ok (.getfield 31, 3) := by decide +kernel
theorem dX1_wouldRoll_15 : decode cX1_wouldRoll 15 = .ok (.invokevirtual 88, 3) := by decide +kernel
theorem dX1_wouldRoll_18 : decode cX1_wouldRoll 18 = .ok (.istore_n 3, 1) := by decide +kernel
theorem dX1_wouldRoll_19 : decode cX1_wouldRoll 19 = .ok (.aload_n 0, 1) := by decide +kernel
theorem dX1_wouldRoll_20 : decode cX1_wouldRoll 20 = .ok (.aload_n 0, 1) := by decide +kernel
theorem dX1_wouldRoll_21 : decode cX1_wouldRoll 21 = .ok (.iload_n 1, 1) := by decide +kernel
theorem dX1_wouldRoll_22 : decode cX1_wouldRoll 22 = .ok (.invokevirtual 43, 3) := by decide +kernel
theorem dX1_wouldRoll_25 : decode cX1_wouldRoll 25 = .ok (.aload_n 0, 1) := by decide +kernel
theorem dX1_wouldRoll_26 : decode cX1_wouldRoll 26 = .ok (.iload_n 2, 1) := by decide +kernel
theorem dX1_wouldRoll_27 : decode cX1_wouldRoll 27 = .ok (.invokevirtual 43, 3) := by decide +kernel
theorem dX1_wouldRoll_30 : decode cX1_wouldRoll 30 = .ok (.lor, 1) := by decide +kernel
theorem dX1_wouldRoll_31 : decode cX1_wouldRoll 31 = .ok (.aload_n 0, 1) := by decide +kernel
theorem dX1_wouldRoll_32 : decode cX1_wouldRoll 32 = .ok (.iload_n 1, 1) := by decide +kernel
theorem dX1_wouldRoll_33 : decode cX1_wouldRoll 33 = .ok (.invokevirtual 62, 3) := by decide +kernel
theorem dX1_wouldRoll_36 : decode cX1_wouldRoll 36 = .ok (.aload_n 0, 1) := by decide +kernel
theorem dX1_wouldRoll_37 : decode cX1_wouldRoll 37 = .ok (.iload_n 2, 1) := by decide +kernel
theorem dX1_wouldRoll_38 : decode cX1_wouldRoll 38 = .ok (.invokevirtual 62, 3) := by decide +kernel
theorem dX1_wouldRoll_41 : decode cX1_wouldRoll 41 = .ok (.invokestatic 72, 3) := by decide +kernel
theorem dX1_wouldRoll_44 : decode cX1_wouldRoll 44 = .ok (.aload_n 0, 1) := by decide +kernel
theorem dX1_wouldRoll_45 : decode cX1_wouldRoll 45 = .ok (.getfield 34, 3) := by decide +kernel
theorem dX1_wouldRoll_48 : decode cX1_wouldRoll 48 = .ok (.invokevirtual 88, 3) := by decide +kernel
theorem dX1_wouldRoll_51 : decode cX1_wouldRoll 51 = .ok (.istore 4, 2) := by decide +kernel
theorem dX1_wouldRoll_53 : decode cX1_wouldRoll 53 = .ok (.iload_n 3, 1) := by decide +kernel
theorem dX1_wouldRoll_54 : decode cX1_wouldRoll 54 = .ok (.aload_n 0, 1) := by decide +kernel
theorem dX1_wouldRoll_55 : decode cX1_wouldRoll 55 = .ok (.getfield 31, 3) := by decide +kernel
theorem dX1_wouldRoll_58 : decode cX1_wouldRoll 58 = .ok (.iload_n 3, 1) := by decide +kernel
theorem dX1_wouldRoll_59 : decode cX1_wouldRoll 59 = .ok (.aload_n 0, 1) := by decide +kernel
theorem dX1_wouldRoll_60 : decode cX1_wouldRoll 60 = .ok (.getfield 34, 3) := by decide +kernel
theorem dX1_wouldRoll_63 : decode cX1_wouldRoll 63 = .ok (.iload 4, 2) := by decide +kernel
theorem dX1_wouldRoll_65 : decode cX1_wouldRoll 65 = .ok (.invokestatic 103, 3) := by decide +kernel
theorem dX1_wouldRoll_68 : decode cX1_wouldRoll 68 = .ok (.isub, 1) := by decide +kernel
theorem dX1_wouldRoll_69 : decode cX1_wouldRoll 69 = .ok (.ireturn, 1) := by decide +kernel
theorem dX1_latelyClosed_0 : decode cX1_latelyClosed 0 = .ok (.iload_n 1, 1) := by decide +kernel
theorem dX1_latelyClosed_1 : decode cX1_latelyClosed 1 = .ok (.i2l, 1) := by decide +kernel
theorem dX1_latelyClosed_2 : decode cX1_latelyClosed 2 = .ok (.aload_n 0, 1) := by decide +kernel
theorem dX1_latelyClosed_3 : decode cX1_latelyClosed 3 = .ok (.getfield 11, 3) := by decide +kernel
theorem dX1_latelyClosed_6 : decode cX1_latelyClosed 6 = .ok (.iconst 5, 1) := by decide +kernel
theorem dX1_latelyClosed_7 : decode cX1_latelyClosed 7 = .ok (.laload, 1) := by decide +kernel
theorem dX1_latelyClosed_8 : decode cX1_latelyClosed 8 = .ok (.lcmp, 1) := by decide +kernel
theorem dX1_latelyClosed_9 : decode cX1_latelyClosed 9 = .ok (.ifCond .ge 16, 3) := by decide +kernel
theorem dX1_latelyClosed_12 : decode cX1_latelyClosed 12 = .ok (.aload_n 0, 1) := by decide +kernel
theorem dX1_latelyClosed_13 : decode cX1_latelyClosed 13 = .ok (.getfield 11, 3) := by decide +kernel
theorem dX1_latelyClosed_16 : decode cX1_latelyClosed 16 = .ok (.bipush 36, 2) := by decide +kernel
theorem dX1_latelyClosed_18 : decode cX1_latelyClosed 18 = .ok (.iload_n 1, 1) := by decide +kernel
theorem dX1_latelyClosed_19 : decode cX1_latelyClosed 19 = .ok (.iadd, 1) := by decide +kernel
theorem dX1_latelyClosed_20 : decode cX1_latelyClosed 20 = .ok (.laload, 1) := by decide +kernel
theorem dX1_latelyClosed_21 : decode cX1_latelyClosed 21 = .ok (.l2i, 1) := by decide +kernel
theorem dX1_latelyClosed_22 : decode cX1_latelyClosed 22 = .ok (.goto 5, 3) := by decide +kernel
theorem dX1_latelyClosed_25 : decode cX1_latelyClosed 25 = .ok (.bipush (-2), 2) := by decide +kernel
theorem dX1_latelyClosed_27 : decode cX1_latelyClosed 27 = .ok (.ireturn, 1) := by decide +kernel
theorem dX1_setPrimary_0 : decode cX1_setPrimary 0 = .ok (.aload_n 0, 1) := by decide +kernel
theorem dX1_setPrimary_1 : decode cX1_setPrimary 1 = .ok (.getfield 11, 3) := by decide +kernel
theorem dX1_setPrimary_4 : decode cX1_setPrimary 4 = .ok (.iconst 1, 1) := by decide +kernel
theorem dX1_setPrimary_5 : decode cX1_setPrimary 5 = .ok (.iload_n 1, 1) := by decide +kernel
theorem dX1_setPrimary_6 : decode cX1_setPrimary 6 = .ok (.i2l, 1) := by decide +kernel
theorem dX1_setPrimary_7 : decode cX1_setPrimary 7 = .ok (.lastore, 1) := by decide +kernel
theorem dX1_setPrimary_8 : decode cX1_setPrimary 8 = .ok (.return_, 1) := by decide +kernel
theorem dX1_addChance_0 : decode cX1_addChance 0 = .ok (.aload_n 0, 1) := by decide +kernel
theorem dX1_addChance_1 : decode cX1_addChance 1 = .ok (.getfield 11, 3) := by decide +kernel
theorem dX1_addChance_4 : decode cX1_addChance 4 = .ok (.iconst 4, 1) := by decide +kernel
theorem dX1_addChance_5 : decode cX1_addChance 5 = .ok (.dup2, 1) := by decide +kernel
theorem dX1_addChance_6 : decode cX1_addChance 6 = .ok (.laload, 1) := by decide +kernel
theorem dX1_addChance_7 : decode cX1_addChance 7 = .ok (.lconst 1, 1) := by decide +kernel
theorem dX1_addChance_8 : decode cX1_addChance 8 = .ok (.ladd, 1) := by decide +kernel
theorem dX1_addChance_9 : decode cX1_addChance 9 = .ok (.lastore, 1) := by decide +kernel
theorem dX1_addChance_10 : decode cX1_addChance 10 = .ok (.return_, 1) := by decide +kernel
theorem dX1_setPromises_0 : decode cX1_setPromises 0 = .ok (.aload_n 0, 1) := by decide +kernel
theorem dX1_setPromises_1 : decode cX1_setPromises 1 = .ok (.getfield 11, 3) := by decide +kernel
theorem dX1_setPromises_4 : decode cX1_setPromises 4 = .ok (.bipush 44, 2) := by decide +kernel
theorem dX1_setPromises_6 : decode cX1_setPromises 6 = .ok (.iload_n 1, 1) := by decide +kernel
theorem dX1_setPromises_7 : decode cX1_setPromises 7 = .ok (.iadd, 1) := by decide +kernel
theorem dX1_setPromises_8 : decode cX1_setPromises 8 = .ok (.iload_n 2, 1) := by decide +kernel
theorem dX1_setPromises_9 : decode cX1_setPromises 9 = .ok (.i2l, 1) := by decide +kernel
theorem dX1_setPromises_10 : decode cX1_setPromises 10 = .ok (.lastore, 1) := by decide +kernel
theorem dX1_setPromises_11 : decode cX1_setPromises 11 = .ok (.return_, 1) := by decide +kernel
theorem dX1_refuse_0 : decode cX1_refuse 0 = .ok (.aload_n 0, 1) := by decide +kernel
theorem dX1_refuse_1 : decode cX1_refuse 1 = .ok (.getfield 11, 3) := by decide +kernel
theorem dX1_refuse_4 : decode cX1_refuse 4 = .ok (.bipush 48, 2) := by decide +kernel
theorem dX1_refuse_6 : decode cX1_refuse 6 = .ok (.iload_n 1, 1) := by decide +kernel
theorem dX1_refuse_7 : decode cX1_refuse 7 = .ok (.iadd, 1) := by decide +kernel
theorem dX1_refuse_8 : decode cX1_refuse 8 = .ok (.dup2, 1) := by decide +kernel
theorem dX1_refuse_9 : decode cX1_refuse 9 = .ok (.laload, 1) := by decide +kernel
theorem dX1_refuse_10 : decode cX1_refuse 10 = .ok (.lconst 1, 1) := by decide +kernel
theorem dX1_refuse_11 : decode cX1_refuse 11 = .ok (.ladd, 1) := by decide +kernel
theorem dX1_refuse_12 : decode cX1_refuse 12 = .ok (.lastore, 1) := by decide +kernel
theorem dX1_refuse_13 : decode cX1_refuse 13 = .ok (.return_, 1) := by decide +kernel
theorem dX1_breaks_0 : decode cX1_breaks 0 = .ok (.aload_n 0, 1) := by decide +kernel
theorem dX1_breaks_1 : decode cX1_breaks 1 = .ok (.getfield 11, 3) := by decide +kernel
theorem dX1_breaks_4 : decode cX1_breaks 4 = .ok (.bipush 44, 2) := by decide +kernel
theorem dX1_breaks_6 : decode cX1_breaks 6 = .ok (.iload_n 1, 1) := by decide +kernel
theorem dX1_breaks_7 : decode cX1_breaks 7 = .ok (.iadd, 1) := by decide +kernel
theorem dX1_breaks_8 : decode cX1_breaks 8 = .ok (.laload, 1) := by decide +kernel
theorem dX1_breaks_9 : decode cX1_breaks 9 = .ok (.iload_n 3, 1) := by decide +kernel
theorem dX1_breaks_10 : decode cX1_breaks 10 = .ok (.i2l, 1) := by decide +kernel
theorem dX1_breaks_11 : decode cX1_breaks 11 = .ok (.land, 1) := by decide +kernel
theorem dX1_breaks_12 : decode cX1_breaks 12 = .ok (.lconst 0, 1) := by decide +kernel
theorem dX1_breaks_13 : decode cX1_breaks 13 = .ok (.lcmp, 1) := by decide +kernel
theorem dX1_breaks_14 : decode cX1_breaks 14 = .ok (.ifCond .ne 5, 3) := by decide +kernel
theorem dX1_breaks_17 : decode cX1_breaks 17 = .ok (.iconst 0, 1) := by decide +kernel
theorem dX1_breaks_18 : decode cX1_breaks 18 = .ok (.ireturn, 1) := by decide +kernel
theorem dX1_breaks_19 : decode cX1_breaks 19 = .ok (.iconst 0, 1) := by decide +kernel
theorem dX1_breaks_20 : decode cX1_breaks 20 = .ok (.istore 5, 2) := by decide +kernel
theorem dX1_breaks_22 : decode cX1_breaks 22 = .ok (.iload 5, 2) := by decide +kernel
theorem dX1_breaks_24 : decode cX1_breaks 24 = .ok (.aload_n 0, 1) := by decide +kernel
theorem dX1_breaks_25 : decode cX1_breaks 25 = .ok (.invokevirtual 51, 3) := by decide +kernel
theorem dX1_breaks_28 : decode cX1_breaks 28 = .ok (.if_icmp .ge 30, 3) := by decide +kernel
theorem dX1_breaks_31 : decode cX1_breaks 31 = .ok (.aload_n 0, 1) := by decide +kernel
theorem dX1_breaks_32 : decode cX1_breaks 32 = .ok (.iload_n 2, 1) := by decide +kernel
theorem dX1_breaks_33 : decode cX1_breaks 33 = .ok (.iload 5, 2) := by decide +kernel
theorem dX1_breaks_35 : decode cX1_breaks 35 = .ok (.invokevirtual 68, 3) := by decide +kernel
theorem dX1_breaks_38 : decode cX1_breaks 38 = .ok (.aload_n 0, 1) := by decide +kernel
theorem dX1_breaks_39 : decode cX1_breaks 39 = .ok (.iload 4, 2) := by decide +kernel
theorem dX1_breaks_41 : decode cX1_breaks 41 = .ok (.iload_n 1, 1) := by decide +kernel
theorem dX1_breaks_42 : decode cX1_breaks 42 = .ok (.iload 5, 2) := by decide +kernel
theorem dX1_breaks_44 : decode cX1_breaks 44 = .ok (.invokevirtual 119, 3) := by decide +kernel
theorem dX1_breaks_47 : decode cX1_breaks 47 = .ok (.if_icmp .ge 5, 3) := by decide +kernel
theorem dX1_breaks_50 : decode cX1_breaks 50 = .ok (.iconst 1, 1) := by decide +kernel
theorem dX1_breaks_51 : decode cX1_breaks 51 = .ok (.ireturn, 1) := by decide +kernel
theorem dX1_breaks_52 : decode cX1_breaks 52 = .ok (.iinc 5 1, 3) := by decide +kernel
theorem dX1_breaks_55 : decode cX1_breaks 55 = .ok (.goto (-33), 3) := by decide +kernel
theorem dX1_breaks_58 : decode cX1_breaks 58 = .ok (.iconst 0, 1) := by decide +kernel
theorem dX1_breaks_59 : decode cX1_breaks 59 = .ok (.ireturn, 1) := by decide +kernel
theorem dX1_refusesAsk_0 : decode cX1_refusesAsk 0 = .ok (.aload_n 0, 1) := by decide +kernel
theorem dX1_refusesAsk_1 : decode cX1_refusesAsk 1 = .ok (.iload_n 1, 1) := by decide +kernel
theorem dX1_refusesAsk_2 : decode cX1_refusesAsk 2 = .ok (.iload_n 2, 1) := by decide +kernel
theorem dX1_refusesAsk_3 : decode cX1_refusesAsk 3 = .ok (.iconst 1, 1) := by decide +kernel
theorem dX1_refusesAsk_4 : decode cX1_refusesAsk 4 = .ok (.bipush 76, 2) := by decide +kernel
theorem dX1_refusesAsk_6 : decode cX1_refusesAsk 6 = .ok (.invokevirtual 115, 3) := by decide +kernel
theorem dX1_refusesAsk_9 : decode cX1_refusesAsk 9 = .ok (.ifCond .ne 15, 3) := by decide +kernel
theorem dX1_refusesAsk_12 : decode cX1_refusesAsk 12 = .ok (.aload_n 0, 1) := by decide +kernel
theorem dX1_refusesAsk_13 : decode cX1_refusesAsk 13 = .ok (.iload_n 1, 1) := by decide +kernel
theorem dX1_refusesAsk_14 : decode cX1_refusesAsk 14 = .ok (.iload_n 2, 1) := by decide +kernel
theorem dX1_refusesAsk_15 : decode cX1_refusesAsk 15 = .ok (.iconst 2, 1) := by decide +kernel
theorem dX1_refusesAsk_16 : decode cX1_refusesAsk 16 = .ok (.bipush 56, 2) := by decide +kernel
theorem dX1_refusesAsk_18 : decode cX1_refusesAsk 18 = .ok (.invokevirtual 115, 3) := by decide +kernel
theorem dX1_refusesAsk_21 : decode cX1_refusesAsk 21 = .ok (.ifCond .eq 7, 3) := by decide +kernel
theorem dX1_refusesAsk_24 : decode cX1_refusesAsk 24 = .ok (.iconst 1, 1) := by decide +kernel
theorem dX1_refusesAsk_25 : decode cX1_refusesAsk 25 = .ok (.goto 4, 3) := by decide +kernel
theorem dX1_refusesAsk_28 : decode cX1_refusesAsk 28 = .ok (.iconst 0, 1) := by decide +kernel
theorem dX1_refusesAsk_29 : decode cX1_refusesAsk 29 = .ok (.ireturn, 1) := by decide +kernel
theorem dX1_refusesMake_0 : decode cX1_refusesMake 0 = .ok (.aload_n 0, 1) := by decide +kernel
theorem dX1_refusesMake_1 : decode cX1_refusesMake 1 = .ok (.iload_n 1, 1) := by decide +kernel
theorem dX1_refusesMake_2 : decode cX1_refusesMake 2 = .ok (.iload_n 2, 1) := by decide +kernel
theorem dX1_refusesMake_3 : decode cX1_refusesMake 3 = .ok (.iconst 4, 1) := by decide +kernel
theorem dX1_refusesMake_4 : decode cX1_refusesMake 4 = .ok (.bipush 56, 2) := by decide +kernel
theorem dX1_refusesMake_6 : decode cX1_refusesMake 6 = .ok (.invokevirtual 115, 3) := by decide +kernel
theorem dX1_refusesMake_9 : decode cX1_refusesMake 9 = .ok (.ifCond .ne 16, 3) := by decide +kernel
theorem dX1_refusesMake_12 : decode cX1_refusesMake 12 = .ok (.aload_n 0, 1) := by decide +kernel
theorem dX1_refusesMake_13 : decode cX1_refusesMake 13 = .ok (.iload_n 1, 1) := by decide +kernel
theorem dX1_refusesMake_14 : decode cX1_refusesMake 14 = .ok (.iload_n 2, 1) := by decide +kernel
theorem dX1_refusesMake_15 : decode cX1_refusesMake 15 = .ok (.bipush 8, 2) := by decide +kernel
theorem dX1_refusesMake_17 : decode cX1_refusesMake 17 = .ok (.bipush 76, 2) := by decide +kernel
theorem dX1_refusesMake_19 : decode cX1_refusesMake 19 = .ok (.invokevirtual 115, 3) := by decide +kernel
theorem dX1_refusesMake_22 : decode cX1_refusesMake 22 = .ok (.ifCond .eq 7, 3) := by decide +kernel
theorem dX1_refusesMake_25 : decode cX1_refusesMake 25 = .ok (.iconst 1, 1) := by decide +kernel
theorem dX1_refusesMake_26 : decode cX1_refusesMake 26 = .ok (.goto 4, 3) := by decide +kernel
theorem dX1_refusesMake_29 : decode cX1_refusesMake 29 = .ok (.iconst 0, 1) := by decide +kernel
theorem dX1_refusesMake_30 : decode cX1_refusesMake 30 = .ok (.ireturn, 1) := by decide +kernel
theorem dX1_tellTo_0 : decode cX1_tellTo 0 = .ok (.aload_n 0, 1) := by decide +kernel
theorem dX1_tellTo_1 : decode cX1_tellTo 1 = .ok (.getfield 11, 3) := by decide +kernel
theorem dX1_tellTo_4 : decode cX1_tellTo 4 = .ok (.bipush 52, 2) := by decide +kernel
theorem dX1_tellTo_6 : decode cX1_tellTo 6 = .ok (.iload_n 1, 1) := by decide +kernel
theorem dX1_tellTo_7 : decode cX1_tellTo 7 = .ok (.iadd, 1) := by decide +kernel
theorem dX1_tellTo_8 : decode cX1_tellTo 8 = .ok (.iload_n 3, 1) := by decide +kernel
theorem dX1_tellTo_9 : decode cX1_tellTo 9 = .ok (.i2l, 1) := by decide +kernel
theorem dX1_tellTo_10 : decode cX1_tellTo 10 = .ok (.lastore, 1) := by decide +kernel
theorem dX1_tellTo_11 : decode cX1_tellTo 11 = .ok (.iconst 0, 1) := by decide +kernel
theorem dX1_tellTo_12 : decode cX1_tellTo 12 = .ok (.istore 4, 2) := by decide +kernel
theorem dX1_tellTo_14 : decode cX1_tellTo 14 = .ok (.iload 4, 2) := by decide +kernel
theorem dX1_tellTo_16 : decode cX1_tellTo 16 = .ok (.aload_n 0, 1) := by decide +kernel
theorem dX1_tellTo_17 : decode cX1_tellTo 17 = .ok (.invokevirtual 51, 3) := by decide +kernel
theorem dX1_tellTo_20 : decode cX1_tellTo 20 = .ok (.if_icmp .ge 45, 3) := by decide +kernel
theorem dX1_tellTo_23 : decode cX1_tellTo 23 = .ok (.bipush 56, 2) := by decide +kernel
theorem dX1_tellTo_25 : decode cX1_tellTo 25 = .ok (.iload_n 1, 1) := by decide +kernel
theorem dX1_tellTo_26 : decode cX1_tellTo 26 = .ok (.iconst 5, 1) := by decide +kernel
theorem dX1_tellTo_27 : decode cX1_tellTo 27 = .ok (.imul, 1) := by decide +kernel
theorem dX1_tellTo_28 : decode cX1_tellTo 28 = .ok (.iadd, 1) := by decide +kernel
theorem dX1_tellTo_29 : decode cX1_tellTo 29 = .ok (.iload 4, 2) := by decide +kernel
theorem dX1_tellTo_31 : decode cX1_tellTo 31 = .ok (.iadd, 1) := by decide +kernel
theorem dX1_tellTo_32 : decode cX1_tellTo 32 = .ok (.istore 5, 2) := by decide +kernel
theorem dX1_tellTo_34 : decode cX1_tellTo 34 = .ok (.aload_n 0, 1) := by decide +kernel
theorem dX1_tellTo_35 : decode cX1_tellTo 35 = .ok (.getfield 11, 3) := by decide +kernel
theorem dX1_tellTo_38 : decode cX1_tellTo 38 = .ok (.iload 5, 2) := by decide +kernel
theorem dX1_tellTo_40 : decode cX1_tellTo 40 = .ok (.aload_n 0, 1) := by decide +kernel
theorem dX1_tellTo_41 : decode cX1_tellTo 41 = .ok (.getfield 11, 3) := by decide +kernel
theorem dX1_tellTo_44 : decode cX1_tellTo 44 = .ok (.iload 5, 2) := by decide +kernel
theorem dX1_tellTo_46 : decode cX1_tellTo 46 = .ok (.laload, 1) := by decide +kernel
theorem dX1_tellTo_47 : decode cX1_tellTo 47 = .ok (.aload_n 0, 1) := by decide +kernel
theorem dX1_tellTo_48 : decode cX1_tellTo 48 = .ok (.iload_n 2, 1) := by decide +kernel
theorem dX1_tellTo_49 : decode cX1_tellTo 49 = .ok (.iload 4, 2) := by decide +kernel
theorem dX1_tellTo_51 : decode cX1_tellTo 51 = .ok (.invokevirtual 68, 3) := by decide +kernel
theorem dX1_tellTo_54 : decode cX1_tellTo 54 = .ok (.i2l, 1) := by decide +kernel
theorem dX1_tellTo_55 : decode cX1_tellTo 55 = .ok (.invokestatic 100, 3) := by decide +kernel
theorem dX1_tellTo_58 : decode cX1_tellTo 58 = .ok (.lastore, 1) := by decide +kernel
theorem dX1_tellTo_59 : decode cX1_tellTo 59 = .ok (.iinc 4 1, 3) := by decide +kernel
theorem dX1_tellTo_62 : decode cX1_tellTo 62 = .ok (.goto (-48), 3) := by decide +kernel
theorem dX1_tellTo_65 : decode cX1_tellTo 65 = .ok (.return_, 1) := by decide +kernel
theorem dX1_areAlike_0 : decode cX1_areAlike 0 = .ok (.aload_n 0, 1) := by decide +kernel
theorem dX1_areAlike_1 : decode cX1_areAlike 1 = .ok (.iload_n 1, 1) := by decide +kernel
theorem dX1_areAlike_2 : decode cX1_areAlike 2 = .ok (.invokevirtual 43, 3) := by decide +kernel
theorem dX1_areAlike_5 : decode cX1_areAlike 5 = .ok (.aload_n 0, 1) := by decide +kernel
theorem dX1_areAlike_6 : decode cX1_areAlike 6 = .ok (.iload_n 2, 1) := by decide +kernel
theorem dX1_areAlike_7 : decode cX1_areAlike 7 = .ok (.invokevirtual 43, 3) := by decide +kernel
theorem dX1_areAlike_10 : decode cX1_areAlike 10 = .ok (.lcmp, 1) := by decide +kernel
theorem dX1_areAlike_11 : decode cX1_areAlike 11 = .ok (.ifCond .ne 20, 3) := by decide +kernel
theorem dX1_areAlike_14 : decode cX1_areAlike 14 = .ok (.aload_n 0, 1) := by decide +kernel
theorem dX1_areAlike_15 : decode cX1_areAlike 15 = .ok (.iload_n 1, 1) := by decide +kernel
theorem dX1_areAlike_16 : decode cX1_areAlike 16 = .ok (.invokevirtual 62, 3) := by decide +kernel
theorem dX1_areAlike_19 : decode cX1_areAlike 19 = .ok (.aload_n 0, 1) := by decide +kernel
theorem dX1_areAlike_20 : decode cX1_areAlike 20 = .ok (.iload_n 2, 1) := by decide +kernel
theorem dX1_areAlike_21 : decode cX1_areAlike 21 = .ok (.invokevirtual 62, 3) := by decide +kernel
theorem dX1_areAlike_24 : decode cX1_areAlike 24 = .ok (.if_icmp .ne 7, 3) := by decide +kernel
theorem dX1_areAlike_27 : decode cX1_areAlike 27 = .ok (.iconst 1, 1) := by decide +kernel
theorem dX1_areAlike_28 : decode cX1_areAlike 28 = .ok (.goto 4, 3) := by decide +kernel
theorem dX1_areAlike_31 : decode cX1_areAlike 31 = .ok (.iconst 0, 1) := by decide +kernel
theorem dX1_areAlike_32 : decode cX1_areAlike 32 = .ok (.ireturn, 1) := by decide +kernel
theorem dX1_allAlike_0 : decode cX1_allAlike 0 = .ok (.iconst 1, 1) := by decide +kernel
theorem dX1_allAlike_1 : decode cX1_allAlike 1 = .ok (.istore_n 1, 1) := by decide +kernel
theorem dX1_allAlike_2 : decode cX1_allAlike 2 = .ok (.iload_n 1, 1) := by decide +kernel
theorem dX1_allAlike_3 : decode cX1_allAlike 3 = .ok (.aload_n 0, 1) := by decide +kernel
theorem dX1_allAlike_4 : decode cX1_allAlike 4 = .ok (.invokevirtual 51, 3) := by decide +kernel
theorem dX1_allAlike_7 : decode cX1_allAlike 7 = .ok (.if_icmp .ge 20, 3) := by decide +kernel
theorem dX1_allAlike_10 : decode cX1_allAlike 10 = .ok (.aload_n 0, 1) := by decide +kernel
theorem dX1_allAlike_11 : decode cX1_allAlike 11 = .ok (.iconst 0, 1) := by decide +kernel
theorem dX1_allAlike_12 : decode cX1_allAlike 12 = .ok (.iload_n 1, 1) := by decide +kernel
theorem dX1_allAlike_13 : decode cX1_allAlike 13 = .ok (.invokevirtual 123, 3) := by decide +kernel
theorem dX1_allAlike_16 : decode cX1_allAlike 16 = .ok (.ifCond .ne 5, 3) := by decide +kernel
theorem dX1_allAlike_19 : decode cX1_allAlike 19 = .ok (.iconst 0, 1) := by decide +kernel
theorem dX1_allAlike_20 : decode cX1_allAlike 20 = .ok (.ireturn, 1) := by decide +kernel
theorem dX1_allAlike_21 : decode cX1_allAlike 21 = .ok (.iinc 1 1, 3) := by decide +kernel
theorem dX1_allAlike_24 : decode cX1_allAlike 24 = .ok (.goto (-22), 3) := by decide +kernel
theorem dX1_allAlike_27 : decode cX1_allAlike 27 = .ok (.iconst 1, 1) := by decide +kernel
theorem dX1_allAlike_28 : decode cX1_allAlike 28 = .ok (.ireturn, 1) := by decide +kernel
theorem dX1_hadByAny_0 : decode cX1_hadByAny 0 = .ok (.lconst 0, 1) := by decide +kernel
theorem dX1_hadByAny_1 : decode cX1_hadByAny 1 = .ok (.lstore_n 1, 1) := by decide +kernel
theorem dX1_hadByAny_2 : decode cX1_hadByAny 2 = .ok (.iconst 0, 1) := by decide +kernel
theorem dX1_hadByAny_3 : decode cX1_hadByAny 3 = .ok (.istore_n 3, 1) := by decide +kernel
theorem dX1_hadByAny_4 : decode cX1_hadByAny 4 = .ok (.iload_n 3, 1) := by decide +kernel
theorem dX1_hadByAny_5 : decode cX1_hadByAny 5 = .ok (.aload_n 0, 1) := by decide +kernel
theorem dX1_hadByAny_6 : decode cX1_hadByAny 6 = .ok (.invokevirtual 51, 3) := by decide +kernel
theorem dX1_hadByAny_9 : decode cX1_hadByAny 9 = .ok (.if_icmp .ge 17, 3) := by decide +kernel
theorem dX1_hadByAny_12 : decode cX1_hadByAny 12 = .ok (.lload_n 1, 1) := by decide +kernel
theorem dX1_hadByAny_13 : decode cX1_hadByAny 13 = .ok (.aload_n 0, 1) := by decide +kernel
theorem dX1_hadByAny_14 : decode cX1_hadByAny 14 = .ok (.iload_n 3, 1) := by decide +kernel
theorem dX1_hadByAny_15 : decode cX1_hadByAny 15 = .ok (.invokevirtual 43, 3) := by decide +kernel
theorem dX1_hadByAny_18 : decode cX1_hadByAny 18 = .ok (.lor, 1) := by decide +kernel
theorem dX1_hadByAny_19 : decode cX1_hadByAny 19 = .ok (.lstore_n 1, 1) := by decide +kernel
theorem dX1_hadByAny_20 : decode cX1_hadByAny 20 = .ok (.iinc 3 1, 3) := by decide +kernel
theorem dX1_hadByAny_23 : decode cX1_hadByAny 23 = .ok (.goto (-19), 3) := by decide +kernel
theorem dX1_hadByAny_26 : decode cX1_hadByAny 26 = .ok (.lload_n 1, 1) := by decide +kernel
theorem dX1_hadByAny_27 : decode cX1_hadByAny 27 = .ok (.lreturn, 1) := by decide +kernel
theorem dX1_hadByAll_0 : decode cX1_hadByAll 0 = .ok (.aload_n 0, 1) := by decide +kernel
theorem dX1_hadByAll_1 : decode cX1_hadByAll 1 = .ok (.iconst 0, 1) := by decide +kernel
theorem dX1_hadByAll_2 : decode cX1_hadByAll 2 = .ok (.invokevirtual 43, 3) := by decide +kernel
theorem dX1_hadByAll_5 : decode cX1_hadByAll 5 = .ok (.lstore_n 1, 1) := by decide +kernel
theorem dX1_hadByAll_6 : decode cX1_hadByAll 6 = .ok (.iconst 1, 1) := by decide +kernel
theorem dX1_hadByAll_7 : decode cX1_hadByAll 7 = .ok (.istore_n 3, 1) := by decide +kernel
theorem dX1_hadByAll_8 : decode cX1_hadByAll 8 = .ok (.iload_n 3, 1) := by decide +kernel
theorem dX1_hadByAll_9 : decode cX1_hadByAll 9 = .ok (.aload_n 0, 1) := by decide +kernel
theorem dX1_hadByAll_10 : decode cX1_hadByAll 10 = .ok (.invokevirtual 51, 3) := by decide +kernel
theorem dX1_hadByAll_13 : decode cX1_hadByAll 13 = .ok (.if_icmp .ge 17, 3) := by decide +kernel
theorem dX1_hadByAll_16 : decode cX1_hadByAll 16 = .ok (.lload_n 1, 1) := by decide +kernel
theorem dX1_hadByAll_17 : decode cX1_hadByAll 17 = .ok (.aload_n 0, 1) := by decide +kernel
theorem dX1_hadByAll_18 : decode cX1_hadByAll 18 = .ok (.iload_n 3, 1) := by decide +kernel
theorem dX1_hadByAll_19 : decode cX1_hadByAll 19 = .ok (.invokevirtual 43, 3) := by decide +kernel
theorem dX1_hadByAll_22 : decode cX1_hadByAll 22 = .ok (.land, 1) := by decide +kernel
theorem dX1_hadByAll_23 : decode cX1_hadByAll 23 = .ok (.lstore_n 1, 1) := by decide +kernel
theorem dX1_hadByAll_24 : decode cX1_hadByAll 24 = .ok (.iinc 3 1, 3) := by decide +kernel
theorem dX1_hadByAll_27 : decode cX1_hadByAll 27 = .ok (.goto (-19), 3) := by decide +kernel
theorem dX1_hadByAll_30 : decode cX1_hadByAll 30 = .ok (.lload_n 1, 1) := by decide +kernel
theorem dX1_hadByAll_31 : decode cX1_hadByAll 31 = .ok (.lreturn, 1) := by decide +kernel
theorem dX1_knownToAll_0 : decode cX1_knownToAll 0 = .ok (.aload_n 0, 1) := by decide +kernel
theorem dX1_knownToAll_1 : decode cX1_knownToAll 1 = .ok (.iconst 0, 1) := by decide +kernel
theorem dX1_knownToAll_2 : decode cX1_knownToAll 2 = .ok (.invokevirtual 62, 3) := by decide +kernel
theorem dX1_knownToAll_5 : decode cX1_knownToAll 5 = .ok (.istore_n 1, 1) := by decide +kernel
theorem dX1_knownToAll_6 : decode cX1_knownToAll 6 = .ok (.iconst 1, 1) := by decide +kernel
theorem dX1_knownToAll_7 : decode cX1_knownToAll 7 = .ok (.istore_n 2, 1) := by decide +kernel
theorem dX1_knownToAll_8 : decode cX1_knownToAll 8 = .ok (.iload_n 2, 1) := by decide +kernel
theorem dX1_knownToAll_9 : decode cX1_knownToAll 9 = .ok (.aload_n 0, 1) := by decide +kernel
theorem dX1_knownToAll_10 : decode cX1_knownToAll 10 = .ok (.invokevirtual 51, 3) := by decide +kernel
theorem dX1_knownToAll_13 : decode cX1_knownToAll 13 = .ok (.if_icmp .ge 19, 3) := by decide +kernel
theorem dX1_knownToAll_16 : decode cX1_knownToAll 16 = .ok (.iload_n 1, 1) := by decide +kernel
theorem dX1_knownToAll_17 : decode cX1_knownToAll 17 = .ok (.aload_n 0, 1) := by decide +kernel
theorem dX1_knownToAll_18 : decode cX1_knownToAll 18 = .ok (.iload_n 2, 1) := by decide +kernel
theorem dX1_knownToAll_19 : decode cX1_knownToAll 19 = .ok (.invokevirtual 62, 3) := by decide +kernel
theorem dX1_knownToAll_22 : decode cX1_knownToAll 22 = .ok (.invokestatic 126, 3) := by decide +kernel
theorem dX1_knownToAll_25 : decode cX1_knownToAll 25 = .ok (.istore_n 1, 1) := by decide +kernel
theorem dX1_knownToAll_26 : decode cX1_knownToAll 26 = .ok (.iinc 2 1, 3) := by decide +kernel
theorem dX1_knownToAll_29 : decode cX1_knownToAll 29 = .ok (.goto (-21), 3) := by decide +kernel
theorem dX1_knownToAll_32 : decode cX1_knownToAll 32 = .ok (.iload_n 1, 1) := by decide +kernel
theorem dX1_knownToAll_33 : decode cX1_knownToAll 33 = .ok (.ireturn, 1) := by decide +kernel
theorem dX1_sumOfCopies_0 : decode cX1_sumOfCopies 0 = .ok (.iconst 0, 1) := by decide +kernel
theorem dX1_sumOfCopies_1 : decode cX1_sumOfCopies 1 = .ok (.istore_n 2, 1) := by decide +kernel
theorem dX1_sumOfCopies_2 : decode cX1_sumOfCopies 2 = .ok (.iconst 0, 1) := by decide +kernel
theorem dX1_sumOfCopies_3 : decode cX1_sumOfCopies 3 = .ok (.istore_n 3, 1) := by decide +kernel
theorem dX1_sumOfCopies_4 : decode cX1_sumOfCopies 4 = .ok (.iload_n 3, 1) := by decide +kernel
theorem dX1_sumOfCopies_5 : decode cX1_sumOfCopies 5 = .ok (.aload_n 0, 1) := by decide +kernel
theorem dX1_sumOfCopies_6 : decode cX1_sumOfCopies 6 = .ok (.invokevirtual 51, 3) := by decide +kernel
theorem dX1_sumOfCopies_9 : decode cX1_sumOfCopies 9 = .ok (.if_icmp .ge 18, 3) := by decide +kernel
theorem dX1_sumOfCopies_12 : decode cX1_sumOfCopies 12 = .ok (.iload_n 2, 1) := by decide +kernel
theorem dX1_sumOfCopies_13 : decode cX1_sumOfCopies 13 = .ok (.aload_n 0, 1) := by decide +kernel
theorem dX1_sumOfCopies_14 : decode cX1_sumOfCopies 14 = .ok (.iload_n 1, 1) := by decide +kernel
theorem dX1_sumOfCopies_15 : decode cX1_sumOfCopies 15 = .ok (.iload_n 3, 1) := by decide +kernel
theorem dX1_sumOfCopies_16 : decode cX1_sumOfCopies 16 = .ok (.invokevirtual 128, 3) := by decide +kernel
theorem dX1_sumOfCopies_19 : decode cX1_sumOfCopies 19 = .ok (.iadd, 1) := by decide +kernel
theorem dX1_sumOfCopies_20 : decode cX1_sumOfCopies 20 = .ok (.istore_n 2, 1) := by decide +kernel
theorem dX1_sumOfCopies_21 : decode cX1_sumOfCopies 21 = .ok (.iinc 3 1, 3) := by decide +kernel
theorem dX1_sumOfCopies_24 : decode cX1_sumOfCopies 24 = .ok (.goto (-20), 3) := by decide +kernel
theorem dX1_sumOfCopies_27 : decode cX1_sumOfCopies 27 = .ok (.iload_n 2, 1) := by decide +kernel
theorem dX1_sumOfCopies_28 : decode cX1_sumOfCopies 28 = .ok (.ireturn, 1) := by decide +kernel
theorem dX1_refusedInAll_0 : decode cX1_refusedInAll 0 = .ok (.iconst 0, 1) := by decide +kernel
theorem dX1_refusedInAll_1 : decode cX1_refusedInAll 1 = .ok (.istore_n 1, 1) := by decide +kernel
theorem dX1_refusedInAll_2 : decode cX1_refusedInAll 2 = .ok (.iconst 0, 1) := by decide +kernel
theorem dX1_refusedInAll_3 : decode cX1_refusedInAll 3 = .ok (.istore_n 2, 1) := by decide +kernel
theorem dX1_refusedInAll_4 : decode cX1_refusedInAll 4 = .ok (.iload_n 2, 1) := by decide +kernel
theorem dX1_refusedInAll_5 : decode cX1_refusedInAll 5 = .ok (.iconst 4, 1) := by decide +kernel
theorem dX1_refusedInAll_6 : decode cX1_refusedInAll 6 = .ok (.if_icmp .ge 19, 3) := by decide +kernel
theorem dX1_refusedInAll_9 : decode cX1_refusedInAll 9 = .ok (.iload_n 1, 1) := by decide +kernel
theorem dX1_refusedInAll_10 : decode cX1_refusedInAll 10 = .ok (.aload_n 0, 1) := by decide +kernel
theorem dX1_refusedInAll_11 : decode cX1_refusedInAll 11 = .ok (.bipush 48, 2) := by decide +kernel
theorem dX1_refusedInAll_13 : decode cX1_refusedInAll 13 = .ok (.iload_n 2, 1) := by decide +kernel
theorem dX1_refusedInAll_14 : decode cX1_refusedInAll 14 = .ok (.invokevirtual 131, 3) := by decide +kernel
theorem dX1_refusedInAll_17 : decode cX1_refusedInAll 17 = .ok (.iadd, 1) := by decide +kernel
theorem dX1_refusedInAll_18 : decode cX1_refusedInAll 18 = .ok (.istore_n 1, 1) := by decide +kernel
theorem dX1_refusedInAll_19 : decode cX1_refusedInAll 19 = .ok (.iinc 2 1, 3) := by decide +kernel
theorem dX1_refusedInAll_22 : decode cX1_refusedInAll 22 = .ok (.goto (-18), 3) := by decide +kernel
theorem dX1_refusedInAll_25 : decode cX1_refusedInAll 25 = .ok (.iload_n 1, 1) := by decide +kernel
theorem dX1_refusedInAll_26 : decode cX1_refusedInAll 26 = .ok (.ireturn, 1) := by decide +kernel
theorem dJ6_bitCount_0f7a4_0 : decode cJ6_bitCount_0f7a4 0 = .ok (.iload_n 0, 1) := by decide +kernel
theorem dJ6_bitCount_0f7a4_1 : decode cJ6_bitCount_0f7a4 1 = .ok (.iload_n 0, 1) := by decide +kernel
theorem dJ6_bitCount_0f7a4_2 : decode cJ6_bitCount_0f7a4 2 = .ok (.iconst 1, 1) := by decide +kernel
theorem dJ6_bitCount_0f7a4_3 : decode cJ6_bitCount_0f7a4 3 = .ok (.iushr, 1) := by decide +kernel
theorem dJ6_bitCount_0f7a4_4 : decode cJ6_bitCount_0f7a4 4 = .ok (.ldc_w 265, 3) := by decide +kernel
theorem dJ6_bitCount_0f7a4_7 : decode cJ6_bitCount_0f7a4 7 = .ok (.iand, 1) := by decide +kernel
theorem dJ6_bitCount_0f7a4_8 : decode cJ6_bitCount_0f7a4 8 = .ok (.isub, 1) := by decide +kernel
theorem dJ6_bitCount_0f7a4_9 : decode cJ6_bitCount_0f7a4 9 = .ok (.istore_n 0, 1) := by decide +kernel
theorem dJ6_bitCount_0f7a4_10 : decode cJ6_bitCount_0f7a4 10 = .ok (.iload_n 0, 1) := by decide +kernel
theorem dJ6_bitCount_0f7a4_11 : decode cJ6_bitCount_0f7a4 11 = .ok (.ldc_w 266, 3) := by decide +kernel
theorem dJ6_bitCount_0f7a4_14 : decode cJ6_bitCount_0f7a4 14 = .ok (.iand, 1) := by decide +kernel
theorem dJ6_bitCount_0f7a4_15 : decode cJ6_bitCount_0f7a4 15 = .ok (.iload_n 0, 1) := by decide +kernel
theorem dJ6_bitCount_0f7a4_16 : decode cJ6_bitCount_0f7a4 16 = .ok (.iconst 2, 1) := by decide +kernel
theorem dJ6_bitCount_0f7a4_17 : decode cJ6_bitCount_0f7a4 17 = .ok (.iushr, 1) := by decide +kernel
theorem dJ6_bitCount_0f7a4_18 : decode cJ6_bitCount_0f7a4 18 = .ok (.ldc_w 266, 3) := by decide +kernel
theorem dJ6_bitCount_0f7a4_21 : decode cJ6_bitCount_0f7a4 21 = .ok (.iand, 1) := by decide +kernel
theorem dJ6_bitCount_0f7a4_22 : decode cJ6_bitCount_0f7a4 22 = .ok (.iadd, 1) := by decide +kernel
theorem dJ6_bitCount_0f7a4_23 : decode cJ6_bitCount_0f7a4 23 = .ok (.istore_n 0, 1) := by decide +kernel
theorem dJ6_bitCount_0f7a4_24 : decode cJ6_bitCount_0f7a4 24 = .ok (.iload_n 0, 1) := by decide +kernel
theorem dJ6_bitCount_0f7a4_25 : decode cJ6_bitCount_0f7a4 25 = .ok (.iload_n 0, 1) := by decide +kernel
theorem dJ6_bitCount_0f7a4_26 : decode cJ6_bitCount_0f7a4 26 = .ok (.iconst 4, 1) := by decide +kernel
theorem dJ6_bitCount_0f7a4_27 : decode cJ6_bitCount_0f7a4 27 = .ok (.iushr, 1) := by decide +kernel
theorem dJ6_bitCount_0f7a4_28 : decode cJ6_bitCount_0f7a4 28 = .ok (.iadd, 1) := by decide +kernel
theorem dJ6_bitCount_0f7a4_29 : decode cJ6_bitCount_0f7a4 29 = .ok (.ldc_w 267, 3) := by decide +kernel
theorem dJ6_bitCount_0f7a4_32 : decode cJ6_bitCount_0f7a4 32 = .ok (.iand, 1) := by decide +kernel
theorem dJ6_bitCount_0f7a4_33 : decode cJ6_bitCount_0f7a4 33 = .ok (.istore_n 0, 1) := by decide +kernel
theorem dJ6_bitCount_0f7a4_34 : decode cJ6_bitCount_0f7a4 34 = .ok (.iload_n 0, 1) := by decide +kernel
theorem dJ6_bitCount_0f7a4_35 : decode cJ6_bitCount_0f7a4 35 = .ok (.iload_n 0, 1) := by decide +kernel
theorem dJ6_bitCount_0f7a4_36 : decode cJ6_bitCount_0f7a4 36 = .ok (.bipush 8, 2) := by decide +kernel
theorem dJ6_bitCount_0f7a4_38 : decode cJ6_bitCount_0f7a4 38 = .ok (.iushr, 1) := by decide +kernel
theorem dJ6_bitCount_0f7a4_39 : decode cJ6_bitCount_0f7a4 39 = .ok (.iadd, 1) := by decide +kernel
theorem dJ6_bitCount_0f7a4_40 : decode cJ6_bitCount_0f7a4 40 = .ok (.istore_n 0, 1) := by decide +kernel
theorem dJ6_bitCount_0f7a4_41 : decode cJ6_bitCount_0f7a4 41 = .ok (.iload_n 0, 1) := by decide +kernel
theorem dJ6_bitCount_0f7a4_42 : decode cJ6_bitCount_0f7a4 42 = .ok (.iload_n 0, 1) := by decide +kernel
theorem dJ6_bitCount_0f7a4_43 : decode cJ6_bitCount_0f7a4 43 = .ok (.bipush 16, 2) := by decide +kernel
theorem dJ6_bitCount_0f7a4_45 : decode cJ6_bitCount_0f7a4 45 = .ok (.iushr, 1) := by decide +kernel
theorem dJ6_bitCount_0f7a4_46 : decode cJ6_bitCount_0f7a4 46 = .ok (.iadd, 1) := by decide +kernel
theorem dJ6_bitCount_0f7a4_47 : decode cJ6_bitCount_0f7a4 47 = .ok (.istore_n 0, 1) := by decide +kernel
theorem dJ6_bitCount_0f7a4_48 : decode cJ6_bitCount_0f7a4 48 = .ok (.iload_n 0, 1) := by decide +kernel
theorem dJ6_bitCount_0f7a4_49 : decode cJ6_bitCount_0f7a4 49 = .ok (.bipush 63, 2) := by decide +kernel
theorem dJ6_bitCount_0f7a4_51 : decode cJ6_bitCount_0f7a4 51 = .ok (.iand, 1) := by decide +kernel
theorem dJ6_bitCount_0f7a4_52 : decode cJ6_bitCount_0f7a4 52 = .ok (.ireturn, 1) := by decide +kernel
theorem dX1_broughtBy_0 : decode cX1_broughtBy 0 = .ok (.aload_n 0, 1) := by decide +kernel
theorem dX1_broughtBy_1 : decode cX1_broughtBy 1 = .ok (.aload_n 0, 1) := by decide +kernel
theorem dX1_broughtBy_2 : decode cX1_broughtBy 2 = .ok (.invokevirtual 85, 3) := by decide +kernel
theorem dX1_broughtBy_5 : decode cX1_broughtBy 5 = .ok (.invokevirtual 43, 3) := by decide +kernel
theorem dX1_broughtBy_8 : decode cX1_broughtBy 8 = .ok (.lstore_n 2, 1) := by decide +kernel
theorem dX1_broughtBy_9 : decode cX1_broughtBy 9 = .ok (.iconst 0, 1) := by decide +kernel
theorem dX1_broughtBy_10 : decode cX1_broughtBy 10 = .ok (.istore 4, 2) := by decide +kernel
theorem dX1_broughtBy_12 : decode cX1_broughtBy 12 = .ok (.iload 4, 2) := by decide +kernel
theorem dX1_broughtBy_14 : decode cX1_broughtBy 14 = .ok (.aload_n 0, 1) := by decide +kernel
theorem dX1_broughtBy_15 : decode cX1_broughtBy 15 = .ok (.invokevirtual 51, 3) := by decide +kernel
theorem dX1_broughtBy_18 : decode cX1_broughtBy 18 = .ok (.if_icmp .ge 27, 3) := by decide +kernel
theorem dX1_broughtBy_21 : decode cX1_broughtBy 21 = .ok (.iload_n 1, 1) := by decide +kernel
theorem dX1_broughtBy_22 : decode cX1_broughtBy 22 = .ok (.iload 4, 2) := by decide +kernel
theorem dX1_broughtBy_24 : decode cX1_broughtBy 24 = .ok (.ishr, 1) := by decide +kernel
theorem dX1_broughtBy_25 : decode cX1_broughtBy 25 = .ok (.iconst 1, 1) := by decide +kernel
theorem dX1_broughtBy_26 : decode cX1_broughtBy 26 = .ok (.iand, 1) := by decide +kernel
theorem dX1_broughtBy_27 : decode cX1_broughtBy 27 = .ok (.ifCond .eq 12, 3) := by decide +kernel
theorem dX1_broughtBy_30 : decode cX1_broughtBy 30 = .ok (.lload_n 2, 1) := by decide +kernel
theorem dX1_broughtBy_31 : decode cX1_broughtBy 31 = .ok (.aload_n 0, 1) := by decide +kernel
theorem dX1_broughtBy_32 : decode cX1_broughtBy 32 = .ok (.iload 4, 2) := by decide +kernel
theorem dX1_broughtBy_34 : decode cX1_broughtBy 34 = .ok (.invokevirtual 43, 3) := by decide +kernel
theorem dX1_broughtBy_37 : decode cX1_broughtBy 37 = .ok (.lor, 1) := by decide +kernel
theorem dX1_broughtBy_38 : decode cX1_broughtBy 38 = .ok (.lstore_n 2, 1) := by decide +kernel
theorem dX1_broughtBy_39 : decode cX1_broughtBy 39 = .ok (.iinc 4 1, 3) := by decide +kernel
theorem dX1_broughtBy_42 : decode cX1_broughtBy 42 = .ok (.goto (-30), 3) := by decide +kernel
theorem dX1_broughtBy_45 : decode cX1_broughtBy 45 = .ok (.lload_n 2, 1) := by decide +kernel
theorem dX1_broughtBy_46 : decode cX1_broughtBy 46 = .ok (.lreturn, 1) := by decide +kernel
theorem dX1_planGivers_0 : decode cX1_planGivers 0 = .ok (.aload_n 0, 1) := by decide +kernel
theorem dX1_planGivers_1 : decode cX1_planGivers 1 = .ok (.invokevirtual 134, 3) := by decide +kernel
theorem dX1_planGivers_4 : decode cX1_planGivers 4 = .ok (.lstore_n 1, 1) := by decide +kernel
theorem dX1_planGivers_5 : decode cX1_planGivers 5 = .ok (.iconst 1, 1) := by decide +kernel
theorem dX1_planGivers_6 : decode cX1_planGivers 6 = .ok (.aload_n 0, 1) := by decide +kernel
theorem dX1_planGivers_7 : decode cX1_planGivers 7 = .ok (.invokevirtual 51, 3) := by decide +kernel
theorem dX1_planGivers_10 : decode cX1_planGivers 10 = .ok (.ishl, 1) := by decide +kernel
theorem dX1_planGivers_11 : decode cX1_planGivers 11 = .ok (.iconst 1, 1) := by decide +kernel
theorem dX1_planGivers_12 : decode cX1_planGivers 12 = .ok (.isub, 1) := by decide +kernel
theorem dX1_planGivers_13 : decode cX1_planGivers 13 = .ok (.istore_n 3, 1) := by decide +kernel
theorem dX1_planGivers_14 : decode cX1_planGivers 14 = .ok (.iconst 1, 1) := by decide +kernel
theorem dX1_planGivers_15 : decode cX1_planGivers 15 = .ok (.aload_n 0, 1) := by decide +kernel
theorem dX1_planGivers_16 : decode cX1_planGivers 16 = .ok (.invokevirtual 51, 3) := by decide +kernel
theorem dX1_planGivers_19 : decode cX1_planGivers 19 = .ok (.ishl, 1) := by decide +kernel
theorem dX1_planGivers_20 : decode cX1_planGivers 20 = .ok (.iconst 1, 1) := by decide +kernel
theorem dX1_planGivers_21 : decode cX1_planGivers 21 = .ok (.isub, 1) := by decide +kernel
theorem dX1_planGivers_22 : decode cX1_planGivers 22 = .ok (.istore 4, 2) := by decide +kernel
theorem dX1_planGivers_24 : decode cX1_planGivers 24 = .ok (.iload 4, 2) := by decide +kernel
theorem dX1_planGivers_26 : decode cX1_planGivers 26 = .ok (.ifCond .lt 47, 3) := by decide +kernel
theorem dX1_planGivers_29 : decode cX1_planGivers 29 = .ok (.iload 4, 2) := by decide +kernel
theorem dX1_planGivers_31 : decode cX1_planGivers 31 = .ok (.invokestatic 138, 3) := by decide +kernel
theorem dX1_planGivers_34 : decode cX1_planGivers 34 = .ok (.iload_n 3, 1) := by decide +kernel
theorem dX1_planGivers_35 : decode cX1_planGivers 35 = .ok (.invokestatic 138, 3) := by decide +kernel
theorem dX1_planGivers_38 : decode cX1_planGivers 38 = .ok (.if_icmp .gt 7, 3) := by decide +kernel
theorem dX1_planGivers_41 : decode cX1_planGivers 41 = .ok (.iconst 1, 1) := by decide +kernel
theorem dX1_planGivers_42 : decode cX1_planGivers 42 = .ok (.goto 4, 3) := by decide +kernel
theorem dX1_planGivers_45 : decode cX1_planGivers 45 = .ok (.iconst 0, 1) := by decide +kernel
theorem dX1_planGivers_46 : decode cX1_planGivers 46 = .ok (.istore 5, 2) := by decide +kernel
theorem dX1_planGivers_48 : decode cX1_planGivers 48 = .ok (.iload 5, 2) := by decide +kernel
theorem dX1_planGivers_50 : decode cX1_planGivers 50 = .ok (.ifCond .eq 17, 3) := by decide +kernel
theorem dX1_planGivers_53 : decode cX1_planGivers 53 = .ok (.aload_n 0, 1) := by decide +kernel
theorem dX1_planGivers_54 : decode cX1_planGivers 54 = .ok (.iload 4, 2) := by decide +kernel
theorem dX1_planGivers_56 : decode cX1_planGivers 56 = .ok (.invokevirtual 143, 3) := by decide +kernel
theorem dX1_planGivers_59 : decode cX1_planGivers 59 = .ok (.lload_n 1, 1) := by decide +kernel
theorem dX1_planGivers_60 : decode cX1_planGivers 60 = .ok (.lcmp, 1) := by decide +kernel
theorem dX1_planGivers_61 : decode cX1_planGivers 61 = .ok (.ifCond .ne 6, 3) := by decide +kernel
theorem dX1_planGivers_64 : decode cX1_planGivers 64 = .ok (.iload 4, 2) := by decide +kernel
theorem dX1_planGivers_66 : decode cX1_planGivers 66 = .ok (.istore_n 3, 1) := by decide +kernel
theorem dX1_planGivers_67 : decode cX1_planGivers 67 = .ok (.iinc 4 (-1), 3) := by decide +kernel
theorem dX1_planGivers_70 : decode cX1_planGivers 70 = .ok (.goto (-46), 3) := by decide +kernel
theorem dX1_planGivers_73 : decode cX1_planGivers 73 = .ok (.iload_n 3, 1) := by decide +kernel
theorem dX1_planGivers_74 : decode cX1_planGivers 74 = .ok (.ireturn, 1) := by decide +kernel
theorem dX1_planTakers_0 : decode cX1_planTakers 0 = .ok (.aload_n 0, 1) := by decide +kernel
theorem dX1_planTakers_1 : decode cX1_planTakers 1 = .ok (.invokevirtual 134, 3) := by decide +kernel
theorem dX1_planTakers_4 : decode cX1_planTakers 4 = .ok (.lstore_n 2, 1) := by decide +kernel
theorem dX1_planTakers_5 : decode cX1_planTakers 5 = .ok (.iload_n 1, 1) := by decide +kernel
theorem dX1_planTakers_6 : decode cX1_planTakers 6 = .ok (.ifCond .ne 10, 3) := by decide +kernel
theorem dX1_planTakers_9 : decode cX1_planTakers 9 = .ok (.aload_n 0, 1) := by decide +kernel
theorem dX1_planTakers_10 : decode cX1_planTakers 10 = .ok (.invokevirtual 47, 3) := by decide +kernel
theorem dX1_planTakers_13 : decode cX1_planTakers 13 = .ok (.goto 7, 3) := by decide +kernel
theorem dX1_planTakers_16 : decode cX1_planTakers 16 = .ok (.aload_n 0, 1) := by decide +kernel
theorem dX1_planTakers_17 : decode cX1_planTakers 17 = .ok (.invokevirtual 65, 3) := by decide +kernel
theorem dX1_planTakers_20 : decode cX1_planTakers 20 = .ok (.istore 4, 2) := by decide +kernel
theorem dX1_planTakers_22 : decode cX1_planTakers 22 = .ok (.iconst 0, 1) := by decide +kernel
theorem dX1_planTakers_23 : decode cX1_planTakers 23 = .ok (.istore 5, 2) := by decide +kernel
theorem dX1_planTakers_25 : decode cX1_planTakers 25 = .ok (.iconst 0, 1) := by decide +kernel
theorem dX1_planTakers_26 : decode cX1_planTakers 26 = .ok (.istore 6, 2) := by decide +kernel
theorem dX1_planTakers_28 : decode cX1_planTakers 28 = .ok (.iload 6, 2) := by decide +kernel
theorem dX1_planTakers_30 : decode cX1_planTakers 30 = .ok (.aload_n 0, 1) := by decide +kernel
theorem dX1_planTakers_31 : decode cX1_planTakers 31 = .ok (.invokevirtual 51, 3) := by decide +kernel
theorem dX1_planTakers_34 : decode cX1_planTakers 34 = .ok (.if_icmp .ge 61, 3) := by decide +kernel
theorem dX1_planTakers_37 : decode cX1_planTakers 37 = .ok (.aload_n 0, 1) := by decide +kernel
theorem dX1_planTakers_38 : decode cX1_planTakers 38 = .ok (.iload 6, 2) := by decide +kernel
theorem dX1_planTakers_40 : decode cX1_planTakers 40 = .ok (.invokevirtual 43, 3) := by decide +kernel
theorem dX1_planTakers_43 : decode cX1_planTakers 43 = .ok (.lload_n 2, 1) := by decide +kernel
theorem dX1_planTakers_44 : decode cX1_planTakers 44 = .ok (.lcmp, 1) := by decide +kernel
theorem dX1_planTakers_45 : decode cX1_planTakers 45 = .ok (.ifCond .ne 14, 3) := by decide +kernel
theorem dX1_planTakers_48 : decode cX1_planTakers 48 = .ok (.aload_n 0, 1) := by decide +kernel
theorem dX1_planTakers_49 : decode cX1_planTakers 49 = .ok (.iload 6, 2) := by decide +kernel
theorem dX1_planTakers_51 : decode cX1_planTakers 51 = .ok (.invokevirtual 62, 3) := by decide +kernel
theorem dX1_planTakers_54 : decode cX1_planTakers 54 = .ok (.iload 4, 2) := by decide +kernel
theorem dX1_planTakers_56 : decode cX1_planTakers 56 = .ok (.if_icmp .eq 7, 3) := by decide +kernel
theorem dX1_planTakers_59 : decode cX1_planTakers 59 = .ok (.iconst 1, 1) := by decide +kernel
theorem dX1_planTakers_60 : decode cX1_planTakers 60 = .ok (.goto 4, 3) := by decide +kernel
theorem dX1_planTakers_63 : decode cX1_planTakers 63 = .ok (.iconst 0, 1) := by decide +kernel
theorem dX1_planTakers_64 : decode cX1_planTakers 64 = .ok (.istore 7, 2) := by decide +kernel
theorem dX1_planTakers_66 : decode cX1_planTakers 66 = .ok (.iload 6, 2) := by decide +kernel
theorem dX1_planTakers_68 : decode cX1_planTakers 68 = .ok (.aload_n 0, 1) := by decide +kernel
theorem dX1_planTakers_69 : decode cX1_planTakers 69 = .ok (.invokevirtual 85, 3) := by decide +kernel
theorem dX1_planTakers_72 : decode cX1_planTakers 72 = .ok (.if_icmp .eq 17, 3) := by decide +kernel
theorem dX1_planTakers_75 : decode cX1_planTakers 75 = .ok (.iload 7, 2) := by decide +kernel
theorem dX1_planTakers_77 : decode cX1_planTakers 77 = .ok (.ifCond .eq 12, 3) := by decide +kernel
theorem dX1_planTakers_80 : decode cX1_planTakers 80 = .ok (.iload 5, 2) := by decide +kernel
theorem dX1_planTakers_82 : decode cX1_planTakers 82 = .ok (.iconst 1, 1) := by decide +kernel
theorem dX1_planTakers_83 : decode cX1_planTakers 83 = .ok (.iload 6, 2) := by decide +kernel
theorem dX1_planTakers_85 : decode cX1_planTakers 85 = .ok (.ishl, 1) := by decide +kernel
theorem dX1_planTakers_86 : decode cX1_planTakers 86 = .ok (.ior, 1) := by decide +kernel
theorem dX1_planTakers_87 : decode cX1_planTakers 87 = .ok (.istore 5, 2) := by decide +kernel
theorem dX1_planTakers_89 : decode cX1_planTakers 89 = .ok (.iinc 6 1, 3) := by decide +kernel
theorem dX1_planTakers_92 : decode cX1_planTakers 92 = .ok (.goto (-64), 3) := by decide +kernel
theorem dX1_planTakers_95 : decode cX1_planTakers 95 = .ok (.iload 5, 2) := by decide +kernel
theorem dX1_planTakers_97 : decode cX1_planTakers 97 = .ok (.ireturn, 1) := by decide +kernel
theorem dX2_keep_0 : decode cX2_keep 0 = .ok (.aload_n 1, 1) := by decide +kernel
theorem dX2_keep_1 : decode cX2_keep 1 = .ok (.getfield 18, 3) := by decide +kernel
theorem dX2_keep_4 : decode cX2_keep 4 = .ok (.iconst 0, 1) := by decide +kernel
theorem dX2_keep_5 : decode cX2_keep 5 = .ok (.aload_n 0, 1) := by decide +kernel
theorem dX2_keep_6 : decode cX2_keep 6 = .ok (.getfield 13, 3) := by decide +kernel
theorem dX2_keep_9 : decode cX2_keep 9 = .ok (.aload_n 0, 1) := by decide +kernel
theorem dX2_keep_10 : decode cX2_keep 10 = .ok (.getfield 22, 3) := by decide +kernel
theorem dX2_keep_13 : decode cX2_keep 13 = .ok (.aaload, 1) := by decide +kernel
theorem dX2_keep_14 : decode cX2_keep 14 = .ok (.iconst 0, 1) := by decide +kernel
theorem dX2_keep_15 : decode cX2_keep 15 = .ok (.bipush 96, 2) := by decide +kernel
theorem dX2_keep_17 : decode cX2_keep 17 = .ok (.invokestatic 26, 3) := by decide +kernel
theorem dX2_keep_20 : decode cX2_keep 20 = .ok (.aload_n 0, 1) := by decide +kernel
theorem dX2_keep_21 : decode cX2_keep 21 = .ok (.aload_n 0, 1) := by decide +kernel
theorem dX2_keep_22 : decode cX2_keep 22 = .ok (.getfield 22, 3) := by decide +kernel
theorem dX2_keep_25 : decode cX2_keep 25 = .ok (.iconst 1, 1) := by decide +kernel
theorem dX2_keep_26 : decode cX2_keep 26 = .ok (.iadd, 1) := by decide +kernel
theorem dX2_keep_27 : decode cX2_keep 27 = .ok (.bipush 40, 2) := by decide +kernel
theorem dX2_keep_29 : decode cX2_keep 29 = .ok (.irem, 1) := by decide +kernel
theorem dX2_keep_30 : decode cX2_keep 30 = .ok (.putfield 22, 3) := by decide +kernel
theorem dX2_keep_33 : decode cX2_keep 33 = .ok (.aload_n 0, 1) := by decide +kernel
theorem dX2_keep_34 : decode cX2_keep 34 = .ok (.aload_n 0, 1) := by decide +kernel
theorem dX2_keep_35 : decode cX2_keep 35 = .ok (.getfield 32, 3) := by decide +kernel
theorem dX2_keep_38 : decode cX2_keep 38 = .ok (.iconst 1, 1) := by decide +kernel
theorem dX2_keep_39 : decode cX2_keep 39 = .ok (.iadd, 1) := by decide +kernel
theorem dX2_keep_40 : decode cX2_keep 40 = .ok (.bipush 40, 2) := by decide +kernel
theorem dX2_keep_42 : decode cX2_keep 42 = .ok (.invokestatic 35, 3) := by decide +kernel
theorem dX2_keep_45 : decode cX2_keep 45 = .ok (.putfield 32, 3) := by decide +kernel
theorem dX2_keep_48 : decode cX2_keep 48 = .ok (.return_, 1) := by decide +kernel
theorem dX2_bringBack_0 : decode cX2_bringBack 0 = .ok (.aload_n 0, 1) := by decide +kernel
theorem dX2_bringBack_1 : decode cX2_bringBack 1 = .ok (.getfield 32, 3) := by decide +kernel
theorem dX2_bringBack_4 : decode cX2_bringBack 4 = .ok (.ifCond .ne 5, 3) := by decide +kernel
theorem dX2_bringBack_7 : decode cX2_bringBack 7 = .ok (.iconst 0, 1) := by decide +kernel
theorem dX2_bringBack_8 : decode cX2_bringBack 8 = .ok (.ireturn, 1) := by decide +kernel
theorem dX2_bringBack_9 : decode cX2_bringBack 9 = .ok (.aload_n 0, 1) := by decide +kernel
theorem dX2_bringBack_10 : decode cX2_bringBack 10 = .ok (.aload_n 0, 1) := by decide +kernel
theorem dX2_bringBack_11 : decode cX2_bringBack 11 = .ok (.getfield 22, 3) := by decide +kernel
theorem dX2_bringBack_14 : decode cX2_bringBack 14 = .ok (.bipush 40, 2) := by decide +kernel
theorem dX2_bringBack_16 : decode cX2_bringBack 16 = .ok (.iadd, 1) := by decide +kernel
theorem dX2_bringBack_17 : decode cX2_bringBack 17 = .ok (.iconst 1, 1) := by decide +kernel
theorem dX2_bringBack_18 : decode cX2_bringBack 18 = .ok (.isub, 1) := by decide +kernel
theorem dX2_bringBack_19 : decode cX2_bringBack 19 = .ok (.bipush 40, 2) := by decide +kernel
theorem dX2_bringBack_21 : decode cX2_bringBack 21 = .ok (.irem, 1) := by decide +kernel
theorem dX2_bringBack_22 : decode cX2_bringBack 22 = .ok (.putfield 22, 3) := by decide +kernel
theorem dX2_bringBack_25 : decode cX2_bringBack 25 = .ok (.aload_n 0, 1) := by decide +kernel
theorem dX2_bringBack_26 : decode cX2_bringBack 26 = .ok (.dup, 1) := by decide +kernel
theorem dX2_bringBack_27 : decode cX2_bringBack 27 = .ok (.getfield 32, 3) := by decide +kernel
theorem dX2_bringBack_30 : decode cX2_bringBack 30 = .ok (.iconst 1, 1) := by decide +kernel
theorem dX2_bringBack_31 : decode cX2_bringBack 31 = .ok (.isub, 1) := by decide +kernel
theorem dX2_bringBack_32 : decode cX2_bringBack 32 = .ok (.putfield 32, 3) := by decide +kernel
theorem dX2_bringBack_35 : decode cX2_bringBack 35 = .ok (.aload_n 0, 1) := by decide +kernel
theorem dX2_bringBack_36 : decode cX2_bringBack 36 = .ok (.getfield 13, 3) := by decide +kernel
theorem dX2_bringBack_39 : decode cX2_bringBack 39 = .ok (.aload_n 0, 1) := by decide +kernel
theorem dX2_bringBack_40 : decode cX2_bringBack 40 = .ok (.getfield 22, 3) := by decide +kernel
theorem dX2_bringBack_43 : decode cX2_bringBack 43 = .ok (.aaload, 1) := by decide +kernel
theorem dX2_bringBack_44 : decode cX2_bringBack 44 = .ok (.iconst 0, 1) := by decide +kernel
theorem dX2_bringBack_45 : decode cX2_bringBack 45 = .ok (.aload_n 1, 1) := by decide +kernel
theorem dX2_bringBack_46 : decode cX2_bringBack 46 = .ok (.getfield 18, 3) := by decide +kernel
theorem dX2_bringBack_49 : decode cX2_bringBack 49 = .ok (.iconst 0, 1) := by decide +kernel
theorem dX2_bringBack_50 : decode cX2_bringBack 50 = .ok (.bipush 96, 2) := by decide +kernel
theorem dX2_bringBack_52 : decode cX2_bringBack 52 = .ok (.invokestatic 26, 3) := by decide +kernel
theorem dX2_bringBack_55 : decode cX2_bringBack 55 = .ok (.iconst 1, 1) := by decide +kernel
theorem dX2_bringBack_56 : decode cX2_bringBack 56 = .ok (.ireturn, 1) := by decide +kernel
theorem dX2_forget_0 : decode cX2_forget 0 = .ok (.aload_n 0, 1) := by decide +kernel
theorem dX2_forget_1 : decode cX2_forget 1 = .ok (.iconst 0, 1) := by decide +kernel
theorem dX2_forget_2 : decode cX2_forget 2 = .ok (.putfield 32, 3) := by decide +kernel
theorem dX2_forget_5 : decode cX2_forget 5 = .ok (.return_, 1) := by decide +kernel
theorem dX7_clear_0 : decode cX7_clear 0 = .ok (.aload_n 0, 1) := by decide +kernel
theorem dX7_clear_1 : decode cX7_clear 1 = .ok (.iconst 3, 1) := by decide +kernel
theorem dX7_clear_2 : decode cX7_clear 2 = .ok (.putfield 37, 3) := by decide +kernel
theorem dX7_clear_5 : decode cX7_clear 5 = .ok (.aload_n 0, 1) := by decide +kernel
theorem dX7_clear_6 : decode cX7_clear 6 = .ok (.iconst 0, 1) := by decide +kernel
theorem dX7_clear_7 : decode cX7_clear 7 = .ok (.putfield 41, 3) := by decide +kernel
theorem dX7_clear_10 : decode cX7_clear 10 = .ok (.aload_n 0, 1) := by decide +kernel
theorem dX7_clear_11 : decode cX7_clear 11 = .ok (.iconst 0, 1) := by decide +kernel
theorem dX7_clear_12 : decode cX7_clear 12 = .ok (.putfield 44, 3) := by decide +kernel
theorem dX7_clear_15 : decode cX7_clear 15 = .ok (.aload_n 0, 1) := by decide +kernel
theorem dX7_clear_16 : decode cX7_clear 16 = .ok (.iconst 0, 1) := by decide +kernel
theorem dX7_clear_17 : decode cX7_clear 17 = .ok (.putfield 47, 3) := by decide +kernel
theorem dX7_clear_20 : decode cX7_clear 20 = .ok (.aload_n 0, 1) := by decide +kernel
theorem dX7_clear_21 : decode cX7_clear 21 = .ok (.iconst 0, 1) := by decide +kernel
theorem dX7_clear_22 : decode cX7_clear 22 = .ok (.putfield 50, 3) := by decide +kernel
theorem dX7_clear_25 : decode cX7_clear 25 = .ok (.aload_n 0, 1) := by decide +kernel
theorem dX7_clear_26 : decode cX7_clear 26 = .ok (.iconst 0, 1) := by decide +kernel
theorem dX7_clear_27 : decode cX7_clear 27 = .ok (.putfield 53, 3) := by decide +kernel
theorem dX7_clear_30 : decode cX7_clear 30 = .ok (.return_, 1) := by decide +kernel
theorem dX6_skipBlanks_0 : decode cX6_skipBlanks 0 = .ok (.aload_n 0, 1) := by decide +kernel
theorem dX6_skipBlanks_1 : decode cX6_skipBlanks 1 = .ok (.getfield 33, 3) := by decide +kernel
theorem dX6_skipBlanks_4 : decode cX6_skipBlanks 4 = .ok (.iload_n 2, 1) := by decide +kernel
theorem dX6_skipBlanks_5 : decode cX6_skipBlanks 5 = .ok (.if_icmp .ge 60, 3) := by decide +kernel
theorem dX6_skipBlanks_8 : decode cX6_skipBlanks 8 = .ok (.aload_n 1, 1) := by decide +kernel
theorem dX6_skipBlanks_9 : decode cX6_skipBlanks 9 = .ok (.aload_n 0, 1) := by decide +kernel
theorem dX6_skipBlanks_10 : decode cX6_skipBlanks 10 = .ok (.getfield 33, 3) := by decide +kernel
theorem dX6_skipBlanks_13 : decode cX6_skipBlanks 13 = .ok (.baload, 1) := by decide +kernel
theorem dX6_skipBlanks_14 : decode cX6_skipBlanks 14 = .ok (.bipush 9, 2) := by decide +kernel
theorem dX6_skipBlanks_16 : decode cX6_skipBlanks 16 = .ok (.if_icmp .eq 36, 3) := by decide +kernel
theorem dX6_skipBlanks_19 : decode cX6_skipBlanks 19 = .ok (.aload_n 1, 1) := by decide +kernel
theorem dX6_skipBlanks_20 : decode cX6_skipBlanks 20 = .ok (.aload_n 0, 1) := by decide +kernel
theorem dX6_skipBlanks_21 : decode cX6_skipBlanks 21 = .ok (.getfield 33, 3) := by decide +kernel
theorem dX6_skipBlanks_24 : decode cX6_skipBlanks 24 = .ok (.baload, 1) := by decide +kernel
theorem dX6_skipBlanks_25 : decode cX6_skipBlanks 25 = .ok (.bipush 10, 2) := by decide +kernel
theorem dX6_skipBlanks_27 : decode cX6_skipBlanks 27 = .ok (.if_icmp .eq 25, 3) := by decide +kernel
theorem dX6_skipBlanks_30 : decode cX6_skipBlanks 30 = .ok (.aload_n 1, 1) := by decide +kernel
theorem dX6_skipBlanks_31 : decode cX6_skipBlanks 31 = .ok (.aload_n 0, 1) := by decide +kernel
theorem dX6_skipBlanks_32 : decode cX6_skipBlanks 32 = .ok (.getfield 33, 3) := by decide +kernel
theorem dX6_skipBlanks_35 : decode cX6_skipBlanks 35 = .ok (.baload, 1) := by decide +kernel
theorem dX6_skipBlanks_36 : decode cX6_skipBlanks 36 = .ok (.bipush 13, 2) := by decide +kernel
theorem dX6_skipBlanks_38 : decode cX6_skipBlanks 38 = .ok (.if_icmp .eq 14, 3) := by decide +kernel
theorem dX6_skipBlanks_41 : decode cX6_skipBlanks 41 = .ok (.aload_n 1, 1) := by decide +kernel
theorem dX6_skipBlanks_42 : decode cX6_skipBlanks 42 = .ok (.aload_n 0, 1) := by decide +kernel
theorem dX6_skipBlanks_43 : decode cX6_skipBlanks 43 = .ok (.getfield 33, 3) := by decide +kernel
theorem dX6_skipBlanks_46 : decode cX6_skipBlanks 46 = .ok (.baload, 1) := by decide +kernel
theorem dX6_skipBlanks_47 : decode cX6_skipBlanks 47 = .ok (.bipush 32, 2) := by decide +kernel
theorem dX6_skipBlanks_49 : decode cX6_skipBlanks 49 = .ok (.if_icmp .ne 16, 3) := by decide +kernel
theorem dX6_skipBlanks_52 : decode cX6_skipBlanks 52 = .ok (.aload_n 0, 1) := by decide +kernel
theorem dX6_skipBlanks_53 : decode cX6_skipBlanks 53 = .ok (.dup, 1) := by decide +kernel
theorem dX6_skipBlanks_54 : decode cX6_skipBlanks 54 = .ok (.getfield 33, 3) := by decide +kernel
theorem dX6_skipBlanks_57 : decode cX6_skipBlanks 57 = .ok (.iconst 1, 1) := by decide +kernel
theorem dX6_skipBlanks_58 : decode cX6_skipBlanks 58 = .ok (.iadd, 1) := by decide +kernel
theorem dX6_skipBlanks_59 : decode cX6_skipBlanks 59 = .ok (.putfield 33, 3) := by decide +kernel
theorem dX6_skipBlanks_62 : decode cX6_skipBlanks 62 = .ok (.goto (-62), 3) := by decide +kernel
theorem dX6_skipBlanks_65 : decode cX6_skipBlanks 65 = .ok (.return_, 1) := by decide +kernel
theorem dX6_isLetter_0 : decode cX6_isLetter 0 = .ok (.iload_n 0, 1) := by decide +kernel
theorem dX6_isLetter_1 : decode cX6_isLetter 1 = .ok (.bipush 97, 2) := by decide +kernel
theorem dX6_isLetter_3 : decode cX6_isLetter 3 = .ok (.if_icmp .lt 13, 3) := by decide +kernel
theorem dX6_isLetter_6 : decode cX6_isLetter 6 = .ok (.iload_n 0, 1) := by decide +kernel
theorem dX6_isLetter_7 : decode cX6_isLetter 7 = .ok (.bipush 122, 2) := by decide +kernel
theorem dX6_isLetter_9 : decode cX6_isLetter 9 = .ok (.if_icmp .gt 7, 3) := by decide +kernel
theorem dX6_isLetter_12 : decode cX6_isLetter 12 = .ok (.iconst 1, 1) := by decide +kernel
theorem dX6_isLetter_13 : decode cX6_isLetter 13 = .ok (.goto 4, 3) := by decide +kernel
theorem dX6_isLetter_16 : decode cX6_isLetter 16 = .ok (.iconst 0, 1) := by decide +kernel
theorem dX6_isLetter_17 : decode cX6_isLetter 17 = .ok (.ireturn, 1) := by decide +kernel
theorem dX6_takeWord_0 : decode cX6_takeWord 0 = .ok (.aload_n 0, 1) := by decide +kernel
theorem dX6_takeWord_1 : decode cX6_takeWord 1 = .ok (.getfield 33, 3) := by decide +kernel
theorem dX6_takeWord_4 : decode cX6_takeWord 4 = .ok (.istore_n 3, 1) := by decide +kernel
theorem dX6_takeWord_5 : decode cX6_takeWord 5 = .ok (.lconst 0, 1) := by decide +kernel
theorem dX6_takeWord_6 : decode cX6_takeWord 6 = .ok (.lstore 4, 2) := by decide +kernel
theorem dX6_takeWord_8 : decode cX6_takeWord 8 = .ok (.aload_n 0, 1) := by decide +kernel
theorem dX6_takeWord_9 : decode cX6_takeWord 9 = .ok (.getfield 33, 3) := by decide +kernel
theorem dX6_takeWord_12 : decode cX6_takeWord 12 = .ok (.iload_n 2, 1) := by decide +kernel
theorem dX6_takeWord_13 : decode cX6_takeWord 13 = .ok (.if_icmp .ge 43, 3) := by decide +kernel
theorem dX6_takeWord_16 : decode cX6_takeWord 16 = .ok (.aload_n 1, 1) := by decide +kernel
theorem dX6_takeWord_17 : decode cX6_takeWord 17 = .ok (.aload_n 0, 1) := by decide +kernel
theorem dX6_takeWord_18 : decode cX6_takeWord 18 = .ok (.getfield 33, 3) := by decide +kernel
theorem dX6_takeWord_21 : decode cX6_takeWord 21 = .ok (.baload, 1) := by decide +kernel
theorem dX6_takeWord_22 : decode cX6_takeWord 22 = .ok (.invokestatic 43, 3) := by decide +kernel
theorem dX6_takeWord_25 : decode cX6_takeWord 25 = .ok (.ifCond .eq 31, 3) := by decide +kernel
theorem dX6_takeWord_28 : decode cX6_takeWord 28 = .ok (.lload 4, 2) := by decide +kernel
theorem dX6_takeWord_30 : decode cX6_takeWord 30 = .ok (.bipush 8, 2) := by decide +kernel
theorem dX6_takeWord_32 : decode cX6_takeWord 32 = .ok (.lshl, 1) := by decide +kernel
theorem dX6_takeWord_33 : decode cX6_takeWord 33 = .ok (.aload_n 1, 1) := by decide +kernel
theorem dX6_takeWord_34 : decode cX6_takeWord 34 = .ok (.aload_n 0, 1) := by decide +kernel
theorem dX6_takeWord_35 : decode cX6_takeWord 35 = .ok (.getfield 33, 3) := by decide +kernel
theorem dX6_takeWord_38 : decode cX6_takeWord 38 = .ok (.baload, 1) := by decide +kernel
theorem dX6_takeWord_39 : decode cX6_takeWord 39 = .ok (.i2l, 1) := by decide +kernel
theorem dX6_takeWord_40 : decode cX6_takeWord 40 = .ok (.lor, 1) := by decide +kernel
theorem dX6_takeWord_41 : decode cX6_takeWord 41 = .ok (.lstore 4, 2) := by decide +kernel
theorem dX6_takeWord_43 : decode cX6_takeWord 43 = .ok (.aload_n 0, 1) := by decide +kernel
theorem dX6_takeWord_44 : decode cX6_takeWord 44 = .ok (.dup, 1) := by decide +kernel
theorem dX6_takeWord_45 : decode cX6_takeWord 45 = .ok (.getfield 33, 3) := by decide +kernel
theorem dX6_takeWord_48 : decode cX6_takeWord 48 = .ok (.iconst 1, 1) := by decide +kernel
theorem dX6_takeWord_49 : decode cX6_takeWord 49 = .ok (.iadd, 1) := by decide +kernel
theorem dX6_takeWord_50 : decode cX6_takeWord 50 = .ok (.putfield 33, 3) := by decide +kernel
theorem dX6_takeWord_53 : decode cX6_takeWord 53 = .ok (.goto (-45), 3) := by decide +kernel
theorem dX6_takeWord_56 : decode cX6_takeWord 56 = .ok (.aload_n 0, 1) := by decide +kernel
theorem dX6_takeWord_57 : decode cX6_takeWord 57 = .ok (.getfield 16, 3) := by decide +kernel
theorem dX6_takeWord_60 : decode cX6_takeWord 60 = .ok (.aload_n 0, 1) := by decide +kernel
theorem dX6_takeWord_61 : decode cX6_takeWord 61 = .ok (.getfield 26, 3) := by decide +kernel
theorem dX6_takeWord_64 : decode cX6_takeWord 64 = .ok (.lload 4, 2) := by decide +kernel
theorem dX6_takeWord_66 : decode cX6_takeWord 66 = .ok (.lastore, 1) := by decide +kernel
theorem dX6_takeWord_67 : decode cX6_takeWord 67 = .ok (.aload_n 0, 1) := by decide +kernel
theorem dX6_takeWord_68 : decode cX6_takeWord 68 = .ok (.getfield 9, 3) := by decide +kernel
theorem dX6_takeWord_71 : decode cX6_takeWord 71 = .ok (.aload_n 0, 1) := by decide +kernel
theorem dX6_takeWord_72 : decode cX6_takeWord 72 = .ok (.getfield 26, 3) := by decide +kernel
theorem dX6_takeWord_75 : decode cX6_takeWord 75 = .ok (.aload_n 0, 1) := by decide +kernel
theorem dX6_takeWord_76 : decode cX6_takeWord 76 = .ok (.getfield 33, 3) := by decide +kernel
theorem dX6_takeWord_79 : decode cX6_takeWord 79 = .ok (.iload_n 3, 1) := by decide +kernel
theorem dX6_takeWord_80 : decode cX6_takeWord 80 = .ok (.isub, 1) := by decide +kernel
theorem dX6_takeWord_81 : decode cX6_takeWord 81 = .ok (.bipush 8, 2) := by decide +kernel
theorem dX6_takeWord_83 : decode cX6_takeWord 83 = .ok (.if_icmp .le 7, 3) := by decide +kernel
theorem dX6_takeWord_86 : decode cX6_takeWord 86 = .ok (.iconst 1, 1) := by decide +kernel
theorem dX6_takeWord_87 : decode cX6_takeWord 87 = .ok (.goto 4, 3) := by decide +kernel
theorem dX6_takeWord_90 : decode cX6_takeWord 90 = .ok (.iconst 2, 1) := by decide +kernel
theorem dX6_takeWord_91 : decode cX6_takeWord 91 = .ok (.iastore, 1) := by decide +kernel
theorem dX6_takeWord_92 : decode cX6_takeWord 92 = .ok (.iconst 0, 1) := by decide +kernel
theorem dX6_takeWord_93 : decode cX6_takeWord 93 = .ok (.istore 6, 2) := by decide +kernel
theorem dX6_takeWord_95 : decode cX6_takeWord 95 = .ok (.iload 6, 2) := by decide +kernel
theorem dX6_takeWord_97 : decode cX6_takeWord 97 = .ok (.getstatic 64, 3) := by decide +kernel
theorem dX6_takeWord_100 : decode cX6_takeWord 100 = .ok (.arraylength, 1) := by decide +kernel
theorem dX6_takeWord_101 : decode cX6_takeWord 101 = .ok (.if_icmp .ge 48, 3) := by decide +kernel
theorem dX6_takeWord_104 : decode cX6_takeWord 104 = .ok (.aload_n 0, 1) := by decide +kernel
theorem dX6_takeWord_105 : decode cX6_takeWord 105 = .ok (.getfield 9, 3) := by decide +kernel
theorem dX6_takeWord_108 : decode cX6_takeWord 108 = .ok (.aload_n 0, 1) := by decide +kernel
theorem dX6_takeWord_109 : decode cX6_takeWord 109 = .ok (.getfield 26, 3) := by decide +kernel
theorem dX6_takeWord_112 : decode cX6_takeWord 112 = .ok (.iaload, 1) := by decide +kernel
theorem dX6_takeWord_113 : decode cX6_takeWord 113 = .ok (.iconst 2, 1) := by decide +kernel
theorem dX6_takeWord_114 : decode cX6_takeWord 114 = .ok (.if_icmp .ne 35, 3) := by decide +kernel
theorem dX6_takeWord_117 : decode cX6_takeWord 117 = .ok (.getstatic 64, 3) := by decide +kernel
theorem dX6_takeWord_120 : decode cX6_takeWord 120 = .ok (.iload 6, 2) := by decide +kernel
theorem dX6_takeWord_122 : decode cX6_takeWord 122 = .ok (.laload, 1) := by decide +kernel
theorem dX6_takeWord_123 : decode cX6_takeWord 123 = .ok (.lload 4, 2) := by decide +kernel
theorem dX6_takeWord_125 : decode cX6_takeWord 125 = .ok (.lcmp, 1) := by decide +kernel
theorem dX6_takeWord_126 : decode cX6_takeWord 126 = .ok (.ifCond .ne 17, 3) := by decide +kernel
theorem dX6_takeWord_129 : decode cX6_takeWord 129 = .ok (.aload_n 0, 1) := by decide +kernel
theorem dX6_takeWord_130 : decode cX6_takeWord 130 = .ok (.getfield 9, 3) := by decide +kernel
theorem dX6_takeWord_133 : decode cX6_takeWord 133 = .ok (.aload_n 0, 1) := by decide +kernel
theorem dX6_takeWord_134 : decode cX6_takeWord 134 = .ok (.getfield 26, 3) := by decide +kernel
theorem dX6_takeWord_137 : decode cX6_takeWord 137 = .ok (.bipush 100, 2) := by decide +kernel
theorem dX6_takeWord_139 : decode cX6_takeWord 139 = .ok (.iload 6, 2) := by decide +kernel
theorem dX6_takeWord_141 : decode cX6_takeWord 141 = .ok (.iadd, 1) := by decide +kernel
theorem dX6_takeWord_142 : decode cX6_takeWord 142 = .ok (.iastore, 1) := by decide +kernel
theorem dX6_takeWord_143 : decode cX6_takeWord 143 = .ok (.iinc 6 1, 3) := by decide +kernel
theorem dX6_takeWord_146 : decode cX6_takeWord 146 = .ok (.goto (-51), 3) := by decide +kernel
theorem dX6_takeWord_149 : decode cX6_takeWord 149 = .ok (.return_, 1) := by decide +kernel
theorem dX6_isDigit_0 : decode cX6_isDigit 0 = .ok (.iload_n 0, 1) := by decide +kernel
theorem dX6_isDigit_1 : decode cX6_isDigit 1 = .ok (.bipush 48, 2) := by decide +kernel
theorem dX6_isDigit_3 : decode cX6_isDigit 3 = .ok (.if_icmp .lt 13, 3) := by decide +kernel
theorem dX6_isDigit_6 : decode cX6_isDigit 6 = .ok (.iload_n 0, 1) := by decide +kernel
theorem dX6_isDigit_7 : decode cX6_isDigit 7 = .ok (.bipush 57, 2) := by decide +kernel
theorem dX6_isDigit_9 : decode cX6_isDigit 9 = .ok (.if_icmp .gt 7, 3) := by decide +kernel
theorem dX6_isDigit_12 : decode cX6_isDigit 12 = .ok (.iconst 1, 1) := by decide +kernel
theorem dX6_isDigit_13 : decode cX6_isDigit 13 = .ok (.goto 4, 3) := by decide +kernel
theorem dX6_isDigit_16 : decode cX6_isDigit 16 = .ok (.iconst 0, 1) := by decide +kernel
theorem dX6_isDigit_17 : decode cX6_isDigit 17 = .ok (.ireturn, 1) := by decide +kernel
theorem dX6_takeInt_0 : decode cX6_takeInt 0 = .ok (.aload_n 0, 1) := by decide +kernel
theorem dX6_takeInt_1 : decode cX6_takeInt 1 = .ok (.getfield 33, 3) := by decide +kernel
theorem dX6_takeInt_4 : decode cX6_takeInt 4 = .ok (.istore_n 3, 1) := by decide +kernel
theorem dX6_takeInt_5 : decode cX6_takeInt 5 = .ok (.iconst 0, 1) := by decide +kernel
theorem dX6_takeInt_6 : decode cX6_takeInt 6 = .ok (.istore 4, 2) := by decide +kernel
theorem dX6_takeInt_8 : decode cX6_takeInt 8 = .ok (.aload_n 0, 1) := by decide +kernel
theorem dX6_takeInt_9 : decode cX6_takeInt 9 = .ok (.getfield 33, 3) := by decide +kernel
theorem dX6_takeInt_12 : decode cX6_takeInt 12 = .ok (.iload_n 2, 1) := by decide +kernel
theorem dX6_takeInt_13 : decode cX6_takeInt 13 = .ok (.if_icmp .ge 45, 3) := by decide +kernel
theorem dX6_takeInt_16 : decode cX6_takeInt 16 = .ok (.aload_n 1, 1) := by decide +kernel
theorem dX6_takeInt_17 : decode cX6_takeInt 17 = .ok (.aload_n 0, 1) := by decide +kernel
theorem dX6_takeInt_18 : decode cX6_takeInt 18 = .ok (.getfield 33, 3) := by decide +kernel
theorem dX6_takeInt_21 : decode cX6_takeInt 21 = .ok (.baload, 1) := by decide +kernel
theorem dX6_takeInt_22 : decode cX6_takeInt 22 = .ok (.invokestatic 50, 3) := by decide +kernel
theorem dX6_takeInt_25 : decode cX6_takeInt 25 = .ok (.ifCond .eq 33, 3) := by decide +kernel
theorem dX6_takeInt_28 : decode cX6_takeInt 28 = .ok (.iload 4, 2) := by decide +kernel
theorem dX6_takeInt_30 : decode cX6_takeInt 30 = .ok (.bipush 10, 2) := by decide +kernel
theorem dX6_takeInt_32 : decode cX6_takeInt 32 = .ok (.imul, 1) := by decide +kernel
theorem dX6_takeInt_33 : decode cX6_takeInt 33 = .ok (.aload_n 1, 1) := by decide +kernel
theorem dX6_takeInt_34 : decode cX6_takeInt 34 = .ok (.aload_n 0, 1) := by decide +kernel
theorem dX6_takeInt_35 : decode cX6_takeInt 35 = .ok (.getfield 33, 3) := by decide +kernel
theorem dX6_takeInt_38 : decode cX6_takeInt 38 = .ok (.baload, 1) := by decide +kernel
theorem dX6_takeInt_39 : decode cX6_takeInt 39 = .ok (.iadd, 1) := by decide +kernel
theorem dX6_takeInt_40 : decode cX6_takeInt 40 = .ok (.bipush 48, 2) := by decide +kernel
theorem dX6_takeInt_42 : decode cX6_takeInt 42 = .ok (.isub, 1) := by decide +kernel
theorem dX6_takeInt_43 : decode cX6_takeInt 43 = .ok (.istore 4, 2) := by decide +kernel
theorem dX6_takeInt_45 : decode cX6_takeInt 45 = .ok (.aload_n 0, 1) := by decide +kernel
theorem dX6_takeInt_46 : decode cX6_takeInt 46 = .ok (.dup, 1) := by decide +kernel
theorem dX6_takeInt_47 : decode cX6_takeInt 47 = .ok (.getfield 33, 3) := by decide +kernel
theorem dX6_takeInt_50 : decode cX6_takeInt 50 = .ok (.iconst 1, 1) := by decide +kernel
theorem dX6_takeInt_51 : decode cX6_takeInt 51 = .ok (.iadd, 1) := by decide +kernel
theorem dX6_takeInt_52 : decode cX6_takeInt 52 = .ok (.putfield 33, 3) := by decide +kernel
theorem dX6_takeInt_55 : decode cX6_takeInt 55 = .ok (.goto (-47), 3) := by decide +kernel
theorem dX6_takeInt_58 : decode cX6_takeInt 58 = .ok (.aload_n 0, 1) := by decide +kernel
theorem dX6_takeInt_59 : decode cX6_takeInt 59 = .ok (.getfield 16, 3) := by decide +kernel
theorem dX6_takeInt_62 : decode cX6_takeInt 62 = .ok (.aload_n 0, 1) := by decide +kernel
theorem dX6_takeInt_63 : decode cX6_takeInt 63 = .ok (.getfield 26, 3) := by decide +kernel
theorem dX6_takeInt_66 : decode cX6_takeInt 66 = .ok (.iload 4, 2) := by decide +kernel
theorem dX6_takeInt_68 : decode cX6_takeInt 68 = .ok (.i2l, 1) := by decide +kernel
theorem dX6_takeInt_69 : decode cX6_takeInt 69 = .ok (.lastore, 1) := by decide +kernel
theorem dX6_takeInt_70 : decode cX6_takeInt 70 = .ok (.aload_n 0, 1) := by decide +kernel
theorem dX6_takeInt_71 : decode cX6_takeInt 71 = .ok (.getfield 9, 3) := by decide +kernel
theorem dX6_takeInt_74 : decode cX6_takeInt 74 = .ok (.aload_n 0, 1) := by decide +kernel
theorem dX6_takeInt_75 : decode cX6_takeInt 75 = .ok (.getfield 26, 3) := by decide +kernel
theorem dX6_takeInt_78 : decode cX6_takeInt 78 = .ok (.aload_n 0, 1) := by decide +kernel
theorem dX6_takeInt_79 : decode cX6_takeInt 79 = .ok (.getfield 33, 3) := by decide +kernel
theorem dX6_takeInt_82 : decode cX6_takeInt 82 = .ok (.iload_n 3, 1) := by decide +kernel
theorem dX6_takeInt_83 : decode cX6_takeInt 83 = .ok (.isub, 1) := by decide +kernel
theorem dX6_takeInt_84 : decode cX6_takeInt 84 = .ok (.iconst 4, 1) := by decide +kernel
theorem dX6_takeInt_85 : decode cX6_takeInt 85 = .ok (.if_icmp .le 7, 3) := by decide +kernel
theorem dX6_takeInt_88 : decode cX6_takeInt 88 = .ok (.iconst 1, 1) := by decide +kernel
theorem dX6_takeInt_89 : decode cX6_takeInt 89 = .ok (.goto 4, 3) := by decide +kernel
theorem dX6_takeInt_92 : decode cX6_takeInt 92 = .ok (.iconst 3, 1) := by decide +kernel
theorem dX6_takeInt_93 : decode cX6_takeInt 93 = .ok (.iastore, 1) := by decide +kernel
theorem dX6_takeInt_94 : decode cX6_takeInt 94 = .ok (.return_, 1) := by decide +kernel
theorem dJ0_isLatin1_aae02_0 : decode cJ0_isLatin1_aae02 0 = .ok (.getstatic 38, 3) := by decide +kernel
theorem dJ0_isLatin1_aae02_3 : decode cJ0_isLatin1_aae02 3 = .ok (.ifCond .eq 14, 3) := by decide +kernel
theorem dJ0_isLatin1_aae02_6 : decode cJ0_isLatin1_aae02 6 = .ok (.aload_n 0, 1) := by decide +kernel
theorem dJ0_isLatin1_aae02_7 : decode cJ0_isLatin1_aae02 7 = .ok (.getfield 15, 3) := by decide +kernel
theorem dJ0_isLatin1_aae02_10 : decode cJ0_isLatin1_aae02 10 = .ok (.ifCond .ne 7, 3) := by decide +kernel
theorem dJ0_isLatin1_aae02_13 : decode cJ0_isLatin1_aae02 13 = .ok (.iconst 1, 1) := by decide +kernel
theorem dJ0_isLatin1_aae02_14 : decode cJ0_isLatin1_aae02 14 = .ok (.goto 4, 3) := by decide +kernel
theorem dJ0_isLatin1_aae02_17 : decode cJ0_isLatin1_aae02 17 = .ok (.iconst 0, 1) := by decide +kernel
theorem dJ0_isLatin1_aae02_18 : decode cJ0_isLatin1_aae02 18 = .ok (.ireturn, 1) := by decide +kernel
theorem dJ0_coder_7d493_0 : decode cJ0_coder_7d493 0 = .ok (.getstatic 38, 3) := by decide +kernel
theorem dJ0_coder_7d493_3 : decode cJ0_coder_7d493 3 = .ok (.ifCond .eq 10, 3) := by decide +kernel
theorem dJ0_coder_7d493_6 : decode cJ0_coder_7d493 6 = .ok (.aload_n 0, 1) := by decide +kernel
theorem dJ0_coder_7d493_7 : decode cJ0_coder_7d493 7 = .ok (.getfield 15, 3) := by decide +kernel
theorem dJ0_coder_7d493_10 : decode cJ0_coder_7d493 10 = .ok (.goto 4, 3) := by decide +kernel
theorem dJ0_coder_7d493_13 : decode cJ0_coder_7d493 13 = .ok (.iconst 1, 1) := by decide +kernel
theorem dJ0_coder_7d493_14 : decode cJ0_coder_7d493 14 = .ok (.ireturn, 1) := by decide +kernel
theorem dJ0_length_8abf5_0 : decode cJ0_length_8abf5 0 = .ok (.aload_n 0, 1) := by decide +kernel
theorem dJ0_length_8abf5_1 : decode cJ0_length_8abf5 1 = .ok (.getfield 9, 3) := by decide +kernel
theorem dJ0_length_8abf5_4 : decode cJ0_length_8abf5 4 = .ok (.arraylength, 1) := by decide +kernel
theorem dJ0_length_8abf5_5 : decode cJ0_length_8abf5 5 = .ok (.aload_n 0, 1) := by decide +kernel
theorem dJ0_length_8abf5_6 : decode cJ0_length_8abf5 6 = .ok (.invokevirtual 335, 3) := by decide +kernel
theorem dJ0_length_8abf5_9 : decode cJ0_length_8abf5 9 = .ok (.ishr, 1) := by decide +kernel
theorem dJ0_length_8abf5_10 : decode cJ0_length_8abf5 10 = .ok (.ireturn, 1) := by decide +kernel
theorem dJ1_canEncode_9a6ad_0 : decode cJ1_canEncode_9a6ad 0 = .ok (.iload_n 0, 1) := by decide +kernel
theorem dJ1_canEncode_9a6ad_1 : decode cJ1_canEncode_9a6ad 1 = .ok (.ifCond .lt 14, 3) := by decide +kernel
theorem dJ1_canEncode_9a6ad_4 : decode cJ1_canEncode_9a6ad 4 = .ok (.iload_n 0, 1) := by decide +kernel
theorem dJ1_canEncode_9a6ad_5 : decode cJ1_canEncode_9a6ad 5 = .ok (.sipush 255, 3) := by decide +kernel
theorem dJ1_canEncode_9a6ad_8 : decode cJ1_canEncode_9a6ad 8 = .ok (.if_icmp .gt 7, 3) := by decide +kernel
theorem dJ1_canEncode_9a6ad_11 : decode cJ1_canEncode_9a6ad 11 = .ok (.iconst 1, 1) := by decide +kernel
theorem dJ1_canEncode_9a6ad_12 : decode cJ1_canEncode_9a6ad 12 = .ok (.goto 4, 3) := by decide +kernel
theorem dJ1_canEncode_9a6ad_15 : decode cJ1_canEncode_9a6ad 15 = .ok (.iconst 0, 1) := by decide +kernel
theorem dJ1_canEncode_9a6ad_16 : decode cJ1_canEncode_9a6ad 16 = .ok (.ireturn, 1) := by decide +kernel
theorem dJ1_indexOfChar_4cfef_0 : decode cJ1_indexOfChar_4cfef 0 = .ok (.iload_n 1, 1) := by decide +kernel
theorem dJ1_indexOfChar_4cfef_1 : decode cJ1_indexOfChar_4cfef 1 = .ok (.i2b, 1) := by decide +kernel
theorem dJ1_indexOfChar_4cfef_2 : decode cJ1_indexOfChar_4cfef 2 = .ok (.istore 4, 2) := by decide +kernel
theorem dJ1_indexOfChar_4cfef_4 : decode cJ1_indexOfChar_4cfef 4 = .ok (.iload_n 2, 1) := by decide +kernel
theorem dJ1_indexOfChar_4cfef_5 : decode cJ1_indexOfChar_4cfef 5 = .ok (.istore 5, 2) := by decide +kernel
theorem dJ1_indexOfChar_4cfef_7 : decode cJ1_indexOfChar_4cfef 7 = .ok (.iload 5, 2) := by decide +kernel
theorem dJ1_indexOfChar_4cfef_9 : decode cJ1_indexOfChar_4cfef 9 = .ok (.iload_n 3, 1) := by decide +kernel
theorem dJ1_indexOfChar_4cfef_10 : decode cJ1_indexOfChar_4cfef 10 = .ok (.if_icmp .ge 21, 3) := by decide +kernel
theorem dJ1_indexOfChar_4cfef_13 : decode cJ1_indexOfChar_4cfef 13 = .ok (.aload_n 0, 1) := by decide +kernel
theorem dJ1_indexOfChar_4cfef_14 : decode cJ1_indexOfChar_4cfef 14 = .ok (.iload 5, 2) := by decide +kernel
theorem dJ1_indexOfChar_4cfef_16 : decode cJ1_indexOfChar_4cfef 16 = .ok (.baload, 1) := by decide +kernel
theorem dJ1_indexOfChar_4cfef_17 : decode cJ1_indexOfChar_4cfef 17 = .ok (.iload 4, 2) := by decide +kernel
theorem dJ1_indexOfChar_4cfef_19 : decode cJ1_indexOfChar_4cfef 19 = .ok (.if_icmp .ne 6, 3) := by decide +kernel
theorem dJ1_indexOfChar_4cfef_22 : decode cJ1_indexOfChar_4cfef 22 = .ok (.iload 5, 2) := by decide +kernel
theorem dJ1_indexOfChar_4cfef_24 : decode cJ1_indexOfChar_4cfef 24 = .ok (.ireturn, 1) := by decide +kernel
theorem dJ1_indexOfChar_4cfef_25 : decode cJ1_indexOfChar_4cfef 25 = .ok (.iinc 5 1, 3) := by decide +kernel
theorem dJ1_indexOfChar_4cfef_28 : decode cJ1_indexOfChar_4cfef 28 = .ok (.goto (-21), 3) := by decide +kernel
theorem dJ1_indexOfChar_4cfef_31 : decode cJ1_indexOfChar_4cfef 31 = .ok (.iconst (-1), 1) := by decide +kernel
theorem dJ1_indexOfChar_4cfef_32 : decode cJ1_indexOfChar_4cfef 32 = .ok (.ireturn, 1) := by decide +kernel
theorem dJ1_indexOf_4cfef_0 : decode cJ1_indexOf_4cfef 0 = .ok (.iload_n 1, 1) := by decide +kernel
theorem dJ1_indexOf_4cfef_1 : decode cJ1_indexOf_4cfef 1 = .ok (.invokestatic 88, 3) := by decide +kernel
theorem dJ1_indexOf_4cfef_4 : decode cJ1_indexOf_4cfef 4 = .ok (.ifCond .ne 5, 3) := by decide +kernel
theorem dJ1_indexOf_4cfef_7 : decode cJ1_indexOf_4cfef 7 = .ok (.iconst (-1), 1) := by decide +kernel
theorem dJ1_indexOf_4cfef_8 : decode cJ1_indexOf_4cfef 8 = .ok (.ireturn, 1) := by decide +kernel
theorem dJ1_indexOf_4cfef_9 : decode cJ1_indexOf_4cfef 9 = .ok (.iload_n 2, 1) := by decide +kernel
theorem dJ1_indexOf_4cfef_10 : decode cJ1_indexOf_4cfef 10 = .ok (.iconst 0, 1) := by decide +kernel
theorem dJ1_indexOf_4cfef_11 : decode cJ1_indexOf_4cfef 11 = .ok (.invokestatic 92, 3) := by decide +kernel
theorem dJ1_indexOf_4cfef_14 : decode cJ1_indexOf_4cfef 14 = .ok (.istore_n 2, 1) := by decide +kernel
theorem dJ1_indexOf_4cfef_15 : decode cJ1_indexOf_4cfef 15 = .ok (.iload_n 3, 1) := by decide +kernel
theorem dJ1_indexOf_4cfef_16 : decode cJ1_indexOf_4cfef 16 = .ok (.aload_n 0, 1) := by decide +kernel
theorem dJ1_indexOf_4cfef_17 : decode cJ1_indexOf_4cfef 17 = .ok (.arraylength, 1) := by decide +kernel
theorem dJ1_indexOf_4cfef_18 : decode cJ1_indexOf_4cfef 18 = .ok (.invokestatic 38, 3) := by decide +kernel
theorem dJ1_indexOf_4cfef_21 : decode cJ1_indexOf_4cfef 21 = .ok (.istore_n 3, 1) := by decide +kernel
theorem dJ1_indexOf_4cfef_22 : decode cJ1_indexOf_4cfef 22 = .ok (.iload_n 2, 1) := by decide +kernel
theorem dJ1_indexOf_4cfef_23 : decode cJ1_indexOf_4cfef 23 = .ok (.iload_n 3, 1) := by decide +kernel
theorem dJ1_indexOf_4cfef_24 : decode cJ1_indexOf_4cfef 24 = .ok (.if_icmp .lt 5, 3) := by decide +kernel
theorem dJ1_indexOf_4cfef_27 : decode cJ1_indexOf_4cfef 27 = .ok (.iconst (-1), 1) := by decide +kernel
theorem dJ1_indexOf_4cfef_28 : decode cJ1_indexOf_4cfef 28 = .ok (.ireturn, 1) := by decide +kernel
theorem dJ1_indexOf_4cfef_29 : decode cJ1_indexOf_4cfef 29 = .ok (.aload_n 0, 1) := by decide +kernel
theorem dJ1_indexOf_4cfef_30 : decode cJ1_indexOf_4cfef 30 = .ok (.iload_n 1, 1) := by decide +kernel
theorem dJ1_indexOf_4cfef_31 : decode cJ1_indexOf_4cfef 31 = .ok (.iload_n 2, 1) := by decide +kernel
theorem dJ1_indexOf_4cfef_32 : decode cJ1_indexOf_4cfef 32 = .ok (.iload_n 3, 1) := by decide +kernel
theorem dJ1_indexOf_4cfef_33 : decode cJ1_indexOf_4cfef 33 = .ok (.invokestatic 95, 3) := by decide +kernel
theorem dJ1_indexOf_4cfef_36 : decode cJ1_indexOf_4cfef 36 = .ok (.ireturn, 1) := by decide +kernel
theorem dJ0_indexOf_7cf53_0 : decode cJ0_indexOf_7cf53 0 = .ok (.aload_n 0, 1) := by decide +kernel
theorem dJ0_indexOf_7cf53_1 : decode cJ0_indexOf_7cf53 1 = .ok (.invokevirtual 492, 3) := by decide +kernel
theorem dJ0_indexOf_7cf53_4 : decode cJ0_indexOf_7cf53 4 = .ok (.ifCond .eq 19, 3) := by decide +kernel
theorem dJ0_indexOf_7cf53_7 : decode cJ0_indexOf_7cf53 7 = .ok (.aload_n 0, 1) := by decide +kernel
theorem dJ0_indexOf_7cf53_8 : decode cJ0_indexOf_7cf53 8 = .ok (.getfield 9, 3) := by decide +kernel
theorem dJ0_indexOf_7cf53_11 : decode cJ0_indexOf_7cf53 11 = .ok (.iload_n 1, 1) := by decide +kernel
theorem dJ0_indexOf_7cf53_12 : decode cJ0_indexOf_7cf53 12 = .ok (.iload_n 2, 1) := by decide +kernel
theorem dJ0_indexOf_7cf53_13 : decode cJ0_indexOf_7cf53 13 = .ok (.aload_n 0, 1) := by decide +kernel
theorem dJ0_indexOf_7cf53_14 : decode cJ0_indexOf_7cf53 14 = .ok (.invokevirtual 505, 3) := by decide +kernel
theorem dJ0_indexOf_7cf53_17 : decode cJ0_indexOf_7cf53 17 = .ok (.invokestatic 637, 3) := by decide +kernel
theorem dJ0_indexOf_7cf53_20 : decode cJ0_indexOf_7cf53 20 = .ok (.goto 16, 3) := by decide +kernel
theorem dJ0_indexOf_7cf53_23 : decode cJ0_indexOf_7cf53 23 = .ok (.aload_n 0, 1) := by decide +kernel
theorem dJ0_indexOf_7cf53_24 : decode cJ0_indexOf_7cf53 24 = .ok (.getfield 9, 3) := by decide +kernel
theorem dJ0_indexOf_7cf53_27 : decode cJ0_indexOf_7cf53 27 = .ok (.iload_n 1, 1) := by decide +kernel
theorem dJ0_indexOf_7cf53_28 : decode cJ0_indexOf_7cf53 28 = .ok (.iload_n 2, 1) := by decide +kernel
theorem dJ0_indexOf_7cf53_29 : decode cJ0_indexOf_7cf53 29 = .ok (.aload_n 0, 1) := by decide +kernel
theorem dJ0_indexOf_7cf53_30 : decode cJ0_indexOf_7cf53 30 = .ok (.invokevirtual 505, 3) := by decide +kernel
theorem dJ0_indexOf_7cf53_33 : decode cJ0_indexOf_7cf53 33 = .ok (.invokestatic 640, 3) := by decide +kernel
theorem dJ0_indexOf_7cf53_36 : decode cJ0_indexOf_7cf53 36 = .ok (.ireturn, 1) := by decide +kernel
theorem dJ0_indexOf_0f7a4_0 : decode cJ0_indexOf_0f7a4 0 = .ok (.aload_n 0, 1) := by decide +kernel
theorem dJ0_indexOf_0f7a4_1 : decode cJ0_indexOf_0f7a4 1 = .ok (.iload_n 1, 1) := by decide +kernel
theorem dJ0_indexOf_0f7a4_2 : decode cJ0_indexOf_0f7a4 2 = .ok (.iconst 0, 1) := by decide +kernel
theorem dJ0_indexOf_0f7a4_3 : decode cJ0_indexOf_0f7a4 3 = .ok (.invokevirtual 633, 3) := by decide +kernel
theorem dJ0_indexOf_0f7a4_6 : decode cJ0_indexOf_0f7a4 6 = .ok (.ireturn, 1) := by decide +kernel
theorem dX6_takeOne_0 : decode cX6_takeOne 0 = .ok (.aload_n 1, 1) := by decide +kernel
theorem dX6_takeOne_1 : decode cX6_takeOne 1 = .ok (.aload_n 0, 1) := by decide +kernel
theorem dX6_takeOne_2 : decode cX6_takeOne 2 = .ok (.getfield 33, 3) := by decide +kernel
theorem dX6_takeOne_5 : decode cX6_takeOne 5 = .ok (.baload, 1) := by decide +kernel
theorem dX6_takeOne_6 : decode cX6_takeOne 6 = .ok (.istore_n 3, 1) := by decide +kernel
theorem dX6_takeOne_7 : decode cX6_takeOne 7 = .ok (.iload_n 3, 1) := by decide +kernel
theorem dX6_takeOne_8 : decode cX6_takeOne 8 = .ok (.invokestatic 43, 3) := by decide +kernel
theorem dX6_takeOne_11 : decode cX6_takeOne 11 = .ok (.ifCond .eq 12, 3) := by decide +kernel
theorem dX6_takeOne_14 : decode cX6_takeOne 14 = .ok (.aload_n 0, 1) := by decide +kernel
theorem dX6_takeOne_15 : decode cX6_takeOne 15 = .ok (.aload_n 1, 1) := by decide +kernel
theorem dX6_takeOne_16 : decode cX6_takeOne 16 = .ok (.iload_n 2, 1) := by decide +kernel
theorem dX6_takeOne_17 : decode cX6_takeOne 17 = .ok (.invokevirtual 47, 3) := by decide +kernel
theorem dX6_takeOne_20 : decode cX6_takeOne 20 = .ok (.goto 67, 3) := by decide +kernel
theorem dX6_takeOne_23 : decode cX6_takeOne 23 = .ok (.iload_n 3, 1) := by decide +kernel
theorem dX6_takeOne_24 : decode cX6_takeOne 24 = .ok (.invokestatic 50, 3) := by decide +kernel
theorem dX6_takeOne_27 : decode cX6_takeOne 27 = .ok (.ifCond .eq 12, 3) := by decide +kernel
theorem dX6_takeOne_30 : decode cX6_takeOne 30 = .ok (.aload_n 0, 1) := by decide +kernel
theorem dX6_takeOne_31 : decode cX6_takeOne 31 = .ok (.aload_n 1, 1) := by decide +kernel
theorem dX6_takeOne_32 : decode cX6_takeOne 32 = .ok (.iload_n 2, 1) := by decide +kernel
theorem dX6_takeOne_33 : decode cX6_takeOne 33 = .ok (.invokevirtual 53, 3) := by decide +kernel
theorem dX6_takeOne_36 : decode cX6_takeOne 36 = .ok (.goto 51, 3) := by decide +kernel
theorem dX6_takeOne_39 : decode cX6_takeOne 39 = .ok (.aload_n 0, 1) := by decide +kernel
theorem dX6_takeOne_40 : decode cX6_takeOne 40 = .ok (.getfield 9, 3) := by decide +kernel
theorem dX6_takeOne_43 : decode cX6_takeOne 43 = .ok (.aload_n 0, 1) := by decide +kernel
theorem dX6_takeOne_44 : decode cX6_takeOne 44 = .ok (.getfield 26, 3) := by decide +kernel
theorem dX6_takeOne_47 : decode cX6_takeOne 47 = .ok (.ldc 56, 2) := by decide +kernel
theorem dX6_takeOne_49 : decode cX6_takeOne 49 = .ok (.iload_n 3, 1) := by decide +kernel
theorem dX6_takeOne_50 : decode cX6_takeOne 50 = .ok (.sipush 255, 3) := by decide +kernel
theorem dX6_takeOne_53 : decode cX6_takeOne 53 = .ok (.iand, 1) := by decide +kernel
theorem dX6_takeOne_54 : decode cX6_takeOne 54 = .ok (.i2c, 1) := by decide +kernel
theorem dX6_takeOne_55 : decode cX6_takeOne 55 = .ok (.invokevirtual 58, 3) := by decide +kernel
theorem dX6_takeOne_58 : decode cX6_takeOne 58 = .ok (.ifCond .lt 7, 3) := by decide +kernel
theorem dX6_takeOne_61 : decode cX6_takeOne 61 = .ok (.iload_n 3, 1) := by decide +kernel
theorem dX6_takeOne_62 : decode cX6_takeOne 62 = .ok (.goto 4, 3) := by decide +kernel
theorem dX6_takeOne_65 : decode cX6_takeOne 65 = .ok (.iconst 1, 1) := by decide +kernel
theorem dX6_takeOne_66 : decode cX6_takeOne 66 = .ok (.iastore, 1) := by decide +kernel
theorem dX6_takeOne_67 : decode cX6_takeOne 67 = .ok (.aload_n 0, 1) := by decide +kernel
theorem dX6_takeOne_68 : decode cX6_takeOne 68 = .ok (.getfield 16, 3) := by decide +kernel
theorem dX6_takeOne_71 : decode cX6_takeOne 71 = .ok (.aload_n 0, 1) := by decide +kernel
theorem dX6_takeOne_72 : decode cX6_takeOne 72 = .ok (.getfield 26, 3) := by decide +kernel
theorem dX6_takeOne_75 : decode cX6_takeOne 75 = .ok (.lconst 0, 1) := by decide +kernel
theorem dX6_takeOne_76 : decode cX6_takeOne 76 = .ok (.lastore, 1) := by decide +kernel
theorem dX6_takeOne_77 : decode cX6_takeOne 77 = .ok (.aload_n 0, 1) := by decide +kernel
theorem dX6_takeOne_78 : decode cX6_takeOne 78 = .ok (.dup, 1) := by decide +kernel
theorem dX6_takeOne_79 : decode cX6_takeOne 79 = .ok (.getfield 33, 3) := by decide +kernel
theorem dX6_takeOne_82 : decode cX6_takeOne 82 = .ok (.iconst 1, 1) := by decide +kernel
theorem dX6_takeOne_83 : decode cX6_takeOne 83 = .ok (.iadd, 1) := by decide +kernel
theorem dX6_takeOne_84 : decode cX6_takeOne 84 = .ok (.putfield 33, 3) := by decide +kernel
theorem dX6_takeOne_87 : decode cX6_takeOne 87 = .ok (.return_, 1) := by decide +kernel
theorem dX6_takeAll_0 : decode cX6_takeAll 0 = .ok (.iload_n 2, 1) := by decide +kernel
theorem dX6_takeAll_1 : decode cX6_takeAll 1 = .ok (.aload_n 1, 1) := by decide +kernel
theorem dX6_takeAll_2 : decode cX6_takeAll 2 = .ok (.arraylength, 1) := by decide +kernel
theorem dX6_takeAll_3 : decode cX6_takeAll 3 = .ok (.invokestatic 20, 3) := by decide +kernel
theorem dX6_takeAll_6 : decode cX6_takeAll 6 = .ok (.istore_n 3, 1) := by decide +kernel
theorem dX6_takeAll_7 : decode cX6_takeAll 7 = .ok (.aload_n 0, 1) := by decide +kernel
theorem dX6_takeAll_8 : decode cX6_takeAll 8 = .ok (.iconst 0, 1) := by decide +kernel
theorem dX6_takeAll_9 : decode cX6_takeAll 9 = .ok (.putfield 26, 3) := by decide +kernel
theorem dX6_takeAll_12 : decode cX6_takeAll 12 = .ok (.aload_n 0, 1) := by decide +kernel
theorem dX6_takeAll_13 : decode cX6_takeAll 13 = .ok (.iconst 0, 1) := by decide +kernel
theorem dX6_takeAll_14 : decode cX6_takeAll 14 = .ok (.putfield 30, 3) := by decide +kernel
theorem dX6_takeAll_17 : decode cX6_takeAll 17 = .ok (.aload_n 0, 1) := by decide +kernel
theorem dX6_takeAll_18 : decode cX6_takeAll 18 = .ok (.iconst 0, 1) := by decide +kernel
theorem dX6_takeAll_19 : decode cX6_takeAll 19 = .ok (.putfield 33, 3) := by decide +kernel
theorem dX6_takeAll_22 : decode cX6_takeAll 22 = .ok (.aload_n 0, 1) := by decide +kernel
theorem dX6_takeAll_23 : decode cX6_takeAll 23 = .ok (.aload_n 1, 1) := by decide +kernel
theorem dX6_takeAll_24 : decode cX6_takeAll 24 = .ok (.iload_n 3, 1) := by decide +kernel
theorem dX6_takeAll_25 : decode cX6_takeAll 25 = .ok (.invokevirtual 36, 3) := by decide +kernel
theorem dX6_takeAll_28 : decode cX6_takeAll 28 = .ok (.aload_n 0, 1) := by decide +kernel
theorem dX6_takeAll_29 : decode cX6_takeAll 29 = .ok (.getfield 33, 3) := by decide +kernel
theorem dX6_takeAll_32 : decode cX6_takeAll 32 = .ok (.iload_n 3, 1) := by decide +kernel
theorem dX6_takeAll_33 : decode cX6_takeAll 33 = .ok (.if_icmp .ge 51, 3) := by decide +kernel
theorem dX6_takeAll_36 : decode cX6_takeAll 36 = .ok (.aload_n 0, 1) := by decide +kernel
theorem dX6_takeAll_37 : decode cX6_takeAll 37 = .ok (.getfield 26, 3) := by decide +kernel
theorem dX6_takeAll_40 : decode cX6_takeAll 40 = .ok (.sipush 400, 3) := by decide +kernel
theorem dX6_takeAll_43 : decode cX6_takeAll 43 = .ok (.if_icmp .gt 41, 3) := by decide +kernel
theorem dX6_takeAll_46 : decode cX6_takeAll 46 = .ok (.aload_n 0, 1) := by decide +kernel
theorem dX6_takeAll_47 : decode cX6_takeAll 47 = .ok (.getfield 13, 3) := by decide +kernel
theorem dX6_takeAll_50 : decode cX6_takeAll 50 = .ok (.aload_n 0, 1) := by decide +kernel
theorem dX6_takeAll_51 : decode cX6_takeAll 51 = .ok (.getfield 26, 3) := by decide +kernel
theorem dX6_takeAll_54 : decode cX6_takeAll 54 = .ok (.aload_n 0, 1) := by decide +kernel
theorem dX6_takeAll_55 : decode cX6_takeAll 55 = .ok (.getfield 33, 3) := by decide +kernel
theorem dX6_takeAll_58 : decode cX6_takeAll 58 = .ok (.iastore, 1) := by decide +kernel
theorem dX6_takeAll_59 : decode cX6_takeAll 59 = .ok (.aload_n 0, 1) := by decide +kernel
theorem dX6_takeAll_60 : decode cX6_takeAll 60 = .ok (.aload_n 1, 1) := by decide +kernel
theorem dX6_takeAll_61 : decode cX6_takeAll 61 = .ok (.iload_n 3, 1) := by decide +kernel
theorem dX6_takeAll_62 : decode cX6_takeAll 62 = .ok (.invokevirtual 40, 3) := by decide +kernel
theorem dX6_takeAll_65 : decode cX6_takeAll 65 = .ok (.aload_n 0, 1) := by decide +kernel
theorem dX6_takeAll_66 : decode cX6_takeAll 66 = .ok (.dup, 1) := by decide +kernel
theorem dX6_takeAll_67 : decode cX6_takeAll 67 = .ok (.getfield 26, 3) := by decide +kernel
theorem dX6_takeAll_70 : decode cX6_takeAll 70 = .ok (.iconst 1, 1) := by decide +kernel
theorem dX6_takeAll_71 : decode cX6_takeAll 71 = .ok (.iadd, 1) := by decide +kernel
theorem dX6_takeAll_72 : decode cX6_takeAll 72 = .ok (.putfield 26, 3) := by decide +kernel
theorem dX6_takeAll_75 : decode cX6_takeAll 75 = .ok (.aload_n 0, 1) := by decide +kernel
theorem dX6_takeAll_76 : decode cX6_takeAll 76 = .ok (.aload_n 1, 1) := by decide +kernel
theorem dX6_takeAll_77 : decode cX6_takeAll 77 = .ok (.iload_n 3, 1) := by decide +kernel
theorem dX6_takeAll_78 : decode cX6_takeAll 78 = .ok (.invokevirtual 36, 3) := by decide +kernel
theorem dX6_takeAll_81 : decode cX6_takeAll 81 = .ok (.goto (-53), 3) := by decide +kernel
theorem dX6_takeAll_84 : decode cX6_takeAll 84 = .ok (.aload_n 0, 1) := by decide +kernel
theorem dX6_takeAll_85 : decode cX6_takeAll 85 = .ok (.getfield 13, 3) := by decide +kernel
theorem dX6_takeAll_88 : decode cX6_takeAll 88 = .ok (.aload_n 0, 1) := by decide +kernel
theorem dX6_takeAll_89 : decode cX6_takeAll 89 = .ok (.getfield 26, 3) := by decide +kernel
theorem dX6_takeAll_92 : decode cX6_takeAll 92 = .ok (.iload_n 3, 1) := by decide +kernel
theorem dX6_takeAll_93 : decode cX6_takeAll 93 = .ok (.iastore, 1) := by decide +kernel
theorem dX6_takeAll_94 : decode cX6_takeAll 94 = .ok (.aload_n 0, 1) := by decide +kernel
theorem dX6_takeAll_95 : decode cX6_takeAll 95 = .ok (.getfield 9, 3) := by decide +kernel
theorem dX6_takeAll_98 : decode cX6_takeAll 98 = .ok (.aload_n 0, 1) := by decide +kernel
theorem dX6_takeAll_99 : decode cX6_takeAll 99 = .ok (.getfield 26, 3) := by decide +kernel
theorem dX6_takeAll_102 : decode cX6_takeAll 102 = .ok (.iconst 0, 1) := by decide +kernel
theorem dX6_takeAll_103 : decode cX6_takeAll 103 = .ok (.iastore, 1) := by decide +kernel
theorem dX6_takeAll_104 : decode cX6_takeAll 104 = .ok (.aload_n 0, 1) := by decide +kernel
theorem dX6_takeAll_105 : decode cX6_takeAll 105 = .ok (.getfield 16, 3) := by decide +kernel
theorem dX6_takeAll_108 : decode cX6_takeAll 108 = .ok (.aload_n 0, 1) := by decide +kernel
theorem dX6_takeAll_109 : decode cX6_takeAll 109 = .ok (.getfield 26, 3) := by decide +kernel
theorem dX6_takeAll_112 : decode cX6_takeAll 112 = .ok (.lconst 0, 1) := by decide +kernel
theorem dX6_takeAll_113 : decode cX6_takeAll 113 = .ok (.lastore, 1) := by decide +kernel
theorem dX6_takeAll_114 : decode cX6_takeAll 114 = .ok (.return_, 1) := by decide +kernel
theorem dX6_kind_0 : decode cX6_kind 0 = .ok (.aload_n 0, 1) := by decide +kernel
theorem dX6_kind_1 : decode cX6_kind 1 = .ok (.getfield 9, 3) := by decide +kernel
theorem dX6_kind_4 : decode cX6_kind 4 = .ok (.aload_n 0, 1) := by decide +kernel
theorem dX6_kind_5 : decode cX6_kind 5 = .ok (.getfield 30, 3) := by decide +kernel
theorem dX6_kind_8 : decode cX6_kind 8 = .ok (.iaload, 1) := by decide +kernel
theorem dX6_kind_9 : decode cX6_kind 9 = .ok (.ireturn, 1) := by decide +kernel
theorem dX6_start_0 : decode cX6_start 0 = .ok (.aload_n 0, 1) := by decide +kernel
theorem dX6_start_1 : decode cX6_start 1 = .ok (.getfield 13, 3) := by decide +kernel
theorem dX6_start_4 : decode cX6_start 4 = .ok (.aload_n 0, 1) := by decide +kernel
theorem dX6_start_5 : decode cX6_start 5 = .ok (.getfield 30, 3) := by decide +kernel
theorem dX6_start_8 : decode cX6_start 8 = .ok (.iaload, 1) := by decide +kernel
theorem dX6_start_9 : decode cX6_start 9 = .ok (.ireturn, 1) := by decide +kernel
theorem dX3_fail_0 : decode cX3_fail 0 = .ok (.aload_n 0, 1) := by decide +kernel
theorem dX3_fail_1 : decode cX3_fail 1 = .ok (.getfield 45, 3) := by decide +kernel
theorem dX3_fail_4 : decode cX3_fail 4 = .ok (.ifCond .ne 19, 3) := by decide +kernel
theorem dX3_fail_7 : decode cX3_fail 7 = .ok (.aload_n 0, 1) := by decide +kernel
theorem dX3_fail_8 : decode cX3_fail 8 = .ok (.iload_n 1, 1) := by decide +kernel
theorem dX3_fail_9 : decode cX3_fail 9 = .ok (.putfield 45, 3) := by decide +kernel
theorem dX3_fail_12 : decode cX3_fail 12 = .ok (.aload_n 0, 1) := by decide +kernel
theorem dX3_fail_13 : decode cX3_fail 13 = .ok (.aload_n 0, 1) := by decide +kernel
theorem dX3_fail_14 : decode cX3_fail 14 = .ok (.getfield 12, 3) := by decide +kernel
theorem dX3_fail_17 : decode cX3_fail 17 = .ok (.invokevirtual 88, 3) := by decide +kernel
theorem dX3_fail_20 : decode cX3_fail 20 = .ok (.putfield 33, 3) := by decide +kernel
theorem dX3_fail_23 : decode cX3_fail 23 = .ok (.return_, 1) := by decide +kernel
theorem dX6_isOneTooMany_0 : decode cX6_isOneTooMany 0 = .ok (.aload_n 0, 1) := by decide +kernel
theorem dX6_isOneTooMany_1 : decode cX6_isOneTooMany 1 = .ok (.getfield 30, 3) := by decide +kernel
theorem dX6_isOneTooMany_4 : decode cX6_isOneTooMany 4 = .ok (.sipush 400, 3) := by decide +kernel
theorem dX6_isOneTooMany_7 : decode cX6_isOneTooMany 7 = .ok (.if_icmp .lt 7, 3) := by decide +kernel
theorem dX6_isOneTooMany_10 : decode cX6_isOneTooMany 10 = .ok (.iconst 1, 1) := by decide +kernel
theorem dX6_isOneTooMany_11 : decode cX6_isOneTooMany 11 = .ok (.goto 4, 3) := by decide +kernel
theorem dX6_isOneTooMany_14 : decode cX6_isOneTooMany 14 = .ok (.iconst 0, 1) := by decide +kernel
theorem dX6_isOneTooMany_15 : decode cX6_isOneTooMany 15 = .ok (.ireturn, 1) := by decide +kernel
theorem dX6_advance_0 : decode cX6_advance 0 = .ok (.aload_n 0, 1) := by decide +kernel
theorem dX6_advance_1 : decode cX6_advance 1 = .ok (.getfield 30, 3) := by decide +kernel
theorem dX6_advance_4 : decode cX6_advance 4 = .ok (.aload_n 0, 1) := by decide +kernel
theorem dX6_advance_5 : decode cX6_advance 5 = .ok (.getfield 26, 3) := by decide +kernel
theorem dX6_advance_8 : decode cX6_advance 8 = .ok (.if_icmp .ge 13, 3) := by decide +kernel
theorem dX6_advance_11 : decode cX6_advance 11 = .ok (.aload_n 0, 1) := by decide +kernel
theorem dX6_advance_12 : decode cX6_advance 12 = .ok (.dup, 1) := by decide +kernel
theorem dX6_advance_13 : decode cX6_advance 13 = .ok (.getfield 30, 3) := by decide +kernel
theorem dX6_advance_16 : decode cX6_advance 16 = .ok (.iconst 1, 1) := by decide +kernel
theorem dX6_advance_17 : decode cX6_advance 17 = .ok (.iadd, 1) := by decide +kernel
theorem dX6_advance_18 : decode cX6_advance 18 = .ok (.putfield 30, 3) := by decide +kernel
theorem dX6_advance_21 : decode cX6_advance 21 = .ok (.return_, 1) := by decide +kernel
theorem dX3_take_0 : decode cX3_take 0 = .ok (.aload_n 0, 1) := by decide +kernel
theorem dX3_take_1 : decode cX3_take 1 = .ok (.getfield 45, 3) := by decide +kernel
theorem dX3_take_4 : decode cX3_take 4 = .ok (.ifCond .eq 4, 3) := by decide +kernel
theorem dX3_take_7 : decode cX3_take 7 = .ok (.return_, 1) := by decide +kernel
theorem dX3_take_8 : decode cX3_take 8 = .ok (.aload_n 0, 1) := by decide +kernel
theorem dX3_take_9 : decode cX3_take 9 = .ok (.getfield 12, 3) := by decide +kernel
theorem dX3_take_12 : decode cX3_take 12 = .ok (.invokevirtual 58, 3) := by decide +kernel
theorem dX3_take_15 : decode cX3_take 15 = .ok (.iload_n 1, 1) := by decide +kernel
theorem dX3_take_16 : decode cX3_take 16 = .ok (.if_icmp .eq 11, 3) := by decide +kernel
theorem dX3_take_19 : decode cX3_take 19 = .ok (.aload_n 0, 1) := by decide +kernel
theorem dX3_take_20 : decode cX3_take 20 = .ok (.iconst 1, 1) := by decide +kernel
theorem dX3_take_21 : decode cX3_take 21 = .ok (.invokevirtual 82, 3) := by decide +kernel
theorem dX3_take_24 : decode cX3_take 24 = .ok (.goto 28, 3) := by decide +kernel
theorem dX3_take_27 : decode cX3_take 27 = .ok (.aload_n 0, 1) := by decide +kernel
theorem dX3_take_28 : decode cX3_take 28 = .ok (.getfield 12, 3) := by decide +kernel
theorem dX3_take_31 : decode cX3_take 31 = .ok (.invokevirtual 171, 3) := by decide +kernel
theorem dX3_take_34 : decode cX3_take 34 = .ok (.ifCond .eq 11, 3) := by decide +kernel
theorem dX3_take_37 : decode cX3_take 37 = .ok (.aload_n 0, 1) := by decide +kernel
theorem dX3_take_38 : decode cX3_take 38 = .ok (.iconst 2, 1) := by decide +kernel
theorem dX3_take_39 : decode cX3_take 39 = .ok (.invokevirtual 82, 3) := by decide +kernel
theorem dX3_take_42 : decode cX3_take 42 = .ok (.goto 10, 3) := by decide +kernel
theorem dX3_take_45 : decode cX3_take 45 = .ok (.aload_n 0, 1) := by decide +kernel
theorem dX3_take_46 : decode cX3_take 46 = .ok (.getfield 12, 3) := by decide +kernel
theorem dX3_take_49 : decode cX3_take 49 = .ok (.invokevirtual 175, 3) := by decide +kernel
theorem dX3_take_52 : decode cX3_take 52 = .ok (.return_, 1) := by decide +kernel
theorem dX6_name_0 : decode cX6_name 0 = .ok (.aload_n 0, 1) := by decide +kernel
theorem dX6_name_1 : decode cX6_name 1 = .ok (.getfield 16, 3) := by decide +kernel
theorem dX6_name_4 : decode cX6_name 4 = .ok (.aload_n 0, 1) := by decide +kernel
theorem dX6_name_5 : decode cX6_name 5 = .ok (.getfield 30, 3) := by decide +kernel
theorem dX6_name_8 : decode cX6_name 8 = .ok (.laload, 1) := by decide +kernel
theorem dX6_name_9 : decode cX6_name 9 = .ok (.lreturn, 1) := by decide +kernel
theorem dX3_findName_0 : decode cX3_findName 0 = .ok (.iconst 0, 1) := by decide +kernel
theorem dX3_findName_1 : decode cX3_findName 1 = .ok (.istore_n 3, 1) := by decide +kernel
theorem dX3_findName_2 : decode cX3_findName 2 = .ok (.iload_n 3, 1) := by decide +kernel
theorem dX3_findName_3 : decode cX3_findName 3 = .ok (.aload_n 0, 1) := by decide +kernel
theorem dX3_findName_4 : decode cX3_findName 4 = .ok (.getfield 42, 3) := by decide +kernel
theorem dX3_findName_7 : decode cX3_findName 7 = .ok (.if_icmp .ge 22, 3) := by decide +kernel
theorem dX3_findName_10 : decode cX3_findName 10 = .ok (.aload_n 0, 1) := by decide +kernel
theorem dX3_findName_11 : decode cX3_findName 11 = .ok (.getfield 18, 3) := by decide +kernel
theorem dX3_findName_14 : decode cX3_findName 14 = .ok (.iload_n 3, 1) := by decide +kernel
theorem dX3_findName_15 : decode cX3_findName 15 = .ok (.laload, 1) := by decide +kernel
theorem dX3_findName_16 : decode cX3_findName 16 = .ok (.lload_n 1, 1) := by decide +kernel
theorem dX3_findName_17 : decode cX3_findName 17 = .ok (.lcmp, 1) := by decide +kernel
theorem dX3_findName_18 : decode cX3_findName 18 = .ok (.ifCond .ne 5, 3) := by decide +kernel
theorem dX3_findName_21 : decode cX3_findName 21 = .ok (.iload_n 3, 1) := by decide +kernel
theorem dX3_findName_22 : decode cX3_findName 22 = .ok (.ireturn, 1) := by decide +kernel
theorem dX3_findName_23 : decode cX3_findName 23 = .ok (.iinc 3 1, 3) := by decide +kernel
theorem dX3_findName_26 : decode cX3_findName 26 = .ok (.goto (-24), 3) := by decide +kernel
theorem dX3_findName_29 : decode cX3_findName 29 = .ok (.iconst (-1), 1) := by decide +kernel
theorem dX3_findName_30 : decode cX3_findName 30 = .ok (.ireturn, 1) := by decide +kernel
theorem dX3_failLater_0 : decode cX3_failLater 0 = .ok (.aload_n 0, 1) := by decide +kernel
theorem dX3_failLater_1 : decode cX3_failLater 1 = .ok (.getfield 48, 3) := by decide +kernel
theorem dX3_failLater_4 : decode cX3_failLater 4 = .ok (.ifCond .ne 13, 3) := by decide +kernel
theorem dX3_failLater_7 : decode cX3_failLater 7 = .ok (.aload_n 0, 1) := by decide +kernel
theorem dX3_failLater_8 : decode cX3_failLater 8 = .ok (.iload_n 1, 1) := by decide +kernel
theorem dX3_failLater_9 : decode cX3_failLater 9 = .ok (.putfield 48, 3) := by decide +kernel
theorem dX3_failLater_12 : decode cX3_failLater 12 = .ok (.aload_n 0, 1) := by decide +kernel
theorem dX3_failLater_13 : decode cX3_failLater 13 = .ok (.iload_n 2, 1) := by decide +kernel
theorem dX3_failLater_14 : decode cX3_failLater 14 = .ok (.putfield 51, 3) := by decide +kernel
theorem dX3_failLater_17 : decode cX3_failLater 17 = .ok (.return_, 1) := by decide +kernel
theorem dX3_keepName_0 : decode cX3_keepName 0 = .ok (.aload_n 0, 1) := by decide +kernel
theorem dX3_keepName_1 : decode cX3_keepName 1 = .ok (.getfield 45, 3) := by decide +kernel
theorem dX3_keepName_4 : decode cX3_keepName 4 = .ok (.ifCond .ne 23, 3) := by decide +kernel
theorem dX3_keepName_7 : decode cX3_keepName 7 = .ok (.aload_n 0, 1) := by decide +kernel
theorem dX3_keepName_8 : decode cX3_keepName 8 = .ok (.getfield 12, 3) := by decide +kernel
theorem dX3_keepName_11 : decode cX3_keepName 11 = .ok (.invokevirtual 58, 3) := by decide +kernel
theorem dX3_keepName_14 : decode cX3_keepName 14 = .ok (.iconst 2, 1) := by decide +kernel
theorem dX3_keepName_15 : decode cX3_keepName 15 = .ok (.if_icmp .ne 12, 3) := by decide +kernel
theorem dX3_keepName_18 : decode cX3_keepName 18 = .ok (.aload_n 0, 1) := by decide +kernel
theorem dX3_keepName_19 : decode cX3_keepName 19 = .ok (.getfield 42, 3) := by decide +kernel
theorem dX3_keepName_22 : decode cX3_keepName 22 = .ok (.bipush 12, 2) := by decide +kernel
theorem dX3_keepName_24 : decode cX3_keepName 24 = .ok (.if_icmp .lt 4, 3) := by decide +kernel
theorem dX3_keepName_27 : decode cX3_keepName 27 = .ok (.return_, 1) := by decide +kernel
theorem dX3_keepName_28 : decode cX3_keepName 28 = .ok (.aload_n 0, 1) := by decide +kernel
theorem dX3_keepName_29 : decode cX3_keepName 29 = .ok (.aload_n 0, 1) := by decide +kernel
theorem dX3_keepName_30 : decode cX3_keepName 30 = .ok (.getfield 12, 3) := by decide +kernel
theorem dX3_keepName_33 : decode cX3_keepName 33 = .ok (.invokevirtual 163, 3) := by decide +kernel
theorem dX3_keepName_36 : decode cX3_keepName 36 = .ok (.invokevirtual 167, 3) := by decide +kernel
theorem dX3_keepName_39 : decode cX3_keepName 39 = .ok (.iconst (-1), 1) := by decide +kernel
theorem dX3_keepName_40 : decode cX3_keepName 40 = .ok (.if_icmp .eq 15, 3) := by decide +kernel
theorem dX3_keepName_43 : decode cX3_keepName 43 = .ok (.aload_n 0, 1) := by decide +kernel
theorem dX3_keepName_44 : decode cX3_keepName 44 = .ok (.iconst 3, 1) := by decide +kernel
theorem dX3_keepName_45 : decode cX3_keepName 45 = .ok (.aload_n 0, 1) := by decide +kernel
theorem dX3_keepName_46 : decode cX3_keepName 46 = .ok (.getfield 12, 3) := by decide +kernel
theorem dX3_keepName_49 : decode cX3_keepName 49 = .ok (.invokevirtual 88, 3) := by decide +kernel
theorem dX3_keepName_52 : decode cX3_keepName 52 = .ok (.invokevirtual 78, 3) := by decide +kernel
theorem dX3_keepName_55 : decode cX3_keepName 55 = .ok (.aload_n 0, 1) := by decide +kernel
theorem dX3_keepName_56 : decode cX3_keepName 56 = .ok (.getfield 18, 3) := by decide +kernel
theorem dX3_keepName_59 : decode cX3_keepName 59 = .ok (.aload_n 0, 1) := by decide +kernel
theorem dX3_keepName_60 : decode cX3_keepName 60 = .ok (.getfield 42, 3) := by decide +kernel
theorem dX3_keepName_63 : decode cX3_keepName 63 = .ok (.aload_n 0, 1) := by decide +kernel
theorem dX3_keepName_64 : decode cX3_keepName 64 = .ok (.getfield 12, 3) := by decide +kernel
theorem dX3_keepName_67 : decode cX3_keepName 67 = .ok (.invokevirtual 163, 3) := by decide +kernel
theorem dX3_keepName_70 : decode cX3_keepName 70 = .ok (.lastore, 1) := by decide +kernel
theorem dX3_keepName_71 : decode cX3_keepName 71 = .ok (.aload_n 0, 1) := by decide +kernel
theorem dX3_keepName_72 : decode cX3_keepName 72 = .ok (.getfield 22, 3) := by decide +kernel
theorem dX3_keepName_75 : decode cX3_keepName 75 = .ok (.aload_n 0, 1) := by decide +kernel
theorem dX3_keepName_76 : decode cX3_keepName 76 = .ok (.getfield 42, 3) := by decide +kernel
theorem dX3_keepName_79 : decode cX3_keepName 79 = .ok (.iload_n 1, 1) := by decide +kernel
theorem dX3_keepName_80 : decode cX3_keepName 80 = .ok (.iastore, 1) := by decide +kernel
theorem dX3_keepName_81 : decode cX3_keepName 81 = .ok (.aload_n 0, 1) := by decide +kernel
theorem dX3_keepName_82 : decode cX3_keepName 82 = .ok (.dup, 1) := by decide +kernel
theorem dX3_keepName_83 : decode cX3_keepName 83 = .ok (.getfield 42, 3) := by decide +kernel
theorem dX3_keepName_86 : decode cX3_keepName 86 = .ok (.iconst 1, 1) := by decide +kernel
theorem dX3_keepName_87 : decode cX3_keepName 87 = .ok (.iadd, 1) := by decide +kernel
theorem dX3_keepName_88 : decode cX3_keepName 88 = .ok (.putfield 42, 3) := by decide +kernel
theorem dX3_keepName_91 : decode cX3_keepName 91 = .ok (.return_, 1) := by decide +kernel
theorem dX6_number_0 : decode cX6_number 0 = .ok (.aload_n 0, 1) := by decide +kernel
theorem dX6_number_1 : decode cX6_number 1 = .ok (.getfield 16, 3) := by decide +kernel
theorem dX6_number_4 : decode cX6_number 4 = .ok (.aload_n 0, 1) := by decide +kernel
theorem dX6_number_5 : decode cX6_number 5 = .ok (.getfield 30, 3) := by decide +kernel
theorem dX6_number_8 : decode cX6_number 8 = .ok (.laload, 1) := by decide +kernel
theorem dX6_number_9 : decode cX6_number 9 = .ok (.l2i, 1) := by decide +kernel
theorem dX6_number_10 : decode cX6_number 10 = .ok (.ireturn, 1) := by decide +kernel
theorem dX3_tellCell_0 : decode cX3_tellCell 0 = .ok (.aload_n 0, 1) := by decide +kernel
theorem dX3_tellCell_1 : decode cX3_tellCell 1 = .ok (.getfield 29, 3) := by decide +kernel
theorem dX3_tellCell_4 : decode cX3_tellCell 4 = .ok (.getfield 97, 3) := by decide +kernel
theorem dX3_tellCell_7 : decode cX3_tellCell 7 = .ok (.istore_n 1, 1) := by decide +kernel
theorem dX3_tellCell_8 : decode cX3_tellCell 8 = .ok (.iload_n 1, 1) := by decide +kernel
theorem dX3_tellCell_9 : decode cX3_tellCell 9 = .ok (.bipush 6, 2) := by decide +kernel
theorem dX3_tellCell_11 : decode cX3_tellCell 11 = .ok (.if_icmp .lt 9, 3) := by decide +kernel
theorem dX3_tellCell_14 : decode cX3_tellCell 14 = .ok (.aload_n 0, 1) := by decide +kernel
theorem dX3_tellCell_15 : decode cX3_tellCell 15 = .ok (.iconst 2, 1) := by decide +kernel
theorem dX3_tellCell_16 : decode cX3_tellCell 16 = .ok (.invokevirtual 82, 3) := by decide +kernel
theorem dX3_tellCell_19 : decode cX3_tellCell 19 = .ok (.return_, 1) := by decide +kernel
theorem dX3_tellCell_20 : decode cX3_tellCell 20 = .ok (.aload_n 0, 1) := by decide +kernel
theorem dX3_tellCell_21 : decode cX3_tellCell 21 = .ok (.bipush 102, 2) := by decide +kernel
theorem dX3_tellCell_23 : decode cX3_tellCell 23 = .ok (.invokevirtual 85, 3) := by decide +kernel
theorem dX3_tellCell_26 : decode cX3_tellCell 26 = .ok (.aload_n 0, 1) := by decide +kernel
theorem dX3_tellCell_27 : decode cX3_tellCell 27 = .ok (.iload_n 1, 1) := by decide +kernel
theorem dX3_tellCell_28 : decode cX3_tellCell 28 = .ok (.invokevirtual 100, 3) := by decide +kernel
theorem dX3_tellCell_31 : decode cX3_tellCell 31 = .ok (.aload_n 0, 1) := by decide +kernel
theorem dX3_tellCell_32 : decode cX3_tellCell 32 = .ok (.iconst 2, 1) := by decide +kernel
theorem dX3_tellCell_33 : decode cX3_tellCell 33 = .ok (.invokevirtual 85, 3) := by decide +kernel
theorem dX3_tellCell_36 : decode cX3_tellCell 36 = .ok (.aload_n 0, 1) := by decide +kernel
theorem dX3_tellCell_37 : decode cX3_tellCell 37 = .ok (.getfield 29, 3) := by decide +kernel
theorem dX3_tellCell_40 : decode cX3_tellCell 40 = .ok (.getfield 103, 3) := by decide +kernel
theorem dX3_tellCell_43 : decode cX3_tellCell 43 = .ok (.iload_n 1, 1) := by decide +kernel
theorem dX3_tellCell_44 : decode cX3_tellCell 44 = .ok (.aload_n 0, 1) := by decide +kernel
theorem dX3_tellCell_45 : decode cX3_tellCell 45 = .ok (.getfield 12, 3) := by decide +kernel
theorem dX3_tellCell_48 : decode cX3_tellCell 48 = .ok (.invokevirtual 91, 3) := by decide +kernel
theorem dX3_tellCell_51 : decode cX3_tellCell 51 = .ok (.iastore, 1) := by decide +kernel
theorem dX3_tellCell_52 : decode cX3_tellCell 52 = .ok (.aload_n 0, 1) := by decide +kernel
theorem dX3_tellCell_53 : decode cX3_tellCell 53 = .ok (.iconst 3, 1) := by decide +kernel
theorem dX3_tellCell_54 : decode cX3_tellCell 54 = .ok (.invokevirtual 85, 3) := by decide +kernel
theorem dX3_tellCell_57 : decode cX3_tellCell 57 = .ok (.aload_n 0, 1) := by decide +kernel
theorem dX3_tellCell_58 : decode cX3_tellCell 58 = .ok (.bipush 59, 2) := by decide +kernel
theorem dX3_tellCell_60 : decode cX3_tellCell 60 = .ok (.invokevirtual 85, 3) := by decide +kernel
theorem dX3_tellCell_63 : decode cX3_tellCell 63 = .ok (.aload_n 0, 1) := by decide +kernel
theorem dX3_tellCell_64 : decode cX3_tellCell 64 = .ok (.getfield 29, 3) := by decide +kernel
theorem dX3_tellCell_67 : decode cX3_tellCell 67 = .ok (.dup, 1) := by decide +kernel
theorem dX3_tellCell_68 : decode cX3_tellCell 68 = .ok (.getfield 97, 3) := by decide +kernel
theorem dX3_tellCell_71 : decode cX3_tellCell 71 = .ok (.iconst 1, 1) := by decide +kernel
theorem dX3_tellCell_72 : decode cX3_tellCell 72 = .ok (.iadd, 1) := by decide +kernel
theorem dX3_tellCell_73 : decode cX3_tellCell 73 = .ok (.putfield 97, 3) := by decide +kernel
theorem dX3_tellCell_76 : decode cX3_tellCell 76 = .ok (.return_, 1) := by decide +kernel
theorem dX3_putOff_0 : decode cX3_putOff 0 = .ok (.aload_n 0, 1) := by decide +kernel
theorem dX3_putOff_1 : decode cX3_putOff 1 = .ok (.getfield 131, 3) := by decide +kernel
theorem dX3_putOff_4 : decode cX3_putOff 4 = .ok (.bipush 32, 2) := by decide +kernel
theorem dX3_putOff_6 : decode cX3_putOff 6 = .ok (.if_icmp .ge 23, 3) := by decide +kernel
theorem dX3_putOff_9 : decode cX3_putOff 9 = .ok (.aload_n 0, 1) := by decide +kernel
theorem dX3_putOff_10 : decode cX3_putOff 10 = .ok (.getfield 26, 3) := by decide +kernel
theorem dX3_putOff_13 : decode cX3_putOff 13 = .ok (.aload_n 0, 1) := by decide +kernel
theorem dX3_putOff_14 : decode cX3_putOff 14 = .ok (.getfield 131, 3) := by decide +kernel
theorem dX3_putOff_17 : decode cX3_putOff 17 = .ok (.iload_n 1, 1) := by decide +kernel
theorem dX3_putOff_18 : decode cX3_putOff 18 = .ok (.iastore, 1) := by decide +kernel
theorem dX3_putOff_19 : decode cX3_putOff 19 = .ok (.aload_n 0, 1) := by decide +kernel
theorem dX3_putOff_20 : decode cX3_putOff 20 = .ok (.dup, 1) := by decide +kernel
theorem dX3_putOff_21 : decode cX3_putOff 21 = .ok (.getfield 131, 3) := by decide +kernel
theorem dX3_putOff_24 : decode cX3_putOff 24 = .ok (.iconst 1, 1) := by decide +kernel
theorem dX3_putOff_25 : decode cX3_putOff 25 = .ok (.iadd, 1) := by decide +kernel
theorem dX3_putOff_26 : decode cX3_putOff 26 = .ok (.putfield 131, 3) := by decide +kernel
theorem dX3_putOff_29 : decode cX3_putOff 29 = .ok (.return_, 1) := by decide +kernel
theorem dX7_addStep_0 : decode cX7_addStep 0 = .ok (.aload_n 0, 1) := by decide +kernel
theorem dX7_addStep_1 : decode cX7_addStep 1 = .ok (.getfield 53, 3) := by decide +kernel
theorem dX7_addStep_4 : decode cX7_addStep 4 = .ok (.sipush 400, 3) := by decide +kernel
theorem dX7_addStep_7 : decode cX7_addStep 7 = .ok (.if_icmp .ge 33, 3) := by decide +kernel
theorem dX7_addStep_10 : decode cX7_addStep 10 = .ok (.aload_n 0, 1) := by decide +kernel
theorem dX7_addStep_11 : decode cX7_addStep 11 = .ok (.getfield 31, 3) := by decide +kernel
theorem dX7_addStep_14 : decode cX7_addStep 14 = .ok (.aload_n 0, 1) := by decide +kernel
theorem dX7_addStep_15 : decode cX7_addStep 15 = .ok (.getfield 53, 3) := by decide +kernel
theorem dX7_addStep_18 : decode cX7_addStep 18 = .ok (.iload_n 1, 1) := by decide +kernel
theorem dX7_addStep_19 : decode cX7_addStep 19 = .ok (.iastore, 1) := by decide +kernel
theorem dX7_addStep_20 : decode cX7_addStep 20 = .ok (.aload_n 0, 1) := by decide +kernel
theorem dX7_addStep_21 : decode cX7_addStep 21 = .ok (.getfield 34, 3) := by decide +kernel
theorem dX7_addStep_24 : decode cX7_addStep 24 = .ok (.aload_n 0, 1) := by decide +kernel
theorem dX7_addStep_25 : decode cX7_addStep 25 = .ok (.getfield 53, 3) := by decide +kernel
theorem dX7_addStep_28 : decode cX7_addStep 28 = .ok (.iload_n 2, 1) := by decide +kernel
theorem dX7_addStep_29 : decode cX7_addStep 29 = .ok (.iastore, 1) := by decide +kernel
theorem dX7_addStep_30 : decode cX7_addStep 30 = .ok (.aload_n 0, 1) := by decide +kernel
theorem dX7_addStep_31 : decode cX7_addStep 31 = .ok (.dup, 1) := by decide +kernel
theorem dX7_addStep_32 : decode cX7_addStep 32 = .ok (.getfield 53, 3) := by decide +kernel
theorem dX7_addStep_35 : decode cX7_addStep 35 = .ok (.iconst 1, 1) := by decide +kernel
theorem dX7_addStep_36 : decode cX7_addStep 36 = .ok (.iadd, 1) := by decide +kernel
theorem dX7_addStep_37 : decode cX7_addStep 37 = .ok (.putfield 53, 3) := by decide +kernel
theorem dX7_addStep_40 : decode cX7_addStep 40 = .ok (.return_, 1) := by decide +kernel
theorem dX3_cellHere_0 : decode cX3_cellHere 0 = .ok (.aload_n 0, 1) := by decide +kernel
theorem dX3_cellHere_1 : decode cX3_cellHere 1 = .ok (.getfield 45, 3) := by decide +kernel
theorem dX3_cellHere_4 : decode cX3_cellHere 4 = .ok (.ifCond .ne 14, 3) := by decide +kernel
theorem dX3_cellHere_7 : decode cX3_cellHere 7 = .ok (.aload_n 0, 1) := by decide +kernel
theorem dX3_cellHere_8 : decode cX3_cellHere 8 = .ok (.getfield 12, 3) := by decide +kernel
theorem dX3_cellHere_11 : decode cX3_cellHere 11 = .ok (.invokevirtual 58, 3) := by decide +kernel
theorem dX3_cellHere_14 : decode cX3_cellHere 14 = .ok (.iconst 2, 1) := by decide +kernel
theorem dX3_cellHere_15 : decode cX3_cellHere 15 = .ok (.if_icmp .eq 5, 3) := by decide +kernel
theorem dX3_cellHere_18 : decode cX3_cellHere 18 = .ok (.iconst (-1), 1) := by decide +kernel
theorem dX3_cellHere_19 : decode cX3_cellHere 19 = .ok (.ireturn, 1) := by decide +kernel
theorem dX3_cellHere_20 : decode cX3_cellHere 20 = .ok (.aload_n 0, 1) := by decide +kernel
theorem dX3_cellHere_21 : decode cX3_cellHere 21 = .ok (.aload_n 0, 1) := by decide +kernel
theorem dX3_cellHere_22 : decode cX3_cellHere 22 = .ok (.getfield 12, 3) := by decide +kernel
theorem dX3_cellHere_25 : decode cX3_cellHere 25 = .ok (.invokevirtual 163, 3) := by decide +kernel
theorem dX3_cellHere_28 : decode cX3_cellHere 28 = .ok (.invokevirtual 167, 3) := by decide +kernel
theorem dX3_cellHere_31 : decode cX3_cellHere 31 = .ok (.istore_n 1, 1) := by decide +kernel
theorem dX3_cellHere_32 : decode cX3_cellHere 32 = .ok (.iload_n 1, 1) := by decide +kernel
theorem dX3_cellHere_33 : decode cX3_cellHere 33 = .ok (.iconst (-1), 1) := by decide +kernel
theorem dX3_cellHere_34 : decode cX3_cellHere 34 = .ok (.if_icmp .ne 7, 3) := by decide +kernel
theorem dX3_cellHere_37 : decode cX3_cellHere 37 = .ok (.iconst (-1), 1) := by decide +kernel
theorem dX3_cellHere_38 : decode cX3_cellHere 38 = .ok (.goto 9, 3) := by decide +kernel
theorem dX3_cellHere_41 : decode cX3_cellHere 41 = .ok (.aload_n 0, 1) := by decide +kernel
theorem dX3_cellHere_42 : decode cX3_cellHere 42 = .ok (.getfield 22, 3) := by decide +kernel
theorem dX3_cellHere_45 : decode cX3_cellHere 45 = .ok (.iload_n 1, 1) := by decide +kernel
theorem dX3_cellHere_46 : decode cX3_cellHere 46 = .ok (.iaload, 1) := by decide +kernel
theorem dX3_cellHere_47 : decode cX3_cellHere 47 = .ok (.istore_n 2, 1) := by decide +kernel
theorem dX3_cellHere_48 : decode cX3_cellHere 48 = .ok (.iload_n 2, 1) := by decide +kernel
theorem dX3_cellHere_49 : decode cX3_cellHere 49 = .ok (.iconst (-1), 1) := by decide +kernel
theorem dX3_cellHere_50 : decode cX3_cellHere 50 = .ok (.if_icmp .ne 15, 3) := by decide +kernel
theorem dX3_cellHere_53 : decode cX3_cellHere 53 = .ok (.aload_n 0, 1) := by decide +kernel
theorem dX3_cellHere_54 : decode cX3_cellHere 54 = .ok (.iconst 4, 1) := by decide +kernel
theorem dX3_cellHere_55 : decode cX3_cellHere 55 = .ok (.aload_n 0, 1) := by decide +kernel
theorem dX3_cellHere_56 : decode cX3_cellHere 56 = .ok (.getfield 12, 3) := by decide +kernel
theorem dX3_cellHere_59 : decode cX3_cellHere 59 = .ok (.invokevirtual 88, 3) := by decide +kernel
theorem dX3_cellHere_62 : decode cX3_cellHere 62 = .ok (.invokevirtual 78, 3) := by decide +kernel
theorem dX3_cellHere_65 : decode cX3_cellHere 65 = .ok (.iload_n 2, 1) := by decide +kernel
theorem dX3_cellHere_66 : decode cX3_cellHere 66 = .ok (.ireturn, 1) := by decide +kernel
theorem dX3_addUnit_0 : decode cX3_addUnit 0 = .ok (.iload_n 1, 1) := by decide +kernel
theorem dX3_addUnit_1 : decode cX3_addUnit 1 = .ok (.lookupswitch 97 #[(3, 43), (108, 61), (109, 73), (110, 85)], 43) := by decide +kernel
theorem dX3_addUnit_44 : decode cX3_addUnit 44 = .ok (.aload_n 0, 1) := by decide +kernel
theorem dX3_addUnit_45 : decode cX3_addUnit 45 = .ok (.getfield 29, 3) := by decide +kernel
theorem dX3_addUnit_48 : decode cX3_addUnit 48 = .ok (.iconst 0, 1) := by decide +kernel
theorem dX3_addUnit_49 : decode cX3_addUnit 49 = .ok (.aload_n 0, 1) := by decide +kernel
theorem dX3_addUnit_50 : decode cX3_addUnit 50 = .ok (.getfield 12, 3) := by decide +kernel
theorem dX3_addUnit_53 : decode cX3_addUnit 53 = .ok (.invokevirtual 91, 3) := by decide +kernel
theorem dX3_addUnit_56 : decode cX3_addUnit 56 = .ok (.invokevirtual 160, 3) := by decide +kernel
theorem dX3_addUnit_59 : decode cX3_addUnit 59 = .ok (.goto 51, 3) := by decide +kernel
theorem dX3_addUnit_62 : decode cX3_addUnit 62 = .ok (.aload_n 0, 1) := by decide +kernel
theorem dX3_addUnit_63 : decode cX3_addUnit 63 = .ok (.getfield 29, 3) := by decide +kernel
theorem dX3_addUnit_66 : decode cX3_addUnit 66 = .ok (.iconst 2, 1) := by decide +kernel
theorem dX3_addUnit_67 : decode cX3_addUnit 67 = .ok (.iconst 0, 1) := by decide +kernel
theorem dX3_addUnit_68 : decode cX3_addUnit 68 = .ok (.invokevirtual 160, 3) := by decide +kernel
theorem dX3_addUnit_71 : decode cX3_addUnit 71 = .ok (.goto 39, 3) := by decide +kernel
theorem dX3_addUnit_74 : decode cX3_addUnit 74 = .ok (.aload_n 0, 1) := by decide +kernel
theorem dX3_addUnit_75 : decode cX3_addUnit 75 = .ok (.getfield 29, 3) := by decide +kernel
theorem dX3_addUnit_78 : decode cX3_addUnit 78 = .ok (.iconst 3, 1) := by decide +kernel
theorem dX3_addUnit_79 : decode cX3_addUnit 79 = .ok (.iconst 0, 1) := by decide +kernel
theorem dX3_addUnit_80 : decode cX3_addUnit 80 = .ok (.invokevirtual 160, 3) := by decide +kernel
theorem dX3_addUnit_83 : decode cX3_addUnit 83 = .ok (.goto 27, 3) := by decide +kernel
theorem dX3_addUnit_86 : decode cX3_addUnit 86 = .ok (.aload_n 0, 1) := by decide +kernel
theorem dX3_addUnit_87 : decode cX3_addUnit 87 = .ok (.getfield 29, 3) := by decide +kernel
theorem dX3_addUnit_90 : decode cX3_addUnit 90 = .ok (.iconst 4, 1) := by decide +kernel
theorem dX3_addUnit_91 : decode cX3_addUnit 91 = .ok (.iconst 0, 1) := by decide +kernel
theorem dX3_addUnit_92 : decode cX3_addUnit 92 = .ok (.invokevirtual 160, 3) := by decide +kernel
theorem dX3_addUnit_95 : decode cX3_addUnit 95 = .ok (.goto 15, 3) := by decide +kernel
theorem dX3_addUnit_98 : decode cX3_addUnit 98 = .ok (.aload_n 0, 1) := by decide +kernel
theorem dX3_addUnit_99 : decode cX3_addUnit 99 = .ok (.getfield 29, 3) := by decide +kernel
theorem dX3_addUnit_102 : decode cX3_addUnit 102 = .ok (.iconst 1, 1) := by decide +kernel
theorem dX3_addUnit_103 : decode cX3_addUnit 103 = .ok (.aload_n 0, 1) := by decide +kernel
theorem dX3_addUnit_104 : decode cX3_addUnit 104 = .ok (.invokevirtual 119, 3) := by decide +kernel
theorem dX3_addUnit_107 : decode cX3_addUnit 107 = .ok (.invokevirtual 160, 3) := by decide +kernel
theorem dX3_addUnit_110 : decode cX3_addUnit 110 = .ok (.return_, 1) := by decide +kernel
theorem dX3_isValue_0 : decode cX3_isValue 0 = .ok (.iload_n 0, 1) := by decide +kernel
theorem dX3_isValue_1 : decode cX3_isValue 1 = .ok (.iconst 3, 1) := by decide +kernel
theorem dX3_isValue_2 : decode cX3_isValue 2 = .ok (.if_icmp .eq 21, 3) := by decide +kernel
theorem dX3_isValue_5 : decode cX3_isValue 5 = .ok (.iload_n 0, 1) := by decide +kernel
theorem dX3_isValue_6 : decode cX3_isValue 6 = .ok (.bipush 108, 2) := by decide +kernel
theorem dX3_isValue_8 : decode cX3_isValue 8 = .ok (.if_icmp .eq 15, 3) := by decide +kernel
theorem dX3_isValue_11 : decode cX3_isValue 11 = .ok (.iload_n 0, 1) := by decide +kernel
theorem dX3_isValue_12 : decode cX3_isValue 12 = .ok (.bipush 109, 2) := by decide +kernel
theorem dX3_isValue_14 : decode cX3_isValue 14 = .ok (.if_icmp .eq 9, 3) := by decide +kernel
theorem dX3_isValue_17 : decode cX3_isValue 17 = .ok (.iload_n 0, 1) := by decide +kernel
theorem dX3_isValue_18 : decode cX3_isValue 18 = .ok (.bipush 110, 2) := by decide +kernel
theorem dX3_isValue_20 : decode cX3_isValue 20 = .ok (.if_icmp .ne 7, 3) := by decide +kernel
theorem dX3_isValue_23 : decode cX3_isValue 23 = .ok (.iconst 1, 1) := by decide +kernel
theorem dX3_isValue_24 : decode cX3_isValue 24 = .ok (.goto 4, 3) := by decide +kernel
theorem dX3_isValue_27 : decode cX3_isValue 27 = .ok (.iconst 0, 1) := by decide +kernel
theorem dX3_isValue_28 : decode cX3_isValue 28 = .ok (.ireturn, 1) := by decide +kernel
theorem dX3_isOperator_0 : decode cX3_isOperator 0 = .ok (.iload_n 0, 1) := by decide +kernel
theorem dX3_isOperator_1 : decode cX3_isOperator 1 = .ok (.bipush 43, 2) := by decide +kernel
theorem dX3_isOperator_3 : decode cX3_isOperator 3 = .ok (.if_icmp .eq 21, 3) := by decide +kernel
theorem dX3_isOperator_6 : decode cX3_isOperator 6 = .ok (.iload_n 0, 1) := by decide +kernel
theorem dX3_isOperator_7 : decode cX3_isOperator 7 = .ok (.bipush 45, 2) := by decide +kernel
theorem dX3_isOperator_9 : decode cX3_isOperator 9 = .ok (.if_icmp .eq 15, 3) := by decide +kernel
theorem dX3_isOperator_12 : decode cX3_isOperator 12 = .ok (.iload_n 0, 1) := by decide +kernel
theorem dX3_isOperator_13 : decode cX3_isOperator 13 = .ok (.bipush 42, 2) := by decide +kernel
theorem dX3_isOperator_15 : decode cX3_isOperator 15 = .ok (.if_icmp .eq 9, 3) := by decide +kernel
theorem dX3_isOperator_18 : decode cX3_isOperator 18 = .ok (.iload_n 0, 1) := by decide +kernel
theorem dX3_isOperator_19 : decode cX3_isOperator 19 = .ok (.bipush 47, 2) := by decide +kernel
theorem dX3_isOperator_21 : decode cX3_isOperator 21 = .ok (.if_icmp .ne 7, 3) := by decide +kernel
theorem dX3_isOperator_24 : decode cX3_isOperator 24 = .ok (.iconst 1, 1) := by decide +kernel
theorem dX3_isOperator_25 : decode cX3_isOperator 25 = .ok (.goto 4, 3) := by decide +kernel
theorem dX3_isOperator_28 : decode cX3_isOperator 28 = .ok (.iconst 0, 1) := by decide +kernel
theorem dX3_isOperator_29 : decode cX3_isOperator 29 = .ok (.ireturn, 1) := by decide +kernel
theorem dX3_rankOf_0 : decode cX3_rankOf 0 = .ok (.iload_n 0, 1) := by decide +kernel
theorem dX3_rankOf_1 : decode cX3_rankOf 1 = .ok (.bipush 40, 2) := by decide +kernel
theorem dX3_rankOf_3 : decode cX3_rankOf 3 = .ok (.if_icmp .ne 5, 3) := by decide +kernel
theorem dX3_rankOf_6 : decode cX3_rankOf 6 = .ok (.iconst 0, 1) := by decide +kernel
theorem dX3_rankOf_7 : decode cX3_rankOf 7 = .ok (.ireturn, 1) := by decide +kernel
theorem dX3_rankOf_8 : decode cX3_rankOf 8 = .ok (.iload_n 0, 1) := by decide +kernel
theorem dX3_rankOf_9 : decode cX3_rankOf 9 = .ok (.bipush 42, 2) := by decide +kernel
theorem dX3_rankOf_11 : decode cX3_rankOf 11 = .ok (.if_icmp .eq 9, 3) := by decide +kernel
theorem dX3_rankOf_14 : decode cX3_rankOf 14 = .ok (.iload_n 0, 1) := by decide +kernel
theorem dX3_rankOf_15 : decode cX3_rankOf 15 = .ok (.bipush 47, 2) := by decide +kernel
theorem dX3_rankOf_17 : decode cX3_rankOf 17 = .ok (.if_icmp .ne 7, 3) := by decide +kernel
theorem dX3_rankOf_20 : decode cX3_rankOf 20 = .ok (.iconst 2, 1) := by decide +kernel
theorem dX3_rankOf_21 : decode cX3_rankOf 21 = .ok (.goto 4, 3) := by decide +kernel
theorem dX3_rankOf_24 : decode cX3_rankOf 24 = .ok (.iconst 1, 1) := by decide +kernel
theorem dX3_rankOf_25 : decode cX3_rankOf 25 = .ok (.ireturn, 1) := by decide +kernel
theorem dX3_letOut_0 : decode cX3_letOut 0 = .ok (.aload_n 0, 1) := by decide +kernel
theorem dX3_letOut_1 : decode cX3_letOut 1 = .ok (.getfield 131, 3) := by decide +kernel
theorem dX3_letOut_4 : decode cX3_letOut 4 = .ok (.ifCond .le 51, 3) := by decide +kernel
theorem dX3_letOut_7 : decode cX3_letOut 7 = .ok (.aload_n 0, 1) := by decide +kernel
theorem dX3_letOut_8 : decode cX3_letOut 8 = .ok (.getfield 26, 3) := by decide +kernel
theorem dX3_letOut_11 : decode cX3_letOut 11 = .ok (.aload_n 0, 1) := by decide +kernel
theorem dX3_letOut_12 : decode cX3_letOut 12 = .ok (.getfield 131, 3) := by decide +kernel
theorem dX3_letOut_15 : decode cX3_letOut 15 = .ok (.iconst 1, 1) := by decide +kernel
theorem dX3_letOut_16 : decode cX3_letOut 16 = .ok (.isub, 1) := by decide +kernel
theorem dX3_letOut_17 : decode cX3_letOut 17 = .ok (.iaload, 1) := by decide +kernel
theorem dX3_letOut_18 : decode cX3_letOut 18 = .ok (.invokestatic 147, 3) := by decide +kernel
theorem dX3_letOut_21 : decode cX3_letOut 21 = .ok (.iload_n 1, 1) := by decide +kernel
theorem dX3_letOut_22 : decode cX3_letOut 22 = .ok (.if_icmp .lt 33, 3) := by decide +kernel
theorem dX3_letOut_25 : decode cX3_letOut 25 = .ok (.aload_n 0, 1) := by decide +kernel
theorem dX3_letOut_26 : decode cX3_letOut 26 = .ok (.dup, 1) := by decide +kernel
theorem dX3_letOut_27 : decode cX3_letOut 27 = .ok (.getfield 131, 3) := by decide +kernel
theorem dX3_letOut_30 : decode cX3_letOut 30 = .ok (.iconst 1, 1) := by decide +kernel
theorem dX3_letOut_31 : decode cX3_letOut 31 = .ok (.isub, 1) := by decide +kernel
theorem dX3_letOut_32 : decode cX3_letOut 32 = .ok (.putfield 131, 3) := by decide +kernel
theorem dX3_letOut_35 : decode cX3_letOut 35 = .ok (.aload_n 0, 1) := by decide +kernel
theorem dX3_letOut_36 : decode cX3_letOut 36 = .ok (.getfield 29, 3) := by decide +kernel
theorem dX3_letOut_39 : decode cX3_letOut 39 = .ok (.iconst 5, 1) := by decide +kernel
theorem dX3_letOut_40 : decode cX3_letOut 40 = .ok (.aload_n 0, 1) := by decide +kernel
theorem dX3_letOut_41 : decode cX3_letOut 41 = .ok (.getfield 26, 3) := by decide +kernel
theorem dX3_letOut_44 : decode cX3_letOut 44 = .ok (.aload_n 0, 1) := by decide +kernel
theorem dX3_letOut_45 : decode cX3_letOut 45 = .ok (.getfield 131, 3) := by decide +kernel
theorem dX3_letOut_48 : decode cX3_letOut 48 = .ok (.iaload, 1) := by decide +kernel
theorem dX3_letOut_49 : decode cX3_letOut 49 = .ok (.invokevirtual 160, 3) := by decide +kernel
theorem dX3_letOut_52 : decode cX3_letOut 52 = .ok (.goto (-52), 3) := by decide +kernel
theorem dX3_letOut_55 : decode cX3_letOut 55 = .ok (.return_, 1) := by decide +kernel
theorem dX3_closeNest_0 : decode cX3_closeNest 0 = .ok (.aload_n 0, 1) := by decide +kernel
theorem dX3_closeNest_1 : decode cX3_closeNest 1 = .ok (.iconst 1, 1) := by decide +kernel
theorem dX3_closeNest_2 : decode cX3_closeNest 2 = .ok (.invokevirtual 151, 3) := by decide +kernel
theorem dX3_closeNest_5 : decode cX3_closeNest 5 = .ok (.aload_n 0, 1) := by decide +kernel
theorem dX3_closeNest_6 : decode cX3_closeNest 6 = .ok (.getfield 131, 3) := by decide +kernel
theorem dX3_closeNest_9 : decode cX3_closeNest 9 = .ok (.ifCond .le 13, 3) := by decide +kernel
theorem dX3_closeNest_12 : decode cX3_closeNest 12 = .ok (.aload_n 0, 1) := by decide +kernel
theorem dX3_closeNest_13 : decode cX3_closeNest 13 = .ok (.dup, 1) := by decide +kernel
theorem dX3_closeNest_14 : decode cX3_closeNest 14 = .ok (.getfield 131, 3) := by decide +kernel
theorem dX3_closeNest_17 : decode cX3_closeNest 17 = .ok (.iconst 1, 1) := by decide +kernel
theorem dX3_closeNest_18 : decode cX3_closeNest 18 = .ok (.isub, 1) := by decide +kernel
theorem dX3_closeNest_19 : decode cX3_closeNest 19 = .ok (.putfield 131, 3) := by decide +kernel
theorem dX3_closeNest_22 : decode cX3_closeNest 22 = .ok (.return_, 1) := by decide +kernel
theorem dX3_takeExpression_0 : decode cX3_takeExpression 0 = .ok (.aload_n 0, 1) := by decide +kernel
theorem dX3_takeExpression_1 : decode cX3_takeExpression 1 = .ok (.getfield 29, 3) := by decide +kernel
theorem dX3_takeExpression_4 : decode cX3_takeExpression 4 = .ok (.getfield 125, 3) := by decide +kernel
theorem dX3_takeExpression_7 : decode cX3_takeExpression 7 = .ok (.iload_n 1, 1) := by decide +kernel
theorem dX3_takeExpression_8 : decode cX3_takeExpression 8 = .ok (.aload_n 0, 1) := by decide +kernel
theorem dX3_takeExpression_9 : decode cX3_takeExpression 9 = .ok (.getfield 29, 3) := by decide +kernel
theorem dX3_takeExpression_12 : decode cX3_takeExpression 12 = .ok (.getfield 128, 3) := by decide +kernel
theorem dX3_takeExpression_15 : decode cX3_takeExpression 15 = .ok (.iastore, 1) := by decide +kernel
theorem dX3_takeExpression_16 : decode cX3_takeExpression 16 = .ok (.aload_n 0, 1) := by decide +kernel
theorem dX3_takeExpression_17 : decode cX3_takeExpression 17 = .ok (.iconst 0, 1) := by decide +kernel
theorem dX3_takeExpression_18 : decode cX3_takeExpression 18 = .ok (.putfield 131, 3) := by decide +kernel
theorem dX3_takeExpression_21 : decode cX3_takeExpression 21 = .ok (.iconst 0, 1) := by decide +kernel
theorem dX3_takeExpression_22 : decode cX3_takeExpression 22 = .ok (.istore_n 2, 1) := by decide +kernel
theorem dX3_takeExpression_23 : decode cX3_takeExpression 23 = .ok (.iconst 1, 1) := by decide +kernel
theorem dX3_takeExpression_24 : decode cX3_takeExpression 24 = .ok (.istore_n 3, 1) := by decide +kernel
theorem dX3_takeExpression_25 : decode cX3_takeExpression 25 = .ok (.iconst 1, 1) := by decide +kernel
theorem dX3_takeExpression_26 : decode cX3_takeExpression 26 = .ok (.istore 4, 2) := by decide +kernel
theorem dX3_takeExpression_28 : decode cX3_takeExpression 28 = .ok (.iconst 0, 1) := by decide +kernel
theorem dX3_takeExpression_29 : decode cX3_takeExpression 29 = .ok (.istore 5, 2) := by decide +kernel
theorem dX3_takeExpression_31 : decode cX3_takeExpression 31 = .ok (.iload 5, 2) := by decide +kernel
theorem dX3_takeExpression_33 : decode cX3_takeExpression 33 = .ok (.sipush 400, 3) := by decide +kernel
theorem dX3_takeExpression_36 : decode cX3_takeExpression 36 = .ok (.if_icmp .gt 160, 3) := by decide +kernel
theorem dX3_takeExpression_39 : decode cX3_takeExpression 39 = .ok (.iload 4, 2) := by decide +kernel
theorem dX3_takeExpression_41 : decode cX3_takeExpression 41 = .ok (.ifCond .eq 155, 3) := by decide +kernel
theorem dX3_takeExpression_44 : decode cX3_takeExpression 44 = .ok (.aload_n 0, 1) := by decide +kernel
theorem dX3_takeExpression_45 : decode cX3_takeExpression 45 = .ok (.getfield 45, 3) := by decide +kernel
theorem dX3_takeExpression_48 : decode cX3_takeExpression 48 = .ok (.ifCond .ne 148, 3) := by decide +kernel
theorem dX3_takeExpression_51 : decode cX3_takeExpression 51 = .ok (.aload_n 0, 1) := by decide +kernel
theorem dX3_takeExpression_52 : decode cX3_takeExpression 52 = .ok (.getfield 12, 3) := by decide +kernel
theorem dX3_takeExpression_55 : decode cX3_takeExpression 55 = .ok (.invokevirtual 58, 3) := by decide +kernel
theorem dX3_takeExpression_58 : decode cX3_takeExpression 58 = .ok (.istore 6, 2) := by decide +kernel
theorem dX3_takeExpression_60 : decode cX3_takeExpression 60 = .ok (.iload_n 3, 1) := by decide +kernel
theorem dX3_takeExpression_61 : decode cX3_takeExpression 61 = .ok (.ifCond .eq 39, 3) := by decide +kernel
theorem dX3_takeExpression_64 : decode cX3_takeExpression 64 = .ok (.iload 6, 2) := by decide +kernel
theorem dX3_takeExpression_66 : decode cX3_takeExpression 66 = .ok (.bipush 40, 2) := by decide +kernel
theorem dX3_takeExpression_68 : decode cX3_takeExpression 68 = .ok (.if_icmp .ne 32, 3) := by decide +kernel
theorem dX3_takeExpression_71 : decode cX3_takeExpression 71 = .ok (.iload_n 2, 1) := by decide +kernel
theorem dX3_takeExpression_72 : decode cX3_takeExpression 72 = .ok (.bipush 6, 2) := by decide +kernel
theorem dX3_takeExpression_74 : decode cX3_takeExpression 74 = .ok (.if_icmp .lt 8, 3) := by decide +kernel
theorem dX3_takeExpression_77 : decode cX3_takeExpression 77 = .ok (.aload_n 0, 1) := by decide +kernel
theorem dX3_takeExpression_78 : decode cX3_takeExpression 78 = .ok (.iconst 2, 1) := by decide +kernel
theorem dX3_takeExpression_79 : decode cX3_takeExpression 79 = .ok (.invokevirtual 82, 3) := by decide +kernel
theorem dX3_takeExpression_82 : decode cX3_takeExpression 82 = .ok (.iinc 2 1, 3) := by decide +kernel
theorem dX3_takeExpression_85 : decode cX3_takeExpression 85 = .ok (.aload_n 0, 1) := by decide +kernel
theorem dX3_takeExpression_86 : decode cX3_takeExpression 86 = .ok (.iload 6, 2) := by decide +kernel
theorem dX3_takeExpression_88 : decode cX3_takeExpression 88 = .ok (.invokevirtual 134, 3) := by decide +kernel
theorem dX3_takeExpression_91 : decode cX3_takeExpression 91 = .ok (.aload_n 0, 1) := by decide +kernel
theorem dX3_takeExpression_92 : decode cX3_takeExpression 92 = .ok (.iload 6, 2) := by decide +kernel
theorem dX3_takeExpression_94 : decode cX3_takeExpression 94 = .ok (.invokevirtual 85, 3) := by decide +kernel
theorem dX3_takeExpression_97 : decode cX3_takeExpression 97 = .ok (.goto 93, 3) := by decide +kernel
theorem dX3_takeExpression_100 : decode cX3_takeExpression 100 = .ok (.iload_n 3, 1) := by decide +kernel
theorem dX3_takeExpression_101 : decode cX3_takeExpression 101 = .ok (.ifCond .eq 32, 3) := by decide +kernel
theorem dX3_takeExpression_104 : decode cX3_takeExpression 104 = .ok (.aload_n 0, 1) := by decide +kernel
theorem dX3_takeExpression_105 : decode cX3_takeExpression 105 = .ok (.iload 6, 2) := by decide +kernel
theorem dX3_takeExpression_107 : decode cX3_takeExpression 107 = .ok (.invokevirtual 137, 3) := by decide +kernel
theorem dX3_takeExpression_110 : decode cX3_takeExpression 110 = .ok (.aload_n 0, 1) := by decide +kernel
theorem dX3_takeExpression_111 : decode cX3_takeExpression 111 = .ok (.iload 6, 2) := by decide +kernel
theorem dX3_takeExpression_113 : decode cX3_takeExpression 113 = .ok (.invokestatic 140, 3) := by decide +kernel
theorem dX3_takeExpression_116 : decode cX3_takeExpression 116 = .ok (.ifCond .eq 8, 3) := by decide +kernel
theorem dX3_takeExpression_119 : decode cX3_takeExpression 119 = .ok (.iload 6, 2) := by decide +kernel
theorem dX3_takeExpression_121 : decode cX3_takeExpression 121 = .ok (.goto 4, 3) := by decide +kernel
theorem dX3_takeExpression_124 : decode cX3_takeExpression 124 = .ok (.iconst 2, 1) := by decide +kernel
theorem dX3_takeExpression_125 : decode cX3_takeExpression 125 = .ok (.invokevirtual 85, 3) := by decide +kernel
theorem dX3_takeExpression_128 : decode cX3_takeExpression 128 = .ok (.iconst 0, 1) := by decide +kernel
theorem dX3_takeExpression_129 : decode cX3_takeExpression 129 = .ok (.istore_n 3, 1) := by decide +kernel
theorem dX3_takeExpression_130 : decode cX3_takeExpression 130 = .ok (.goto 60, 3) := by decide +kernel
theorem dX3_takeExpression_133 : decode cX3_takeExpression 133 = .ok (.iload 6, 2) := by decide +kernel
theorem dX3_takeExpression_135 : decode cX3_takeExpression 135 = .ok (.invokestatic 144, 3) := by decide +kernel
theorem dX3_takeExpression_138 : decode cX3_takeExpression 138 = .ok (.ifCond .eq 29, 3) := by decide +kernel
theorem dX3_takeExpression_141 : decode cX3_takeExpression 141 = .ok (.aload_n 0, 1) := by decide +kernel
theorem dX3_takeExpression_142 : decode cX3_takeExpression 142 = .ok (.iload 6, 2) := by decide +kernel
theorem dX3_takeExpression_144 : decode cX3_takeExpression 144 = .ok (.invokestatic 147, 3) := by decide +kernel
theorem dX3_takeExpression_147 : decode cX3_takeExpression 147 = .ok (.invokevirtual 151, 3) := by decide +kernel
theorem dX3_takeExpression_150 : decode cX3_takeExpression 150 = .ok (.aload_n 0, 1) := by decide +kernel
theorem dX3_takeExpression_151 : decode cX3_takeExpression 151 = .ok (.iload 6, 2) := by decide +kernel
theorem dX3_takeExpression_153 : decode cX3_takeExpression 153 = .ok (.invokevirtual 134, 3) := by decide +kernel
theorem dX3_takeExpression_156 : decode cX3_takeExpression 156 = .ok (.aload_n 0, 1) := by decide +kernel
theorem dX3_takeExpression_157 : decode cX3_takeExpression 157 = .ok (.iload 6, 2) := by decide +kernel
theorem dX3_takeExpression_159 : decode cX3_takeExpression 159 = .ok (.invokevirtual 85, 3) := by decide +kernel
theorem dX3_takeExpression_162 : decode cX3_takeExpression 162 = .ok (.iconst 1, 1) := by decide +kernel
theorem dX3_takeExpression_163 : decode cX3_takeExpression 163 = .ok (.istore_n 3, 1) := by decide +kernel
theorem dX3_takeExpression_164 : decode cX3_takeExpression 164 = .ok (.goto 26, 3) := by decide +kernel
theorem dX3_takeExpression_167 : decode cX3_takeExpression 167 = .ok (.iload_n 2, 1) := by decide +kernel
theorem dX3_takeExpression_168 : decode cX3_takeExpression 168 = .ok (.ifCond .le 19, 3) := by decide +kernel
theorem dX3_takeExpression_171 : decode cX3_takeExpression 171 = .ok (.iinc 2 (-1), 3) := by decide +kernel
theorem dX3_takeExpression_174 : decode cX3_takeExpression 174 = .ok (.aload_n 0, 1) := by decide +kernel
theorem dX3_takeExpression_175 : decode cX3_takeExpression 175 = .ok (.invokevirtual 154, 3) := by decide +kernel
theorem dX3_takeExpression_178 : decode cX3_takeExpression 178 = .ok (.aload_n 0, 1) := by decide +kernel
theorem dX3_takeExpression_179 : decode cX3_takeExpression 179 = .ok (.bipush 41, 2) := by decide +kernel
theorem dX3_takeExpression_181 : decode cX3_takeExpression 181 = .ok (.invokevirtual 85, 3) := by decide +kernel
theorem dX3_takeExpression_184 : decode cX3_takeExpression 184 = .ok (.goto 6, 3) := by decide +kernel
theorem dX3_takeExpression_187 : decode cX3_takeExpression 187 = .ok (.iconst 0, 1) := by decide +kernel
theorem dX3_takeExpression_188 : decode cX3_takeExpression 188 = .ok (.istore 4, 2) := by decide +kernel
theorem dX3_takeExpression_190 : decode cX3_takeExpression 190 = .ok (.iinc 5 1, 3) := by decide +kernel
theorem dX3_takeExpression_193 : decode cX3_takeExpression 193 = .ok (.goto (-162), 3) := by decide +kernel
theorem dX3_takeExpression_196 : decode cX3_takeExpression 196 = .ok (.aload_n 0, 1) := by decide +kernel
theorem dX3_takeExpression_197 : decode cX3_takeExpression 197 = .ok (.iconst 1, 1) := by decide +kernel
theorem dX3_takeExpression_198 : decode cX3_takeExpression 198 = .ok (.invokevirtual 151, 3) := by decide +kernel
theorem dX3_takeExpression_201 : decode cX3_takeExpression 201 = .ok (.aload_n 0, 1) := by decide +kernel
theorem dX3_takeExpression_202 : decode cX3_takeExpression 202 = .ok (.getfield 29, 3) := by decide +kernel
theorem dX3_takeExpression_205 : decode cX3_takeExpression 205 = .ok (.getfield 157, 3) := by decide +kernel
theorem dX3_takeExpression_208 : decode cX3_takeExpression 208 = .ok (.iload_n 1, 1) := by decide +kernel
theorem dX3_takeExpression_209 : decode cX3_takeExpression 209 = .ok (.aload_n 0, 1) := by decide +kernel
theorem dX3_takeExpression_210 : decode cX3_takeExpression 210 = .ok (.getfield 29, 3) := by decide +kernel
theorem dX3_takeExpression_213 : decode cX3_takeExpression 213 = .ok (.getfield 128, 3) := by decide +kernel
theorem dX3_takeExpression_216 : decode cX3_takeExpression 216 = .ok (.iastore, 1) := by decide +kernel
theorem dX3_takeExpression_217 : decode cX3_takeExpression 217 = .ok (.return_, 1) := by decide +kernel
theorem dX3_tellForm_0 : decode cX3_tellForm 0 = .ok (.aload_n 0, 1) := by decide +kernel
theorem dX3_tellForm_1 : decode cX3_tellForm 1 = .ok (.getfield 29, 3) := by decide +kernel
theorem dX3_tellForm_4 : decode cX3_tellForm 4 = .ok (.getfield 106, 3) := by decide +kernel
theorem dX3_tellForm_7 : decode cX3_tellForm 7 = .ok (.istore_n 1, 1) := by decide +kernel
theorem dX3_tellForm_8 : decode cX3_tellForm 8 = .ok (.iload_n 1, 1) := by decide +kernel
theorem dX3_tellForm_9 : decode cX3_tellForm 9 = .ok (.bipush 6, 2) := by decide +kernel
theorem dX3_tellForm_11 : decode cX3_tellForm 11 = .ok (.if_icmp .lt 9, 3) := by decide +kernel
theorem dX3_tellForm_14 : decode cX3_tellForm 14 = .ok (.aload_n 0, 1) := by decide +kernel
theorem dX3_tellForm_15 : decode cX3_tellForm 15 = .ok (.iconst 2, 1) := by decide +kernel
theorem dX3_tellForm_16 : decode cX3_tellForm 16 = .ok (.invokevirtual 82, 3) := by decide +kernel
theorem dX3_tellForm_19 : decode cX3_tellForm 19 = .ok (.return_, 1) := by decide +kernel
theorem dX3_tellForm_20 : decode cX3_tellForm 20 = .ok (.iload_n 1, 1) := by decide +kernel
theorem dX3_tellForm_21 : decode cX3_tellForm 21 = .ok (.iconst 4, 1) := by decide +kernel
theorem dX3_tellForm_22 : decode cX3_tellForm 22 = .ok (.imul, 1) := by decide +kernel
theorem dX3_tellForm_23 : decode cX3_tellForm 23 = .ok (.istore_n 2, 1) := by decide +kernel
theorem dX3_tellForm_24 : decode cX3_tellForm 24 = .ok (.aload_n 0, 1) := by decide +kernel
theorem dX3_tellForm_25 : decode cX3_tellForm 25 = .ok (.bipush 103, 2) := by decide +kernel
theorem dX3_tellForm_27 : decode cX3_tellForm 27 = .ok (.invokevirtual 85, 3) := by decide +kernel
theorem dX3_tellForm_30 : decode cX3_tellForm 30 = .ok (.aload_n 0, 1) := by decide +kernel
theorem dX3_tellForm_31 : decode cX3_tellForm 31 = .ok (.iconst (-1), 1) := by decide +kernel
theorem dX3_tellForm_32 : decode cX3_tellForm 32 = .ok (.invokevirtual 100, 3) := by decide +kernel
theorem dX3_tellForm_35 : decode cX3_tellForm 35 = .ok (.aload_n 0, 1) := by decide +kernel
theorem dX3_tellForm_36 : decode cX3_tellForm 36 = .ok (.iconst 2, 1) := by decide +kernel
theorem dX3_tellForm_37 : decode cX3_tellForm 37 = .ok (.invokevirtual 85, 3) := by decide +kernel
theorem dX3_tellForm_40 : decode cX3_tellForm 40 = .ok (.aload_n 0, 1) := by decide +kernel
theorem dX3_tellForm_41 : decode cX3_tellForm 41 = .ok (.bipush 104, 2) := by decide +kernel
theorem dX3_tellForm_43 : decode cX3_tellForm 43 = .ok (.invokevirtual 85, 3) := by decide +kernel
theorem dX3_tellForm_46 : decode cX3_tellForm 46 = .ok (.aload_n 0, 1) := by decide +kernel
theorem dX3_tellForm_47 : decode cX3_tellForm 47 = .ok (.iload_n 2, 1) := by decide +kernel
theorem dX3_tellForm_48 : decode cX3_tellForm 48 = .ok (.invokevirtual 109, 3) := by decide +kernel
theorem dX3_tellForm_51 : decode cX3_tellForm 51 = .ok (.aload_n 0, 1) := by decide +kernel
theorem dX3_tellForm_52 : decode cX3_tellForm 52 = .ok (.getfield 29, 3) := by decide +kernel
theorem dX3_tellForm_55 : decode cX3_tellForm 55 = .ok (.getfield 112, 3) := by decide +kernel
theorem dX3_tellForm_58 : decode cX3_tellForm 58 = .ok (.iload_n 1, 1) := by decide +kernel
theorem dX3_tellForm_59 : decode cX3_tellForm 59 = .ok (.aload_n 0, 1) := by decide +kernel
theorem dX3_tellForm_60 : decode cX3_tellForm 60 = .ok (.getfield 12, 3) := by decide +kernel
theorem dX3_tellForm_63 : decode cX3_tellForm 63 = .ok (.invokevirtual 58, 3) := by decide +kernel
theorem dX3_tellForm_66 : decode cX3_tellForm 66 = .ok (.bipush 60, 2) := by decide +kernel
theorem dX3_tellForm_68 : decode cX3_tellForm 68 = .ok (.if_icmp .ne 7, 3) := by decide +kernel
theorem dX3_tellForm_71 : decode cX3_tellForm 71 = .ok (.iconst 1, 1) := by decide +kernel
theorem dX3_tellForm_72 : decode cX3_tellForm 72 = .ok (.goto 4, 3) := by decide +kernel
theorem dX3_tellForm_75 : decode cX3_tellForm 75 = .ok (.iconst 0, 1) := by decide +kernel
theorem dX3_tellForm_76 : decode cX3_tellForm 76 = .ok (.bastore, 1) := by decide +kernel
theorem dX3_tellForm_77 : decode cX3_tellForm 77 = .ok (.aload_n 0, 1) := by decide +kernel
theorem dX3_tellForm_78 : decode cX3_tellForm 78 = .ok (.aload_n 0, 1) := by decide +kernel
theorem dX3_tellForm_79 : decode cX3_tellForm 79 = .ok (.getfield 29, 3) := by decide +kernel
theorem dX3_tellForm_82 : decode cX3_tellForm 82 = .ok (.getfield 112, 3) := by decide +kernel
theorem dX3_tellForm_85 : decode cX3_tellForm 85 = .ok (.iload_n 1, 1) := by decide +kernel
theorem dX3_tellForm_86 : decode cX3_tellForm 86 = .ok (.baload, 1) := by decide +kernel
theorem dX3_tellForm_87 : decode cX3_tellForm 87 = .ok (.ifCond .eq 8, 3) := by decide +kernel
theorem dX3_tellForm_90 : decode cX3_tellForm 90 = .ok (.bipush 60, 2) := by decide +kernel
theorem dX3_tellForm_92 : decode cX3_tellForm 92 = .ok (.goto 5, 3) := by decide +kernel
theorem dX3_tellForm_95 : decode cX3_tellForm 95 = .ok (.bipush 61, 2) := by decide +kernel
theorem dX3_tellForm_97 : decode cX3_tellForm 97 = .ok (.invokevirtual 85, 3) := by decide +kernel
theorem dX3_tellForm_100 : decode cX3_tellForm 100 = .ok (.aload_n 0, 1) := by decide +kernel
theorem dX3_tellForm_101 : decode cX3_tellForm 101 = .ok (.iload_n 2, 1) := by decide +kernel
theorem dX3_tellForm_102 : decode cX3_tellForm 102 = .ok (.iconst 1, 1) := by decide +kernel
theorem dX3_tellForm_103 : decode cX3_tellForm 103 = .ok (.iadd, 1) := by decide +kernel
theorem dX3_tellForm_104 : decode cX3_tellForm 104 = .ok (.invokevirtual 109, 3) := by decide +kernel
theorem dX3_tellForm_107 : decode cX3_tellForm 107 = .ok (.aload_n 0, 1) := by decide +kernel
theorem dX3_tellForm_108 : decode cX3_tellForm 108 = .ok (.bipush 105, 2) := by decide +kernel
theorem dX3_tellForm_110 : decode cX3_tellForm 110 = .ok (.invokevirtual 85, 3) := by decide +kernel
theorem dX3_tellForm_113 : decode cX3_tellForm 113 = .ok (.aload_n 0, 1) := by decide +kernel
theorem dX3_tellForm_114 : decode cX3_tellForm 114 = .ok (.getfield 29, 3) := by decide +kernel
theorem dX3_tellForm_117 : decode cX3_tellForm 117 = .ok (.getfield 116, 3) := by decide +kernel
theorem dX3_tellForm_120 : decode cX3_tellForm 120 = .ok (.iload_n 1, 1) := by decide +kernel
theorem dX3_tellForm_121 : decode cX3_tellForm 121 = .ok (.aload_n 0, 1) := by decide +kernel
theorem dX3_tellForm_122 : decode cX3_tellForm 122 = .ok (.invokevirtual 119, 3) := by decide +kernel
theorem dX3_tellForm_125 : decode cX3_tellForm 125 = .ok (.iastore, 1) := by decide +kernel
theorem dX3_tellForm_126 : decode cX3_tellForm 126 = .ok (.aload_n 0, 1) := by decide +kernel
theorem dX3_tellForm_127 : decode cX3_tellForm 127 = .ok (.iconst 2, 1) := by decide +kernel
theorem dX3_tellForm_128 : decode cX3_tellForm 128 = .ok (.invokevirtual 85, 3) := by decide +kernel
theorem dX3_tellForm_131 : decode cX3_tellForm 131 = .ok (.aload_n 0, 1) := by decide +kernel
theorem dX3_tellForm_132 : decode cX3_tellForm 132 = .ok (.iload_n 2, 1) := by decide +kernel
theorem dX3_tellForm_133 : decode cX3_tellForm 133 = .ok (.iconst 2, 1) := by decide +kernel
theorem dX3_tellForm_134 : decode cX3_tellForm 134 = .ok (.iadd, 1) := by decide +kernel
theorem dX3_tellForm_135 : decode cX3_tellForm 135 = .ok (.invokevirtual 109, 3) := by decide +kernel
theorem dX3_tellForm_138 : decode cX3_tellForm 138 = .ok (.aload_n 0, 1) := by decide +kernel
theorem dX3_tellForm_139 : decode cX3_tellForm 139 = .ok (.getfield 29, 3) := by decide +kernel
theorem dX3_tellForm_142 : decode cX3_tellForm 142 = .ok (.getfield 122, 3) := by decide +kernel
theorem dX3_tellForm_145 : decode cX3_tellForm 145 = .ok (.iload_n 1, 1) := by decide +kernel
theorem dX3_tellForm_146 : decode cX3_tellForm 146 = .ok (.iconst (-1), 1) := by decide +kernel
theorem dX3_tellForm_147 : decode cX3_tellForm 147 = .ok (.iastore, 1) := by decide +kernel
theorem dX3_tellForm_148 : decode cX3_tellForm 148 = .ok (.aload_n 0, 1) := by decide +kernel
theorem dX3_tellForm_149 : decode cX3_tellForm 149 = .ok (.getfield 12, 3) := by decide +kernel
theorem dX3_tellForm_152 : decode cX3_tellForm 152 = .ok (.invokevirtual 58, 3) := by decide +kernel
theorem dX3_tellForm_155 : decode cX3_tellForm 155 = .ok (.bipush 106, 2) := by decide +kernel
theorem dX3_tellForm_157 : decode cX3_tellForm 157 = .ok (.if_icmp .ne 34, 3) := by decide +kernel
theorem dX3_tellForm_160 : decode cX3_tellForm 160 = .ok (.aload_n 0, 1) := by decide +kernel
theorem dX3_tellForm_161 : decode cX3_tellForm 161 = .ok (.bipush 106, 2) := by decide +kernel
theorem dX3_tellForm_163 : decode cX3_tellForm 163 = .ok (.invokevirtual 85, 3) := by decide +kernel
theorem dX3_tellForm_166 : decode cX3_tellForm 166 = .ok (.aload_n 0, 1) := by decide +kernel
theorem dX3_tellForm_167 : decode cX3_tellForm 167 = .ok (.getfield 29, 3) := by decide +kernel
theorem dX3_tellForm_170 : decode cX3_tellForm 170 = .ok (.getfield 122, 3) := by decide +kernel
theorem dX3_tellForm_173 : decode cX3_tellForm 173 = .ok (.iload_n 1, 1) := by decide +kernel
theorem dX3_tellForm_174 : decode cX3_tellForm 174 = .ok (.aload_n 0, 1) := by decide +kernel
theorem dX3_tellForm_175 : decode cX3_tellForm 175 = .ok (.invokevirtual 119, 3) := by decide +kernel
theorem dX3_tellForm_178 : decode cX3_tellForm 178 = .ok (.iastore, 1) := by decide +kernel
theorem dX3_tellForm_179 : decode cX3_tellForm 179 = .ok (.aload_n 0, 1) := by decide +kernel
theorem dX3_tellForm_180 : decode cX3_tellForm 180 = .ok (.iconst 2, 1) := by decide +kernel
theorem dX3_tellForm_181 : decode cX3_tellForm 181 = .ok (.invokevirtual 85, 3) := by decide +kernel
theorem dX3_tellForm_184 : decode cX3_tellForm 184 = .ok (.aload_n 0, 1) := by decide +kernel
theorem dX3_tellForm_185 : decode cX3_tellForm 185 = .ok (.iload_n 2, 1) := by decide +kernel
theorem dX3_tellForm_186 : decode cX3_tellForm 186 = .ok (.iconst 3, 1) := by decide +kernel
theorem dX3_tellForm_187 : decode cX3_tellForm 187 = .ok (.iadd, 1) := by decide +kernel
theorem dX3_tellForm_188 : decode cX3_tellForm 188 = .ok (.invokevirtual 109, 3) := by decide +kernel
theorem dX3_tellForm_191 : decode cX3_tellForm 191 = .ok (.aload_n 0, 1) := by decide +kernel
theorem dX3_tellForm_192 : decode cX3_tellForm 192 = .ok (.bipush 59, 2) := by decide +kernel
theorem dX3_tellForm_194 : decode cX3_tellForm 194 = .ok (.invokevirtual 85, 3) := by decide +kernel
theorem dX3_tellForm_197 : decode cX3_tellForm 197 = .ok (.aload_n 0, 1) := by decide +kernel
theorem dX3_tellForm_198 : decode cX3_tellForm 198 = .ok (.getfield 29, 3) := by decide +kernel
theorem dX3_tellForm_201 : decode cX3_tellForm 201 = .ok (.dup, 1) := by decide +kernel
theorem dX3_tellForm_202 : decode cX3_tellForm 202 = .ok (.getfield 106, 3) := by decide +kernel
theorem dX3_tellForm_205 : decode cX3_tellForm 205 = .ok (.iconst 1, 1) := by decide +kernel
theorem dX3_tellForm_206 : decode cX3_tellForm 206 = .ok (.iadd, 1) := by decide +kernel
theorem dX3_tellForm_207 : decode cX3_tellForm 207 = .ok (.putfield 106, 3) := by decide +kernel
theorem dX3_tellForm_210 : decode cX3_tellForm 210 = .ok (.return_, 1) := by decide +kernel
theorem dX3_tellNumber_0 : decode cX3_tellNumber 0 = .ok (.iload_n 1, 1) := by decide +kernel
theorem dX3_tellNumber_1 : decode cX3_tellNumber 1 = .ok (.bipush 100, 2) := by decide +kernel
theorem dX3_tellNumber_3 : decode cX3_tellNumber 3 = .ok (.if_icmp .eq 21, 3) := by decide +kernel
theorem dX3_tellNumber_6 : decode cX3_tellNumber 6 = .ok (.iload_n 1, 1) := by decide +kernel
theorem dX3_tellNumber_7 : decode cX3_tellNumber 7 = .ok (.bipush 101, 2) := by decide +kernel
theorem dX3_tellNumber_9 : decode cX3_tellNumber 9 = .ok (.if_icmp .eq 15, 3) := by decide +kernel
theorem dX3_tellNumber_12 : decode cX3_tellNumber 12 = .ok (.iload_n 1, 1) := by decide +kernel
theorem dX3_tellNumber_13 : decode cX3_tellNumber 13 = .ok (.bipush 107, 2) := by decide +kernel
theorem dX3_tellNumber_15 : decode cX3_tellNumber 15 = .ok (.if_icmp .eq 9, 3) := by decide +kernel
theorem dX3_tellNumber_18 : decode cX3_tellNumber 18 = .ok (.aload_n 0, 1) := by decide +kernel
theorem dX3_tellNumber_19 : decode cX3_tellNumber 19 = .ok (.iconst 1, 1) := by decide +kernel
theorem dX3_tellNumber_20 : decode cX3_tellNumber 20 = .ok (.invokevirtual 82, 3) := by decide +kernel
theorem dX3_tellNumber_23 : decode cX3_tellNumber 23 = .ok (.return_, 1) := by decide +kernel
theorem dX3_tellNumber_24 : decode cX3_tellNumber 24 = .ok (.aload_n 0, 1) := by decide +kernel
theorem dX3_tellNumber_25 : decode cX3_tellNumber 25 = .ok (.iload_n 1, 1) := by decide +kernel
theorem dX3_tellNumber_26 : decode cX3_tellNumber 26 = .ok (.invokevirtual 85, 3) := by decide +kernel
theorem dX3_tellNumber_29 : decode cX3_tellNumber 29 = .ok (.aload_n 0, 1) := by decide +kernel
theorem dX3_tellNumber_30 : decode cX3_tellNumber 30 = .ok (.getfield 12, 3) := by decide +kernel
theorem dX3_tellNumber_33 : decode cX3_tellNumber 33 = .ok (.invokevirtual 88, 3) := by decide +kernel
theorem dX3_tellNumber_36 : decode cX3_tellNumber 36 = .ok (.istore_n 2, 1) := by decide +kernel
theorem dX3_tellNumber_37 : decode cX3_tellNumber 37 = .ok (.aload_n 0, 1) := by decide +kernel
theorem dX3_tellNumber_38 : decode cX3_tellNumber 38 = .ok (.getfield 12, 3) := by decide +kernel
theorem dX3_tellNumber_41 : decode cX3_tellNumber 41 = .ok (.invokevirtual 91, 3) := by decide +kernel
theorem dX3_tellNumber_44 : decode cX3_tellNumber 44 = .ok (.istore_n 3, 1) := by decide +kernel
theorem dX3_tellNumber_45 : decode cX3_tellNumber 45 = .ok (.aload_n 0, 1) := by decide +kernel
theorem dX3_tellNumber_46 : decode cX3_tellNumber 46 = .ok (.iconst 3, 1) := by decide +kernel
theorem dX3_tellNumber_47 : decode cX3_tellNumber 47 = .ok (.invokevirtual 85, 3) := by decide +kernel
theorem dX3_tellNumber_50 : decode cX3_tellNumber 50 = .ok (.aload_n 0, 1) := by decide +kernel
theorem dX3_tellNumber_51 : decode cX3_tellNumber 51 = .ok (.bipush 59, 2) := by decide +kernel
theorem dX3_tellNumber_53 : decode cX3_tellNumber 53 = .ok (.invokevirtual 85, 3) := by decide +kernel
theorem dX3_tellNumber_56 : decode cX3_tellNumber 56 = .ok (.iload_n 1, 1) := by decide +kernel
theorem dX3_tellNumber_57 : decode cX3_tellNumber 57 = .ok (.bipush 100, 2) := by decide +kernel
theorem dX3_tellNumber_59 : decode cX3_tellNumber 59 = .ok (.if_icmp .ne 30, 3) := by decide +kernel
theorem dX3_tellNumber_62 : decode cX3_tellNumber 62 = .ok (.aload_n 0, 1) := by decide +kernel
theorem dX3_tellNumber_63 : decode cX3_tellNumber 63 = .ok (.getfield 29, 3) := by decide +kernel
theorem dX3_tellNumber_66 : decode cX3_tellNumber 66 = .ok (.iload_n 3, 1) := by decide +kernel
theorem dX3_tellNumber_67 : decode cX3_tellNumber 67 = .ok (.putfield 75, 3) := by decide +kernel
theorem dX3_tellNumber_70 : decode cX3_tellNumber 70 = .ok (.iload_n 3, 1) := by decide +kernel
theorem dX3_tellNumber_71 : decode cX3_tellNumber 71 = .ok (.iconst 1, 1) := by decide +kernel
theorem dX3_tellNumber_72 : decode cX3_tellNumber 72 = .ok (.if_icmp .lt 8, 3) := by decide +kernel
theorem dX3_tellNumber_75 : decode cX3_tellNumber 75 = .ok (.iload_n 3, 1) := by decide +kernel
theorem dX3_tellNumber_76 : decode cX3_tellNumber 76 = .ok (.iconst 5, 1) := by decide +kernel
theorem dX3_tellNumber_77 : decode cX3_tellNumber 77 = .ok (.if_icmp .le 48, 3) := by decide +kernel
theorem dX3_tellNumber_80 : decode cX3_tellNumber 80 = .ok (.aload_n 0, 1) := by decide +kernel
theorem dX3_tellNumber_81 : decode cX3_tellNumber 81 = .ok (.iconst 5, 1) := by decide +kernel
theorem dX3_tellNumber_82 : decode cX3_tellNumber 82 = .ok (.iload_n 2, 1) := by decide +kernel
theorem dX3_tellNumber_83 : decode cX3_tellNumber 83 = .ok (.invokevirtual 78, 3) := by decide +kernel
theorem dX3_tellNumber_86 : decode cX3_tellNumber 86 = .ok (.goto 39, 3) := by decide +kernel
theorem dX3_tellNumber_89 : decode cX3_tellNumber 89 = .ok (.iload_n 1, 1) := by decide +kernel
theorem dX3_tellNumber_90 : decode cX3_tellNumber 90 = .ok (.bipush 101, 2) := by decide +kernel
theorem dX3_tellNumber_92 : decode cX3_tellNumber 92 = .ok (.if_icmp .ne 25, 3) := by decide +kernel
theorem dX3_tellNumber_95 : decode cX3_tellNumber 95 = .ok (.aload_n 0, 1) := by decide +kernel
theorem dX3_tellNumber_96 : decode cX3_tellNumber 96 = .ok (.getfield 29, 3) := by decide +kernel
theorem dX3_tellNumber_99 : decode cX3_tellNumber 99 = .ok (.iload_n 3, 1) := by decide +kernel
theorem dX3_tellNumber_100 : decode cX3_tellNumber 100 = .ok (.putfield 72, 3) := by decide +kernel
theorem dX3_tellNumber_103 : decode cX3_tellNumber 103 = .ok (.iload_n 3, 1) := by decide +kernel
theorem dX3_tellNumber_104 : decode cX3_tellNumber 104 = .ok (.iconst 5, 1) := by decide +kernel
theorem dX3_tellNumber_105 : decode cX3_tellNumber 105 = .ok (.if_icmp .lt 20, 3) := by decide +kernel
theorem dX3_tellNumber_108 : decode cX3_tellNumber 108 = .ok (.aload_n 0, 1) := by decide +kernel
theorem dX3_tellNumber_109 : decode cX3_tellNumber 109 = .ok (.iconst 5, 1) := by decide +kernel
theorem dX3_tellNumber_110 : decode cX3_tellNumber 110 = .ok (.iload_n 2, 1) := by decide +kernel
theorem dX3_tellNumber_111 : decode cX3_tellNumber 111 = .ok (.invokevirtual 78, 3) := by decide +kernel
theorem dX3_tellNumber_114 : decode cX3_tellNumber 114 = .ok (.goto 11, 3) := by decide +kernel
theorem dX3_tellNumber_117 : decode cX3_tellNumber 117 = .ok (.aload_n 0, 1) := by decide +kernel
theorem dX3_tellNumber_118 : decode cX3_tellNumber 118 = .ok (.getfield 29, 3) := by decide +kernel
theorem dX3_tellNumber_121 : decode cX3_tellNumber 121 = .ok (.iload_n 3, 1) := by decide +kernel
theorem dX3_tellNumber_122 : decode cX3_tellNumber 122 = .ok (.putfield 94, 3) := by decide +kernel
theorem dX3_tellNumber_125 : decode cX3_tellNumber 125 = .ok (.return_, 1) := by decide +kernel
theorem dX3_readInto_0 : decode cX3_readInto 0 = .ok (.aload_n 0, 1) := by decide +kernel
theorem dX3_readInto_1 : decode cX3_readInto 1 = .ok (.aload_n 3, 1) := by decide +kernel
theorem dX3_readInto_2 : decode cX3_readInto 2 = .ok (.putfield 29, 3) := by decide +kernel
theorem dX3_readInto_5 : decode cX3_readInto 5 = .ok (.aload_n 0, 1) := by decide +kernel
theorem dX3_readInto_6 : decode cX3_readInto 6 = .ok (.getfield 29, 3) := by decide +kernel
theorem dX3_readInto_9 : decode cX3_readInto 9 = .ok (.invokevirtual 37, 3) := by decide +kernel
theorem dX3_readInto_12 : decode cX3_readInto 12 = .ok (.aload_n 0, 1) := by decide +kernel
theorem dX3_readInto_13 : decode cX3_readInto 13 = .ok (.iconst 0, 1) := by decide +kernel
theorem dX3_readInto_14 : decode cX3_readInto 14 = .ok (.putfield 42, 3) := by decide +kernel
theorem dX3_readInto_17 : decode cX3_readInto 17 = .ok (.aload_n 0, 1) := by decide +kernel
theorem dX3_readInto_18 : decode cX3_readInto 18 = .ok (.iconst 0, 1) := by decide +kernel
theorem dX3_readInto_19 : decode cX3_readInto 19 = .ok (.putfield 45, 3) := by decide +kernel
theorem dX3_readInto_22 : decode cX3_readInto 22 = .ok (.aload_n 0, 1) := by decide +kernel
theorem dX3_readInto_23 : decode cX3_readInto 23 = .ok (.iconst (-1), 1) := by decide +kernel
theorem dX3_readInto_24 : decode cX3_readInto 24 = .ok (.putfield 33, 3) := by decide +kernel
theorem dX3_readInto_27 : decode cX3_readInto 27 = .ok (.aload_n 0, 1) := by decide +kernel
theorem dX3_readInto_28 : decode cX3_readInto 28 = .ok (.iconst 0, 1) := by decide +kernel
theorem dX3_readInto_29 : decode cX3_readInto 29 = .ok (.putfield 48, 3) := by decide +kernel
theorem dX3_readInto_32 : decode cX3_readInto 32 = .ok (.aload_n 0, 1) := by decide +kernel
theorem dX3_readInto_33 : decode cX3_readInto 33 = .ok (.iconst (-1), 1) := by decide +kernel
theorem dX3_readInto_34 : decode cX3_readInto 34 = .ok (.putfield 51, 3) := by decide +kernel
theorem dX3_readInto_37 : decode cX3_readInto 37 = .ok (.aload_n 0, 1) := by decide +kernel
theorem dX3_readInto_38 : decode cX3_readInto 38 = .ok (.getfield 12, 3) := by decide +kernel
theorem dX3_readInto_41 : decode cX3_readInto 41 = .ok (.aload_n 1, 1) := by decide +kernel
theorem dX3_readInto_42 : decode cX3_readInto 42 = .ok (.iload_n 2, 1) := by decide +kernel
theorem dX3_readInto_43 : decode cX3_readInto 43 = .ok (.invokevirtual 54, 3) := by decide +kernel
theorem dX3_readInto_46 : decode cX3_readInto 46 = .ok (.iconst 0, 1) := by decide +kernel
theorem dX3_readInto_47 : decode cX3_readInto 47 = .ok (.istore 4, 2) := by decide +kernel
theorem dX3_readInto_49 : decode cX3_readInto 49 = .ok (.iload 4, 2) := by decide +kernel
theorem dX3_readInto_51 : decode cX3_readInto 51 = .ok (.sipush 400, 3) := by decide +kernel
theorem dX3_readInto_54 : decode cX3_readInto 54 = .ok (.if_icmp .gt 69, 3) := by decide +kernel
theorem dX3_readInto_57 : decode cX3_readInto 57 = .ok (.aload_n 0, 1) := by decide +kernel
theorem dX3_readInto_58 : decode cX3_readInto 58 = .ok (.getfield 45, 3) := by decide +kernel
theorem dX3_readInto_61 : decode cX3_readInto 61 = .ok (.ifCond .ne 62, 3) := by decide +kernel
theorem dX3_readInto_64 : decode cX3_readInto 64 = .ok (.aload_n 0, 1) := by decide +kernel
theorem dX3_readInto_65 : decode cX3_readInto 65 = .ok (.getfield 12, 3) := by decide +kernel
theorem dX3_readInto_68 : decode cX3_readInto 68 = .ok (.invokevirtual 58, 3) := by decide +kernel
theorem dX3_readInto_71 : decode cX3_readInto 71 = .ok (.ifCond .eq 52, 3) := by decide +kernel
theorem dX3_readInto_74 : decode cX3_readInto 74 = .ok (.aload_n 0, 1) := by decide +kernel
theorem dX3_readInto_75 : decode cX3_readInto 75 = .ok (.getfield 12, 3) := by decide +kernel
theorem dX3_readInto_78 : decode cX3_readInto 78 = .ok (.invokevirtual 58, 3) := by decide +kernel
theorem dX3_readInto_81 : decode cX3_readInto 81 = .ok (.istore 5, 2) := by decide +kernel
theorem dX3_readInto_83 : decode cX3_readInto 83 = .ok (.iload 5, 2) := by decide +kernel
theorem dX3_readInto_85 : decode cX3_readInto 85 = .ok (.bipush 102, 2) := by decide +kernel
theorem dX3_readInto_87 : decode cX3_readInto 87 = .ok (.if_icmp .ne 10, 3) := by decide +kernel
theorem dX3_readInto_90 : decode cX3_readInto 90 = .ok (.aload_n 0, 1) := by decide +kernel
theorem dX3_readInto_91 : decode cX3_readInto 91 = .ok (.invokevirtual 62, 3) := by decide +kernel
theorem dX3_readInto_94 : decode cX3_readInto 94 = .ok (.goto 23, 3) := by decide +kernel
theorem dX3_readInto_97 : decode cX3_readInto 97 = .ok (.iload 5, 2) := by decide +kernel
theorem dX3_readInto_99 : decode cX3_readInto 99 = .ok (.bipush 103, 2) := by decide +kernel
theorem dX3_readInto_101 : decode cX3_readInto 101 = .ok (.if_icmp .ne 10, 3) := by decide +kernel
theorem dX3_readInto_104 : decode cX3_readInto 104 = .ok (.aload_n 0, 1) := by decide +kernel
theorem dX3_readInto_105 : decode cX3_readInto 105 = .ok (.invokevirtual 65, 3) := by decide +kernel
theorem dX3_readInto_108 : decode cX3_readInto 108 = .ok (.goto 9, 3) := by decide +kernel
theorem dX3_readInto_111 : decode cX3_readInto 111 = .ok (.aload_n 0, 1) := by decide +kernel
theorem dX3_readInto_112 : decode cX3_readInto 112 = .ok (.iload 5, 2) := by decide +kernel
theorem dX3_readInto_114 : decode cX3_readInto 114 = .ok (.invokevirtual 68, 3) := by decide +kernel
theorem dX3_readInto_117 : decode cX3_readInto 117 = .ok (.iinc 4 1, 3) := by decide +kernel
theorem dX3_readInto_120 : decode cX3_readInto 120 = .ok (.goto (-71), 3) := by decide +kernel
theorem dX3_readInto_123 : decode cX3_readInto 123 = .ok (.aload_n 0, 1) := by decide +kernel
theorem dX3_readInto_124 : decode cX3_readInto 124 = .ok (.getfield 29, 3) := by decide +kernel
theorem dX3_readInto_127 : decode cX3_readInto 127 = .ok (.getfield 72, 3) := by decide +kernel
theorem dX3_readInto_130 : decode cX3_readInto 130 = .ok (.aload_n 0, 1) := by decide +kernel
theorem dX3_readInto_131 : decode cX3_readInto 131 = .ok (.getfield 29, 3) := by decide +kernel
theorem dX3_readInto_134 : decode cX3_readInto 134 = .ok (.getfield 75, 3) := by decide +kernel
theorem dX3_readInto_137 : decode cX3_readInto 137 = .ok (.if_icmp .lt 10, 3) := by decide +kernel
theorem dX3_readInto_140 : decode cX3_readInto 140 = .ok (.aload_n 0, 1) := by decide +kernel
theorem dX3_readInto_141 : decode cX3_readInto 141 = .ok (.bipush 6, 2) := by decide +kernel
theorem dX3_readInto_143 : decode cX3_readInto 143 = .ok (.iload_n 2, 1) := by decide +kernel
theorem dX3_readInto_144 : decode cX3_readInto 144 = .ok (.invokevirtual 78, 3) := by decide +kernel
theorem dX3_readInto_147 : decode cX3_readInto 147 = .ok (.aload_n 0, 1) := by decide +kernel
theorem dX3_readInto_148 : decode cX3_readInto 148 = .ok (.getfield 45, 3) := by decide +kernel
theorem dX3_readInto_151 : decode cX3_readInto 151 = .ok (.ifCond .ne 19, 3) := by decide +kernel
theorem dX3_readInto_154 : decode cX3_readInto 154 = .ok (.aload_n 0, 1) := by decide +kernel
theorem dX3_readInto_155 : decode cX3_readInto 155 = .ok (.aload_n 0, 1) := by decide +kernel
theorem dX3_readInto_156 : decode cX3_readInto 156 = .ok (.getfield 48, 3) := by decide +kernel
theorem dX3_readInto_159 : decode cX3_readInto 159 = .ok (.putfield 45, 3) := by decide +kernel
theorem dX3_readInto_162 : decode cX3_readInto 162 = .ok (.aload_n 0, 1) := by decide +kernel
theorem dX3_readInto_163 : decode cX3_readInto 163 = .ok (.aload_n 0, 1) := by decide +kernel
theorem dX3_readInto_164 : decode cX3_readInto 164 = .ok (.getfield 51, 3) := by decide +kernel
theorem dX3_readInto_167 : decode cX3_readInto 167 = .ok (.putfield 33, 3) := by decide +kernel
theorem dX3_readInto_170 : decode cX3_readInto 170 = .ok (.aload_n 0, 1) := by decide +kernel
theorem dX3_readInto_171 : decode cX3_readInto 171 = .ok (.getfield 45, 3) := by decide +kernel
theorem dX3_readInto_174 : decode cX3_readInto 174 = .ok (.ireturn, 1) := by decide +kernel
theorem dX3_placeOfFault_0 : decode cX3_placeOfFault 0 = .ok (.aload_n 0, 1) := by decide +kernel
theorem dX3_placeOfFault_1 : decode cX3_placeOfFault 1 = .ok (.getfield 33, 3) := by decide +kernel
theorem dX3_placeOfFault_4 : decode cX3_placeOfFault 4 = .ok (.ireturn, 1) := by decide +kernel
theorem dX4_line_0 : decode cX4_line 0 = .ok (.aload_n 0, 1) := by decide +kernel
theorem dX4_line_1 : decode cX4_line 1 = .ok (.aload_n 1, 1) := by decide +kernel
theorem dX4_line_2 : decode cX4_line 2 = .ok (.aload_n 1, 1) := by decide +kernel
theorem dX4_line_3 : decode cX4_line 3 = .ok (.iload_n 2, 1) := by decide +kernel
theorem dX4_line_4 : decode cX4_line 4 = .ok (.invokevirtual 34, 3) := by decide +kernel
theorem dX4_line_7 : decode cX4_line 7 = .ok (.aload_n 1, 1) := by decide +kernel
theorem dX4_line_8 : decode cX4_line 8 = .ok (.iload_n 2, 1) := by decide +kernel
theorem dX4_line_9 : decode cX4_line 9 = .ok (.invokevirtual 40, 3) := by decide +kernel
theorem dX4_line_12 : decode cX4_line 12 = .ok (.aload_n 0, 1) := by decide +kernel
theorem dX4_line_13 : decode cX4_line 13 = .ok (.getfield 18, 3) := by decide +kernel
theorem dX4_line_16 : decode cX4_line 16 = .ok (.invokevirtual 44, 3) := by decide +kernel
theorem dX4_line_19 : decode cX4_line 19 = .ok (.putfield 48, 3) := by decide +kernel
theorem dX4_line_22 : decode cX4_line 22 = .ok (.return_, 1) := by decide +kernel
theorem dX4_play_0 : decode cX4_play 0 = .ok (.aload_n 0, 1) := by decide +kernel
theorem dX4_play_1 : decode cX4_play 1 = .ok (.aload_n 2, 1) := by decide +kernel
theorem dX4_play_2 : decode cX4_play 2 = .ok (.iload_n 3, 1) := by decide +kernel
theorem dX4_play_3 : decode cX4_play 3 = .ok (.invokevirtual 52, 3) := by decide +kernel
theorem dX4_play_6 : decode cX4_play 6 = .ok (.aload_n 1, 1) := by decide +kernel
theorem dX4_play_7 : decode cX4_play 7 = .ok (.getfield 56, 3) := by decide +kernel
theorem dX4_play_10 : decode cX4_play 10 = .ok (.iconst 0, 1) := by decide +kernel
theorem dX4_play_11 : decode cX4_play 11 = .ok (.aload_n 0, 1) := by decide +kernel
theorem dX4_play_12 : decode cX4_play 12 = .ok (.getfield 28, 3) := by decide +kernel
theorem dX4_play_15 : decode cX4_play 15 = .ok (.iconst 0, 1) := by decide +kernel
theorem dX4_play_16 : decode cX4_play 16 = .ok (.bipush 6, 2) := by decide +kernel
theorem dX4_play_18 : decode cX4_play 18 = .ok (.invokestatic 61, 3) := by decide +kernel
theorem dX4_play_21 : decode cX4_play 21 = .ok (.iconst 0, 1) := by decide +kernel
theorem dX4_play_22 : decode cX4_play 22 = .ok (.istore 4, 2) := by decide +kernel
theorem dX4_play_24 : decode cX4_play 24 = .ok (.iload 4, 2) := by decide +kernel
theorem dX4_play_26 : decode cX4_play 26 = .ok (.aload_n 0, 1) := by decide +kernel
theorem dX4_play_27 : decode cX4_play 27 = .ok (.getfield 48, 3) := by decide +kernel
theorem dX4_play_30 : decode cX4_play 30 = .ok (.if_icmp .ge 81, 3) := by decide +kernel
theorem dX4_play_33 : decode cX4_play 33 = .ok (.iload 4, 2) := by decide +kernel
theorem dX4_play_35 : decode cX4_play 35 = .ok (.iconst 1, 1) := by decide +kernel
theorem dX4_play_36 : decode cX4_play 36 = .ok (.iadd, 1) := by decide +kernel
theorem dX4_play_37 : decode cX4_play 37 = .ok (.bipush 6, 2) := by decide +kernel
theorem dX4_play_39 : decode cX4_play 39 = .ok (.imul, 1) := by decide +kernel
theorem dX4_play_40 : decode cX4_play 40 = .ok (.istore 5, 2) := by decide +kernel
theorem dX4_play_42 : decode cX4_play 42 = .ok (.aload_n 0, 1) := by decide +kernel
theorem dX4_play_43 : decode cX4_play 43 = .ok (.getfield 28, 3) := by decide +kernel
theorem dX4_play_46 : decode cX4_play 46 = .ok (.iload 5, 2) := by decide +kernel
theorem dX4_play_48 : decode cX4_play 48 = .ok (.bipush 6, 2) := by decide +kernel
theorem dX4_play_50 : decode cX4_play 50 = .ok (.isub, 1) := by decide +kernel
theorem dX4_play_51 : decode cX4_play 51 = .ok (.aload_n 0, 1) := by decide +kernel
theorem dX4_play_52 : decode cX4_play 52 = .ok (.getfield 28, 3) := by decide +kernel
theorem dX4_play_55 : decode cX4_play 55 = .ok (.iload 5, 2) := by decide +kernel
theorem dX4_play_57 : decode cX4_play 57 = .ok (.bipush 6, 2) := by decide +kernel
theorem dX4_play_59 : decode cX4_play 59 = .ok (.invokestatic 61, 3) := by decide +kernel
theorem dX4_play_62 : decode cX4_play 62 = .ok (.aload_n 0, 1) := by decide +kernel
theorem dX4_play_63 : decode cX4_play 63 = .ok (.getfield 22, 3) := by decide +kernel
theorem dX4_play_66 : decode cX4_play 66 = .ok (.iload 4, 2) := by decide +kernel
theorem dX4_play_68 : decode cX4_play 68 = .ok (.aload_n 0, 1) := by decide +kernel
theorem dX4_play_69 : decode cX4_play 69 = .ok (.getfield 12, 3) := by decide +kernel
theorem dX4_play_72 : decode cX4_play 72 = .ok (.aload_n 1, 1) := by decide +kernel
theorem dX4_play_73 : decode cX4_play 73 = .ok (.aload_n 2, 1) := by decide +kernel
theorem dX4_play_74 : decode cX4_play 74 = .ok (.aload_n 0, 1) := by decide +kernel
theorem dX4_play_75 : decode cX4_play 75 = .ok (.getfield 18, 3) := by decide +kernel
theorem dX4_play_78 : decode cX4_play 78 = .ok (.iload 4, 2) := by decide +kernel
theorem dX4_play_80 : decode cX4_play 80 = .ok (.iaload, 1) := by decide +kernel
theorem dX4_play_81 : decode cX4_play 81 = .ok (.aload_n 0, 1) := by decide +kernel
theorem dX4_play_82 : decode cX4_play 82 = .ok (.getfield 28, 3) := by decide +kernel
theorem dX4_play_85 : decode cX4_play 85 = .ok (.iload 5, 2) := by decide +kernel
theorem dX4_play_87 : decode cX4_play 87 = .ok (.invokevirtual 67, 3) := by decide +kernel
theorem dX4_play_90 : decode cX4_play 90 = .ok (.iastore, 1) := by decide +kernel
theorem dX4_play_91 : decode cX4_play 91 = .ok (.aload_n 0, 1) := by decide +kernel
theorem dX4_play_92 : decode cX4_play 92 = .ok (.getfield 25, 3) := by decide +kernel
theorem dX4_play_95 : decode cX4_play 95 = .ok (.iload 4, 2) := by decide +kernel
theorem dX4_play_97 : decode cX4_play 97 = .ok (.aload_n 0, 1) := by decide +kernel
theorem dX4_play_98 : decode cX4_play 98 = .ok (.getfield 12, 3) := by decide +kernel
theorem dX4_play_101 : decode cX4_play 101 = .ok (.getfield 71, 3) := by decide +kernel
theorem dX4_play_104 : decode cX4_play 104 = .ok (.iastore, 1) := by decide +kernel
theorem dX4_play_105 : decode cX4_play 105 = .ok (.iinc 4 1, 3) := by decide +kernel
theorem dX4_play_108 : decode cX4_play 108 = .ok (.goto (-84), 3) := by decide +kernel
theorem dX4_play_111 : decode cX4_play 111 = .ok (.return_, 1) := by decide +kernel
theorem dX4_outcomeAt_0 : decode cX4_outcomeAt 0 = .ok (.iload_n 1, 1) := by decide +kernel
theorem dX4_outcomeAt_1 : decode cX4_outcomeAt 1 = .ok (.ifCond .lt 20, 3) := by decide +kernel
theorem dX4_outcomeAt_4 : decode cX4_outcomeAt 4 = .ok (.iload_n 1, 1) := by decide +kernel
theorem dX4_outcomeAt_5 : decode cX4_outcomeAt 5 = .ok (.aload_n 0, 1) := by decide +kernel
theorem dX4_outcomeAt_6 : decode cX4_outcomeAt 6 = .ok (.getfield 48, 3) := by decide +kernel
theorem dX4_outcomeAt_9 : decode cX4_outcomeAt 9 = .ok (.if_icmp .ge 12, 3) := by decide +kernel
theorem dX4_outcomeAt_12 : decode cX4_outcomeAt 12 = .ok (.aload_n 0, 1) := by decide +kernel
theorem dX4_outcomeAt_13 : decode cX4_outcomeAt 13 = .ok (.getfield 22, 3) := by decide +kernel
theorem dX4_outcomeAt_16 : decode cX4_outcomeAt 16 = .ok (.iload_n 1, 1) := by decide +kernel
theorem dX4_outcomeAt_17 : decode cX4_outcomeAt 17 = .ok (.iaload, 1) := by decide +kernel
theorem dX4_outcomeAt_18 : decode cX4_outcomeAt 18 = .ok (.goto 5, 3) := by decide +kernel
theorem dX4_outcomeAt_21 : decode cX4_outcomeAt 21 = .ok (.bipush (-2), 2) := by decide +kernel
theorem dX4_outcomeAt_23 : decode cX4_outcomeAt 23 = .ok (.ireturn, 1) := by decide +kernel
theorem dX4_placeOf_0 : decode cX4_placeOf 0 = .ok (.iconst 0, 1) := by decide +kernel
theorem dX4_placeOf_1 : decode cX4_placeOf 1 = .ok (.istore_n 2, 1) := by decide +kernel
theorem dX4_placeOf_2 : decode cX4_placeOf 2 = .ok (.iload_n 2, 1) := by decide +kernel
theorem dX4_placeOf_3 : decode cX4_placeOf 3 = .ok (.aload_n 0, 1) := by decide +kernel
theorem dX4_placeOf_4 : decode cX4_placeOf 4 = .ok (.getfield 48, 3) := by decide +kernel
theorem dX4_placeOf_7 : decode cX4_placeOf 7 = .ok (.if_icmp .ge 21, 3) := by decide +kernel
theorem dX4_placeOf_10 : decode cX4_placeOf 10 = .ok (.aload_n 0, 1) := by decide +kernel
theorem dX4_placeOf_11 : decode cX4_placeOf 11 = .ok (.getfield 18, 3) := by decide +kernel
theorem dX4_placeOf_14 : decode cX4_placeOf 14 = .ok (.iload_n 2, 1) := by decide +kernel
theorem dX4_placeOf_15 : decode cX4_placeOf 15 = .ok (.iaload, 1) := by decide +kernel
theorem dX4_placeOf_16 : decode cX4_placeOf 16 = .ok (.iload_n 1, 1) := by decide +kernel
theorem dX4_placeOf_17 : decode cX4_placeOf 17 = .ok (.if_icmp .ne 5, 3) := by decide +kernel
theorem dX4_placeOf_20 : decode cX4_placeOf 20 = .ok (.iload_n 2, 1) := by decide +kernel
theorem dX4_placeOf_21 : decode cX4_placeOf 21 = .ok (.ireturn, 1) := by decide +kernel
theorem dX4_placeOf_22 : decode cX4_placeOf 22 = .ok (.iinc 2 1, 3) := by decide +kernel
theorem dX4_placeOf_25 : decode cX4_placeOf 25 = .ok (.goto (-23), 3) := by decide +kernel
theorem dX4_placeOf_28 : decode cX4_placeOf 28 = .ok (.iconst (-1), 1) := by decide +kernel
theorem dX4_placeOf_29 : decode cX4_placeOf 29 = .ok (.ireturn, 1) := by decide +kernel
theorem dX4_cellBehind_0 : decode cX4_cellBehind 0 = .ok (.aload_n 0, 1) := by decide +kernel
theorem dX4_cellBehind_1 : decode cX4_cellBehind 1 = .ok (.getfield 28, 3) := by decide +kernel
theorem dX4_cellBehind_4 : decode cX4_cellBehind 4 = .ok (.iload_n 2, 1) := by decide +kernel
theorem dX4_cellBehind_5 : decode cX4_cellBehind 5 = .ok (.aload_n 0, 1) := by decide +kernel
theorem dX4_cellBehind_6 : decode cX4_cellBehind 6 = .ok (.getfield 48, 3) := by decide +kernel
theorem dX4_cellBehind_9 : decode cX4_cellBehind 9 = .ok (.invokestatic 74, 3) := by decide +kernel
theorem dX4_cellBehind_12 : decode cX4_cellBehind 12 = .ok (.bipush 6, 2) := by decide +kernel
theorem dX4_cellBehind_14 : decode cX4_cellBehind 14 = .ok (.imul, 1) := by decide +kernel
theorem dX4_cellBehind_15 : decode cX4_cellBehind 15 = .ok (.iload_n 1, 1) := by decide +kernel
theorem dX4_cellBehind_16 : decode cX4_cellBehind 16 = .ok (.iadd, 1) := by decide +kernel
theorem dX4_cellBehind_17 : decode cX4_cellBehind 17 = .ok (.iaload, 1) := by decide +kernel
theorem dX4_cellBehind_18 : decode cX4_cellBehind 18 = .ok (.ireturn, 1) := by decide +kernel
theorem dX4_lastOf_0 : decode cX4_lastOf 0 = .ok (.aload_n 0, 1) := by decide +kernel
theorem dX4_lastOf_1 : decode cX4_lastOf 1 = .ok (.iload_n 1, 1) := by decide +kernel
theorem dX4_lastOf_2 : decode cX4_lastOf 2 = .ok (.aload_n 0, 1) := by decide +kernel
theorem dX4_lastOf_3 : decode cX4_lastOf 3 = .ok (.getfield 48, 3) := by decide +kernel
theorem dX4_lastOf_6 : decode cX4_lastOf 6 = .ok (.invokevirtual 80, 3) := by decide +kernel
theorem dX4_lastOf_9 : decode cX4_lastOf 9 = .ok (.ireturn, 1) := by decide +kernel
theorem dX4_setterOf_0 : decode cX4_setterOf 0 = .ok (.aload_n 0, 1) := by decide +kernel
theorem dX4_setterOf_1 : decode cX4_setterOf 1 = .ok (.getfield 48, 3) := by decide +kernel
theorem dX4_setterOf_4 : decode cX4_setterOf 4 = .ok (.iconst 1, 1) := by decide +kernel
theorem dX4_setterOf_5 : decode cX4_setterOf 5 = .ok (.isub, 1) := by decide +kernel
theorem dX4_setterOf_6 : decode cX4_setterOf 6 = .ok (.istore_n 2, 1) := by decide +kernel
theorem dX4_setterOf_7 : decode cX4_setterOf 7 = .ok (.iload_n 2, 1) := by decide +kernel
theorem dX4_setterOf_8 : decode cX4_setterOf 8 = .ok (.ifCond .lt 26, 3) := by decide +kernel
theorem dX4_setterOf_11 : decode cX4_setterOf 11 = .ok (.aload_n 0, 1) := by decide +kernel
theorem dX4_setterOf_12 : decode cX4_setterOf 12 = .ok (.getfield 25, 3) := by decide +kernel
theorem dX4_setterOf_15 : decode cX4_setterOf 15 = .ok (.iload_n 2, 1) := by decide +kernel
theorem dX4_setterOf_16 : decode cX4_setterOf 16 = .ok (.iaload, 1) := by decide +kernel
theorem dX4_setterOf_17 : decode cX4_setterOf 17 = .ok (.iload_n 1, 1) := by decide +kernel
theorem dX4_setterOf_18 : decode cX4_setterOf 18 = .ok (.if_icmp .ne 10, 3) := by decide +kernel
theorem dX4_setterOf_21 : decode cX4_setterOf 21 = .ok (.aload_n 0, 1) := by decide +kernel
theorem dX4_setterOf_22 : decode cX4_setterOf 22 = .ok (.getfield 18, 3) := by decide +kernel
theorem dX4_setterOf_25 : decode cX4_setterOf 25 = .ok (.iload_n 2, 1) := by decide +kernel
theorem dX4_setterOf_26 : decode cX4_setterOf 26 = .ok (.iaload, 1) := by decide +kernel
theorem dX4_setterOf_27 : decode cX4_setterOf 27 = .ok (.ireturn, 1) := by decide +kernel
theorem dX4_setterOf_28 : decode cX4_setterOf 28 = .ok (.iinc 2 (-1), 3) := by decide +kernel
theorem dX4_setterOf_31 : decode cX4_setterOf 31 = .ok (.goto (-24), 3) := by decide +kernel
theorem dX4_setterOf_34 : decode cX4_setterOf 34 = .ok (.bipush (-2), 2) := by decide +kernel
theorem dX4_setterOf_36 : decode cX4_setterOf 36 = .ok (.ireturn, 1) := by decide +kernel
theorem dX4_manyOf_0 : decode cX4_manyOf 0 = .ok (.iconst 0, 1) := by decide +kernel
theorem dX4_manyOf_1 : decode cX4_manyOf 1 = .ok (.istore_n 2, 1) := by decide +kernel
theorem dX4_manyOf_2 : decode cX4_manyOf 2 = .ok (.iconst 0, 1) := by decide +kernel
theorem dX4_manyOf_3 : decode cX4_manyOf 3 = .ok (.istore_n 3, 1) := by decide +kernel
theorem dX4_manyOf_4 : decode cX4_manyOf 4 = .ok (.iload_n 3, 1) := by decide +kernel
theorem dX4_manyOf_5 : decode cX4_manyOf 5 = .ok (.aload_n 0, 1) := by decide +kernel
theorem dX4_manyOf_6 : decode cX4_manyOf 6 = .ok (.getfield 48, 3) := by decide +kernel
theorem dX4_manyOf_9 : decode cX4_manyOf 9 = .ok (.if_icmp .ge 22, 3) := by decide +kernel
theorem dX4_manyOf_12 : decode cX4_manyOf 12 = .ok (.aload_n 0, 1) := by decide +kernel
theorem dX4_manyOf_13 : decode cX4_manyOf 13 = .ok (.getfield 22, 3) := by decide +kernel
theorem dX4_manyOf_16 : decode cX4_manyOf 16 = .ok (.iload_n 3, 1) := by decide +kernel
theorem dX4_manyOf_17 : decode cX4_manyOf 17 = .ok (.iaload, 1) := by decide +kernel
theorem dX4_manyOf_18 : decode cX4_manyOf 18 = .ok (.iload_n 1, 1) := by decide +kernel
theorem dX4_manyOf_19 : decode cX4_manyOf 19 = .ok (.if_icmp .ne 6, 3) := by decide +kernel
theorem dX4_manyOf_22 : decode cX4_manyOf 22 = .ok (.iinc 2 1, 3) := by decide +kernel
theorem dX4_manyOf_25 : decode cX4_manyOf 25 = .ok (.iinc 3 1, 3) := by decide +kernel
theorem dX4_manyOf_28 : decode cX4_manyOf 28 = .ok (.goto (-24), 3) := by decide +kernel
theorem dX4_manyOf_31 : decode cX4_manyOf 31 = .ok (.iload_n 2, 1) := by decide +kernel
theorem dX4_manyOf_32 : decode cX4_manyOf 32 = .ok (.ireturn, 1) := by decide +kernel
theorem dX4_isAsAheadOf_0 : decode cX4_isAsAheadOf 0 = .ok (.iconst 0, 1) := by decide +kernel
theorem dX4_isAsAheadOf_1 : decode cX4_isAsAheadOf 1 = .ok (.istore_n 3, 1) := by decide +kernel
theorem dX4_isAsAheadOf_2 : decode cX4_isAsAheadOf 2 = .ok (.iload_n 3, 1) := by decide +kernel
theorem dX4_isAsAheadOf_3 : decode cX4_isAsAheadOf 3 = .ok (.iload_n 2, 1) := by decide +kernel
theorem dX4_isAsAheadOf_4 : decode cX4_isAsAheadOf 4 = .ok (.if_icmp .ge 31, 3) := by decide +kernel
theorem dX4_isAsAheadOf_7 : decode cX4_isAsAheadOf 7 = .ok (.aload_n 0, 1) := by decide +kernel
theorem dX4_isAsAheadOf_8 : decode cX4_isAsAheadOf 8 = .ok (.getfield 31, 3) := by decide +kernel
theorem dX4_isAsAheadOf_11 : decode cX4_isAsAheadOf 11 = .ok (.iload_n 3, 1) := by decide +kernel
theorem dX4_isAsAheadOf_12 : decode cX4_isAsAheadOf 12 = .ok (.iaload, 1) := by decide +kernel
theorem dX4_isAsAheadOf_13 : decode cX4_isAsAheadOf 13 = .ok (.aload_n 0, 1) := by decide +kernel
theorem dX4_isAsAheadOf_14 : decode cX4_isAsAheadOf 14 = .ok (.getfield 28, 3) := by decide +kernel
theorem dX4_isAsAheadOf_17 : decode cX4_isAsAheadOf 17 = .ok (.iload_n 1, 1) := by decide +kernel
theorem dX4_isAsAheadOf_18 : decode cX4_isAsAheadOf 18 = .ok (.bipush 6, 2) := by decide +kernel
theorem dX4_isAsAheadOf_20 : decode cX4_isAsAheadOf 20 = .ok (.imul, 1) := by decide +kernel
theorem dX4_isAsAheadOf_21 : decode cX4_isAsAheadOf 21 = .ok (.iload_n 3, 1) := by decide +kernel
theorem dX4_isAsAheadOf_22 : decode cX4_isAsAheadOf 22 = .ok (.iadd, 1) := by decide +kernel
theorem dX4_isAsAheadOf_23 : decode cX4_isAsAheadOf 23 = .ok (.iaload, 1) := by decide +kernel
theorem dX4_isAsAheadOf_24 : decode cX4_isAsAheadOf 24 = .ok (.if_icmp .eq 5, 3) := by decide +kernel
theorem dX4_isAsAheadOf_27 : decode cX4_isAsAheadOf 27 = .ok (.iconst 0, 1) := by decide +kernel
theorem dX4_isAsAheadOf_28 : decode cX4_isAsAheadOf 28 = .ok (.ireturn, 1) := by decide +kernel
theorem dX4_isAsAheadOf_29 : decode cX4_isAsAheadOf 29 = .ok (.iinc 3 1, 3) := by decide +kernel
theorem dX4_isAsAheadOf_32 : decode cX4_isAsAheadOf 32 = .ok (.goto (-30), 3) := by decide +kernel
theorem dX4_isAsAheadOf_35 : decode cX4_isAsAheadOf 35 = .ok (.iconst 1, 1) := by decide +kernel
theorem dX4_isAsAheadOf_36 : decode cX4_isAsAheadOf 36 = .ok (.ireturn, 1) := by decide +kernel
theorem dX4_weigh_0 : decode cX4_weigh 0 = .ok (.aload_n 0, 1) := by decide +kernel
theorem dX4_weigh_1 : decode cX4_weigh 1 = .ok (.iconst 0, 1) := by decide +kernel
theorem dX4_weigh_2 : decode cX4_weigh 2 = .ok (.putfield 83, 3) := by decide +kernel
theorem dX4_weigh_5 : decode cX4_weigh 5 = .ok (.aload_n 0, 1) := by decide +kernel
theorem dX4_weigh_6 : decode cX4_weigh 6 = .ok (.bipush (-2), 2) := by decide +kernel
theorem dX4_weigh_8 : decode cX4_weigh 8 = .ok (.putfield 86, 3) := by decide +kernel
theorem dX4_weigh_11 : decode cX4_weigh 11 = .ok (.iload_n 3, 1) := by decide +kernel
theorem dX4_weigh_12 : decode cX4_weigh 12 = .ok (.ifCond .lt 11, 3) := by decide +kernel
theorem dX4_weigh_15 : decode cX4_weigh 15 = .ok (.iload_n 3, 1) := by decide +kernel
theorem dX4_weigh_16 : decode cX4_weigh 16 = .ok (.aload_n 0, 1) := by decide +kernel
theorem dX4_weigh_17 : decode cX4_weigh 17 = .ok (.getfield 48, 3) := by decide +kernel
theorem dX4_weigh_20 : decode cX4_weigh 20 = .ok (.if_icmp .lt 4, 3) := by decide +kernel
theorem dX4_weigh_23 : decode cX4_weigh 23 = .ok (.return_, 1) := by decide +kernel
theorem dX4_weigh_24 : decode cX4_weigh 24 = .ok (.aload_n 0, 1) := by decide +kernel
theorem dX4_weigh_25 : decode cX4_weigh 25 = .ok (.getfield 28, 3) := by decide +kernel
theorem dX4_weigh_28 : decode cX4_weigh 28 = .ok (.iload_n 3, 1) := by decide +kernel
theorem dX4_weigh_29 : decode cX4_weigh 29 = .ok (.bipush 6, 2) := by decide +kernel
theorem dX4_weigh_31 : decode cX4_weigh 31 = .ok (.imul, 1) := by decide +kernel
theorem dX4_weigh_32 : decode cX4_weigh 32 = .ok (.aload_n 0, 1) := by decide +kernel
theorem dX4_weigh_33 : decode cX4_weigh 33 = .ok (.getfield 31, 3) := by decide +kernel
theorem dX4_weigh_36 : decode cX4_weigh 36 = .ok (.iconst 0, 1) := by decide +kernel
theorem dX4_weigh_37 : decode cX4_weigh 37 = .ok (.bipush 6, 2) := by decide +kernel
theorem dX4_weigh_39 : decode cX4_weigh 39 = .ok (.invokestatic 61, 3) := by decide +kernel
theorem dX4_weigh_42 : decode cX4_weigh 42 = .ok (.iload_n 3, 1) := by decide +kernel
theorem dX4_weigh_43 : decode cX4_weigh 43 = .ok (.iconst 1, 1) := by decide +kernel
theorem dX4_weigh_44 : decode cX4_weigh 44 = .ok (.iadd, 1) := by decide +kernel
theorem dX4_weigh_45 : decode cX4_weigh 45 = .ok (.istore 4, 2) := by decide +kernel
theorem dX4_weigh_47 : decode cX4_weigh 47 = .ok (.iload 4, 2) := by decide +kernel
theorem dX4_weigh_49 : decode cX4_weigh 49 = .ok (.aload_n 0, 1) := by decide +kernel
theorem dX4_weigh_50 : decode cX4_weigh 50 = .ok (.getfield 48, 3) := by decide +kernel
theorem dX4_weigh_53 : decode cX4_weigh 53 = .ok (.if_icmp .ge 87, 3) := by decide +kernel
theorem dX4_weigh_56 : decode cX4_weigh 56 = .ok (.aload_n 0, 1) := by decide +kernel
theorem dX4_weigh_57 : decode cX4_weigh 57 = .ok (.iload 4, 2) := by decide +kernel
theorem dX4_weigh_59 : decode cX4_weigh 59 = .ok (.aload_n 1, 1) := by decide +kernel
theorem dX4_weigh_60 : decode cX4_weigh 60 = .ok (.getfield 89, 3) := by decide +kernel
theorem dX4_weigh_63 : decode cX4_weigh 63 = .ok (.invokevirtual 91, 3) := by decide +kernel
theorem dX4_weigh_66 : decode cX4_weigh 66 = .ok (.ifCond .ne 74, 3) := by decide +kernel
theorem dX4_weigh_69 : decode cX4_weigh 69 = .ok (.aload_n 0, 1) := by decide +kernel
theorem dX4_weigh_70 : decode cX4_weigh 70 = .ok (.getfield 12, 3) := by decide +kernel
theorem dX4_weigh_73 : decode cX4_weigh 73 = .ok (.aload_n 1, 1) := by decide +kernel
theorem dX4_weigh_74 : decode cX4_weigh 74 = .ok (.aload_n 2, 1) := by decide +kernel
theorem dX4_weigh_75 : decode cX4_weigh 75 = .ok (.aload_n 0, 1) := by decide +kernel
theorem dX4_weigh_76 : decode cX4_weigh 76 = .ok (.getfield 18, 3) := by decide +kernel
theorem dX4_weigh_79 : decode cX4_weigh 79 = .ok (.iload 4, 2) := by decide +kernel
theorem dX4_weigh_81 : decode cX4_weigh 81 = .ok (.iaload, 1) := by decide +kernel
theorem dX4_weigh_82 : decode cX4_weigh 82 = .ok (.aload_n 0, 1) := by decide +kernel
theorem dX4_weigh_83 : decode cX4_weigh 83 = .ok (.getfield 31, 3) := by decide +kernel
theorem dX4_weigh_86 : decode cX4_weigh 86 = .ok (.iconst 0, 1) := by decide +kernel
theorem dX4_weigh_87 : decode cX4_weigh 87 = .ok (.invokevirtual 67, 3) := by decide +kernel
theorem dX4_weigh_90 : decode cX4_weigh 90 = .ok (.istore 5, 2) := by decide +kernel
theorem dX4_weigh_92 : decode cX4_weigh 92 = .ok (.iload 5, 2) := by decide +kernel
theorem dX4_weigh_94 : decode cX4_weigh 94 = .ok (.aload_n 0, 1) := by decide +kernel
theorem dX4_weigh_95 : decode cX4_weigh 95 = .ok (.getfield 22, 3) := by decide +kernel
theorem dX4_weigh_98 : decode cX4_weigh 98 = .ok (.iload 4, 2) := by decide +kernel
theorem dX4_weigh_100 : decode cX4_weigh 100 = .ok (.iaload, 1) := by decide +kernel
theorem dX4_weigh_101 : decode cX4_weigh 101 = .ok (.if_icmp .eq 33, 3) := by decide +kernel
theorem dX4_weigh_104 : decode cX4_weigh 104 = .ok (.aload_n 0, 1) := by decide +kernel
theorem dX4_weigh_105 : decode cX4_weigh 105 = .ok (.dup, 1) := by decide +kernel
theorem dX4_weigh_106 : decode cX4_weigh 106 = .ok (.getfield 83, 3) := by decide +kernel
theorem dX4_weigh_109 : decode cX4_weigh 109 = .ok (.iconst 1, 1) := by decide +kernel
theorem dX4_weigh_110 : decode cX4_weigh 110 = .ok (.iadd, 1) := by decide +kernel
theorem dX4_weigh_111 : decode cX4_weigh 111 = .ok (.putfield 83, 3) := by decide +kernel
theorem dX4_weigh_114 : decode cX4_weigh 114 = .ok (.aload_n 0, 1) := by decide +kernel
theorem dX4_weigh_115 : decode cX4_weigh 115 = .ok (.getfield 86, 3) := by decide +kernel
theorem dX4_weigh_118 : decode cX4_weigh 118 = .ok (.bipush (-2), 2) := by decide +kernel
theorem dX4_weigh_120 : decode cX4_weigh 120 = .ok (.if_icmp .ne 14, 3) := by decide +kernel
theorem dX4_weigh_123 : decode cX4_weigh 123 = .ok (.aload_n 0, 1) := by decide +kernel
theorem dX4_weigh_124 : decode cX4_weigh 124 = .ok (.aload_n 0, 1) := by decide +kernel
theorem dX4_weigh_125 : decode cX4_weigh 125 = .ok (.getfield 18, 3) := by decide +kernel
theorem dX4_weigh_128 : decode cX4_weigh 128 = .ok (.iload 4, 2) := by decide +kernel
theorem dX4_weigh_130 : decode cX4_weigh 130 = .ok (.iaload, 1) := by decide +kernel
theorem dX4_weigh_131 : decode cX4_weigh 131 = .ok (.putfield 86, 3) := by decide +kernel
theorem dX4_weigh_134 : decode cX4_weigh 134 = .ok (.iinc 4 1, 3) := by decide +kernel
theorem dX4_weigh_137 : decode cX4_weigh 137 = .ok (.goto (-90), 3) := by decide +kernel
theorem dX4_weigh_140 : decode cX4_weigh 140 = .ok (.return_, 1) := by decide +kernel
theorem dX5_begin_0 : decode cX5_begin 0 = .ok (.aload_n 0, 1) := by decide +kernel
theorem dX5_begin_1 : decode cX5_begin 1 = .ok (.aload_n 1, 1) := by decide +kernel
theorem dX5_begin_2 : decode cX5_begin 2 = .ok (.invokevirtual 19, 3) := by decide +kernel
theorem dX5_begin_5 : decode cX5_begin 5 = .ok (.putfield 25, 3) := by decide +kernel
theorem dX5_begin_8 : decode cX5_begin 8 = .ok (.aload_n 0, 1) := by decide +kernel
theorem dX5_begin_9 : decode cX5_begin 9 = .ok (.aload_n 1, 1) := by decide +kernel
theorem dX5_begin_10 : decode cX5_begin 10 = .ok (.invokevirtual 28, 3) := by decide +kernel
theorem dX5_begin_13 : decode cX5_begin 13 = .ok (.putfield 31, 3) := by decide +kernel
theorem dX5_begin_16 : decode cX5_begin 16 = .ok (.aload_n 0, 1) := by decide +kernel
theorem dX5_begin_17 : decode cX5_begin 17 = .ok (.aload_n 1, 1) := by decide +kernel
theorem dX5_begin_18 : decode cX5_begin 18 = .ok (.invokevirtual 33, 3) := by decide +kernel
theorem dX5_begin_21 : decode cX5_begin 21 = .ok (.putfield 36, 3) := by decide +kernel
theorem dX5_begin_24 : decode cX5_begin 24 = .ok (.aload_n 0, 1) := by decide +kernel
theorem dX5_begin_25 : decode cX5_begin 25 = .ok (.aload_n 1, 1) := by decide +kernel
theorem dX5_begin_26 : decode cX5_begin 26 = .ok (.invokevirtual 38, 3) := by decide +kernel
theorem dX5_begin_29 : decode cX5_begin 29 = .ok (.putfield 41, 3) := by decide +kernel
theorem dX5_begin_32 : decode cX5_begin 32 = .ok (.iconst 0, 1) := by decide +kernel
theorem dX5_begin_33 : decode cX5_begin 33 = .ok (.istore_n 2, 1) := by decide +kernel
theorem dX5_begin_34 : decode cX5_begin 34 = .ok (.iload_n 2, 1) := by decide +kernel
theorem dX5_begin_35 : decode cX5_begin 35 = .ok (.aload_n 0, 1) := by decide +kernel
theorem dX5_begin_36 : decode cX5_begin 36 = .ok (.getfield 25, 3) := by decide +kernel
theorem dX5_begin_39 : decode cX5_begin 39 = .ok (.if_icmp .ge 31, 3) := by decide +kernel
theorem dX5_begin_42 : decode cX5_begin 42 = .ok (.aload_n 0, 1) := by decide +kernel
theorem dX5_begin_43 : decode cX5_begin 43 = .ok (.getfield 9, 3) := by decide +kernel
theorem dX5_begin_46 : decode cX5_begin 46 = .ok (.iload_n 2, 1) := by decide +kernel
theorem dX5_begin_47 : decode cX5_begin 47 = .ok (.aload_n 1, 1) := by decide +kernel
theorem dX5_begin_48 : decode cX5_begin 48 = .ok (.iload_n 2, 1) := by decide +kernel
theorem dX5_begin_49 : decode cX5_begin 49 = .ok (.invokevirtual 43, 3) := by decide +kernel
theorem dX5_begin_52 : decode cX5_begin 52 = .ok (.lastore, 1) := by decide +kernel
theorem dX5_begin_53 : decode cX5_begin 53 = .ok (.aload_n 0, 1) := by decide +kernel
theorem dX5_begin_54 : decode cX5_begin 54 = .ok (.getfield 15, 3) := by decide +kernel
theorem dX5_begin_57 : decode cX5_begin 57 = .ok (.iload_n 2, 1) := by decide +kernel
theorem dX5_begin_58 : decode cX5_begin 58 = .ok (.aload_n 1, 1) := by decide +kernel
theorem dX5_begin_59 : decode cX5_begin 59 = .ok (.iload_n 2, 1) := by decide +kernel
theorem dX5_begin_60 : decode cX5_begin 60 = .ok (.invokevirtual 47, 3) := by decide +kernel
theorem dX5_begin_63 : decode cX5_begin 63 = .ok (.iastore, 1) := by decide +kernel
theorem dX5_begin_64 : decode cX5_begin 64 = .ok (.iinc 2 1, 3) := by decide +kernel
theorem dX5_begin_67 : decode cX5_begin 67 = .ok (.goto (-33), 3) := by decide +kernel
theorem dX5_begin_70 : decode cX5_begin 70 = .ok (.return_, 1) := by decide +kernel
theorem dX5_stir_0 : decode cX5_stir 0 = .ok (.iload_n 0, 1) := by decide +kernel
theorem dX5_stir_1 : decode cX5_stir 1 = .ok (.iload_n 1, 1) := by decide +kernel
theorem dX5_stir_2 : decode cX5_stir 2 = .ok (.ixor, 1) := by decide +kernel
theorem dX5_stir_3 : decode cX5_stir 3 = .ok (.ldc 79, 2) := by decide +kernel
theorem dX5_stir_5 : decode cX5_stir 5 = .ok (.imul, 1) := by decide +kernel
theorem dX5_stir_6 : decode cX5_stir 6 = .ok (.sipush 12345, 3) := by decide +kernel
theorem dX5_stir_9 : decode cX5_stir 9 = .ok (.iadd, 1) := by decide +kernel
theorem dX5_stir_10 : decode cX5_stir 10 = .ok (.istore_n 2, 1) := by decide +kernel
theorem dX5_stir_11 : decode cX5_stir 11 = .ok (.iload_n 2, 1) := by decide +kernel
theorem dX5_stir_12 : decode cX5_stir 12 = .ok (.iload_n 2, 1) := by decide +kernel
theorem dX5_stir_13 : decode cX5_stir 13 = .ok (.bipush 15, 2) := by decide +kernel
theorem dX5_stir_15 : decode cX5_stir 15 = .ok (.iushr, 1) := by decide +kernel
theorem dX5_stir_16 : decode cX5_stir 16 = .ok (.ixor, 1) := by decide +kernel
theorem dX5_stir_17 : decode cX5_stir 17 = .ok (.ireturn, 1) := by decide +kernel
theorem dX5_lot_0 : decode cX5_lot 0 = .ok (.iload_n 1, 1) := by decide +kernel
theorem dX5_lot_1 : decode cX5_lot 1 = .ok (.sipush 223, 3) := by decide +kernel
theorem dX5_lot_4 : decode cX5_lot 4 = .ok (.invokestatic 76, 3) := by decide +kernel
theorem dX5_lot_7 : decode cX5_lot 7 = .ok (.iload_n 2, 1) := by decide +kernel
theorem dX5_lot_8 : decode cX5_lot 8 = .ok (.invokestatic 76, 3) := by decide +kernel
theorem dX5_lot_11 : decode cX5_lot 11 = .ok (.istore_n 3, 1) := by decide +kernel
theorem dX5_lot_12 : decode cX5_lot 12 = .ok (.iload_n 0, 1) := by decide +kernel
theorem dX5_lot_13 : decode cX5_lot 13 = .ok (.iconst 1, 1) := by decide +kernel
theorem dX5_lot_14 : decode cX5_lot 14 = .ok (.if_icmp .ge 7, 3) := by decide +kernel
theorem dX5_lot_17 : decode cX5_lot 17 = .ok (.iconst 0, 1) := by decide +kernel
theorem dX5_lot_18 : decode cX5_lot 18 = .ok (.goto 8, 3) := by decide +kernel
theorem dX5_lot_21 : decode cX5_lot 21 = .ok (.iload_n 3, 1) := by decide +kernel
theorem dX5_lot_22 : decode cX5_lot 22 = .ok (.iconst 1, 1) := by decide +kernel
theorem dX5_lot_23 : decode cX5_lot 23 = .ok (.iushr, 1) := by decide +kernel
theorem dX5_lot_24 : decode cX5_lot 24 = .ok (.iload_n 0, 1) := by decide +kernel
theorem dX5_lot_25 : decode cX5_lot 25 = .ok (.irem, 1) := by decide +kernel
theorem dX5_lot_26 : decode cX5_lot 26 = .ok (.ireturn, 1) := by decide +kernel
theorem dX5_giver_0 : decode cX5_giver 0 = .ok (.iload_n 0, 1) := by decide +kernel
theorem dX5_giver_1 : decode cX5_giver 1 = .ok (.iload_n 1, 1) := by decide +kernel
theorem dX5_giver_2 : decode cX5_giver 2 = .ok (.iconst 2, 1) := by decide +kernel
theorem dX5_giver_3 : decode cX5_giver 3 = .ok (.iload_n 2, 1) := by decide +kernel
theorem dX5_giver_4 : decode cX5_giver 4 = .ok (.imul, 1) := by decide +kernel
theorem dX5_giver_5 : decode cX5_giver 5 = .ok (.invokestatic 73, 3) := by decide +kernel
theorem dX5_giver_8 : decode cX5_giver 8 = .ok (.ireturn, 1) := by decide +kernel
theorem dX5_taker_0 : decode cX5_taker 0 = .ok (.iload_n 1, 1) := by decide +kernel
theorem dX5_taker_1 : decode cX5_taker 1 = .ok (.iconst 2, 1) := by decide +kernel
theorem dX5_taker_2 : decode cX5_taker 2 = .ok (.if_icmp .ge 7, 3) := by decide +kernel
theorem dX5_taker_5 : decode cX5_taker 5 = .ok (.iload_n 0, 1) := by decide +kernel
theorem dX5_taker_6 : decode cX5_taker 6 = .ok (.goto 21, 3) := by decide +kernel
theorem dX5_taker_9 : decode cX5_taker 9 = .ok (.iload_n 0, 1) := by decide +kernel
theorem dX5_taker_10 : decode cX5_taker 10 = .ok (.iconst 1, 1) := by decide +kernel
theorem dX5_taker_11 : decode cX5_taker 11 = .ok (.iadd, 1) := by decide +kernel
theorem dX5_taker_12 : decode cX5_taker 12 = .ok (.iload_n 1, 1) := by decide +kernel
theorem dX5_taker_13 : decode cX5_taker 13 = .ok (.iconst 1, 1) := by decide +kernel
theorem dX5_taker_14 : decode cX5_taker 14 = .ok (.isub, 1) := by decide +kernel
theorem dX5_taker_15 : decode cX5_taker 15 = .ok (.iload_n 2, 1) := by decide +kernel
theorem dX5_taker_16 : decode cX5_taker 16 = .ok (.iconst 2, 1) := by decide +kernel
theorem dX5_taker_17 : decode cX5_taker 17 = .ok (.iload_n 3, 1) := by decide +kernel
theorem dX5_taker_18 : decode cX5_taker 18 = .ok (.imul, 1) := by decide +kernel
theorem dX5_taker_19 : decode cX5_taker 19 = .ok (.iconst 1, 1) := by decide +kernel
theorem dX5_taker_20 : decode cX5_taker 20 = .ok (.iadd, 1) := by decide +kernel
theorem dX5_taker_21 : decode cX5_taker 21 = .ok (.invokestatic 73, 3) := by decide +kernel
theorem dX5_taker_24 : decode cX5_taker 24 = .ok (.iadd, 1) := by decide +kernel
theorem dX5_taker_25 : decode cX5_taker 25 = .ok (.iload_n 1, 1) := by decide +kernel
theorem dX5_taker_26 : decode cX5_taker 26 = .ok (.irem, 1) := by decide +kernel
theorem dX5_taker_27 : decode cX5_taker 27 = .ok (.ireturn, 1) := by decide +kernel
theorem dJ13_bitCount_95d88_0 : decode cJ13_bitCount_95d88 0 = .ok (.lload_n 0, 1) := by decide +kernel
theorem dJ13_bitCount_95d88_1 : decode cJ13_bitCount_95d88 1 = .ok (.lload_n 0, 1) := by decide +kernel
theorem dJ13_bitCount_95d88_2 : decode cJ13_bitCount_95d88 2 = .ok (.iconst 1, 1) := by decide +kernel
theorem dJ13_bitCount_95d88_3 : decode cJ13_bitCount_95d88 3 = .ok (.lushr, 1) := by decide +kernel
theorem dJ13_bitCount_95d88_4 : decode cJ13_bitCount_95d88 4 = .ok (.ldc2_w 314, 3) := by decide +kernel
theorem dJ13_bitCount_95d88_7 : decode cJ13_bitCount_95d88 7 = .ok (.land, 1) := by decide +kernel
theorem dJ13_bitCount_95d88_8 : decode cJ13_bitCount_95d88 8 = .ok (.lsub, 1) := by decide +kernel
theorem dJ13_bitCount_95d88_9 : decode cJ13_bitCount_95d88 9 = .ok (.lstore_n 0, 1) := by decide +kernel
theorem dJ13_bitCount_95d88_10 : decode cJ13_bitCount_95d88 10 = .ok (.lload_n 0, 1) := by decide +kernel
theorem dJ13_bitCount_95d88_11 : decode cJ13_bitCount_95d88 11 = .ok (.ldc2_w 316, 3) := by decide +kernel
theorem dJ13_bitCount_95d88_14 : decode cJ13_bitCount_95d88 14 = .ok (.land, 1) := by decide +kernel
theorem dJ13_bitCount_95d88_15 : decode cJ13_bitCount_95d88 15 = .ok (.lload_n 0, 1) := by decide +kernel
theorem dJ13_bitCount_95d88_16 : decode cJ13_bitCount_95d88 16 = .ok (.iconst 2, 1) := by decide +kernel
theorem dJ13_bitCount_95d88_17 : decode cJ13_bitCount_95d88 17 = .ok (.lushr, 1) := by decide +kernel
theorem dJ13_bitCount_95d88_18 : decode cJ13_bitCount_95d88 18 = .ok (.ldc2_w 316, 3) := by decide +kernel
theorem dJ13_bitCount_95d88_21 : decode cJ13_bitCount_95d88 21 = .ok (.land, 1) := by decide +kernel
theorem dJ13_bitCount_95d88_22 : decode cJ13_bitCount_95d88 22 = .ok (.ladd, 1) := by decide +kernel
theorem dJ13_bitCount_95d88_23 : decode cJ13_bitCount_95d88 23 = .ok (.lstore_n 0, 1) := by decide +kernel
theorem dJ13_bitCount_95d88_24 : decode cJ13_bitCount_95d88 24 = .ok (.lload_n 0, 1) := by decide +kernel
theorem dJ13_bitCount_95d88_25 : decode cJ13_bitCount_95d88 25 = .ok (.lload_n 0, 1) := by decide +kernel
theorem dJ13_bitCount_95d88_26 : decode cJ13_bitCount_95d88 26 = .ok (.iconst 4, 1) := by decide +kernel
theorem dJ13_bitCount_95d88_27 : decode cJ13_bitCount_95d88 27 = .ok (.lushr, 1) := by decide +kernel
theorem dJ13_bitCount_95d88_28 : decode cJ13_bitCount_95d88 28 = .ok (.ladd, 1) := by decide +kernel
theorem dJ13_bitCount_95d88_29 : decode cJ13_bitCount_95d88 29 = .ok (.ldc2_w 318, 3) := by decide +kernel
theorem dJ13_bitCount_95d88_32 : decode cJ13_bitCount_95d88 32 = .ok (.land, 1) := by decide +kernel
theorem dJ13_bitCount_95d88_33 : decode cJ13_bitCount_95d88 33 = .ok (.lstore_n 0, 1) := by decide +kernel
theorem dJ13_bitCount_95d88_34 : decode cJ13_bitCount_95d88 34 = .ok (.lload_n 0, 1) := by decide +kernel
theorem dJ13_bitCount_95d88_35 : decode cJ13_bitCount_95d88 35 = .ok (.lload_n 0, 1) := by decide +kernel
theorem dJ13_bitCount_95d88_36 : decode cJ13_bitCount_95d88 36 = .ok (.bipush 8, 2) := by decide +kernel
theorem dJ13_bitCount_95d88_38 : decode cJ13_bitCount_95d88 38 = .ok (.lushr, 1) := by decide +kernel
theorem dJ13_bitCount_95d88_39 : decode cJ13_bitCount_95d88 39 = .ok (.ladd, 1) := by decide +kernel
theorem dJ13_bitCount_95d88_40 : decode cJ13_bitCount_95d88 40 = .ok (.lstore_n 0, 1) := by decide +kernel
theorem dJ13_bitCount_95d88_41 : decode cJ13_bitCount_95d88 41 = .ok (.lload_n 0, 1) := by decide +kernel
theorem dJ13_bitCount_95d88_42 : decode cJ13_bitCount_95d88 42 = .ok (.lload_n 0, 1) := by decide +kernel
theorem dJ13_bitCount_95d88_43 : decode cJ13_bitCount_95d88 43 = .ok (.bipush 16, 2) := by decide +kernel
theorem dJ13_bitCount_95d88_45 : decode cJ13_bitCount_95d88 45 = .ok (.lushr, 1) := by decide +kernel
theorem dJ13_bitCount_95d88_46 : decode cJ13_bitCount_95d88 46 = .ok (.ladd, 1) := by decide +kernel
theorem dJ13_bitCount_95d88_47 : decode cJ13_bitCount_95d88 47 = .ok (.lstore_n 0, 1) := by decide +kernel
theorem dJ13_bitCount_95d88_48 : decode cJ13_bitCount_95d88 48 = .ok (.lload_n 0, 1) := by decide +kernel
theorem dJ13_bitCount_95d88_49 : decode cJ13_bitCount_95d88 49 = .ok (.lload_n 0, 1) := by decide +kernel
theorem dJ13_bitCount_95d88_50 : decode cJ13_bitCount_95d88 50 = .ok (.bipush 32, 2) := by decide +kernel
theorem dJ13_bitCount_95d88_52 : decode cJ13_bitCount_95d88 52 = .ok (.lushr, 1) := by decide +kernel
theorem dJ13_bitCount_95d88_53 : decode cJ13_bitCount_95d88 53 = .ok (.ladd, 1) := by decide +kernel
theorem dJ13_bitCount_95d88_54 : decode cJ13_bitCount_95d88 54 = .ok (.lstore_n 0, 1) := by decide +kernel
theorem dJ13_bitCount_95d88_55 : decode cJ13_bitCount_95d88 55 = .ok (.lload_n 0, 1) := by decide +kernel
theorem dJ13_bitCount_95d88_56 : decode cJ13_bitCount_95d88 56 = .ok (.l2i, 1) := by decide +kernel
theorem dJ13_bitCount_95d88_57 : decode cJ13_bitCount_95d88 57 = .ok (.bipush 127, 2) := by decide +kernel
theorem dJ13_bitCount_95d88_59 : decode cJ13_bitCount_95d88 59 = .ok (.iand, 1) := by decide +kernel
theorem dJ13_bitCount_95d88_60 : decode cJ13_bitCount_95d88 60 = .ok (.ireturn, 1) := by decide +kernel
theorem dX5_letMeet_0 : decode cX5_letMeet 0 = .ok (.aload_n 0, 1) := by decide +kernel
theorem dX5_letMeet_1 : decode cX5_letMeet 1 = .ok (.getfield 25, 3) := by decide +kernel
theorem dX5_letMeet_4 : decode cX5_letMeet 4 = .ok (.iconst 2, 1) := by decide +kernel
theorem dX5_letMeet_5 : decode cX5_letMeet 5 = .ok (.if_icmp .ge 4, 3) := by decide +kernel
theorem dX5_letMeet_8 : decode cX5_letMeet 8 = .ok (.return_, 1) := by decide +kernel
theorem dX5_letMeet_9 : decode cX5_letMeet 9 = .ok (.aload_n 0, 1) := by decide +kernel
theorem dX5_letMeet_10 : decode cX5_letMeet 10 = .ok (.getfield 25, 3) := by decide +kernel
theorem dX5_letMeet_13 : decode cX5_letMeet 13 = .ok (.iload_n 1, 1) := by decide +kernel
theorem dX5_letMeet_14 : decode cX5_letMeet 14 = .ok (.iload_n 2, 1) := by decide +kernel
theorem dX5_letMeet_15 : decode cX5_letMeet 15 = .ok (.invokestatic 51, 3) := by decide +kernel
theorem dX5_letMeet_18 : decode cX5_letMeet 18 = .ok (.istore_n 3, 1) := by decide +kernel
theorem dX5_letMeet_19 : decode cX5_letMeet 19 = .ok (.iload_n 3, 1) := by decide +kernel
theorem dX5_letMeet_20 : decode cX5_letMeet 20 = .ok (.aload_n 0, 1) := by decide +kernel
theorem dX5_letMeet_21 : decode cX5_letMeet 21 = .ok (.getfield 25, 3) := by decide +kernel
theorem dX5_letMeet_24 : decode cX5_letMeet 24 = .ok (.iload_n 1, 1) := by decide +kernel
theorem dX5_letMeet_25 : decode cX5_letMeet 25 = .ok (.iload_n 2, 1) := by decide +kernel
theorem dX5_letMeet_26 : decode cX5_letMeet 26 = .ok (.invokestatic 55, 3) := by decide +kernel
theorem dX5_letMeet_29 : decode cX5_letMeet 29 = .ok (.istore 4, 2) := by decide +kernel
theorem dX5_letMeet_31 : decode cX5_letMeet 31 = .ok (.aload_n 0, 1) := by decide +kernel
theorem dX5_letMeet_32 : decode cX5_letMeet 32 = .ok (.getfield 9, 3) := by decide +kernel
theorem dX5_letMeet_35 : decode cX5_letMeet 35 = .ok (.iload_n 3, 1) := by decide +kernel
theorem dX5_letMeet_36 : decode cX5_letMeet 36 = .ok (.laload, 1) := by decide +kernel
theorem dX5_letMeet_37 : decode cX5_letMeet 37 = .ok (.aload_n 0, 1) := by decide +kernel
theorem dX5_letMeet_38 : decode cX5_letMeet 38 = .ok (.getfield 9, 3) := by decide +kernel
theorem dX5_letMeet_41 : decode cX5_letMeet 41 = .ok (.iload 4, 2) := by decide +kernel
theorem dX5_letMeet_43 : decode cX5_letMeet 43 = .ok (.laload, 1) := by decide +kernel
theorem dX5_letMeet_44 : decode cX5_letMeet 44 = .ok (.ldc2_w 59, 3) := by decide +kernel
theorem dX5_letMeet_47 : decode cX5_letMeet 47 = .ok (.lxor, 1) := by decide +kernel
theorem dX5_letMeet_48 : decode cX5_letMeet 48 = .ok (.land, 1) := by decide +kernel
theorem dX5_letMeet_49 : decode cX5_letMeet 49 = .ok (.lconst 0, 1) := by decide +kernel
theorem dX5_letMeet_50 : decode cX5_letMeet 50 = .ok (.lcmp, 1) := by decide +kernel
theorem dX5_letMeet_51 : decode cX5_letMeet 51 = .ok (.ifCond .eq 7, 3) := by decide +kernel
theorem dX5_letMeet_54 : decode cX5_letMeet 54 = .ok (.iconst 1, 1) := by decide +kernel
theorem dX5_letMeet_55 : decode cX5_letMeet 55 = .ok (.goto 4, 3) := by decide +kernel
theorem dX5_letMeet_58 : decode cX5_letMeet 58 = .ok (.iconst 0, 1) := by decide +kernel
theorem dX5_letMeet_59 : decode cX5_letMeet 59 = .ok (.istore 5, 2) := by decide +kernel
theorem dX5_letMeet_61 : decode cX5_letMeet 61 = .ok (.aload_n 0, 1) := by decide +kernel
theorem dX5_letMeet_62 : decode cX5_letMeet 62 = .ok (.getfield 9, 3) := by decide +kernel
theorem dX5_letMeet_65 : decode cX5_letMeet 65 = .ok (.iload 4, 2) := by decide +kernel
theorem dX5_letMeet_67 : decode cX5_letMeet 67 = .ok (.dup2, 1) := by decide +kernel
theorem dX5_letMeet_68 : decode cX5_letMeet 68 = .ok (.laload, 1) := by decide +kernel
theorem dX5_letMeet_69 : decode cX5_letMeet 69 = .ok (.aload_n 0, 1) := by decide +kernel
theorem dX5_letMeet_70 : decode cX5_letMeet 70 = .ok (.getfield 9, 3) := by decide +kernel
theorem dX5_letMeet_73 : decode cX5_letMeet 73 = .ok (.iload_n 3, 1) := by decide +kernel
theorem dX5_letMeet_74 : decode cX5_letMeet 74 = .ok (.laload, 1) := by decide +kernel
theorem dX5_letMeet_75 : decode cX5_letMeet 75 = .ok (.lor, 1) := by decide +kernel
theorem dX5_letMeet_76 : decode cX5_letMeet 76 = .ok (.lastore, 1) := by decide +kernel
theorem dX5_letMeet_77 : decode cX5_letMeet 77 = .ok (.aload_n 0, 1) := by decide +kernel
theorem dX5_letMeet_78 : decode cX5_letMeet 78 = .ok (.getfield 15, 3) := by decide +kernel
theorem dX5_letMeet_81 : decode cX5_letMeet 81 = .ok (.iload 4, 2) := by decide +kernel
theorem dX5_letMeet_83 : decode cX5_letMeet 83 = .ok (.aload_n 0, 1) := by decide +kernel
theorem dX5_letMeet_84 : decode cX5_letMeet 84 = .ok (.getfield 15, 3) := by decide +kernel
theorem dX5_letMeet_87 : decode cX5_letMeet 87 = .ok (.iload 4, 2) := by decide +kernel
theorem dX5_letMeet_89 : decode cX5_letMeet 89 = .ok (.iaload, 1) := by decide +kernel
theorem dX5_letMeet_90 : decode cX5_letMeet 90 = .ok (.aload_n 0, 1) := by decide +kernel
theorem dX5_letMeet_91 : decode cX5_letMeet 91 = .ok (.getfield 15, 3) := by decide +kernel
theorem dX5_letMeet_94 : decode cX5_letMeet 94 = .ok (.iload_n 3, 1) := by decide +kernel
theorem dX5_letMeet_95 : decode cX5_letMeet 95 = .ok (.iaload, 1) := by decide +kernel
theorem dX5_letMeet_96 : decode cX5_letMeet 96 = .ok (.invokestatic 61, 3) := by decide +kernel
theorem dX5_letMeet_99 : decode cX5_letMeet 99 = .ok (.iastore, 1) := by decide +kernel
theorem dX5_letMeet_100 : decode cX5_letMeet 100 = .ok (.iload 4, 2) := by decide +kernel
theorem dX5_letMeet_102 : decode cX5_letMeet 102 = .ok (.aload_n 0, 1) := by decide +kernel
theorem dX5_letMeet_103 : decode cX5_letMeet 103 = .ok (.getfield 31, 3) := by decide +kernel
theorem dX5_letMeet_106 : decode cX5_letMeet 106 = .ok (.if_icmp .ne 33, 3) := by decide +kernel
theorem dX5_letMeet_109 : decode cX5_letMeet 109 = .ok (.iload 5, 2) := by decide +kernel
theorem dX5_letMeet_111 : decode cX5_letMeet 111 = .ok (.ifCond .eq 28, 3) := by decide +kernel
theorem dX5_letMeet_114 : decode cX5_letMeet 114 = .ok (.aload_n 0, 1) := by decide +kernel
theorem dX5_letMeet_115 : decode cX5_letMeet 115 = .ok (.aload_n 0, 1) := by decide +kernel
theorem dX5_letMeet_116 : decode cX5_letMeet 116 = .ok (.getfield 9, 3) := by decide +kernel
theorem dX5_letMeet_119 : decode cX5_letMeet 119 = .ok (.iload 4, 2) := by decide +kernel
theorem dX5_letMeet_121 : decode cX5_letMeet 121 = .ok (.laload, 1) := by decide +kernel
theorem dX5_letMeet_122 : decode cX5_letMeet 122 = .ok (.invokestatic 67, 3) := by decide +kernel
theorem dX5_letMeet_125 : decode cX5_letMeet 125 = .ok (.putfield 41, 3) := by decide +kernel
theorem dX5_letMeet_128 : decode cX5_letMeet 128 = .ok (.aload_n 0, 1) := by decide +kernel
theorem dX5_letMeet_129 : decode cX5_letMeet 129 = .ok (.getfield 15, 3) := by decide +kernel
theorem dX5_letMeet_132 : decode cX5_letMeet 132 = .ok (.iload 4, 2) := by decide +kernel
theorem dX5_letMeet_134 : decode cX5_letMeet 134 = .ok (.aload_n 0, 1) := by decide +kernel
theorem dX5_letMeet_135 : decode cX5_letMeet 135 = .ok (.getfield 41, 3) := by decide +kernel
theorem dX5_letMeet_138 : decode cX5_letMeet 138 = .ok (.iastore, 1) := by decide +kernel
theorem dX5_letMeet_139 : decode cX5_letMeet 139 = .ok (.return_, 1) := by decide +kernel
theorem dX5_isSettled_0 : decode cX5_isSettled 0 = .ok (.iconst 1, 1) := by decide +kernel
theorem dX5_isSettled_1 : decode cX5_isSettled 1 = .ok (.istore_n 1, 1) := by decide +kernel
theorem dX5_isSettled_2 : decode cX5_isSettled 2 = .ok (.iload_n 1, 1) := by decide +kernel
theorem dX5_isSettled_3 : decode cX5_isSettled 3 = .ok (.aload_n 0, 1) := by decide +kernel
theorem dX5_isSettled_4 : decode cX5_isSettled 4 = .ok (.getfield 25, 3) := by decide +kernel
theorem dX5_isSettled_7 : decode cX5_isSettled 7 = .ok (.if_icmp .ge 42, 3) := by decide +kernel
theorem dX5_isSettled_10 : decode cX5_isSettled 10 = .ok (.aload_n 0, 1) := by decide +kernel
theorem dX5_isSettled_11 : decode cX5_isSettled 11 = .ok (.getfield 9, 3) := by decide +kernel
theorem dX5_isSettled_14 : decode cX5_isSettled 14 = .ok (.iload_n 1, 1) := by decide +kernel
theorem dX5_isSettled_15 : decode cX5_isSettled 15 = .ok (.laload, 1) := by decide +kernel
theorem dX5_isSettled_16 : decode cX5_isSettled 16 = .ok (.aload_n 0, 1) := by decide +kernel
theorem dX5_isSettled_17 : decode cX5_isSettled 17 = .ok (.getfield 9, 3) := by decide +kernel
theorem dX5_isSettled_20 : decode cX5_isSettled 20 = .ok (.iconst 0, 1) := by decide +kernel
theorem dX5_isSettled_21 : decode cX5_isSettled 21 = .ok (.laload, 1) := by decide +kernel
theorem dX5_isSettled_22 : decode cX5_isSettled 22 = .ok (.lcmp, 1) := by decide +kernel
theorem dX5_isSettled_23 : decode cX5_isSettled 23 = .ok (.ifCond .ne 18, 3) := by decide +kernel
theorem dX5_isSettled_26 : decode cX5_isSettled 26 = .ok (.aload_n 0, 1) := by decide +kernel
theorem dX5_isSettled_27 : decode cX5_isSettled 27 = .ok (.getfield 15, 3) := by decide +kernel
theorem dX5_isSettled_30 : decode cX5_isSettled 30 = .ok (.iload_n 1, 1) := by decide +kernel
theorem dX5_isSettled_31 : decode cX5_isSettled 31 = .ok (.iaload, 1) := by decide +kernel
theorem dX5_isSettled_32 : decode cX5_isSettled 32 = .ok (.aload_n 0, 1) := by decide +kernel
theorem dX5_isSettled_33 : decode cX5_isSettled 33 = .ok (.getfield 15, 3) := by decide +kernel
theorem dX5_isSettled_36 : decode cX5_isSettled 36 = .ok (.iconst 0, 1) := by decide +kernel
theorem dX5_isSettled_37 : decode cX5_isSettled 37 = .ok (.iaload, 1) := by decide +kernel
theorem dX5_isSettled_38 : decode cX5_isSettled 38 = .ok (.if_icmp .eq 5, 3) := by decide +kernel
theorem dX5_isSettled_41 : decode cX5_isSettled 41 = .ok (.iconst 0, 1) := by decide +kernel
theorem dX5_isSettled_42 : decode cX5_isSettled 42 = .ok (.ireturn, 1) := by decide +kernel
theorem dX5_isSettled_43 : decode cX5_isSettled 43 = .ok (.iinc 1 1, 3) := by decide +kernel
theorem dX5_isSettled_46 : decode cX5_isSettled 46 = .ok (.goto (-44), 3) := by decide +kernel
theorem dX5_isSettled_49 : decode cX5_isSettled 49 = .ok (.aload_n 0, 1) := by decide +kernel
theorem dX5_isSettled_50 : decode cX5_isSettled 50 = .ok (.getfield 41, 3) := by decide +kernel
theorem dX5_isSettled_53 : decode cX5_isSettled 53 = .ok (.aload_n 0, 1) := by decide +kernel
theorem dX5_isSettled_54 : decode cX5_isSettled 54 = .ok (.getfield 36, 3) := by decide +kernel
theorem dX5_isSettled_57 : decode cX5_isSettled 57 = .ok (.if_icmp .ne 7, 3) := by decide +kernel
theorem dX5_isSettled_60 : decode cX5_isSettled 60 = .ok (.iconst 1, 1) := by decide +kernel
theorem dX5_isSettled_61 : decode cX5_isSettled 61 = .ok (.goto 4, 3) := by decide +kernel
theorem dX5_isSettled_64 : decode cX5_isSettled 64 = .ok (.iconst 0, 1) := by decide +kernel
theorem dX5_isSettled_65 : decode cX5_isSettled 65 = .ok (.ireturn, 1) := by decide +kernel
theorem dX8_addBytes_0 : decode cX8_addBytes 0 = .ok (.bipush 24, 2) := by decide +kernel
theorem dX8_addBytes_2 : decode cX8_addBytes 2 = .ok (.istore_n 2, 1) := by decide +kernel
theorem dX8_addBytes_3 : decode cX8_addBytes 3 = .ok (.iload_n 2, 1) := by decide +kernel
theorem dX8_addBytes_4 : decode cX8_addBytes 4 = .ok (.ifCond .lt 42, 3) := by decide +kernel
theorem dX8_addBytes_7 : decode cX8_addBytes 7 = .ok (.aload_n 0, 1) := by decide +kernel
theorem dX8_addBytes_8 : decode cX8_addBytes 8 = .ok (.getfield 13, 3) := by decide +kernel
theorem dX8_addBytes_11 : decode cX8_addBytes 11 = .ok (.sipush 2000, 3) := by decide +kernel
theorem dX8_addBytes_14 : decode cX8_addBytes 14 = .ok (.if_icmp .ge 32, 3) := by decide +kernel
theorem dX8_addBytes_17 : decode cX8_addBytes 17 = .ok (.aload_n 0, 1) := by decide +kernel
theorem dX8_addBytes_18 : decode cX8_addBytes 18 = .ok (.getfield 9, 3) := by decide +kernel
theorem dX8_addBytes_21 : decode cX8_addBytes 21 = .ok (.aload_n 0, 1) := by decide +kernel
theorem dX8_addBytes_22 : decode cX8_addBytes 22 = .ok (.getfield 13, 3) := by decide +kernel
theorem dX8_addBytes_25 : decode cX8_addBytes 25 = .ok (.iload_n 1, 1) := by decide +kernel
theorem dX8_addBytes_26 : decode cX8_addBytes 26 = .ok (.iload_n 2, 1) := by decide +kernel
theorem dX8_addBytes_27 : decode cX8_addBytes 27 = .ok (.ishr, 1) := by decide +kernel
theorem dX8_addBytes_28 : decode cX8_addBytes 28 = .ok (.i2b, 1) := by decide +kernel
theorem dX8_addBytes_29 : decode cX8_addBytes 29 = .ok (.bastore, 1) := by decide +kernel
theorem dX8_addBytes_30 : decode cX8_addBytes 30 = .ok (.aload_n 0, 1) := by decide +kernel
theorem dX8_addBytes_31 : decode cX8_addBytes 31 = .ok (.dup, 1) := by decide +kernel
theorem dX8_addBytes_32 : decode cX8_addBytes 32 = .ok (.getfield 13, 3) := by decide +kernel
theorem dX8_addBytes_35 : decode cX8_addBytes 35 = .ok (.iconst 1, 1) := by decide +kernel
theorem dX8_addBytes_36 : decode cX8_addBytes 36 = .ok (.iadd, 1) := by decide +kernel
theorem dX8_addBytes_37 : decode cX8_addBytes 37 = .ok (.putfield 13, 3) := by decide +kernel
theorem dX8_addBytes_40 : decode cX8_addBytes 40 = .ok (.iinc 2 (-8), 3) := by decide +kernel
theorem dX8_addBytes_43 : decode cX8_addBytes 43 = .ok (.goto (-40), 3) := by decide +kernel
theorem dX8_addBytes_46 : decode cX8_addBytes 46 = .ok (.return_, 1) := by decide +kernel
theorem dX8_feed_0 : decode cX8_feed 0 = .ok (.aload_n 0, 1) := by decide +kernel
theorem dX8_feed_1 : decode cX8_feed 1 = .ok (.getfield 13, 3) := by decide +kernel
theorem dX8_feed_4 : decode cX8_feed 4 = .ok (.bipush 20, 2) := by decide +kernel
theorem dX8_feed_6 : decode cX8_feed 6 = .ok (.iadd, 1) := by decide +kernel
theorem dX8_feed_7 : decode cX8_feed 7 = .ok (.sipush 2000, 3) := by decide +kernel
theorem dX8_feed_10 : decode cX8_feed 10 = .ok (.if_icmp .le 5, 3) := by decide +kernel
theorem dX8_feed_13 : decode cX8_feed 13 = .ok (.iconst (-1), 1) := by decide +kernel
theorem dX8_feed_14 : decode cX8_feed 14 = .ok (.ireturn, 1) := by decide +kernel
theorem dX8_feed_15 : decode cX8_feed 15 = .ok (.aload_n 0, 1) := by decide +kernel
theorem dX8_feed_16 : decode cX8_feed 16 = .ok (.iload_n 1, 1) := by decide +kernel
theorem dX8_feed_17 : decode cX8_feed 17 = .ok (.invokevirtual 88, 3) := by decide +kernel
theorem dX8_feed_20 : decode cX8_feed 20 = .ok (.aload_n 0, 1) := by decide +kernel
theorem dX8_feed_21 : decode cX8_feed 21 = .ok (.iload_n 2, 1) := by decide +kernel
theorem dX8_feed_22 : decode cX8_feed 22 = .ok (.invokevirtual 88, 3) := by decide +kernel
theorem dX8_feed_25 : decode cX8_feed 25 = .ok (.aload_n 0, 1) := by decide +kernel
theorem dX8_feed_26 : decode cX8_feed 26 = .ok (.iload_n 3, 1) := by decide +kernel
theorem dX8_feed_27 : decode cX8_feed 27 = .ok (.invokevirtual 88, 3) := by decide +kernel
theorem dX8_feed_30 : decode cX8_feed 30 = .ok (.aload_n 0, 1) := by decide +kernel
theorem dX8_feed_31 : decode cX8_feed 31 = .ok (.iload 4, 2) := by decide +kernel
theorem dX8_feed_33 : decode cX8_feed 33 = .ok (.invokevirtual 88, 3) := by decide +kernel
theorem dX8_feed_36 : decode cX8_feed 36 = .ok (.aload_n 0, 1) := by decide +kernel
theorem dX8_feed_37 : decode cX8_feed 37 = .ok (.iload 5, 2) := by decide +kernel
theorem dX8_feed_39 : decode cX8_feed 39 = .ok (.invokevirtual 88, 3) := by decide +kernel
theorem dX8_feed_42 : decode cX8_feed 42 = .ok (.aload_n 0, 1) := by decide +kernel
theorem dX8_feed_43 : decode cX8_feed 43 = .ok (.getfield 13, 3) := by decide +kernel
theorem dX8_feed_46 : decode cX8_feed 46 = .ok (.ireturn, 1) := by decide +kernel
theorem dX8_back_0 : decode cX8_back 0 = .ok (.iload_n 1, 1) := by decide +kernel
theorem dX8_back_1 : decode cX8_back 1 = .ok (.ifCond .lt 11, 3) := by decide +kernel
theorem dX8_back_4 : decode cX8_back 4 = .ok (.iload_n 1, 1) := by decide +kernel
theorem dX8_back_5 : decode cX8_back 5 = .ok (.aload_n 0, 1) := by decide +kernel
theorem dX8_back_6 : decode cX8_back 6 = .ok (.getfield 13, 3) := by decide +kernel
theorem dX8_back_9 : decode cX8_back 9 = .ok (.if_icmp .le 5, 3) := by decide +kernel
theorem dX8_back_12 : decode cX8_back 12 = .ok (.iconst (-1), 1) := by decide +kernel
theorem dX8_back_13 : decode cX8_back 13 = .ok (.ireturn, 1) := by decide +kernel
theorem dX8_back_14 : decode cX8_back 14 = .ok (.aload_n 0, 1) := by decide +kernel
theorem dX8_back_15 : decode cX8_back 15 = .ok (.dup, 1) := by decide +kernel
theorem dX8_back_16 : decode cX8_back 16 = .ok (.getfield 13, 3) := by decide +kernel
theorem dX8_back_19 : decode cX8_back 19 = .ok (.iload_n 1, 1) := by decide +kernel
theorem dX8_back_20 : decode cX8_back 20 = .ok (.isub, 1) := by decide +kernel
theorem dX8_back_21 : decode cX8_back 21 = .ok (.putfield 13, 3) := by decide +kernel
theorem dX8_back_24 : decode cX8_back 24 = .ok (.aload_n 0, 1) := by decide +kernel
theorem dX8_back_25 : decode cX8_back 25 = .ok (.getfield 13, 3) := by decide +kernel
theorem dX8_back_28 : decode cX8_back 28 = .ok (.ireturn, 1) := by decide +kernel
theorem dX8_beginAnew_0 : decode cX8_beginAnew 0 = .ok (.aload_n 0, 1) := by decide +kernel
theorem dX8_beginAnew_1 : decode cX8_beginAnew 1 = .ok (.getfield 42, 3) := by decide +kernel
theorem dX8_beginAnew_4 : decode cX8_beginAnew 4 = .ok (.aload_n 0, 1) := by decide +kernel
theorem dX8_beginAnew_5 : decode cX8_beginAnew 5 = .ok (.getfield 23, 3) := by decide +kernel
theorem dX8_beginAnew_8 : decode cX8_beginAnew 8 = .ok (.getfield 78, 3) := by decide +kernel
theorem dX8_beginAnew_11 : decode cX8_beginAnew 11 = .ok (.aload_n 0, 1) := by decide +kernel
theorem dX8_beginAnew_12 : decode cX8_beginAnew 12 = .ok (.getfield 23, 3) := by decide +kernel
theorem dX8_beginAnew_15 : decode cX8_beginAnew 15 = .ok (.getfield 81, 3) := by decide +kernel
theorem dX8_beginAnew_18 : decode cX8_beginAnew 18 = .ok (.invokevirtual 84, 3) := by decide +kernel
theorem dX8_beginAnew_21 : decode cX8_beginAnew 21 = .ok (.aload_n 0, 1) := by decide +kernel
theorem dX8_beginAnew_22 : decode cX8_beginAnew 22 = .ok (.getfield 49, 3) := by decide +kernel
theorem dX8_beginAnew_25 : decode cX8_beginAnew 25 = .ok (.invokevirtual 333, 3) := by decide +kernel
theorem dX8_beginAnew_28 : decode cX8_beginAnew 28 = .ok (.iconst 0, 1) := by decide +kernel
theorem dX8_beginAnew_29 : decode cX8_beginAnew 29 = .ok (.istore_n 1, 1) := by decide +kernel
theorem dX8_beginAnew_30 : decode cX8_beginAnew 30 = .ok (.iload_n 1, 1) := by decide +kernel
theorem dX8_beginAnew_31 : decode cX8_beginAnew 31 = .ok (.iconst 3, 1) := by decide +kernel
theorem dX8_beginAnew_32 : decode cX8_beginAnew 32 = .ok (.if_icmp .ge 16, 3) := by decide +kernel
theorem dX8_beginAnew_35 : decode cX8_beginAnew 35 = .ok (.aload_n 0, 1) := by decide +kernel
theorem dX8_beginAnew_36 : decode cX8_beginAnew 36 = .ok (.getfield 57, 3) := by decide +kernel
theorem dX8_beginAnew_39 : decode cX8_beginAnew 39 = .ok (.iload_n 1, 1) := by decide +kernel
theorem dX8_beginAnew_40 : decode cX8_beginAnew 40 = .ok (.iconst 0, 1) := by decide +kernel
theorem dX8_beginAnew_41 : decode cX8_beginAnew 41 = .ok (.bastore, 1) := by decide +kernel
theorem dX8_beginAnew_42 : decode cX8_beginAnew 42 = .ok (.iinc 1 1, 3) := by decide +kernel
theorem dX8_beginAnew_45 : decode cX8_beginAnew 45 = .ok (.goto (-15), 3) := by decide +kernel
theorem dX8_beginAnew_48 : decode cX8_beginAnew 48 = .ok (.return_, 1) := by decide +kernel
theorem dX8_read_0 : decode cX8_read 0 = .ok (.aload_n 0, 1) := by decide +kernel
theorem dX8_read_1 : decode cX8_read 1 = .ok (.getfield 35, 3) := by decide +kernel
theorem dX8_read_4 : decode cX8_read 4 = .ok (.aload_n 0, 1) := by decide +kernel
theorem dX8_read_5 : decode cX8_read 5 = .ok (.getfield 9, 3) := by decide +kernel
theorem dX8_read_8 : decode cX8_read 8 = .ok (.aload_n 0, 1) := by decide +kernel
theorem dX8_read_9 : decode cX8_read 9 = .ok (.getfield 13, 3) := by decide +kernel
theorem dX8_read_12 : decode cX8_read 12 = .ok (.aload_n 0, 1) := by decide +kernel
theorem dX8_read_13 : decode cX8_read 13 = .ok (.getfield 27, 3) := by decide +kernel
theorem dX8_read_16 : decode cX8_read 16 = .ok (.invokevirtual 92, 3) := by decide +kernel
theorem dX8_read_19 : decode cX8_read 19 = .ok (.istore_n 1, 1) := by decide +kernel
theorem dX8_read_20 : decode cX8_read 20 = .ok (.aload_n 0, 1) := by decide +kernel
theorem dX8_read_21 : decode cX8_read 21 = .ok (.aload_n 0, 1) := by decide +kernel
theorem dX8_read_22 : decode cX8_read 22 = .ok (.getfield 35, 3) := by decide +kernel
theorem dX8_read_25 : decode cX8_read 25 = .ok (.invokevirtual 96, 3) := by decide +kernel
theorem dX8_read_28 : decode cX8_read 28 = .ok (.putfield 17, 3) := by decide +kernel
theorem dX8_read_31 : decode cX8_read 31 = .ok (.aload_n 0, 1) := by decide +kernel
theorem dX8_read_32 : decode cX8_read 32 = .ok (.iconst 0, 1) := by decide +kernel
theorem dX8_read_33 : decode cX8_read 33 = .ok (.putfield 13, 3) := by decide +kernel
theorem dX8_read_36 : decode cX8_read 36 = .ok (.iload_n 1, 1) := by decide +kernel
theorem dX8_read_37 : decode cX8_read 37 = .ok (.ifCond .ne 25, 3) := by decide +kernel
theorem dX8_read_40 : decode cX8_read 40 = .ok (.aload_n 0, 1) := by decide +kernel
theorem dX8_read_41 : decode cX8_read 41 = .ok (.getfield 23, 3) := by decide +kernel
theorem dX8_read_44 : decode cX8_read 44 = .ok (.astore_n 2, 1) := by decide +kernel
theorem dX8_read_45 : decode cX8_read 45 = .ok (.aload_n 0, 1) := by decide +kernel
theorem dX8_read_46 : decode cX8_read 46 = .ok (.aload_n 0, 1) := by decide +kernel
theorem dX8_read_47 : decode cX8_read 47 = .ok (.getfield 27, 3) := by decide +kernel
theorem dX8_read_50 : decode cX8_read 50 = .ok (.putfield 23, 3) := by decide +kernel
theorem dX8_read_53 : decode cX8_read 53 = .ok (.aload_n 0, 1) := by decide +kernel
theorem dX8_read_54 : decode cX8_read 54 = .ok (.aload_n 2, 1) := by decide +kernel
theorem dX8_read_55 : decode cX8_read 55 = .ok (.putfield 27, 3) := by decide +kernel
theorem dX8_read_58 : decode cX8_read 58 = .ok (.aload_n 0, 1) := by decide +kernel
theorem dX8_read_59 : decode cX8_read 59 = .ok (.invokevirtual 100, 3) := by decide +kernel
theorem dX8_read_62 : decode cX8_read 62 = .ok (.iload_n 1, 1) := by decide +kernel
theorem dX8_read_63 : decode cX8_read 63 = .ok (.ireturn, 1) := by decide +kernel
theorem dX8_isSession_0 : decode cX8_isSession 0 = .ok (.iload_n 0, 1) := by decide +kernel
theorem dX8_isSession_1 : decode cX8_isSession 1 = .ok (.ifCond .lt 12, 3) := by decide +kernel
theorem dX8_isSession_4 : decode cX8_isSession 4 = .ok (.iload_n 0, 1) := by decide +kernel
theorem dX8_isSession_5 : decode cX8_isSession 5 = .ok (.iconst 4, 1) := by decide +kernel
theorem dX8_isSession_6 : decode cX8_isSession 6 = .ok (.if_icmp .ge 7, 3) := by decide +kernel
theorem dX8_isSession_9 : decode cX8_isSession 9 = .ok (.iconst 1, 1) := by decide +kernel
theorem dX8_isSession_10 : decode cX8_isSession 10 = .ok (.goto 4, 3) := by decide +kernel
theorem dX8_isSession_13 : decode cX8_isSession 13 = .ok (.iconst 0, 1) := by decide +kernel
theorem dX8_isSession_14 : decode cX8_isSession 14 = .ok (.ireturn, 1) := by decide +kernel
theorem dX8_isCopy_0 : decode cX8_isCopy 0 = .ok (.iload_n 1, 1) := by decide +kernel
theorem dX8_isCopy_1 : decode cX8_isCopy 1 = .ok (.ifCond .lt 18, 3) := by decide +kernel
theorem dX8_isCopy_4 : decode cX8_isCopy 4 = .ok (.iload_n 1, 1) := by decide +kernel
theorem dX8_isCopy_5 : decode cX8_isCopy 5 = .ok (.aload_n 0, 1) := by decide +kernel
theorem dX8_isCopy_6 : decode cX8_isCopy 6 = .ok (.getfield 23, 3) := by decide +kernel
theorem dX8_isCopy_9 : decode cX8_isCopy 9 = .ok (.getfield 78, 3) := by decide +kernel
theorem dX8_isCopy_12 : decode cX8_isCopy 12 = .ok (.if_icmp .ge 7, 3) := by decide +kernel
theorem dX8_isCopy_15 : decode cX8_isCopy 15 = .ok (.iconst 1, 1) := by decide +kernel
theorem dX8_isCopy_16 : decode cX8_isCopy 16 = .ok (.goto 4, 3) := by decide +kernel
theorem dX8_isCopy_19 : decode cX8_isCopy 19 = .ok (.iconst 0, 1) := by decide +kernel
theorem dX8_isCopy_20 : decode cX8_isCopy 20 = .ok (.ireturn, 1) := by decide +kernel
theorem dX8_make_0 : decode cX8_make 0 = .ok (.iload_n 1, 1) := by decide +kernel
theorem dX8_make_1 : decode cX8_make 1 = .ok (.iconst (-1), 1) := by decide +kernel
theorem dX8_make_2 : decode cX8_make 2 = .ok (.if_icmp .ne 7, 3) := by decide +kernel
theorem dX8_make_5 : decode cX8_make 5 = .ok (.iconst 1, 1) := by decide +kernel
theorem dX8_make_6 : decode cX8_make 6 = .ok (.goto 4, 3) := by decide +kernel
theorem dX8_make_9 : decode cX8_make 9 = .ok (.iconst 0, 1) := by decide +kernel
theorem dX8_make_10 : decode cX8_make 10 = .ok (.istore 5, 2) := by decide +kernel
theorem dX8_make_12 : decode cX8_make 12 = .ok (.iload 5, 2) := by decide +kernel
theorem dX8_make_14 : decode cX8_make 14 = .ok (.ifCond .ne 10, 3) := by decide +kernel
theorem dX8_make_17 : decode cX8_make 17 = .ok (.iload_n 1, 1) := by decide +kernel
theorem dX8_make_18 : decode cX8_make 18 = .ok (.invokestatic 103, 3) := by decide +kernel
theorem dX8_make_21 : decode cX8_make 21 = .ok (.ifCond .eq 26, 3) := by decide +kernel
theorem dX8_make_24 : decode cX8_make 24 = .ok (.aload_n 0, 1) := by decide +kernel
theorem dX8_make_25 : decode cX8_make 25 = .ok (.iload_n 2, 1) := by decide +kernel
theorem dX8_make_26 : decode cX8_make 26 = .ok (.invokevirtual 107, 3) := by decide +kernel
theorem dX8_make_29 : decode cX8_make 29 = .ok (.ifCond .eq 18, 3) := by decide +kernel
theorem dX8_make_32 : decode cX8_make 32 = .ok (.iload_n 3, 1) := by decide +kernel
theorem dX8_make_33 : decode cX8_make 33 = .ok (.ifCond .lt 14, 3) := by decide +kernel
theorem dX8_make_36 : decode cX8_make 36 = .ok (.iload_n 3, 1) := by decide +kernel
theorem dX8_make_37 : decode cX8_make 37 = .ok (.aload_n 0, 1) := by decide +kernel
theorem dX8_make_38 : decode cX8_make 38 = .ok (.getfield 23, 3) := by decide +kernel
theorem dX8_make_41 : decode cX8_make 41 = .ok (.getfield 110, 3) := by decide +kernel
theorem dX8_make_44 : decode cX8_make 44 = .ok (.if_icmp .lt 5, 3) := by decide +kernel
theorem dX8_make_47 : decode cX8_make 47 = .ok (.iconst (-1), 1) := by decide +kernel
theorem dX8_make_48 : decode cX8_make 48 = .ok (.ireturn, 1) := by decide +kernel
theorem dX8_make_49 : decode cX8_make 49 = .ok (.aload_n 0, 1) := by decide +kernel
theorem dX8_make_50 : decode cX8_make 50 = .ok (.getfield 49, 3) := by decide +kernel
theorem dX8_make_53 : decode cX8_make 53 = .ok (.aload_n 0, 1) := by decide +kernel
theorem dX8_make_54 : decode cX8_make 54 = .ok (.getfield 42, 3) := by decide +kernel
theorem dX8_make_57 : decode cX8_make 57 = .ok (.invokevirtual 113, 3) := by decide +kernel
theorem dX8_make_60 : decode cX8_make 60 = .ok (.aload_n 0, 1) := by decide +kernel
theorem dX8_make_61 : decode cX8_make 61 = .ok (.getfield 42, 3) := by decide +kernel
theorem dX8_make_64 : decode cX8_make 64 = .ok (.iload_n 2, 1) := by decide +kernel
theorem dX8_make_65 : decode cX8_make 65 = .ok (.invokevirtual 117, 3) := by decide +kernel
theorem dX8_make_68 : decode cX8_make 68 = .ok (.iload 5, 2) := by decide +kernel
theorem dX8_make_70 : decode cX8_make 70 = .ok (.ifCond .ne 30, 3) := by decide +kernel
theorem dX8_make_73 : decode cX8_make 73 = .ok (.aload_n 0, 1) := by decide +kernel
theorem dX8_make_74 : decode cX8_make 74 = .ok (.getfield 42, 3) := by decide +kernel
theorem dX8_make_77 : decode cX8_make 77 = .ok (.iload_n 1, 1) := by decide +kernel
theorem dX8_make_78 : decode cX8_make 78 = .ok (.iload_n 2, 1) := by decide +kernel
theorem dX8_make_79 : decode cX8_make 79 = .ok (.invokevirtual 120, 3) := by decide +kernel
theorem dX8_make_82 : decode cX8_make 82 = .ok (.ifCond .eq 18, 3) := by decide +kernel
theorem dX8_make_85 : decode cX8_make 85 = .ok (.aload_n 0, 1) := by decide +kernel
theorem dX8_make_86 : decode cX8_make 86 = .ok (.getfield 42, 3) := by decide +kernel
theorem dX8_make_89 : decode cX8_make 89 = .ok (.iload_n 1, 1) := by decide +kernel
theorem dX8_make_90 : decode cX8_make 90 = .ok (.invokevirtual 124, 3) := by decide +kernel
theorem dX8_make_93 : decode cX8_make 93 = .ok (.bipush (-2), 2) := by decide +kernel
theorem dX8_make_95 : decode cX8_make 95 = .ok (.istore 6, 2) := by decide +kernel
theorem dX8_make_97 : decode cX8_make 97 = .ok (.goto 35, 3) := by decide +kernel
theorem dX8_make_100 : decode cX8_make 100 = .ok (.aload_n 0, 1) := by decide +kernel
theorem dX8_make_101 : decode cX8_make 101 = .ok (.getfield 42, 3) := by decide +kernel
theorem dX8_make_104 : decode cX8_make 104 = .ok (.invokevirtual 127, 3) := by decide +kernel
theorem dX8_make_107 : decode cX8_make 107 = .ok (.bipush 60, 2) := by decide +kernel
theorem dX8_make_109 : decode cX8_make 109 = .ok (.if_icmp .lt 9, 3) := by decide +kernel
theorem dX8_make_112 : decode cX8_make 112 = .ok (.iconst (-1), 1) := by decide +kernel
theorem dX8_make_113 : decode cX8_make 113 = .ok (.istore 6, 2) := by decide +kernel
theorem dX8_make_115 : decode cX8_make 115 = .ok (.goto 17, 3) := by decide +kernel
theorem dX8_make_118 : decode cX8_make 118 = .ok (.aload_n 0, 1) := by decide +kernel
theorem dX8_make_119 : decode cX8_make 119 = .ok (.getfield 42, 3) := by decide +kernel
theorem dX8_make_122 : decode cX8_make 122 = .ok (.iload_n 1, 1) := by decide +kernel
theorem dX8_make_123 : decode cX8_make 123 = .ok (.iload_n 2, 1) := by decide +kernel
theorem dX8_make_124 : decode cX8_make 124 = .ok (.iload_n 3, 1) := by decide +kernel
theorem dX8_make_125 : decode cX8_make 125 = .ok (.iload 4, 2) := by decide +kernel
theorem dX8_make_127 : decode cX8_make 127 = .ok (.invokevirtual 130, 3) := by decide +kernel
theorem dX8_make_130 : decode cX8_make 130 = .ok (.istore 6, 2) := by decide +kernel
theorem dX8_make_132 : decode cX8_make 132 = .ok (.aload_n 0, 1) := by decide +kernel
theorem dX8_make_133 : decode cX8_make 133 = .ok (.getfield 42, 3) := by decide +kernel
theorem dX8_make_136 : decode cX8_make 136 = .ok (.iload_n 2, 1) := by decide +kernel
theorem dX8_make_137 : decode cX8_make 137 = .ok (.invokevirtual 134, 3) := by decide +kernel
theorem dX8_make_140 : decode cX8_make 140 = .ok (.iload 6, 2) := by decide +kernel
theorem dX8_make_142 : decode cX8_make 142 = .ok (.ireturn, 1) := by decide +kernel
theorem dX8_isCell_0 : decode cX8_isCell 0 = .ok (.iload_n 1, 1) := by decide +kernel
theorem dX8_isCell_1 : decode cX8_isCell 1 = .ok (.ifCond .lt 18, 3) := by decide +kernel
theorem dX8_isCell_4 : decode cX8_isCell 4 = .ok (.iload_n 1, 1) := by decide +kernel
theorem dX8_isCell_5 : decode cX8_isCell 5 = .ok (.aload_n 0, 1) := by decide +kernel
theorem dX8_isCell_6 : decode cX8_isCell 6 = .ok (.getfield 23, 3) := by decide +kernel
theorem dX8_isCell_9 : decode cX8_isCell 9 = .ok (.getfield 285, 3) := by decide +kernel
theorem dX8_isCell_12 : decode cX8_isCell 12 = .ok (.if_icmp .ge 7, 3) := by decide +kernel
theorem dX8_isCell_15 : decode cX8_isCell 15 = .ok (.iconst 1, 1) := by decide +kernel
theorem dX8_isCell_16 : decode cX8_isCell 16 = .ok (.goto 4, 3) := by decide +kernel
theorem dX8_isCell_19 : decode cX8_isCell 19 = .ok (.iconst 0, 1) := by decide +kernel
theorem dX8_isCell_20 : decode cX8_isCell 20 = .ok (.ireturn, 1) := by decide +kernel
theorem dX8_ask_0 : decode cX8_ask 0 = .ok (.iload_n 1, 1) := by decide +kernel
theorem dX8_ask_1 : decode cX8_ask 1 = .ok (.invokestatic 103, 3) := by decide +kernel
theorem dX8_ask_4 : decode cX8_ask 4 = .ok (.ifCond .eq 19, 3) := by decide +kernel
theorem dX8_ask_7 : decode cX8_ask 7 = .ok (.aload_n 0, 1) := by decide +kernel
theorem dX8_ask_8 : decode cX8_ask 8 = .ok (.iload_n 2, 1) := by decide +kernel
theorem dX8_ask_9 : decode cX8_ask 9 = .ok (.invokevirtual 107, 3) := by decide +kernel
theorem dX8_ask_12 : decode cX8_ask 12 = .ok (.ifCond .eq 11, 3) := by decide +kernel
theorem dX8_ask_15 : decode cX8_ask 15 = .ok (.aload_n 0, 1) := by decide +kernel
theorem dX8_ask_16 : decode cX8_ask 16 = .ok (.iload_n 3, 1) := by decide +kernel
theorem dX8_ask_17 : decode cX8_ask 17 = .ok (.invokevirtual 137, 3) := by decide +kernel
theorem dX8_ask_20 : decode cX8_ask 20 = .ok (.ifCond .ne 5, 3) := by decide +kernel
theorem dX8_ask_23 : decode cX8_ask 23 = .ok (.iconst (-1), 1) := by decide +kernel
theorem dX8_ask_24 : decode cX8_ask 24 = .ok (.ireturn, 1) := by decide +kernel
theorem dX8_ask_25 : decode cX8_ask 25 = .ok (.aload_n 0, 1) := by decide +kernel
theorem dX8_ask_26 : decode cX8_ask 26 = .ok (.getfield 49, 3) := by decide +kernel
theorem dX8_ask_29 : decode cX8_ask 29 = .ok (.aload_n 0, 1) := by decide +kernel
theorem dX8_ask_30 : decode cX8_ask 30 = .ok (.getfield 42, 3) := by decide +kernel
theorem dX8_ask_33 : decode cX8_ask 33 = .ok (.invokevirtual 113, 3) := by decide +kernel
theorem dX8_ask_36 : decode cX8_ask 36 = .ok (.aload_n 0, 1) := by decide +kernel
theorem dX8_ask_37 : decode cX8_ask 37 = .ok (.getfield 42, 3) := by decide +kernel
theorem dX8_ask_40 : decode cX8_ask 40 = .ok (.iload_n 2, 1) := by decide +kernel
theorem dX8_ask_41 : decode cX8_ask 41 = .ok (.invokevirtual 117, 3) := by decide +kernel
theorem dX8_ask_44 : decode cX8_ask 44 = .ok (.aload_n 0, 1) := by decide +kernel
theorem dX8_ask_45 : decode cX8_ask 45 = .ok (.getfield 42, 3) := by decide +kernel
theorem dX8_ask_48 : decode cX8_ask 48 = .ok (.iload_n 1, 1) := by decide +kernel
theorem dX8_ask_49 : decode cX8_ask 49 = .ok (.iload_n 2, 1) := by decide +kernel
theorem dX8_ask_50 : decode cX8_ask 50 = .ok (.invokevirtual 140, 3) := by decide +kernel
theorem dX8_ask_53 : decode cX8_ask 53 = .ok (.istore 4, 2) := by decide +kernel
theorem dX8_ask_55 : decode cX8_ask 55 = .ok (.iload 4, 2) := by decide +kernel
theorem dX8_ask_57 : decode cX8_ask 57 = .ok (.ifCond .eq 14, 3) := by decide +kernel
theorem dX8_ask_60 : decode cX8_ask 60 = .ok (.aload_n 0, 1) := by decide +kernel
theorem dX8_ask_61 : decode cX8_ask 61 = .ok (.getfield 42, 3) := by decide +kernel
theorem dX8_ask_64 : decode cX8_ask 64 = .ok (.iload_n 1, 1) := by decide +kernel
theorem dX8_ask_65 : decode cX8_ask 65 = .ok (.invokevirtual 124, 3) := by decide +kernel
theorem dX8_ask_68 : decode cX8_ask 68 = .ok (.goto 36, 3) := by decide +kernel
theorem dX8_ask_71 : decode cX8_ask 71 = .ok (.aload_n 0, 1) := by decide +kernel
theorem dX8_ask_72 : decode cX8_ask 72 = .ok (.getfield 64, 3) := by decide +kernel
theorem dX8_ask_75 : decode cX8_ask 75 = .ok (.aload_n 0, 1) := by decide +kernel
theorem dX8_ask_76 : decode cX8_ask 76 = .ok (.getfield 23, 3) := by decide +kernel
theorem dX8_ask_79 : decode cX8_ask 79 = .ok (.aload_n 0, 1) := by decide +kernel
theorem dX8_ask_80 : decode cX8_ask 80 = .ok (.getfield 42, 3) := by decide +kernel
theorem dX8_ask_83 : decode cX8_ask 83 = .ok (.iload_n 2, 1) := by decide +kernel
theorem dX8_ask_84 : decode cX8_ask 84 = .ok (.invokevirtual 143, 3) := by decide +kernel
theorem dX8_ask_87 : decode cX8_ask 87 = .ok (.aload_n 0, 1) := by decide +kernel
theorem dX8_ask_88 : decode cX8_ask 88 = .ok (.getfield 42, 3) := by decide +kernel
theorem dX8_ask_91 : decode cX8_ask 91 = .ok (.iload_n 1, 1) := by decide +kernel
theorem dX8_ask_92 : decode cX8_ask 92 = .ok (.iload_n 2, 1) := by decide +kernel
theorem dX8_ask_93 : decode cX8_ask 93 = .ok (.aload_n 0, 1) := by decide +kernel
theorem dX8_ask_94 : decode cX8_ask 94 = .ok (.getfield 64, 3) := by decide +kernel
theorem dX8_ask_97 : decode cX8_ask 97 = .ok (.iload_n 3, 1) := by decide +kernel
theorem dX8_ask_98 : decode cX8_ask 98 = .ok (.invokevirtual 147, 3) := by decide +kernel
theorem dX8_ask_101 : decode cX8_ask 101 = .ok (.invokevirtual 151, 3) := by decide +kernel
theorem dX8_ask_104 : decode cX8_ask 104 = .ok (.aload_n 0, 1) := by decide +kernel
theorem dX8_ask_105 : decode cX8_ask 105 = .ok (.getfield 42, 3) := by decide +kernel
theorem dX8_ask_108 : decode cX8_ask 108 = .ok (.iload_n 2, 1) := by decide +kernel
theorem dX8_ask_109 : decode cX8_ask 109 = .ok (.invokevirtual 134, 3) := by decide +kernel
theorem dX8_ask_112 : decode cX8_ask 112 = .ok (.iload 4, 2) := by decide +kernel
theorem dX8_ask_114 : decode cX8_ask 114 = .ok (.ifCond .eq 7, 3) := by decide +kernel
theorem dX8_ask_117 : decode cX8_ask 117 = .ok (.iconst 0, 1) := by decide +kernel
theorem dX8_ask_118 : decode cX8_ask 118 = .ok (.goto 4, 3) := by decide +kernel
theorem dX8_ask_121 : decode cX8_ask 121 = .ok (.iconst 1, 1) := by decide +kernel
theorem dX8_ask_122 : decode cX8_ask 122 = .ok (.ireturn, 1) := by decide +kernel
theorem dX8_got_0 : decode cX8_got 0 = .ok (.iload_n 1, 1) := by decide +kernel
theorem dX8_got_1 : decode cX8_got 1 = .ok (.invokestatic 103, 3) := by decide +kernel
theorem dX8_got_4 : decode cX8_got 4 = .ok (.ifCond .eq 16, 3) := by decide +kernel
theorem dX8_got_7 : decode cX8_got 7 = .ok (.aload_n 0, 1) := by decide +kernel
theorem dX8_got_8 : decode cX8_got 8 = .ok (.getfield 42, 3) := by decide +kernel
theorem dX8_got_11 : decode cX8_got 11 = .ok (.bipush 52, 2) := by decide +kernel
theorem dX8_got_13 : decode cX8_got 13 = .ok (.iload_n 1, 1) := by decide +kernel
theorem dX8_got_14 : decode cX8_got 14 = .ok (.invokevirtual 155, 3) := by decide +kernel
theorem dX8_got_17 : decode cX8_got 17 = .ok (.goto 4, 3) := by decide +kernel
theorem dX8_got_20 : decode cX8_got 20 = .ok (.iconst 0, 1) := by decide +kernel
theorem dX8_got_21 : decode cX8_got 21 = .ok (.ireturn, 1) := by decide +kernel
theorem dX8_promise_0 : decode cX8_promise 0 = .ok (.iload_n 1, 1) := by decide +kernel
theorem dX8_promise_1 : decode cX8_promise 1 = .ok (.invokestatic 103, 3) := by decide +kernel
theorem dX8_promise_4 : decode cX8_promise 4 = .ok (.ifCond .eq 13, 3) := by decide +kernel
theorem dX8_promise_7 : decode cX8_promise 7 = .ok (.iload_n 2, 1) := by decide +kernel
theorem dX8_promise_8 : decode cX8_promise 8 = .ok (.ifCond .lt 9, 3) := by decide +kernel
theorem dX8_promise_11 : decode cX8_promise 11 = .ok (.iload_n 2, 1) := by decide +kernel
theorem dX8_promise_12 : decode cX8_promise 12 = .ok (.bipush 15, 2) := by decide +kernel
theorem dX8_promise_14 : decode cX8_promise 14 = .ok (.if_icmp .le 5, 3) := by decide +kernel
theorem dX8_promise_17 : decode cX8_promise 17 = .ok (.iconst 0, 1) := by decide +kernel
theorem dX8_promise_18 : decode cX8_promise 18 = .ok (.ireturn, 1) := by decide +kernel
theorem dX8_promise_19 : decode cX8_promise 19 = .ok (.aload_n 0, 1) := by decide +kernel
theorem dX8_promise_20 : decode cX8_promise 20 = .ok (.getfield 42, 3) := by decide +kernel
theorem dX8_promise_23 : decode cX8_promise 23 = .ok (.bipush 44, 2) := by decide +kernel
theorem dX8_promise_25 : decode cX8_promise 25 = .ok (.iload_n 1, 1) := by decide +kernel
theorem dX8_promise_26 : decode cX8_promise 26 = .ok (.invokevirtual 155, 3) := by decide +kernel
theorem dX8_promise_29 : decode cX8_promise 29 = .ok (.iload_n 2, 1) := by decide +kernel
theorem dX8_promise_30 : decode cX8_promise 30 = .ok (.if_icmp .ne 5, 3) := by decide +kernel
theorem dX8_promise_33 : decode cX8_promise 33 = .ok (.iconst 0, 1) := by decide +kernel
theorem dX8_promise_34 : decode cX8_promise 34 = .ok (.ireturn, 1) := by decide +kernel
theorem dX8_promise_35 : decode cX8_promise 35 = .ok (.aload_n 0, 1) := by decide +kernel
theorem dX8_promise_36 : decode cX8_promise 36 = .ok (.getfield 49, 3) := by decide +kernel
theorem dX8_promise_39 : decode cX8_promise 39 = .ok (.aload_n 0, 1) := by decide +kernel
theorem dX8_promise_40 : decode cX8_promise 40 = .ok (.getfield 42, 3) := by decide +kernel
theorem dX8_promise_43 : decode cX8_promise 43 = .ok (.invokevirtual 113, 3) := by decide +kernel
theorem dX8_promise_46 : decode cX8_promise 46 = .ok (.aload_n 0, 1) := by decide +kernel
theorem dX8_promise_47 : decode cX8_promise 47 = .ok (.getfield 42, 3) := by decide +kernel
theorem dX8_promise_50 : decode cX8_promise 50 = .ok (.iload_n 1, 1) := by decide +kernel
theorem dX8_promise_51 : decode cX8_promise 51 = .ok (.iload_n 2, 1) := by decide +kernel
theorem dX8_promise_52 : decode cX8_promise 52 = .ok (.invokevirtual 159, 3) := by decide +kernel
theorem dX8_promise_55 : decode cX8_promise 55 = .ok (.iconst 1, 1) := by decide +kernel
theorem dX8_promise_56 : decode cX8_promise 56 = .ok (.ireturn, 1) := by decide +kernel
theorem dX8_areCopies_0 : decode cX8_areCopies 0 = .ok (.aload_n 0, 1) := by decide +kernel
theorem dX8_areCopies_1 : decode cX8_areCopies 1 = .ok (.iload_n 1, 1) := by decide +kernel
theorem dX8_areCopies_2 : decode cX8_areCopies 2 = .ok (.invokevirtual 107, 3) := by decide +kernel
theorem dX8_areCopies_5 : decode cX8_areCopies 5 = .ok (.ifCond .eq 15, 3) := by decide +kernel
theorem dX8_areCopies_8 : decode cX8_areCopies 8 = .ok (.aload_n 0, 1) := by decide +kernel
theorem dX8_areCopies_9 : decode cX8_areCopies 9 = .ok (.iload_n 2, 1) := by decide +kernel
theorem dX8_areCopies_10 : decode cX8_areCopies 10 = .ok (.invokevirtual 107, 3) := by decide +kernel
theorem dX8_areCopies_13 : decode cX8_areCopies 13 = .ok (.ifCond .eq 7, 3) := by decide +kernel
theorem dX8_areCopies_16 : decode cX8_areCopies 16 = .ok (.iconst 1, 1) := by decide +kernel
theorem dX8_areCopies_17 : decode cX8_areCopies 17 = .ok (.goto 4, 3) := by decide +kernel
theorem dX8_areCopies_20 : decode cX8_areCopies 20 = .ok (.iconst 0, 1) := by decide +kernel
theorem dX8_areCopies_21 : decode cX8_areCopies 21 = .ok (.ireturn, 1) := by decide +kernel
theorem dX8_areTwoCopies_0 : decode cX8_areTwoCopies 0 = .ok (.aload_n 0, 1) := by decide +kernel
theorem dX8_areTwoCopies_1 : decode cX8_areTwoCopies 1 = .ok (.iload_n 1, 1) := by decide +kernel
theorem dX8_areTwoCopies_2 : decode cX8_areTwoCopies 2 = .ok (.iload_n 2, 1) := by decide +kernel
theorem dX8_areTwoCopies_3 : decode cX8_areTwoCopies 3 = .ok (.invokevirtual 277, 3) := by decide +kernel
theorem dX8_areTwoCopies_6 : decode cX8_areTwoCopies 6 = .ok (.ifCond .eq 12, 3) := by decide +kernel
theorem dX8_areTwoCopies_9 : decode cX8_areTwoCopies 9 = .ok (.iload_n 1, 1) := by decide +kernel
theorem dX8_areTwoCopies_10 : decode cX8_areTwoCopies 10 = .ok (.iload_n 2, 1) := by decide +kernel
theorem dX8_areTwoCopies_11 : decode cX8_areTwoCopies 11 = .ok (.if_icmp .eq 7, 3) := by decide +kernel
theorem dX8_areTwoCopies_14 : decode cX8_areTwoCopies 14 = .ok (.iconst 1, 1) := by decide +kernel
theorem dX8_areTwoCopies_15 : decode cX8_areTwoCopies 15 = .ok (.goto 4, 3) := by decide +kernel
theorem dX8_areTwoCopies_18 : decode cX8_areTwoCopies 18 = .ok (.iconst 0, 1) := by decide +kernel
theorem dX8_areTwoCopies_19 : decode cX8_areTwoCopies 19 = .ok (.ireturn, 1) := by decide +kernel
theorem dX8_meet_0 : decode cX8_meet 0 = .ok (.aload_n 0, 1) := by decide +kernel
theorem dX8_meet_1 : decode cX8_meet 1 = .ok (.iload_n 1, 1) := by decide +kernel
theorem dX8_meet_2 : decode cX8_meet 2 = .ok (.iload_n 2, 1) := by decide +kernel
theorem dX8_meet_3 : decode cX8_meet 3 = .ok (.invokevirtual 162, 3) := by decide +kernel
theorem dX8_meet_6 : decode cX8_meet 6 = .ok (.ifCond .ne 5, 3) := by decide +kernel
theorem dX8_meet_9 : decode cX8_meet 9 = .ok (.iconst (-1), 1) := by decide +kernel
theorem dX8_meet_10 : decode cX8_meet 10 = .ok (.ireturn, 1) := by decide +kernel
theorem dX8_meet_11 : decode cX8_meet 11 = .ok (.aload_n 0, 1) := by decide +kernel
theorem dX8_meet_12 : decode cX8_meet 12 = .ok (.getfield 49, 3) := by decide +kernel
theorem dX8_meet_15 : decode cX8_meet 15 = .ok (.aload_n 0, 1) := by decide +kernel
theorem dX8_meet_16 : decode cX8_meet 16 = .ok (.getfield 42, 3) := by decide +kernel
theorem dX8_meet_19 : decode cX8_meet 19 = .ok (.invokevirtual 113, 3) := by decide +kernel
theorem dX8_meet_22 : decode cX8_meet 22 = .ok (.aload_n 0, 1) := by decide +kernel
theorem dX8_meet_23 : decode cX8_meet 23 = .ok (.getfield 42, 3) := by decide +kernel
theorem dX8_meet_26 : decode cX8_meet 26 = .ok (.iload_n 1, 1) := by decide +kernel
theorem dX8_meet_27 : decode cX8_meet 27 = .ok (.iload_n 2, 1) := by decide +kernel
theorem dX8_meet_28 : decode cX8_meet 28 = .ok (.invokevirtual 165, 3) := by decide +kernel
theorem dX8_meet_31 : decode cX8_meet 31 = .ok (.ireturn, 1) := by decide +kernel
theorem dX8_lead_0 : decode cX8_lead 0 = .ok (.aload_n 0, 1) := by decide +kernel
theorem dX8_lead_1 : decode cX8_lead 1 = .ok (.iload_n 1, 1) := by decide +kernel
theorem dX8_lead_2 : decode cX8_lead 2 = .ok (.invokevirtual 107, 3) := by decide +kernel
theorem dX8_lead_5 : decode cX8_lead 5 = .ok (.ifCond .eq 32, 3) := by decide +kernel
theorem dX8_lead_8 : decode cX8_lead 8 = .ok (.iload_n 1, 1) := by decide +kernel
theorem dX8_lead_9 : decode cX8_lead 9 = .ok (.aload_n 0, 1) := by decide +kernel
theorem dX8_lead_10 : decode cX8_lead 10 = .ok (.getfield 42, 3) := by decide +kernel
theorem dX8_lead_13 : decode cX8_lead 13 = .ok (.invokevirtual 168, 3) := by decide +kernel
theorem dX8_lead_16 : decode cX8_lead 16 = .ok (.if_icmp .eq 21, 3) := by decide +kernel
theorem dX8_lead_19 : decode cX8_lead 19 = .ok (.aload_n 0, 1) := by decide +kernel
theorem dX8_lead_20 : decode cX8_lead 20 = .ok (.getfield 42, 3) := by decide +kernel
theorem dX8_lead_23 : decode cX8_lead 23 = .ok (.iload_n 1, 1) := by decide +kernel
theorem dX8_lead_24 : decode cX8_lead 24 = .ok (.invokevirtual 170, 3) := by decide +kernel
theorem dX8_lead_27 : decode cX8_lead 27 = .ok (.aload_n 0, 1) := by decide +kernel
theorem dX8_lead_28 : decode cX8_lead 28 = .ok (.getfield 42, 3) := by decide +kernel
theorem dX8_lead_31 : decode cX8_lead 31 = .ok (.invokevirtual 173, 3) := by decide +kernel
theorem dX8_lead_34 : decode cX8_lead 34 = .ok (.if_icmp .ge 5, 3) := by decide +kernel
theorem dX8_lead_37 : decode cX8_lead 37 = .ok (.iconst 0, 1) := by decide +kernel
theorem dX8_lead_38 : decode cX8_lead 38 = .ok (.ireturn, 1) := by decide +kernel
theorem dX8_lead_39 : decode cX8_lead 39 = .ok (.aload_n 0, 1) := by decide +kernel
theorem dX8_lead_40 : decode cX8_lead 40 = .ok (.getfield 49, 3) := by decide +kernel
theorem dX8_lead_43 : decode cX8_lead 43 = .ok (.aload_n 0, 1) := by decide +kernel
theorem dX8_lead_44 : decode cX8_lead 44 = .ok (.getfield 42, 3) := by decide +kernel
theorem dX8_lead_47 : decode cX8_lead 47 = .ok (.invokevirtual 113, 3) := by decide +kernel
theorem dX8_lead_50 : decode cX8_lead 50 = .ok (.aload_n 0, 1) := by decide +kernel
theorem dX8_lead_51 : decode cX8_lead 51 = .ok (.getfield 42, 3) := by decide +kernel
theorem dX8_lead_54 : decode cX8_lead 54 = .ok (.iload_n 1, 1) := by decide +kernel
theorem dX8_lead_55 : decode cX8_lead 55 = .ok (.invokevirtual 117, 3) := by decide +kernel
theorem dX8_lead_58 : decode cX8_lead 58 = .ok (.aload_n 0, 1) := by decide +kernel
theorem dX8_lead_59 : decode cX8_lead 59 = .ok (.getfield 42, 3) := by decide +kernel
theorem dX8_lead_62 : decode cX8_lead 62 = .ok (.iload_n 1, 1) := by decide +kernel
theorem dX8_lead_63 : decode cX8_lead 63 = .ok (.invokevirtual 176, 3) := by decide +kernel
theorem dX8_lead_66 : decode cX8_lead 66 = .ok (.aload_n 0, 1) := by decide +kernel
theorem dX8_lead_67 : decode cX8_lead 67 = .ok (.getfield 42, 3) := by decide +kernel
theorem dX8_lead_70 : decode cX8_lead 70 = .ok (.iload_n 1, 1) := by decide +kernel
theorem dX8_lead_71 : decode cX8_lead 71 = .ok (.invokevirtual 134, 3) := by decide +kernel
theorem dX8_lead_74 : decode cX8_lead 74 = .ok (.iconst 1, 1) := by decide +kernel
theorem dX8_lead_75 : decode cX8_lead 75 = .ok (.ireturn, 1) := by decide +kernel
theorem dX8_chance_0 : decode cX8_chance 0 = .ok (.iload_n 1, 1) := by decide +kernel
theorem dX8_chance_1 : decode cX8_chance 1 = .ok (.ifCond .lt 9, 3) := by decide +kernel
theorem dX8_chance_4 : decode cX8_chance 4 = .ok (.iload_n 1, 1) := by decide +kernel
theorem dX8_chance_5 : decode cX8_chance 5 = .ok (.bipush 60, 2) := by decide +kernel
theorem dX8_chance_7 : decode cX8_chance 7 = .ok (.if_icmp .le 5, 3) := by decide +kernel
theorem dX8_chance_10 : decode cX8_chance 10 = .ok (.iconst (-1), 1) := by decide +kernel
theorem dX8_chance_11 : decode cX8_chance 11 = .ok (.ireturn, 1) := by decide +kernel
theorem dX8_chance_12 : decode cX8_chance 12 = .ok (.iload_n 1, 1) := by decide +kernel
theorem dX8_chance_13 : decode cX8_chance 13 = .ok (.ifCond .le 14, 3) := by decide +kernel
theorem dX8_chance_16 : decode cX8_chance 16 = .ok (.aload_n 0, 1) := by decide +kernel
theorem dX8_chance_17 : decode cX8_chance 17 = .ok (.getfield 49, 3) := by decide +kernel
theorem dX8_chance_20 : decode cX8_chance 20 = .ok (.aload_n 0, 1) := by decide +kernel
theorem dX8_chance_21 : decode cX8_chance 21 = .ok (.getfield 42, 3) := by decide +kernel
theorem dX8_chance_24 : decode cX8_chance 24 = .ok (.invokevirtual 113, 3) := by decide +kernel
theorem dX8_chance_27 : decode cX8_chance 27 = .ok (.iconst 0, 1) := by decide +kernel
theorem dX8_chance_28 : decode cX8_chance 28 = .ok (.istore_n 2, 1) := by decide +kernel
theorem dX8_chance_29 : decode cX8_chance 29 = .ok (.iload_n 2, 1) := by decide +kernel
theorem dX8_chance_30 : decode cX8_chance 30 = .ok (.iload_n 1, 1) := by decide +kernel
theorem dX8_chance_31 : decode cX8_chance 31 = .ok (.if_icmp .ge 85, 3) := by decide +kernel
theorem dX8_chance_34 : decode cX8_chance 34 = .ok (.aload_n 0, 1) := by decide +kernel
theorem dX8_chance_35 : decode cX8_chance 35 = .ok (.getfield 42, 3) := by decide +kernel
theorem dX8_chance_38 : decode cX8_chance 38 = .ok (.invokevirtual 179, 3) := by decide +kernel
theorem dX8_chance_41 : decode cX8_chance 41 = .ok (.istore_n 3, 1) := by decide +kernel
theorem dX8_chance_42 : decode cX8_chance 42 = .ok (.aload_n 0, 1) := by decide +kernel
theorem dX8_chance_43 : decode cX8_chance 43 = .ok (.getfield 42, 3) := by decide +kernel
theorem dX8_chance_46 : decode cX8_chance 46 = .ok (.invokevirtual 182, 3) := by decide +kernel
theorem dX8_chance_49 : decode cX8_chance 49 = .ok (.aload_n 0, 1) := by decide +kernel
theorem dX8_chance_50 : decode cX8_chance 50 = .ok (.getfield 23, 3) := by decide +kernel
theorem dX8_chance_53 : decode cX8_chance 53 = .ok (.getfield 78, 3) := by decide +kernel
theorem dX8_chance_56 : decode cX8_chance 56 = .ok (.iconst 1, 1) := by decide +kernel
theorem dX8_chance_57 : decode cX8_chance 57 = .ok (.if_icmp .le 53, 3) := by decide +kernel
theorem dX8_chance_60 : decode cX8_chance 60 = .ok (.aload_n 0, 1) := by decide +kernel
theorem dX8_chance_61 : decode cX8_chance 61 = .ok (.getfield 23, 3) := by decide +kernel
theorem dX8_chance_64 : decode cX8_chance 64 = .ok (.getfield 78, 3) := by decide +kernel
theorem dX8_chance_67 : decode cX8_chance 67 = .ok (.aload_n 0, 1) := by decide +kernel
theorem dX8_chance_68 : decode cX8_chance 68 = .ok (.getfield 23, 3) := by decide +kernel
theorem dX8_chance_71 : decode cX8_chance 71 = .ok (.getfield 185, 3) := by decide +kernel
theorem dX8_chance_74 : decode cX8_chance 74 = .ok (.iload_n 3, 1) := by decide +kernel
theorem dX8_chance_75 : decode cX8_chance 75 = .ok (.invokestatic 188, 3) := by decide +kernel
theorem dX8_chance_78 : decode cX8_chance 78 = .ok (.istore 4, 2) := by decide +kernel
theorem dX8_chance_80 : decode cX8_chance 80 = .ok (.aload_n 0, 1) := by decide +kernel
theorem dX8_chance_81 : decode cX8_chance 81 = .ok (.getfield 42, 3) := by decide +kernel
theorem dX8_chance_84 : decode cX8_chance 84 = .ok (.iload 4, 2) := by decide +kernel
theorem dX8_chance_86 : decode cX8_chance 86 = .ok (.iload 4, 2) := by decide +kernel
theorem dX8_chance_88 : decode cX8_chance 88 = .ok (.aload_n 0, 1) := by decide +kernel
theorem dX8_chance_89 : decode cX8_chance 89 = .ok (.getfield 23, 3) := by decide +kernel
theorem dX8_chance_92 : decode cX8_chance 92 = .ok (.getfield 78, 3) := by decide +kernel
theorem dX8_chance_95 : decode cX8_chance 95 = .ok (.aload_n 0, 1) := by decide +kernel
theorem dX8_chance_96 : decode cX8_chance 96 = .ok (.getfield 23, 3) := by decide +kernel
theorem dX8_chance_99 : decode cX8_chance 99 = .ok (.getfield 185, 3) := by decide +kernel
theorem dX8_chance_102 : decode cX8_chance 102 = .ok (.iload_n 3, 1) := by decide +kernel
theorem dX8_chance_103 : decode cX8_chance 103 = .ok (.invokestatic 192, 3) := by decide +kernel
theorem dX8_chance_106 : decode cX8_chance 106 = .ok (.invokevirtual 165, 3) := by decide +kernel
theorem dX8_chance_109 : decode cX8_chance 109 = .ok (.pop, 1) := by decide +kernel
theorem dX8_chance_110 : decode cX8_chance 110 = .ok (.iinc 2 1, 3) := by decide +kernel
theorem dX8_chance_113 : decode cX8_chance 113 = .ok (.goto (-84), 3) := by decide +kernel
theorem dX8_chance_116 : decode cX8_chance 116 = .ok (.aload_n 0, 1) := by decide +kernel
theorem dX8_chance_117 : decode cX8_chance 117 = .ok (.getfield 42, 3) := by decide +kernel
theorem dX8_chance_120 : decode cX8_chance 120 = .ok (.invokevirtual 179, 3) := by decide +kernel
theorem dX8_chance_123 : decode cX8_chance 123 = .ok (.ireturn, 1) := by decide +kernel
theorem dX8_undo_0 : decode cX8_undo 0 = .ok (.aload_n 0, 1) := by decide +kernel
theorem dX8_undo_1 : decode cX8_undo 1 = .ok (.getfield 49, 3) := by decide +kernel
theorem dX8_undo_4 : decode cX8_undo 4 = .ok (.aload_n 0, 1) := by decide +kernel
theorem dX8_undo_5 : decode cX8_undo 5 = .ok (.getfield 42, 3) := by decide +kernel
theorem dX8_undo_8 : decode cX8_undo 8 = .ok (.invokevirtual 195, 3) := by decide +kernel
theorem dX8_undo_11 : decode cX8_undo 11 = .ok (.ireturn, 1) := by decide +kernel
theorem dX8_cell_0 : decode cX8_cell 0 = .ok (.aload_n 0, 1) := by decide +kernel
theorem dX8_cell_1 : decode cX8_cell 1 = .ok (.iload_n 1, 1) := by decide +kernel
theorem dX8_cell_2 : decode cX8_cell 2 = .ok (.invokevirtual 107, 3) := by decide +kernel
theorem dX8_cell_5 : decode cX8_cell 5 = .ok (.ifCond .eq 11, 3) := by decide +kernel
theorem dX8_cell_8 : decode cX8_cell 8 = .ok (.aload_n 0, 1) := by decide +kernel
theorem dX8_cell_9 : decode cX8_cell 9 = .ok (.iload_n 2, 1) := by decide +kernel
theorem dX8_cell_10 : decode cX8_cell 10 = .ok (.invokevirtual 137, 3) := by decide +kernel
theorem dX8_cell_13 : decode cX8_cell 13 = .ok (.ifCond .ne 5, 3) := by decide +kernel
theorem dX8_cell_16 : decode cX8_cell 16 = .ok (.iconst 0, 1) := by decide +kernel
theorem dX8_cell_17 : decode cX8_cell 17 = .ok (.ireturn, 1) := by decide +kernel
theorem dX8_cell_18 : decode cX8_cell 18 = .ok (.aload_n 0, 1) := by decide +kernel
theorem dX8_cell_19 : decode cX8_cell 19 = .ok (.getfield 64, 3) := by decide +kernel
theorem dX8_cell_22 : decode cX8_cell 22 = .ok (.aload_n 0, 1) := by decide +kernel
theorem dX8_cell_23 : decode cX8_cell 23 = .ok (.getfield 23, 3) := by decide +kernel
theorem dX8_cell_26 : decode cX8_cell 26 = .ok (.aload_n 0, 1) := by decide +kernel
theorem dX8_cell_27 : decode cX8_cell 27 = .ok (.getfield 42, 3) := by decide +kernel
theorem dX8_cell_30 : decode cX8_cell 30 = .ok (.iload_n 1, 1) := by decide +kernel
theorem dX8_cell_31 : decode cX8_cell 31 = .ok (.invokevirtual 143, 3) := by decide +kernel
theorem dX8_cell_34 : decode cX8_cell 34 = .ok (.iload_n 3, 1) := by decide +kernel
theorem dX8_cell_35 : decode cX8_cell 35 = .ok (.ifCond .eq 22, 3) := by decide +kernel
theorem dX8_cell_38 : decode cX8_cell 38 = .ok (.aload_n 0, 1) := by decide +kernel
theorem dX8_cell_39 : decode cX8_cell 39 = .ok (.getfield 64, 3) := by decide +kernel
theorem dX8_cell_42 : decode cX8_cell 42 = .ok (.iload_n 2, 1) := by decide +kernel
theorem dX8_cell_43 : decode cX8_cell 43 = .ok (.aload_n 0, 1) := by decide +kernel
theorem dX8_cell_44 : decode cX8_cell 44 = .ok (.getfield 42, 3) := by decide +kernel
theorem dX8_cell_47 : decode cX8_cell 47 = .ok (.iload_n 1, 1) := by decide +kernel
theorem dX8_cell_48 : decode cX8_cell 48 = .ok (.invokevirtual 170, 3) := by decide +kernel
theorem dX8_cell_51 : decode cX8_cell 51 = .ok (.invokevirtual 199, 3) := by decide +kernel
theorem dX8_cell_54 : decode cX8_cell 54 = .ok (.goto 11, 3) := by decide +kernel
theorem dX8_cell_57 : decode cX8_cell 57 = .ok (.aload_n 0, 1) := by decide +kernel
theorem dX8_cell_58 : decode cX8_cell 58 = .ok (.getfield 64, 3) := by decide +kernel
theorem dX8_cell_61 : decode cX8_cell 61 = .ok (.iload_n 2, 1) := by decide +kernel
theorem dX8_cell_62 : decode cX8_cell 62 = .ok (.invokevirtual 147, 3) := by decide +kernel
theorem dX8_cell_65 : decode cX8_cell 65 = .ok (.ireturn, 1) := by decide +kernel
theorem dX8_log_0 : decode cX8_log 0 = .ok (.aload_n 0, 1) := by decide +kernel
theorem dX8_log_1 : decode cX8_log 1 = .ok (.iload_n 1, 1) := by decide +kernel
theorem dX8_log_2 : decode cX8_log 2 = .ok (.invokevirtual 107, 3) := by decide +kernel
theorem dX8_log_5 : decode cX8_log 5 = .ok (.ifCond .eq 7, 3) := by decide +kernel
theorem dX8_log_8 : decode cX8_log 8 = .ok (.iload_n 2, 1) := by decide +kernel
theorem dX8_log_9 : decode cX8_log 9 = .ok (.ifCond .ge 5, 3) := by decide +kernel
theorem dX8_log_12 : decode cX8_log 12 = .ok (.iconst (-1), 1) := by decide +kernel
theorem dX8_log_13 : decode cX8_log 13 = .ok (.ireturn, 1) := by decide +kernel
theorem dX8_log_14 : decode cX8_log 14 = .ok (.aload_n 0, 1) := by decide +kernel
theorem dX8_log_15 : decode cX8_log 15 = .ok (.getfield 64, 3) := by decide +kernel
theorem dX8_log_18 : decode cX8_log 18 = .ok (.aload_n 0, 1) := by decide +kernel
theorem dX8_log_19 : decode cX8_log 19 = .ok (.getfield 42, 3) := by decide +kernel
theorem dX8_log_22 : decode cX8_log 22 = .ok (.iload_n 1, 1) := by decide +kernel
theorem dX8_log_23 : decode cX8_log 23 = .ok (.invokevirtual 202, 3) := by decide +kernel
theorem dX8_log_26 : decode cX8_log 26 = .ok (.iload_n 2, 1) := by decide +kernel
theorem dX8_log_27 : decode cX8_log 27 = .ok (.aload_n 0, 1) := by decide +kernel
theorem dX8_log_28 : decode cX8_log 28 = .ok (.getfield 64, 3) := by decide +kernel
theorem dX8_log_31 : decode cX8_log 31 = .ok (.getfield 206, 3) := by decide +kernel
theorem dX8_log_34 : decode cX8_log 34 = .ok (.if_icmp .ge 15, 3) := by decide +kernel
theorem dX8_log_37 : decode cX8_log 37 = .ok (.aload_n 0, 1) := by decide +kernel
theorem dX8_log_38 : decode cX8_log 38 = .ok (.getfield 64, 3) := by decide +kernel
theorem dX8_log_41 : decode cX8_log 41 = .ok (.getfield 209, 3) := by decide +kernel
theorem dX8_log_44 : decode cX8_log 44 = .ok (.iload_n 2, 1) := by decide +kernel
theorem dX8_log_45 : decode cX8_log 45 = .ok (.iaload, 1) := by decide +kernel
theorem dX8_log_46 : decode cX8_log 46 = .ok (.goto 4, 3) := by decide +kernel
theorem dX8_log_49 : decode cX8_log 49 = .ok (.iconst (-1), 1) := by decide +kernel
theorem dX8_log_50 : decode cX8_log 50 = .ok (.ireturn, 1) := by decide +kernel
theorem dX8_isWrite_0 : decode cX8_isWrite 0 = .ok (.iload_n 1, 1) := by decide +kernel
theorem dX8_isWrite_1 : decode cX8_isWrite 1 = .ok (.ifCond .lt 18, 3) := by decide +kernel
theorem dX8_isWrite_4 : decode cX8_isWrite 4 = .ok (.iload_n 1, 1) := by decide +kernel
theorem dX8_isWrite_5 : decode cX8_isWrite 5 = .ok (.aload_n 0, 1) := by decide +kernel
theorem dX8_isWrite_6 : decode cX8_isWrite 6 = .ok (.getfield 42, 3) := by decide +kernel
theorem dX8_isWrite_9 : decode cX8_isWrite 9 = .ok (.invokevirtual 127, 3) := by decide +kernel
theorem dX8_isWrite_12 : decode cX8_isWrite 12 = .ok (.if_icmp .ge 7, 3) := by decide +kernel
theorem dX8_isWrite_15 : decode cX8_isWrite 15 = .ok (.iconst 1, 1) := by decide +kernel
theorem dX8_isWrite_16 : decode cX8_isWrite 16 = .ok (.goto 4, 3) := by decide +kernel
theorem dX8_isWrite_19 : decode cX8_isWrite 19 = .ok (.iconst 0, 1) := by decide +kernel
theorem dX8_isWrite_20 : decode cX8_isWrite 20 = .ok (.ireturn, 1) := by decide +kernel
theorem dX8_outcome_0 : decode cX8_outcome 0 = .ok (.aload_n 0, 1) := by decide +kernel
theorem dX8_outcome_1 : decode cX8_outcome 1 = .ok (.iload_n 1, 1) := by decide +kernel
theorem dX8_outcome_2 : decode cX8_outcome 2 = .ok (.invokevirtual 107, 3) := by decide +kernel
theorem dX8_outcome_5 : decode cX8_outcome 5 = .ok (.ifCond .eq 11, 3) := by decide +kernel
theorem dX8_outcome_8 : decode cX8_outcome 8 = .ok (.aload_n 0, 1) := by decide +kernel
theorem dX8_outcome_9 : decode cX8_outcome 9 = .ok (.iload_n 2, 1) := by decide +kernel
theorem dX8_outcome_10 : decode cX8_outcome 10 = .ok (.invokevirtual 213, 3) := by decide +kernel
theorem dX8_outcome_13 : decode cX8_outcome 13 = .ok (.ifCond .ne 5, 3) := by decide +kernel
theorem dX8_outcome_16 : decode cX8_outcome 16 = .ok (.iconst (-1), 1) := by decide +kernel
theorem dX8_outcome_17 : decode cX8_outcome 17 = .ok (.ireturn, 1) := by decide +kernel
theorem dX8_outcome_18 : decode cX8_outcome 18 = .ok (.aload_n 0, 1) := by decide +kernel
theorem dX8_outcome_19 : decode cX8_outcome 19 = .ok (.getfield 42, 3) := by decide +kernel
theorem dX8_outcome_22 : decode cX8_outcome 22 = .ok (.iload_n 1, 1) := by decide +kernel
theorem dX8_outcome_23 : decode cX8_outcome 23 = .ok (.iload_n 2, 1) := by decide +kernel
theorem dX8_outcome_24 : decode cX8_outcome 24 = .ok (.invokevirtual 216, 3) := by decide +kernel
theorem dX8_outcome_27 : decode cX8_outcome 27 = .ok (.ifCond .ne 6, 3) := by decide +kernel
theorem dX8_outcome_30 : decode cX8_outcome 30 = .ok (.bipush (-2), 2) := by decide +kernel
theorem dX8_outcome_32 : decode cX8_outcome 32 = .ok (.ireturn, 1) := by decide +kernel
theorem dX8_outcome_33 : decode cX8_outcome 33 = .ok (.aload_n 0, 1) := by decide +kernel
theorem dX8_outcome_34 : decode cX8_outcome 34 = .ok (.getfield 64, 3) := by decide +kernel
theorem dX8_outcome_37 : decode cX8_outcome 37 = .ok (.aload_n 0, 1) := by decide +kernel
theorem dX8_outcome_38 : decode cX8_outcome 38 = .ok (.getfield 23, 3) := by decide +kernel
theorem dX8_outcome_41 : decode cX8_outcome 41 = .ok (.aload_n 0, 1) := by decide +kernel
theorem dX8_outcome_42 : decode cX8_outcome 42 = .ok (.getfield 42, 3) := by decide +kernel
theorem dX8_outcome_45 : decode cX8_outcome 45 = .ok (.iload_n 1, 1) := by decide +kernel
theorem dX8_outcome_46 : decode cX8_outcome 46 = .ok (.invokevirtual 143, 3) := by decide +kernel
theorem dX8_outcome_49 : decode cX8_outcome 49 = .ok (.aload_n 0, 1) := by decide +kernel
theorem dX8_outcome_50 : decode cX8_outcome 50 = .ok (.getfield 64, 3) := by decide +kernel
theorem dX8_outcome_53 : decode cX8_outcome 53 = .ok (.aload_n 0, 1) := by decide +kernel
theorem dX8_outcome_54 : decode cX8_outcome 54 = .ok (.getfield 64, 3) := by decide +kernel
theorem dX8_outcome_57 : decode cX8_outcome 57 = .ok (.iload_n 2, 1) := by decide +kernel
theorem dX8_outcome_58 : decode cX8_outcome 58 = .ok (.invokevirtual 219, 3) := by decide +kernel
theorem dX8_outcome_61 : decode cX8_outcome 61 = .ok (.invokevirtual 222, 3) := by decide +kernel
theorem dX8_outcome_64 : decode cX8_outcome 64 = .ok (.ireturn, 1) := by decide +kernel
theorem dX8_write_0 : decode cX8_write 0 = .ok (.aload_n 0, 1) := by decide +kernel
theorem dX8_write_1 : decode cX8_write 1 = .ok (.iload_n 1, 1) := by decide +kernel
theorem dX8_write_2 : decode cX8_write 2 = .ok (.invokevirtual 213, 3) := by decide +kernel
theorem dX8_write_5 : decode cX8_write 5 = .ok (.ifCond .ne 5, 3) := by decide +kernel
theorem dX8_write_8 : decode cX8_write 8 = .ok (.iconst (-1), 1) := by decide +kernel
theorem dX8_write_9 : decode cX8_write 9 = .ok (.ireturn, 1) := by decide +kernel
theorem dX8_write_10 : decode cX8_write 10 = .ok (.iload_n 2, 1) := by decide +kernel
theorem dX8_write_11 : decode cX8_write 11 = .ok (.tableswitch 94 0 5 #[37, 47, 57, 67, 76, 85], 37) := by decide +kernel
theorem dX8_write_48 : decode cX8_write 48 = .ok (.aload_n 0, 1) := by decide +kernel
theorem dX8_write_49 : decode cX8_write 49 = .ok (.getfield 42, 3) := by decide +kernel
theorem dX8_write_52 : decode cX8_write 52 = .ok (.getfield 225, 3) := by decide +kernel
theorem dX8_write_55 : decode cX8_write 55 = .ok (.iload_n 1, 1) := by decide +kernel
theorem dX8_write_56 : decode cX8_write 56 = .ok (.iaload, 1) := by decide +kernel
theorem dX8_write_57 : decode cX8_write 57 = .ok (.ireturn, 1) := by decide +kernel
theorem dX8_write_58 : decode cX8_write 58 = .ok (.aload_n 0, 1) := by decide +kernel
theorem dX8_write_59 : decode cX8_write 59 = .ok (.getfield 42, 3) := by decide +kernel
theorem dX8_write_62 : decode cX8_write 62 = .ok (.getfield 228, 3) := by decide +kernel
theorem dX8_write_65 : decode cX8_write 65 = .ok (.iload_n 1, 1) := by decide +kernel
theorem dX8_write_66 : decode cX8_write 66 = .ok (.iaload, 1) := by decide +kernel
theorem dX8_write_67 : decode cX8_write 67 = .ok (.ireturn, 1) := by decide +kernel
theorem dX8_write_68 : decode cX8_write 68 = .ok (.aload_n 0, 1) := by decide +kernel
theorem dX8_write_69 : decode cX8_write 69 = .ok (.getfield 42, 3) := by decide +kernel
theorem dX8_write_72 : decode cX8_write 72 = .ok (.getfield 231, 3) := by decide +kernel
theorem dX8_write_75 : decode cX8_write 75 = .ok (.iload_n 1, 1) := by decide +kernel
theorem dX8_write_76 : decode cX8_write 76 = .ok (.iaload, 1) := by decide +kernel
theorem dX8_write_77 : decode cX8_write 77 = .ok (.ireturn, 1) := by decide +kernel
theorem dX8_write_78 : decode cX8_write 78 = .ok (.aload_n 0, 1) := by decide +kernel
theorem dX8_write_79 : decode cX8_write 79 = .ok (.getfield 42, 3) := by decide +kernel
theorem dX8_write_82 : decode cX8_write 82 = .ok (.iload_n 1, 1) := by decide +kernel
theorem dX8_write_83 : decode cX8_write 83 = .ok (.invokevirtual 234, 3) := by decide +kernel
theorem dX8_write_86 : decode cX8_write 86 = .ok (.ireturn, 1) := by decide +kernel
theorem dX8_write_87 : decode cX8_write 87 = .ok (.aload_n 0, 1) := by decide +kernel
theorem dX8_write_88 : decode cX8_write 88 = .ok (.getfield 42, 3) := by decide +kernel
theorem dX8_write_91 : decode cX8_write 91 = .ok (.iload_n 1, 1) := by decide +kernel
theorem dX8_write_92 : decode cX8_write 92 = .ok (.invokevirtual 237, 3) := by decide +kernel
theorem dX8_write_95 : decode cX8_write 95 = .ok (.ireturn, 1) := by decide +kernel
theorem dX8_write_96 : decode cX8_write 96 = .ok (.aload_n 0, 1) := by decide +kernel
theorem dX8_write_97 : decode cX8_write 97 = .ok (.getfield 42, 3) := by decide +kernel
theorem dX8_write_100 : decode cX8_write 100 = .ok (.iload_n 1, 1) := by decide +kernel
theorem dX8_write_101 : decode cX8_write 101 = .ok (.invokevirtual 240, 3) := by decide +kernel
theorem dX8_write_104 : decode cX8_write 104 = .ok (.ireturn, 1) := by decide +kernel
theorem dX8_write_105 : decode cX8_write 105 = .ok (.iconst (-1), 1) := by decide +kernel
theorem dX8_write_106 : decode cX8_write 106 = .ok (.ireturn, 1) := by decide +kernel
theorem dX8_with_0 : decode cX8_with 0 = .ok (.aload_n 0, 1) := by decide +kernel
theorem dX8_with_1 : decode cX8_with 1 = .ok (.iload_n 1, 1) := by decide +kernel
theorem dX8_with_2 : decode cX8_with 2 = .ok (.invokevirtual 213, 3) := by decide +kernel
theorem dX8_with_5 : decode cX8_with 5 = .ok (.ifCond .eq 15, 3) := by decide +kernel
theorem dX8_with_8 : decode cX8_with 8 = .ok (.aload_n 0, 1) := by decide +kernel
theorem dX8_with_9 : decode cX8_with 9 = .ok (.getfield 42, 3) := by decide +kernel
theorem dX8_with_12 : decode cX8_with 12 = .ok (.getfield 243, 3) := by decide +kernel
theorem dX8_with_15 : decode cX8_with 15 = .ok (.iload_n 1, 1) := by decide +kernel
theorem dX8_with_16 : decode cX8_with 16 = .ok (.iaload, 1) := by decide +kernel
theorem dX8_with_17 : decode cX8_with 17 = .ok (.goto 4, 3) := by decide +kernel
theorem dX8_with_20 : decode cX8_with 20 = .ok (.iconst 0, 1) := by decide +kernel
theorem dX8_with_21 : decode cX8_with 21 = .ok (.ireturn, 1) := by decide +kernel
theorem dX8_mergedOf_0 : decode cX8_mergedOf 0 = .ok (.aload_n 0, 1) := by decide +kernel
theorem dX8_mergedOf_1 : decode cX8_mergedOf 1 = .ok (.getfield 64, 3) := by decide +kernel
theorem dX8_mergedOf_4 : decode cX8_mergedOf 4 = .ok (.aload_n 0, 1) := by decide +kernel
theorem dX8_mergedOf_5 : decode cX8_mergedOf 5 = .ok (.getfield 23, 3) := by decide +kernel
theorem dX8_mergedOf_8 : decode cX8_mergedOf 8 = .ok (.aload_n 0, 1) := by decide +kernel
theorem dX8_mergedOf_9 : decode cX8_mergedOf 9 = .ok (.getfield 42, 3) := by decide +kernel
theorem dX8_mergedOf_12 : decode cX8_mergedOf 12 = .ok (.iload_n 1, 1) := by decide +kernel
theorem dX8_mergedOf_13 : decode cX8_mergedOf 13 = .ok (.invokevirtual 143, 3) := by decide +kernel
theorem dX8_mergedOf_16 : decode cX8_mergedOf 16 = .ok (.aload_n 0, 1) := by decide +kernel
theorem dX8_mergedOf_17 : decode cX8_mergedOf 17 = .ok (.getfield 64, 3) := by decide +kernel
theorem dX8_mergedOf_20 : decode cX8_mergedOf 20 = .ok (.iconst 1, 1) := by decide +kernel
theorem dX8_mergedOf_21 : decode cX8_mergedOf 21 = .ok (.invokevirtual 361, 3) := by decide +kernel
theorem dX8_mergedOf_24 : decode cX8_mergedOf 24 = .ok (.ireturn, 1) := by decide +kernel
theorem dX8_idleOrStuckOf_0 : decode cX8_idleOrStuckOf 0 = .ok (.aload_n 0, 1) := by decide +kernel
theorem dX8_idleOrStuckOf_1 : decode cX8_idleOrStuckOf 1 = .ok (.getfield 64, 3) := by decide +kernel
theorem dX8_idleOrStuckOf_4 : decode cX8_idleOrStuckOf 4 = .ok (.aload_n 0, 1) := by decide +kernel
theorem dX8_idleOrStuckOf_5 : decode cX8_idleOrStuckOf 5 = .ok (.getfield 23, 3) := by decide +kernel
theorem dX8_idleOrStuckOf_8 : decode cX8_idleOrStuckOf 8 = .ok (.aload_n 0, 1) := by decide +kernel
theorem dX8_idleOrStuckOf_9 : decode cX8_idleOrStuckOf 9 = .ok (.getfield 42, 3) := by decide +kernel
theorem dX8_idleOrStuckOf_12 : decode cX8_idleOrStuckOf 12 = .ok (.iload_n 1, 1) := by decide +kernel
theorem dX8_idleOrStuckOf_13 : decode cX8_idleOrStuckOf 13 = .ok (.invokevirtual 143, 3) := by decide +kernel
theorem dX8_idleOrStuckOf_16 : decode cX8_idleOrStuckOf 16 = .ok (.aload_n 0, 1) := by decide +kernel
theorem dX8_idleOrStuckOf_17 : decode cX8_idleOrStuckOf 17 = .ok (.getfield 64, 3) := by decide +kernel
theorem dX8_idleOrStuckOf_20 : decode cX8_idleOrStuckOf 20 = .ok (.iconst 2, 1) := by decide +kernel
theorem dX8_idleOrStuckOf_21 : decode cX8_idleOrStuckOf 21 = .ok (.invokevirtual 361, 3) := by decide +kernel
theorem dX8_idleOrStuckOf_24 : decode cX8_idleOrStuckOf 24 = .ok (.aload_n 0, 1) := by decide +kernel
theorem dX8_idleOrStuckOf_25 : decode cX8_idleOrStuckOf 25 = .ok (.getfield 64, 3) := by decide +kernel
theorem dX8_idleOrStuckOf_28 : decode cX8_idleOrStuckOf 28 = .ok (.iconst 3, 1) := by decide +kernel
theorem dX8_idleOrStuckOf_29 : decode cX8_idleOrStuckOf 29 = .ok (.invokevirtual 361, 3) := by decide +kernel
theorem dX8_idleOrStuckOf_32 : decode cX8_idleOrStuckOf 32 = .ok (.iadd, 1) := by decide +kernel
theorem dX8_idleOrStuckOf_33 : decode cX8_idleOrStuckOf 33 = .ok (.ireturn, 1) := by decide +kernel
theorem dX8_copy_0 : decode cX8_copy 0 = .ok (.aload_n 0, 1) := by decide +kernel
theorem dX8_copy_1 : decode cX8_copy 1 = .ok (.iload_n 1, 1) := by decide +kernel
theorem dX8_copy_2 : decode cX8_copy 2 = .ok (.invokevirtual 107, 3) := by decide +kernel
theorem dX8_copy_5 : decode cX8_copy 5 = .ok (.ifCond .ne 5, 3) := by decide +kernel
theorem dX8_copy_8 : decode cX8_copy 8 = .ok (.iconst (-1), 1) := by decide +kernel
theorem dX8_copy_9 : decode cX8_copy 9 = .ok (.ireturn, 1) := by decide +kernel
theorem dX8_copy_10 : decode cX8_copy 10 = .ok (.iload_n 2, 1) := by decide +kernel
theorem dX8_copy_11 : decode cX8_copy 11 = .ok (.tableswitch 135 0 8 #[49, 58, 70, 79, 90, 101, 112, 123, 129], 49) := by decide +kernel
theorem dX8_copy_60 : decode cX8_copy 60 = .ok (.aload_n 0, 1) := by decide +kernel
theorem dX8_copy_61 : decode cX8_copy 61 = .ok (.getfield 42, 3) := by decide +kernel
theorem dX8_copy_64 : decode cX8_copy 64 = .ok (.iload_n 1, 1) := by decide +kernel
theorem dX8_copy_65 : decode cX8_copy 65 = .ok (.invokevirtual 246, 3) := by decide +kernel
theorem dX8_copy_68 : decode cX8_copy 68 = .ok (.ireturn, 1) := by decide +kernel
theorem dX8_copy_69 : decode cX8_copy 69 = .ok (.aload_n 0, 1) := by decide +kernel
theorem dX8_copy_70 : decode cX8_copy 70 = .ok (.getfield 42, 3) := by decide +kernel
theorem dX8_copy_73 : decode cX8_copy 73 = .ok (.iload_n 1, 1) := by decide +kernel
theorem dX8_copy_74 : decode cX8_copy 74 = .ok (.invokevirtual 249, 3) := by decide +kernel
theorem dX8_copy_77 : decode cX8_copy 77 = .ok (.invokestatic 253, 3) := by decide +kernel
theorem dX8_copy_80 : decode cX8_copy 80 = .ok (.ireturn, 1) := by decide +kernel
theorem dX8_copy_81 : decode cX8_copy 81 = .ok (.aload_n 0, 1) := by decide +kernel
theorem dX8_copy_82 : decode cX8_copy 82 = .ok (.getfield 42, 3) := by decide +kernel
theorem dX8_copy_85 : decode cX8_copy 85 = .ok (.iload_n 1, 1) := by decide +kernel
theorem dX8_copy_86 : decode cX8_copy 86 = .ok (.invokevirtual 170, 3) := by decide +kernel
theorem dX8_copy_89 : decode cX8_copy 89 = .ok (.ireturn, 1) := by decide +kernel
theorem dX8_copy_90 : decode cX8_copy 90 = .ok (.aload_n 0, 1) := by decide +kernel
theorem dX8_copy_91 : decode cX8_copy 91 = .ok (.getfield 42, 3) := by decide +kernel
theorem dX8_copy_94 : decode cX8_copy 94 = .ok (.bipush 16, 2) := by decide +kernel
theorem dX8_copy_96 : decode cX8_copy 96 = .ok (.iload_n 1, 1) := by decide +kernel
theorem dX8_copy_97 : decode cX8_copy 97 = .ok (.invokevirtual 259, 3) := by decide +kernel
theorem dX8_copy_100 : decode cX8_copy 100 = .ok (.ireturn, 1) := by decide +kernel
theorem dX8_copy_101 : decode cX8_copy 101 = .ok (.aload_n 0, 1) := by decide +kernel
theorem dX8_copy_102 : decode cX8_copy 102 = .ok (.getfield 42, 3) := by decide +kernel
theorem dX8_copy_105 : decode cX8_copy 105 = .ok (.bipush 21, 2) := by decide +kernel
theorem dX8_copy_107 : decode cX8_copy 107 = .ok (.iload_n 1, 1) := by decide +kernel
theorem dX8_copy_108 : decode cX8_copy 108 = .ok (.invokevirtual 259, 3) := by decide +kernel
theorem dX8_copy_111 : decode cX8_copy 111 = .ok (.ireturn, 1) := by decide +kernel
theorem dX8_copy_112 : decode cX8_copy 112 = .ok (.aload_n 0, 1) := by decide +kernel
theorem dX8_copy_113 : decode cX8_copy 113 = .ok (.getfield 42, 3) := by decide +kernel
theorem dX8_copy_116 : decode cX8_copy 116 = .ok (.bipush 26, 2) := by decide +kernel
theorem dX8_copy_118 : decode cX8_copy 118 = .ok (.iload_n 1, 1) := by decide +kernel
theorem dX8_copy_119 : decode cX8_copy 119 = .ok (.invokevirtual 259, 3) := by decide +kernel
theorem dX8_copy_122 : decode cX8_copy 122 = .ok (.ireturn, 1) := by decide +kernel
theorem dX8_copy_123 : decode cX8_copy 123 = .ok (.aload_n 0, 1) := by decide +kernel
theorem dX8_copy_124 : decode cX8_copy 124 = .ok (.getfield 42, 3) := by decide +kernel
theorem dX8_copy_127 : decode cX8_copy 127 = .ok (.bipush 31, 2) := by decide +kernel
theorem dX8_copy_129 : decode cX8_copy 129 = .ok (.iload_n 1, 1) := by decide +kernel
theorem dX8_copy_130 : decode cX8_copy 130 = .ok (.invokevirtual 259, 3) := by decide +kernel
theorem dX8_copy_133 : decode cX8_copy 133 = .ok (.ireturn, 1) := by decide +kernel
theorem dX8_copy_134 : decode cX8_copy 134 = .ok (.aload_n 0, 1) := by decide +kernel
theorem dX8_copy_135 : decode cX8_copy 135 = .ok (.iload_n 1, 1) := by decide +kernel
theorem dX8_copy_136 : decode cX8_copy 136 = .ok (.invokevirtual 262, 3) := by decide +kernel
theorem dX8_copy_139 : decode cX8_copy 139 = .ok (.ireturn, 1) := by decide +kernel
theorem dX8_copy_140 : decode cX8_copy 140 = .ok (.aload_n 0, 1) := by decide +kernel
theorem dX8_copy_141 : decode cX8_copy 141 = .ok (.iload_n 1, 1) := by decide +kernel
theorem dX8_copy_142 : decode cX8_copy 142 = .ok (.invokevirtual 265, 3) := by decide +kernel
theorem dX8_copy_145 : decode cX8_copy 145 = .ok (.ireturn, 1) := by decide +kernel
theorem dX8_copy_146 : decode cX8_copy 146 = .ok (.iconst (-1), 1) := by decide +kernel
theorem dX8_copy_147 : decode cX8_copy 147 = .ok (.ireturn, 1) := by decide +kernel
theorem dX8_vector_0 : decode cX8_vector 0 = .ok (.aload_n 0, 1) := by decide +kernel
theorem dX8_vector_1 : decode cX8_vector 1 = .ok (.iload_n 1, 1) := by decide +kernel
theorem dX8_vector_2 : decode cX8_vector 2 = .ok (.invokevirtual 107, 3) := by decide +kernel
theorem dX8_vector_5 : decode cX8_vector 5 = .ok (.ifCond .eq 23, 3) := by decide +kernel
theorem dX8_vector_8 : decode cX8_vector 8 = .ok (.aload_n 0, 1) := by decide +kernel
theorem dX8_vector_9 : decode cX8_vector 9 = .ok (.iload_n 2, 1) := by decide +kernel
theorem dX8_vector_10 : decode cX8_vector 10 = .ok (.invokevirtual 107, 3) := by decide +kernel
theorem dX8_vector_13 : decode cX8_vector 13 = .ok (.ifCond .eq 15, 3) := by decide +kernel
theorem dX8_vector_16 : decode cX8_vector 16 = .ok (.aload_n 0, 1) := by decide +kernel
theorem dX8_vector_17 : decode cX8_vector 17 = .ok (.getfield 42, 3) := by decide +kernel
theorem dX8_vector_20 : decode cX8_vector 20 = .ok (.iload_n 1, 1) := by decide +kernel
theorem dX8_vector_21 : decode cX8_vector 21 = .ok (.iload_n 2, 1) := by decide +kernel
theorem dX8_vector_22 : decode cX8_vector 22 = .ok (.invokevirtual 268, 3) := by decide +kernel
theorem dX8_vector_25 : decode cX8_vector 25 = .ok (.goto 4, 3) := by decide +kernel
theorem dX8_vector_28 : decode cX8_vector 28 = .ok (.iconst (-1), 1) := by decide +kernel
theorem dX8_vector_29 : decode cX8_vector 29 = .ok (.ireturn, 1) := by decide +kernel
theorem dX8_session_0 : decode cX8_session 0 = .ok (.iload_n 1, 1) := by decide +kernel
theorem dX8_session_1 : decode cX8_session 1 = .ok (.invokestatic 103, 3) := by decide +kernel
theorem dX8_session_4 : decode cX8_session 4 = .ok (.ifCond .eq 12, 3) := by decide +kernel
theorem dX8_session_7 : decode cX8_session 7 = .ok (.iload_n 2, 1) := by decide +kernel
theorem dX8_session_8 : decode cX8_session 8 = .ok (.ifCond .lt 8, 3) := by decide +kernel
theorem dX8_session_11 : decode cX8_session 11 = .ok (.iload_n 2, 1) := by decide +kernel
theorem dX8_session_12 : decode cX8_session 12 = .ok (.iconst 1, 1) := by decide +kernel
theorem dX8_session_13 : decode cX8_session 13 = .ok (.if_icmp .le 5, 3) := by decide +kernel
theorem dX8_session_16 : decode cX8_session 16 = .ok (.iconst (-1), 1) := by decide +kernel
theorem dX8_session_17 : decode cX8_session 17 = .ok (.ireturn, 1) := by decide +kernel
theorem dX8_session_18 : decode cX8_session 18 = .ok (.aload_n 0, 1) := by decide +kernel
theorem dX8_session_19 : decode cX8_session 19 = .ok (.getfield 42, 3) := by decide +kernel
theorem dX8_session_22 : decode cX8_session 22 = .ok (.iload_n 2, 1) := by decide +kernel
theorem dX8_session_23 : decode cX8_session 23 = .ok (.ifCond .ne 8, 3) := by decide +kernel
theorem dX8_session_26 : decode cX8_session 26 = .ok (.bipush 44, 2) := by decide +kernel
theorem dX8_session_28 : decode cX8_session 28 = .ok (.goto 5, 3) := by decide +kernel
theorem dX8_session_31 : decode cX8_session 31 = .ok (.bipush 48, 2) := by decide +kernel
theorem dX8_session_33 : decode cX8_session 33 = .ok (.iload_n 1, 1) := by decide +kernel
theorem dX8_session_34 : decode cX8_session 34 = .ok (.invokevirtual 155, 3) := by decide +kernel
theorem dX8_session_37 : decode cX8_session 37 = .ok (.ireturn, 1) := by decide +kernel
theorem dX8_of_0 : decode cX8_of 0 = .ok (.iload_n 1, 1) := by decide +kernel
theorem dX8_of_1 : decode cX8_of 1 = .ok (.invokestatic 103, 3) := by decide +kernel
theorem dX8_of_4 : decode cX8_of 4 = .ok (.ifCond .eq 11, 3) := by decide +kernel
theorem dX8_of_7 : decode cX8_of 7 = .ok (.aload_n 0, 1) := by decide +kernel
theorem dX8_of_8 : decode cX8_of 8 = .ok (.iload_n 2, 1) := by decide +kernel
theorem dX8_of_9 : decode cX8_of 9 = .ok (.invokevirtual 107, 3) := by decide +kernel
theorem dX8_of_12 : decode cX8_of 12 = .ok (.ifCond .ne 5, 3) := by decide +kernel
theorem dX8_of_15 : decode cX8_of 15 = .ok (.iconst (-1), 1) := by decide +kernel
theorem dX8_of_16 : decode cX8_of 16 = .ok (.ireturn, 1) := by decide +kernel
theorem dX8_of_17 : decode cX8_of 17 = .ok (.aload_n 0, 1) := by decide +kernel
theorem dX8_of_18 : decode cX8_of 18 = .ok (.getfield 42, 3) := by decide +kernel
theorem dX8_of_21 : decode cX8_of 21 = .ok (.iload_n 3, 1) := by decide +kernel
theorem dX8_of_22 : decode cX8_of 22 = .ok (.ifCond .eq 8, 3) := by decide +kernel
theorem dX8_of_25 : decode cX8_of 25 = .ok (.bipush 76, 2) := by decide +kernel
theorem dX8_of_27 : decode cX8_of 27 = .ok (.goto 5, 3) := by decide +kernel
theorem dX8_of_30 : decode cX8_of 30 = .ok (.bipush 56, 2) := by decide +kernel
theorem dX8_of_32 : decode cX8_of 32 = .ok (.iload_n 1, 1) := by decide +kernel
theorem dX8_of_33 : decode cX8_of 33 = .ok (.iload_n 2, 1) := by decide +kernel
theorem dX8_of_34 : decode cX8_of 34 = .ok (.invokevirtual 271, 3) := by decide +kernel
theorem dX8_of_37 : decode cX8_of 37 = .ok (.ireturn, 1) := by decide +kernel
theorem dX8_shut_0 : decode cX8_shut 0 = .ok (.iload_n 1, 1) := by decide +kernel
theorem dX8_shut_1 : decode cX8_shut 1 = .ok (.ifCond .lt 9, 3) := by decide +kernel
theorem dX8_shut_4 : decode cX8_shut 4 = .ok (.iload_n 1, 1) := by decide +kernel
theorem dX8_shut_5 : decode cX8_shut 5 = .ok (.bipush 8, 2) := by decide +kernel
theorem dX8_shut_7 : decode cX8_shut 7 = .ok (.if_icmp .lt 7, 3) := by decide +kernel
theorem dX8_shut_10 : decode cX8_shut 10 = .ok (.iconst (-1), 1) := by decide +kernel
theorem dX8_shut_11 : decode cX8_shut 11 = .ok (.goto 11, 3) := by decide +kernel
theorem dX8_shut_14 : decode cX8_shut 14 = .ok (.aload_n 0, 1) := by decide +kernel
theorem dX8_shut_15 : decode cX8_shut 15 = .ok (.getfield 42, 3) := by decide +kernel
theorem dX8_shut_18 : decode cX8_shut 18 = .ok (.iload_n 1, 1) := by decide +kernel
theorem dX8_shut_19 : decode cX8_shut 19 = .ok (.invokevirtual 274, 3) := by decide +kernel
theorem dX8_shut_22 : decode cX8_shut 22 = .ok (.ireturn, 1) := by decide +kernel
theorem dX8_lacks_0 : decode cX8_lacks 0 = .ok (.aload_n 0, 1) := by decide +kernel
theorem dX8_lacks_1 : decode cX8_lacks 1 = .ok (.iload_n 1, 1) := by decide +kernel
theorem dX8_lacks_2 : decode cX8_lacks 2 = .ok (.iload_n 2, 1) := by decide +kernel
theorem dX8_lacks_3 : decode cX8_lacks 3 = .ok (.invokevirtual 277, 3) := by decide +kernel
theorem dX8_lacks_6 : decode cX8_lacks 6 = .ok (.ifCond .eq 30, 3) := by decide +kernel
theorem dX8_lacks_9 : decode cX8_lacks 9 = .ok (.aload_n 0, 1) := by decide +kernel
theorem dX8_lacks_10 : decode cX8_lacks 10 = .ok (.getfield 42, 3) := by decide +kernel
theorem dX8_lacks_13 : decode cX8_lacks 13 = .ok (.iload_n 1, 1) := by decide +kernel
theorem dX8_lacks_14 : decode cX8_lacks 14 = .ok (.invokevirtual 249, 3) := by decide +kernel
theorem dX8_lacks_17 : decode cX8_lacks 17 = .ok (.aload_n 0, 1) := by decide +kernel
theorem dX8_lacks_18 : decode cX8_lacks 18 = .ok (.getfield 42, 3) := by decide +kernel
theorem dX8_lacks_21 : decode cX8_lacks 21 = .ok (.iload_n 2, 1) := by decide +kernel
theorem dX8_lacks_22 : decode cX8_lacks 22 = .ok (.invokevirtual 249, 3) := by decide +kernel
theorem dX8_lacks_25 : decode cX8_lacks 25 = .ok (.ldc2_w 280, 3) := by decide +kernel
theorem dX8_lacks_28 : decode cX8_lacks 28 = .ok (.lxor, 1) := by decide +kernel
theorem dX8_lacks_29 : decode cX8_lacks 29 = .ok (.land, 1) := by decide +kernel
theorem dX8_lacks_30 : decode cX8_lacks 30 = .ok (.invokestatic 253, 3) := by decide +kernel
theorem dX8_lacks_33 : decode cX8_lacks 33 = .ok (.goto 4, 3) := by decide +kernel
theorem dX8_lacks_36 : decode cX8_lacks 36 = .ok (.iconst (-1), 1) := by decide +kernel
theorem dX8_lacks_37 : decode cX8_lacks 37 = .ok (.ireturn, 1) := by decide +kernel
theorem dX8_would_0 : decode cX8_would 0 = .ok (.aload_n 0, 1) := by decide +kernel
theorem dX8_would_1 : decode cX8_would 1 = .ok (.iload_n 1, 1) := by decide +kernel
theorem dX8_would_2 : decode cX8_would 2 = .ok (.iload_n 2, 1) := by decide +kernel
theorem dX8_would_3 : decode cX8_would 3 = .ok (.invokevirtual 162, 3) := by decide +kernel
theorem dX8_would_6 : decode cX8_would 6 = .ok (.ifCond .eq 15, 3) := by decide +kernel
theorem dX8_would_9 : decode cX8_would 9 = .ok (.aload_n 0, 1) := by decide +kernel
theorem dX8_would_10 : decode cX8_would 10 = .ok (.getfield 42, 3) := by decide +kernel
theorem dX8_would_13 : decode cX8_would 13 = .ok (.iload_n 1, 1) := by decide +kernel
theorem dX8_would_14 : decode cX8_would 14 = .ok (.iload_n 2, 1) := by decide +kernel
theorem dX8_would_15 : decode cX8_would 15 = .ok (.invokevirtual 282, 3) := by decide +kernel
theorem dX8_would_18 : decode cX8_would 18 = .ok (.goto 4, 3) := by decide +kernel
theorem dX8_would_21 : decode cX8_would 21 = .ok (.iconst (-1), 1) := by decide +kernel
theorem dX8_would_22 : decode cX8_would 22 = .ok (.ireturn, 1) := by decide +kernel
theorem dX8_differ_0 : decode cX8_differ 0 = .ok (.aload_n 0, 1) := by decide +kernel
theorem dX8_differ_1 : decode cX8_differ 1 = .ok (.iload_n 1, 1) := by decide +kernel
theorem dX8_differ_2 : decode cX8_differ 2 = .ok (.iload_n 2, 1) := by decide +kernel
theorem dX8_differ_3 : decode cX8_differ 3 = .ok (.invokevirtual 277, 3) := by decide +kernel
theorem dX8_differ_6 : decode cX8_differ 6 = .ok (.ifCond .ne 5, 3) := by decide +kernel
theorem dX8_differ_9 : decode cX8_differ 9 = .ok (.iconst (-1), 1) := by decide +kernel
theorem dX8_differ_10 : decode cX8_differ 10 = .ok (.ireturn, 1) := by decide +kernel
theorem dX8_differ_11 : decode cX8_differ 11 = .ok (.aload_n 0, 1) := by decide +kernel
theorem dX8_differ_12 : decode cX8_differ 12 = .ok (.getfield 64, 3) := by decide +kernel
theorem dX8_differ_15 : decode cX8_differ 15 = .ok (.aload_n 0, 1) := by decide +kernel
theorem dX8_differ_16 : decode cX8_differ 16 = .ok (.getfield 23, 3) := by decide +kernel
theorem dX8_differ_19 : decode cX8_differ 19 = .ok (.aload_n 0, 1) := by decide +kernel
theorem dX8_differ_20 : decode cX8_differ 20 = .ok (.getfield 42, 3) := by decide +kernel
theorem dX8_differ_23 : decode cX8_differ 23 = .ok (.iload_n 1, 1) := by decide +kernel
theorem dX8_differ_24 : decode cX8_differ 24 = .ok (.invokevirtual 143, 3) := by decide +kernel
theorem dX8_differ_27 : decode cX8_differ 27 = .ok (.aload_n 0, 1) := by decide +kernel
theorem dX8_differ_28 : decode cX8_differ 28 = .ok (.getfield 68, 3) := by decide +kernel
theorem dX8_differ_31 : decode cX8_differ 31 = .ok (.aload_n 0, 1) := by decide +kernel
theorem dX8_differ_32 : decode cX8_differ 32 = .ok (.getfield 23, 3) := by decide +kernel
theorem dX8_differ_35 : decode cX8_differ 35 = .ok (.aload_n 0, 1) := by decide +kernel
theorem dX8_differ_36 : decode cX8_differ 36 = .ok (.getfield 42, 3) := by decide +kernel
theorem dX8_differ_39 : decode cX8_differ 39 = .ok (.iload_n 2, 1) := by decide +kernel
theorem dX8_differ_40 : decode cX8_differ 40 = .ok (.invokevirtual 143, 3) := by decide +kernel
theorem dX8_differ_43 : decode cX8_differ 43 = .ok (.iconst 0, 1) := by decide +kernel
theorem dX8_differ_44 : decode cX8_differ 44 = .ok (.istore_n 3, 1) := by decide +kernel
theorem dX8_differ_45 : decode cX8_differ 45 = .ok (.iconst 0, 1) := by decide +kernel
theorem dX8_differ_46 : decode cX8_differ 46 = .ok (.istore 4, 2) := by decide +kernel
theorem dX8_differ_48 : decode cX8_differ 48 = .ok (.iload 4, 2) := by decide +kernel
theorem dX8_differ_50 : decode cX8_differ 50 = .ok (.aload_n 0, 1) := by decide +kernel
theorem dX8_differ_51 : decode cX8_differ 51 = .ok (.getfield 23, 3) := by decide +kernel
theorem dX8_differ_54 : decode cX8_differ 54 = .ok (.getfield 285, 3) := by decide +kernel
theorem dX8_differ_57 : decode cX8_differ 57 = .ok (.if_icmp .ge 37, 3) := by decide +kernel
theorem dX8_differ_60 : decode cX8_differ 60 = .ok (.aload_n 0, 1) := by decide +kernel
theorem dX8_differ_61 : decode cX8_differ 61 = .ok (.getfield 64, 3) := by decide +kernel
theorem dX8_differ_64 : decode cX8_differ 64 = .ok (.iload 4, 2) := by decide +kernel
theorem dX8_differ_66 : decode cX8_differ 66 = .ok (.invokevirtual 147, 3) := by decide +kernel
theorem dX8_differ_69 : decode cX8_differ 69 = .ok (.aload_n 0, 1) := by decide +kernel
theorem dX8_differ_70 : decode cX8_differ 70 = .ok (.getfield 68, 3) := by decide +kernel
theorem dX8_differ_73 : decode cX8_differ 73 = .ok (.iload 4, 2) := by decide +kernel
theorem dX8_differ_75 : decode cX8_differ 75 = .ok (.invokevirtual 147, 3) := by decide +kernel
theorem dX8_differ_78 : decode cX8_differ 78 = .ok (.if_icmp .eq 10, 3) := by decide +kernel
theorem dX8_differ_81 : decode cX8_differ 81 = .ok (.iload_n 3, 1) := by decide +kernel
theorem dX8_differ_82 : decode cX8_differ 82 = .ok (.iconst 1, 1) := by decide +kernel
theorem dX8_differ_83 : decode cX8_differ 83 = .ok (.iload 4, 2) := by decide +kernel
theorem dX8_differ_85 : decode cX8_differ 85 = .ok (.ishl, 1) := by decide +kernel
theorem dX8_differ_86 : decode cX8_differ 86 = .ok (.ior, 1) := by decide +kernel
theorem dX8_differ_87 : decode cX8_differ 87 = .ok (.istore_n 3, 1) := by decide +kernel
theorem dX8_differ_88 : decode cX8_differ 88 = .ok (.iinc 4 1, 3) := by decide +kernel
theorem dX8_differ_91 : decode cX8_differ 91 = .ok (.goto (-43), 3) := by decide +kernel
theorem dX8_differ_94 : decode cX8_differ 94 = .ok (.iload_n 3, 1) := by decide +kernel
theorem dX8_differ_95 : decode cX8_differ 95 = .ok (.ireturn, 1) := by decide +kernel
theorem dX8_alike_0 : decode cX8_alike 0 = .ok (.aload_n 0, 1) := by decide +kernel
theorem dX8_alike_1 : decode cX8_alike 1 = .ok (.iload_n 1, 1) := by decide +kernel
theorem dX8_alike_2 : decode cX8_alike 2 = .ok (.iload_n 2, 1) := by decide +kernel
theorem dX8_alike_3 : decode cX8_alike 3 = .ok (.invokevirtual 277, 3) := by decide +kernel
theorem dX8_alike_6 : decode cX8_alike 6 = .ok (.ifCond .ne 5, 3) := by decide +kernel
theorem dX8_alike_9 : decode cX8_alike 9 = .ok (.iconst (-1), 1) := by decide +kernel
theorem dX8_alike_10 : decode cX8_alike 10 = .ok (.ireturn, 1) := by decide +kernel
theorem dX8_alike_11 : decode cX8_alike 11 = .ok (.aload_n 0, 1) := by decide +kernel
theorem dX8_alike_12 : decode cX8_alike 12 = .ok (.getfield 42, 3) := by decide +kernel
theorem dX8_alike_15 : decode cX8_alike 15 = .ok (.iload_n 1, 1) := by decide +kernel
theorem dX8_alike_16 : decode cX8_alike 16 = .ok (.iload_n 2, 1) := by decide +kernel
theorem dX8_alike_17 : decode cX8_alike 17 = .ok (.invokevirtual 288, 3) := by decide +kernel
theorem dX8_alike_20 : decode cX8_alike 20 = .ok (.ifCond .eq 7, 3) := by decide +kernel
theorem dX8_alike_23 : decode cX8_alike 23 = .ok (.iconst 1, 1) := by decide +kernel
theorem dX8_alike_24 : decode cX8_alike 24 = .ok (.goto 4, 3) := by decide +kernel
theorem dX8_alike_27 : decode cX8_alike 27 = .ok (.iconst 0, 1) := by decide +kernel
theorem dX8_alike_28 : decode cX8_alike 28 = .ok (.ireturn, 1) := by decide +kernel
theorem dX8_hangs_0 : decode cX8_hangs 0 = .ok (.aload_n 0, 1) := by decide +kernel
theorem dX8_hangs_1 : decode cX8_hangs 1 = .ok (.iload_n 1, 1) := by decide +kernel
theorem dX8_hangs_2 : decode cX8_hangs 2 = .ok (.invokevirtual 107, 3) := by decide +kernel
theorem dX8_hangs_5 : decode cX8_hangs 5 = .ok (.ifCond .eq 20, 3) := by decide +kernel
theorem dX8_hangs_8 : decode cX8_hangs 8 = .ok (.aload_n 0, 1) := by decide +kernel
theorem dX8_hangs_9 : decode cX8_hangs 9 = .ok (.iload_n 2, 1) := by decide +kernel
theorem dX8_hangs_10 : decode cX8_hangs 10 = .ok (.invokevirtual 213, 3) := by decide +kernel
theorem dX8_hangs_13 : decode cX8_hangs 13 = .ok (.ifCond .eq 12, 3) := by decide +kernel
theorem dX8_hangs_16 : decode cX8_hangs 16 = .ok (.iload_n 3, 1) := by decide +kernel
theorem dX8_hangs_17 : decode cX8_hangs 17 = .ok (.ifCond .lt 8, 3) := by decide +kernel
theorem dX8_hangs_20 : decode cX8_hangs 20 = .ok (.iload_n 3, 1) := by decide +kernel
theorem dX8_hangs_21 : decode cX8_hangs 21 = .ok (.iconst 1, 1) := by decide +kernel
theorem dX8_hangs_22 : decode cX8_hangs 22 = .ok (.if_icmp .le 5, 3) := by decide +kernel
theorem dX8_hangs_25 : decode cX8_hangs 25 = .ok (.iconst (-1), 1) := by decide +kernel
theorem dX8_hangs_26 : decode cX8_hangs 26 = .ok (.ireturn, 1) := by decide +kernel
theorem dX8_hangs_27 : decode cX8_hangs 27 = .ok (.aload_n 0, 1) := by decide +kernel
theorem dX8_hangs_28 : decode cX8_hangs 28 = .ok (.getfield 42, 3) := by decide +kernel
theorem dX8_hangs_31 : decode cX8_hangs 31 = .ok (.iload_n 1, 1) := by decide +kernel
theorem dX8_hangs_32 : decode cX8_hangs 32 = .ok (.iload_n 2, 1) := by decide +kernel
theorem dX8_hangs_33 : decode cX8_hangs 33 = .ok (.invokevirtual 216, 3) := by decide +kernel
theorem dX8_hangs_36 : decode cX8_hangs 36 = .ok (.ifCond .ne 6, 3) := by decide +kernel
theorem dX8_hangs_39 : decode cX8_hangs 39 = .ok (.bipush (-3), 2) := by decide +kernel
theorem dX8_hangs_41 : decode cX8_hangs 41 = .ok (.ireturn, 1) := by decide +kernel
theorem dX8_hangs_42 : decode cX8_hangs 42 = .ok (.aload_n 0, 1) := by decide +kernel
theorem dX8_hangs_43 : decode cX8_hangs 43 = .ok (.getfield 64, 3) := by decide +kernel
theorem dX8_hangs_46 : decode cX8_hangs 46 = .ok (.aload_n 0, 1) := by decide +kernel
theorem dX8_hangs_47 : decode cX8_hangs 47 = .ok (.getfield 23, 3) := by decide +kernel
theorem dX8_hangs_50 : decode cX8_hangs 50 = .ok (.aload_n 0, 1) := by decide +kernel
theorem dX8_hangs_51 : decode cX8_hangs 51 = .ok (.getfield 42, 3) := by decide +kernel
theorem dX8_hangs_54 : decode cX8_hangs 54 = .ok (.iload_n 1, 1) := by decide +kernel
theorem dX8_hangs_55 : decode cX8_hangs 55 = .ok (.invokevirtual 143, 3) := by decide +kernel
theorem dX8_hangs_58 : decode cX8_hangs 58 = .ok (.aload_n 0, 1) := by decide +kernel
theorem dX8_hangs_59 : decode cX8_hangs 59 = .ok (.getfield 64, 3) := by decide +kernel
theorem dX8_hangs_62 : decode cX8_hangs 62 = .ok (.aload_n 0, 1) := by decide +kernel
theorem dX8_hangs_63 : decode cX8_hangs 63 = .ok (.getfield 23, 3) := by decide +kernel
theorem dX8_hangs_66 : decode cX8_hangs 66 = .ok (.aload_n 0, 1) := by decide +kernel
theorem dX8_hangs_67 : decode cX8_hangs 67 = .ok (.getfield 42, 3) := by decide +kernel
theorem dX8_hangs_70 : decode cX8_hangs 70 = .ok (.aload_n 0, 1) := by decide +kernel
theorem dX8_hangs_71 : decode cX8_hangs 71 = .ok (.getfield 64, 3) := by decide +kernel
theorem dX8_hangs_74 : decode cX8_hangs 74 = .ok (.iload_n 2, 1) := by decide +kernel
theorem dX8_hangs_75 : decode cX8_hangs 75 = .ok (.invokevirtual 219, 3) := by decide +kernel
theorem dX8_hangs_78 : decode cX8_hangs 78 = .ok (.invokevirtual 291, 3) := by decide +kernel
theorem dX8_hangs_81 : decode cX8_hangs 81 = .ok (.iload_n 3, 1) := by decide +kernel
theorem dX8_hangs_82 : decode cX8_hangs 82 = .ok (.ifCond .ne 13, 3) := by decide +kernel
theorem dX8_hangs_85 : decode cX8_hangs 85 = .ok (.aload_n 0, 1) := by decide +kernel
theorem dX8_hangs_86 : decode cX8_hangs 86 = .ok (.getfield 64, 3) := by decide +kernel
theorem dX8_hangs_89 : decode cX8_hangs 89 = .ok (.getfield 294, 3) := by decide +kernel
theorem dX8_hangs_92 : decode cX8_hangs 92 = .ok (.goto 10, 3) := by decide +kernel
theorem dX8_hangs_95 : decode cX8_hangs 95 = .ok (.aload_n 0, 1) := by decide +kernel
theorem dX8_hangs_96 : decode cX8_hangs 96 = .ok (.getfield 64, 3) := by decide +kernel
theorem dX8_hangs_99 : decode cX8_hangs 99 = .ok (.getfield 297, 3) := by decide +kernel
theorem dX8_hangs_102 : decode cX8_hangs 102 = .ok (.ireturn, 1) := by decide +kernel
theorem dX8_behind_0 : decode cX8_behind 0 = .ok (.aload_n 0, 1) := by decide +kernel
theorem dX8_behind_1 : decode cX8_behind 1 = .ok (.iload_n 1, 1) := by decide +kernel
theorem dX8_behind_2 : decode cX8_behind 2 = .ok (.invokevirtual 107, 3) := by decide +kernel
theorem dX8_behind_5 : decode cX8_behind 5 = .ok (.ifCond .eq 15, 3) := by decide +kernel
theorem dX8_behind_8 : decode cX8_behind 8 = .ok (.aload_n 0, 1) := by decide +kernel
theorem dX8_behind_9 : decode cX8_behind 9 = .ok (.iload_n 2, 1) := by decide +kernel
theorem dX8_behind_10 : decode cX8_behind 10 = .ok (.invokevirtual 137, 3) := by decide +kernel
theorem dX8_behind_13 : decode cX8_behind 13 = .ok (.ifCond .eq 7, 3) := by decide +kernel
theorem dX8_behind_16 : decode cX8_behind 16 = .ok (.iload_n 3, 1) := by decide +kernel
theorem dX8_behind_17 : decode cX8_behind 17 = .ok (.ifCond .ge 5, 3) := by decide +kernel
theorem dX8_behind_20 : decode cX8_behind 20 = .ok (.iconst 0, 1) := by decide +kernel
theorem dX8_behind_21 : decode cX8_behind 21 = .ok (.ireturn, 1) := by decide +kernel
theorem dX8_behind_22 : decode cX8_behind 22 = .ok (.aload_n 0, 1) := by decide +kernel
theorem dX8_behind_23 : decode cX8_behind 23 = .ok (.getfield 64, 3) := by decide +kernel
theorem dX8_behind_26 : decode cX8_behind 26 = .ok (.aload_n 0, 1) := by decide +kernel
theorem dX8_behind_27 : decode cX8_behind 27 = .ok (.getfield 23, 3) := by decide +kernel
theorem dX8_behind_30 : decode cX8_behind 30 = .ok (.aload_n 0, 1) := by decide +kernel
theorem dX8_behind_31 : decode cX8_behind 31 = .ok (.getfield 42, 3) := by decide +kernel
theorem dX8_behind_34 : decode cX8_behind 34 = .ok (.iload_n 1, 1) := by decide +kernel
theorem dX8_behind_35 : decode cX8_behind 35 = .ok (.invokevirtual 143, 3) := by decide +kernel
theorem dX8_behind_38 : decode cX8_behind 38 = .ok (.aload_n 0, 1) := by decide +kernel
theorem dX8_behind_39 : decode cX8_behind 39 = .ok (.getfield 64, 3) := by decide +kernel
theorem dX8_behind_42 : decode cX8_behind 42 = .ok (.iload_n 2, 1) := by decide +kernel
theorem dX8_behind_43 : decode cX8_behind 43 = .ok (.iload_n 3, 1) := by decide +kernel
theorem dX8_behind_44 : decode cX8_behind 44 = .ok (.invokevirtual 199, 3) := by decide +kernel
theorem dX8_behind_47 : decode cX8_behind 47 = .ok (.ireturn, 1) := by decide +kernel
theorem dX8_fork_0 : decode cX8_fork 0 = .ok (.aload_n 0, 1) := by decide +kernel
theorem dX8_fork_1 : decode cX8_fork 1 = .ok (.iload_n 1, 1) := by decide +kernel
theorem dX8_fork_2 : decode cX8_fork 2 = .ok (.iload_n 2, 1) := by decide +kernel
theorem dX8_fork_3 : decode cX8_fork 3 = .ok (.invokevirtual 277, 3) := by decide +kernel
theorem dX8_fork_6 : decode cX8_fork 6 = .ok (.ifCond .ne 5, 3) := by decide +kernel
theorem dX8_fork_9 : decode cX8_fork 9 = .ok (.iconst (-1), 1) := by decide +kernel
theorem dX8_fork_10 : decode cX8_fork 10 = .ok (.ireturn, 1) := by decide +kernel
theorem dX8_fork_11 : decode cX8_fork 11 = .ok (.aload_n 0, 1) := by decide +kernel
theorem dX8_fork_12 : decode cX8_fork 12 = .ok (.getfield 64, 3) := by decide +kernel
theorem dX8_fork_15 : decode cX8_fork 15 = .ok (.aload_n 0, 1) := by decide +kernel
theorem dX8_fork_16 : decode cX8_fork 16 = .ok (.getfield 42, 3) := by decide +kernel
theorem dX8_fork_19 : decode cX8_fork 19 = .ok (.iload_n 1, 1) := by decide +kernel
theorem dX8_fork_20 : decode cX8_fork 20 = .ok (.invokevirtual 202, 3) := by decide +kernel
theorem dX8_fork_23 : decode cX8_fork 23 = .ok (.aload_n 0, 1) := by decide +kernel
theorem dX8_fork_24 : decode cX8_fork 24 = .ok (.getfield 68, 3) := by decide +kernel
theorem dX8_fork_27 : decode cX8_fork 27 = .ok (.aload_n 0, 1) := by decide +kernel
theorem dX8_fork_28 : decode cX8_fork 28 = .ok (.getfield 42, 3) := by decide +kernel
theorem dX8_fork_31 : decode cX8_fork 31 = .ok (.iload_n 2, 1) := by decide +kernel
theorem dX8_fork_32 : decode cX8_fork 32 = .ok (.invokevirtual 202, 3) := by decide +kernel
theorem dX8_fork_35 : decode cX8_fork 35 = .ok (.aload_n 0, 1) := by decide +kernel
theorem dX8_fork_36 : decode cX8_fork 36 = .ok (.getfield 64, 3) := by decide +kernel
theorem dX8_fork_39 : decode cX8_fork 39 = .ok (.getfield 209, 3) := by decide +kernel
theorem dX8_fork_42 : decode cX8_fork 42 = .ok (.aload_n 0, 1) := by decide +kernel
theorem dX8_fork_43 : decode cX8_fork 43 = .ok (.getfield 64, 3) := by decide +kernel
theorem dX8_fork_46 : decode cX8_fork 46 = .ok (.getfield 206, 3) := by decide +kernel
theorem dX8_fork_49 : decode cX8_fork 49 = .ok (.aload_n 0, 1) := by decide +kernel
theorem dX8_fork_50 : decode cX8_fork 50 = .ok (.getfield 68, 3) := by decide +kernel
theorem dX8_fork_53 : decode cX8_fork 53 = .ok (.getfield 209, 3) := by decide +kernel
theorem dX8_fork_56 : decode cX8_fork 56 = .ok (.aload_n 0, 1) := by decide +kernel
theorem dX8_fork_57 : decode cX8_fork 57 = .ok (.getfield 68, 3) := by decide +kernel
theorem dX8_fork_60 : decode cX8_fork 60 = .ok (.getfield 206, 3) := by decide +kernel
theorem dX8_fork_63 : decode cX8_fork 63 = .ok (.invokestatic 300, 3) := by decide +kernel
theorem dX8_fork_66 : decode cX8_fork 66 = .ok (.ireturn, 1) := by decide +kernel
theorem dX8_key_0 : decode cX8_key 0 = .ok (.aload_n 0, 1) := by decide +kernel
theorem dX8_key_1 : decode cX8_key 1 = .ok (.iload_n 1, 1) := by decide +kernel
theorem dX8_key_2 : decode cX8_key 2 = .ok (.invokevirtual 107, 3) := by decide +kernel
theorem dX8_key_5 : decode cX8_key 5 = .ok (.ifCond .eq 12, 3) := by decide +kernel
theorem dX8_key_8 : decode cX8_key 8 = .ok (.iload_n 2, 1) := by decide +kernel
theorem dX8_key_9 : decode cX8_key 9 = .ok (.ifCond .lt 8, 3) := by decide +kernel
theorem dX8_key_12 : decode cX8_key 12 = .ok (.iload_n 2, 1) := by decide +kernel
theorem dX8_key_13 : decode cX8_key 13 = .ok (.iconst 1, 1) := by decide +kernel
theorem dX8_key_14 : decode cX8_key 14 = .ok (.if_icmp .le 5, 3) := by decide +kernel
theorem dX8_key_17 : decode cX8_key 17 = .ok (.iconst (-1), 1) := by decide +kernel
theorem dX8_key_18 : decode cX8_key 18 = .ok (.ireturn, 1) := by decide +kernel
theorem dX8_key_19 : decode cX8_key 19 = .ok (.aload_n 0, 1) := by decide +kernel
theorem dX8_key_20 : decode cX8_key 20 = .ok (.getfield 64, 3) := by decide +kernel
theorem dX8_key_23 : decode cX8_key 23 = .ok (.aload_n 0, 1) := by decide +kernel
theorem dX8_key_24 : decode cX8_key 24 = .ok (.getfield 23, 3) := by decide +kernel
theorem dX8_key_27 : decode cX8_key 27 = .ok (.aload_n 0, 1) := by decide +kernel
theorem dX8_key_28 : decode cX8_key 28 = .ok (.getfield 42, 3) := by decide +kernel
theorem dX8_key_31 : decode cX8_key 31 = .ok (.iload_n 1, 1) := by decide +kernel
theorem dX8_key_32 : decode cX8_key 32 = .ok (.invokevirtual 143, 3) := by decide +kernel
theorem dX8_key_35 : decode cX8_key 35 = .ok (.iconst 0, 1) := by decide +kernel
theorem dX8_key_36 : decode cX8_key 36 = .ok (.istore_n 3, 1) := by decide +kernel
theorem dX8_key_37 : decode cX8_key 37 = .ok (.bipush (-2), 2) := by decide +kernel
theorem dX8_key_39 : decode cX8_key 39 = .ok (.istore 4, 2) := by decide +kernel
theorem dX8_key_41 : decode cX8_key 41 = .ok (.iconst 0, 1) := by decide +kernel
theorem dX8_key_42 : decode cX8_key 42 = .ok (.istore 5, 2) := by decide +kernel
theorem dX8_key_44 : decode cX8_key 44 = .ok (.iload 5, 2) := by decide +kernel
theorem dX8_key_46 : decode cX8_key 46 = .ok (.aload_n 0, 1) := by decide +kernel
theorem dX8_key_47 : decode cX8_key 47 = .ok (.getfield 64, 3) := by decide +kernel
theorem dX8_key_50 : decode cX8_key 50 = .ok (.getfield 206, 3) := by decide +kernel
theorem dX8_key_53 : decode cX8_key 53 = .ok (.if_icmp .ge 57, 3) := by decide +kernel
theorem dX8_key_56 : decode cX8_key 56 = .ok (.aload_n 0, 1) := by decide +kernel
theorem dX8_key_57 : decode cX8_key 57 = .ok (.getfield 64, 3) := by decide +kernel
theorem dX8_key_60 : decode cX8_key 60 = .ok (.aload_n 0, 1) := by decide +kernel
theorem dX8_key_61 : decode cX8_key 61 = .ok (.getfield 23, 3) := by decide +kernel
theorem dX8_key_64 : decode cX8_key 64 = .ok (.aload_n 0, 1) := by decide +kernel
theorem dX8_key_65 : decode cX8_key 65 = .ok (.getfield 42, 3) := by decide +kernel
theorem dX8_key_68 : decode cX8_key 68 = .ok (.iload 5, 2) := by decide +kernel
theorem dX8_key_70 : decode cX8_key 70 = .ok (.invokevirtual 291, 3) := by decide +kernel
theorem dX8_key_73 : decode cX8_key 73 = .ok (.aload_n 0, 1) := by decide +kernel
theorem dX8_key_74 : decode cX8_key 74 = .ok (.getfield 64, 3) := by decide +kernel
theorem dX8_key_77 : decode cX8_key 77 = .ok (.getfield 294, 3) := by decide +kernel
theorem dX8_key_80 : decode cX8_key 80 = .ok (.iload_n 3, 1) := by decide +kernel
theorem dX8_key_81 : decode cX8_key 81 = .ok (.if_icmp .le 23, 3) := by decide +kernel
theorem dX8_key_84 : decode cX8_key 84 = .ok (.aload_n 0, 1) := by decide +kernel
theorem dX8_key_85 : decode cX8_key 85 = .ok (.getfield 64, 3) := by decide +kernel
theorem dX8_key_88 : decode cX8_key 88 = .ok (.getfield 294, 3) := by decide +kernel
theorem dX8_key_91 : decode cX8_key 91 = .ok (.istore_n 3, 1) := by decide +kernel
theorem dX8_key_92 : decode cX8_key 92 = .ok (.aload_n 0, 1) := by decide +kernel
theorem dX8_key_93 : decode cX8_key 93 = .ok (.getfield 64, 3) := by decide +kernel
theorem dX8_key_96 : decode cX8_key 96 = .ok (.getfield 209, 3) := by decide +kernel
theorem dX8_key_99 : decode cX8_key 99 = .ok (.iload 5, 2) := by decide +kernel
theorem dX8_key_101 : decode cX8_key 101 = .ok (.iaload, 1) := by decide +kernel
theorem dX8_key_102 : decode cX8_key 102 = .ok (.istore 4, 2) := by decide +kernel
theorem dX8_key_104 : decode cX8_key 104 = .ok (.iinc 5 1, 3) := by decide +kernel
theorem dX8_key_107 : decode cX8_key 107 = .ok (.goto (-63), 3) := by decide +kernel
theorem dX8_key_110 : decode cX8_key 110 = .ok (.iload 4, 2) := by decide +kernel
theorem dX8_key_112 : decode cX8_key 112 = .ok (.bipush (-2), 2) := by decide +kernel
theorem dX8_key_114 : decode cX8_key 114 = .ok (.if_icmp .ne 6, 3) := by decide +kernel
theorem dX8_key_117 : decode cX8_key 117 = .ok (.bipush (-2), 2) := by decide +kernel
theorem dX8_key_119 : decode cX8_key 119 = .ok (.ireturn, 1) := by decide +kernel
theorem dX8_key_120 : decode cX8_key 120 = .ok (.iload_n 2, 1) := by decide +kernel
theorem dX8_key_121 : decode cX8_key 121 = .ok (.ifCond .ne 8, 3) := by decide +kernel
theorem dX8_key_124 : decode cX8_key 124 = .ok (.iload 4, 2) := by decide +kernel
theorem dX8_key_126 : decode cX8_key 126 = .ok (.goto 4, 3) := by decide +kernel
theorem dX8_key_129 : decode cX8_key 129 = .ok (.iload_n 3, 1) := by decide +kernel
theorem dX8_key_130 : decode cX8_key 130 = .ok (.ireturn, 1) := by decide +kernel
theorem dX8_share_0 : decode cX8_share 0 = .ok (.aload_n 0, 1) := by decide +kernel
theorem dX8_share_1 : decode cX8_share 1 = .ok (.iload_n 1, 1) := by decide +kernel
theorem dX8_share_2 : decode cX8_share 2 = .ok (.invokevirtual 107, 3) := by decide +kernel
theorem dX8_share_5 : decode cX8_share 5 = .ok (.ifCond .ne 5, 3) := by decide +kernel
theorem dX8_share_8 : decode cX8_share 8 = .ok (.iconst (-1), 1) := by decide +kernel
theorem dX8_share_9 : decode cX8_share 9 = .ok (.ireturn, 1) := by decide +kernel
theorem dX8_share_10 : decode cX8_share 10 = .ok (.aload_n 0, 1) := by decide +kernel
theorem dX8_share_11 : decode cX8_share 11 = .ok (.getfield 42, 3) := by decide +kernel
theorem dX8_share_14 : decode cX8_share 14 = .ok (.invokevirtual 127, 3) := by decide +kernel
theorem dX8_share_17 : decode cX8_share 17 = .ok (.istore_n 2, 1) := by decide +kernel
theorem dX8_share_18 : decode cX8_share 18 = .ok (.iload_n 2, 1) := by decide +kernel
theorem dX8_share_19 : decode cX8_share 19 = .ok (.ifCond .ne 5, 3) := by decide +kernel
theorem dX8_share_22 : decode cX8_share 22 = .ok (.iconst 0, 1) := by decide +kernel
theorem dX8_share_23 : decode cX8_share 23 = .ok (.ireturn, 1) := by decide +kernel
theorem dX8_share_24 : decode cX8_share 24 = .ok (.ldc_w 304, 3) := by decide +kernel
theorem dX8_share_27 : decode cX8_share 27 = .ok (.aload_n 0, 1) := by decide +kernel
theorem dX8_share_28 : decode cX8_share 28 = .ok (.getfield 42, 3) := by decide +kernel
theorem dX8_share_31 : decode cX8_share 31 = .ok (.iload_n 1, 1) := by decide +kernel
theorem dX8_share_32 : decode cX8_share 32 = .ok (.invokevirtual 249, 3) := by decide +kernel
theorem dX8_share_35 : decode cX8_share 35 = .ok (.invokestatic 253, 3) := by decide +kernel
theorem dX8_share_38 : decode cX8_share 38 = .ok (.i2f, 1) := by decide +kernel
theorem dX8_share_39 : decode cX8_share 39 = .ok (.fmul, 1) := by decide +kernel
theorem dX8_share_40 : decode cX8_share 40 = .ok (.iload_n 2, 1) := by decide +kernel
theorem dX8_share_41 : decode cX8_share 41 = .ok (.i2f, 1) := by decide +kernel
theorem dX8_share_42 : decode cX8_share 42 = .ok (.fdiv, 1) := by decide +kernel
theorem dX8_share_43 : decode cX8_share 43 = .ok (.fstore_n 3, 1) := by decide +kernel
theorem dX8_share_44 : decode cX8_share 44 = .ok (.fload_n 3, 1) := by decide +kernel
theorem dX8_share_45 : decode cX8_share 45 = .ok (.f2i, 1) := by decide +kernel
theorem dX8_share_46 : decode cX8_share 46 = .ok (.ireturn, 1) := by decide +kernel
theorem dX8_setter_0 : decode cX8_setter 0 = .ok (.aload_n 0, 1) := by decide +kernel
theorem dX8_setter_1 : decode cX8_setter 1 = .ok (.iload_n 1, 1) := by decide +kernel
theorem dX8_setter_2 : decode cX8_setter 2 = .ok (.invokevirtual 107, 3) := by decide +kernel
theorem dX8_setter_5 : decode cX8_setter 5 = .ok (.ifCond .eq 11, 3) := by decide +kernel
theorem dX8_setter_8 : decode cX8_setter 8 = .ok (.aload_n 0, 1) := by decide +kernel
theorem dX8_setter_9 : decode cX8_setter 9 = .ok (.iload_n 2, 1) := by decide +kernel
theorem dX8_setter_10 : decode cX8_setter 10 = .ok (.invokevirtual 137, 3) := by decide +kernel
theorem dX8_setter_13 : decode cX8_setter 13 = .ok (.ifCond .ne 5, 3) := by decide +kernel
theorem dX8_setter_16 : decode cX8_setter 16 = .ok (.iconst (-1), 1) := by decide +kernel
theorem dX8_setter_17 : decode cX8_setter 17 = .ok (.ireturn, 1) := by decide +kernel
theorem dX8_setter_18 : decode cX8_setter 18 = .ok (.aload_n 0, 1) := by decide +kernel
theorem dX8_setter_19 : decode cX8_setter 19 = .ok (.getfield 64, 3) := by decide +kernel
theorem dX8_setter_22 : decode cX8_setter 22 = .ok (.aload_n 0, 1) := by decide +kernel
theorem dX8_setter_23 : decode cX8_setter 23 = .ok (.getfield 23, 3) := by decide +kernel
theorem dX8_setter_26 : decode cX8_setter 26 = .ok (.aload_n 0, 1) := by decide +kernel
theorem dX8_setter_27 : decode cX8_setter 27 = .ok (.getfield 42, 3) := by decide +kernel
theorem dX8_setter_30 : decode cX8_setter 30 = .ok (.iload_n 1, 1) := by decide +kernel
theorem dX8_setter_31 : decode cX8_setter 31 = .ok (.invokevirtual 143, 3) := by decide +kernel
theorem dX8_setter_34 : decode cX8_setter 34 = .ok (.aload_n 0, 1) := by decide +kernel
theorem dX8_setter_35 : decode cX8_setter 35 = .ok (.getfield 64, 3) := by decide +kernel
theorem dX8_setter_38 : decode cX8_setter 38 = .ok (.iload_n 2, 1) := by decide +kernel
theorem dX8_setter_39 : decode cX8_setter 39 = .ok (.invokevirtual 305, 3) := by decide +kernel
theorem dX8_setter_42 : decode cX8_setter 42 = .ok (.ireturn, 1) := by decide +kernel
theorem dX8_ahead_0 : decode cX8_ahead 0 = .ok (.aload_n 0, 1) := by decide +kernel
theorem dX8_ahead_1 : decode cX8_ahead 1 = .ok (.iload_n 1, 1) := by decide +kernel
theorem dX8_ahead_2 : decode cX8_ahead 2 = .ok (.invokevirtual 107, 3) := by decide +kernel
theorem dX8_ahead_5 : decode cX8_ahead 5 = .ok (.ifCond .eq 24, 3) := by decide +kernel
theorem dX8_ahead_8 : decode cX8_ahead 8 = .ok (.aload_n 0, 1) := by decide +kernel
theorem dX8_ahead_9 : decode cX8_ahead 9 = .ok (.iload_n 2, 1) := by decide +kernel
theorem dX8_ahead_10 : decode cX8_ahead 10 = .ok (.invokevirtual 213, 3) := by decide +kernel
theorem dX8_ahead_13 : decode cX8_ahead 13 = .ok (.ifCond .eq 16, 3) := by decide +kernel
theorem dX8_ahead_16 : decode cX8_ahead 16 = .ok (.aload_n 0, 1) := by decide +kernel
theorem dX8_ahead_17 : decode cX8_ahead 17 = .ok (.iload_n 3, 1) := by decide +kernel
theorem dX8_ahead_18 : decode cX8_ahead 18 = .ok (.invokevirtual 213, 3) := by decide +kernel
theorem dX8_ahead_21 : decode cX8_ahead 21 = .ok (.ifCond .eq 8, 3) := by decide +kernel
theorem dX8_ahead_24 : decode cX8_ahead 24 = .ok (.iload_n 2, 1) := by decide +kernel
theorem dX8_ahead_25 : decode cX8_ahead 25 = .ok (.iload_n 3, 1) := by decide +kernel
theorem dX8_ahead_26 : decode cX8_ahead 26 = .ok (.if_icmp .ne 5, 3) := by decide +kernel
theorem dX8_ahead_29 : decode cX8_ahead 29 = .ok (.iconst (-1), 1) := by decide +kernel
theorem dX8_ahead_30 : decode cX8_ahead 30 = .ok (.ireturn, 1) := by decide +kernel
theorem dX8_ahead_31 : decode cX8_ahead 31 = .ok (.aload_n 0, 1) := by decide +kernel
theorem dX8_ahead_32 : decode cX8_ahead 32 = .ok (.getfield 42, 3) := by decide +kernel
theorem dX8_ahead_35 : decode cX8_ahead 35 = .ok (.iload_n 1, 1) := by decide +kernel
theorem dX8_ahead_36 : decode cX8_ahead 36 = .ok (.iload_n 2, 1) := by decide +kernel
theorem dX8_ahead_37 : decode cX8_ahead 37 = .ok (.invokevirtual 216, 3) := by decide +kernel
theorem dX8_ahead_40 : decode cX8_ahead 40 = .ok (.ifCond .eq 15, 3) := by decide +kernel
theorem dX8_ahead_43 : decode cX8_ahead 43 = .ok (.aload_n 0, 1) := by decide +kernel
theorem dX8_ahead_44 : decode cX8_ahead 44 = .ok (.getfield 42, 3) := by decide +kernel
theorem dX8_ahead_47 : decode cX8_ahead 47 = .ok (.iload_n 1, 1) := by decide +kernel
theorem dX8_ahead_48 : decode cX8_ahead 48 = .ok (.iload_n 3, 1) := by decide +kernel
theorem dX8_ahead_49 : decode cX8_ahead 49 = .ok (.invokevirtual 216, 3) := by decide +kernel
theorem dX8_ahead_52 : decode cX8_ahead 52 = .ok (.ifCond .ne 6, 3) := by decide +kernel
theorem dX8_ahead_55 : decode cX8_ahead 55 = .ok (.bipush (-2), 2) := by decide +kernel
theorem dX8_ahead_57 : decode cX8_ahead 57 = .ok (.ireturn, 1) := by decide +kernel
theorem dX8_ahead_58 : decode cX8_ahead 58 = .ok (.aload_n 0, 1) := by decide +kernel
theorem dX8_ahead_59 : decode cX8_ahead 59 = .ok (.getfield 64, 3) := by decide +kernel
theorem dX8_ahead_62 : decode cX8_ahead 62 = .ok (.aload_n 0, 1) := by decide +kernel
theorem dX8_ahead_63 : decode cX8_ahead 63 = .ok (.getfield 42, 3) := by decide +kernel
theorem dX8_ahead_66 : decode cX8_ahead 66 = .ok (.iload_n 1, 1) := by decide +kernel
theorem dX8_ahead_67 : decode cX8_ahead 67 = .ok (.invokevirtual 202, 3) := by decide +kernel
theorem dX8_ahead_70 : decode cX8_ahead 70 = .ok (.aload_n 0, 1) := by decide +kernel
theorem dX8_ahead_71 : decode cX8_ahead 71 = .ok (.getfield 64, 3) := by decide +kernel
theorem dX8_ahead_74 : decode cX8_ahead 74 = .ok (.iload_n 2, 1) := by decide +kernel
theorem dX8_ahead_75 : decode cX8_ahead 75 = .ok (.invokevirtual 219, 3) := by decide +kernel
theorem dX8_ahead_78 : decode cX8_ahead 78 = .ok (.aload_n 0, 1) := by decide +kernel
theorem dX8_ahead_79 : decode cX8_ahead 79 = .ok (.getfield 64, 3) := by decide +kernel
theorem dX8_ahead_82 : decode cX8_ahead 82 = .ok (.iload_n 3, 1) := by decide +kernel
theorem dX8_ahead_83 : decode cX8_ahead 83 = .ok (.invokevirtual 219, 3) := by decide +kernel
theorem dX8_ahead_86 : decode cX8_ahead 86 = .ok (.if_icmp .ge 7, 3) := by decide +kernel
theorem dX8_ahead_89 : decode cX8_ahead 89 = .ok (.iconst 1, 1) := by decide +kernel
theorem dX8_ahead_90 : decode cX8_ahead 90 = .ok (.goto 4, 3) := by decide +kernel
theorem dX8_ahead_93 : decode cX8_ahead 93 = .ok (.iconst 0, 1) := by decide +kernel
theorem dX8_ahead_94 : decode cX8_ahead 94 = .ok (.ireturn, 1) := by decide +kernel
theorem dX8_may_0 : decode cX8_may 0 = .ok (.iload_n 1, 1) := by decide +kernel
theorem dX8_may_1 : decode cX8_may 1 = .ok (.invokestatic 103, 3) := by decide +kernel
theorem dX8_may_4 : decode cX8_may 4 = .ok (.ifCond .ne 5, 3) := by decide +kernel
theorem dX8_may_7 : decode cX8_may 7 = .ok (.iconst (-1), 1) := by decide +kernel
theorem dX8_may_8 : decode cX8_may 8 = .ok (.ireturn, 1) := by decide +kernel
theorem dX8_may_9 : decode cX8_may 9 = .ok (.iconst 0, 1) := by decide +kernel
theorem dX8_may_10 : decode cX8_may 10 = .ok (.istore_n 3, 1) := by decide +kernel
theorem dX8_may_11 : decode cX8_may 11 = .ok (.iconst 0, 1) := by decide +kernel
theorem dX8_may_12 : decode cX8_may 12 = .ok (.istore 4, 2) := by decide +kernel
theorem dX8_may_14 : decode cX8_may 14 = .ok (.iload 4, 2) := by decide +kernel
theorem dX8_may_16 : decode cX8_may 16 = .ok (.aload_n 0, 1) := by decide +kernel
theorem dX8_may_17 : decode cX8_may 17 = .ok (.getfield 23, 3) := by decide +kernel
theorem dX8_may_20 : decode cX8_may 20 = .ok (.getfield 78, 3) := by decide +kernel
theorem dX8_may_23 : decode cX8_may 23 = .ok (.if_icmp .ge 50, 3) := by decide +kernel
theorem dX8_may_26 : decode cX8_may 26 = .ok (.iload_n 2, 1) := by decide +kernel
theorem dX8_may_27 : decode cX8_may 27 = .ok (.ifCond .eq 16, 3) := by decide +kernel
theorem dX8_may_30 : decode cX8_may 30 = .ok (.aload_n 0, 1) := by decide +kernel
theorem dX8_may_31 : decode cX8_may 31 = .ok (.getfield 42, 3) := by decide +kernel
theorem dX8_may_34 : decode cX8_may 34 = .ok (.iload_n 1, 1) := by decide +kernel
theorem dX8_may_35 : decode cX8_may 35 = .ok (.iload 4, 2) := by decide +kernel
theorem dX8_may_37 : decode cX8_may 37 = .ok (.invokevirtual 120, 3) := by decide +kernel
theorem dX8_may_40 : decode cX8_may 40 = .ok (.goto 13, 3) := by decide +kernel
theorem dX8_may_43 : decode cX8_may 43 = .ok (.aload_n 0, 1) := by decide +kernel
theorem dX8_may_44 : decode cX8_may 44 = .ok (.getfield 42, 3) := by decide +kernel
theorem dX8_may_47 : decode cX8_may 47 = .ok (.iload_n 1, 1) := by decide +kernel
theorem dX8_may_48 : decode cX8_may 48 = .ok (.iload 4, 2) := by decide +kernel
theorem dX8_may_50 : decode cX8_may 50 = .ok (.invokevirtual 140, 3) := by decide +kernel
theorem dX8_may_53 : decode cX8_may 53 = .ok (.istore 5, 2) := by decide +kernel
theorem dX8_may_55 : decode cX8_may 55 = .ok (.iload 5, 2) := by decide +kernel
theorem dX8_may_57 : decode cX8_may 57 = .ok (.ifCond .ne 10, 3) := by decide +kernel
theorem dX8_may_60 : decode cX8_may 60 = .ok (.iload_n 3, 1) := by decide +kernel
theorem dX8_may_61 : decode cX8_may 61 = .ok (.iconst 1, 1) := by decide +kernel
theorem dX8_may_62 : decode cX8_may 62 = .ok (.iload 4, 2) := by decide +kernel
theorem dX8_may_64 : decode cX8_may 64 = .ok (.ishl, 1) := by decide +kernel
theorem dX8_may_65 : decode cX8_may 65 = .ok (.ior, 1) := by decide +kernel
theorem dX8_may_66 : decode cX8_may 66 = .ok (.istore_n 3, 1) := by decide +kernel
theorem dX8_may_67 : decode cX8_may 67 = .ok (.iinc 4 1, 3) := by decide +kernel
theorem dX8_may_70 : decode cX8_may 70 = .ok (.goto (-56), 3) := by decide +kernel
theorem dX8_may_73 : decode cX8_may 73 = .ok (.iload_n 3, 1) := by decide +kernel
theorem dX8_may_74 : decode cX8_may 74 = .ok (.ireturn, 1) := by decide +kernel
theorem dX8_plan_0 : decode cX8_plan 0 = .ok (.iload_n 1, 1) := by decide +kernel
theorem dX8_plan_1 : decode cX8_plan 1 = .ok (.ifCond .lt 8, 3) := by decide +kernel
theorem dX8_plan_4 : decode cX8_plan 4 = .ok (.iload_n 1, 1) := by decide +kernel
theorem dX8_plan_5 : decode cX8_plan 5 = .ok (.iconst 2, 1) := by decide +kernel
theorem dX8_plan_6 : decode cX8_plan 6 = .ok (.if_icmp .le 5, 3) := by decide +kernel
theorem dX8_plan_9 : decode cX8_plan 9 = .ok (.iconst (-1), 1) := by decide +kernel
theorem dX8_plan_10 : decode cX8_plan 10 = .ok (.ireturn, 1) := by decide +kernel
theorem dX8_plan_11 : decode cX8_plan 11 = .ok (.aload_n 0, 1) := by decide +kernel
theorem dX8_plan_12 : decode cX8_plan 12 = .ok (.getfield 42, 3) := by decide +kernel
theorem dX8_plan_15 : decode cX8_plan 15 = .ok (.invokevirtual 308, 3) := by decide +kernel
theorem dX8_plan_18 : decode cX8_plan 18 = .ok (.istore_n 2, 1) := by decide +kernel
theorem dX8_plan_19 : decode cX8_plan 19 = .ok (.aload_n 0, 1) := by decide +kernel
theorem dX8_plan_20 : decode cX8_plan 20 = .ok (.getfield 42, 3) := by decide +kernel
theorem dX8_plan_23 : decode cX8_plan 23 = .ok (.iload_n 2, 1) := by decide +kernel
theorem dX8_plan_24 : decode cX8_plan 24 = .ok (.invokevirtual 311, 3) := by decide +kernel
theorem dX8_plan_27 : decode cX8_plan 27 = .ok (.istore_n 3, 1) := by decide +kernel
theorem dX8_plan_28 : decode cX8_plan 28 = .ok (.iload_n 1, 1) := by decide +kernel
theorem dX8_plan_29 : decode cX8_plan 29 = .ok (.ifCond .ne 13, 3) := by decide +kernel
theorem dX8_plan_32 : decode cX8_plan 32 = .ok (.iload_n 2, 1) := by decide +kernel
theorem dX8_plan_33 : decode cX8_plan 33 = .ok (.invokestatic 314, 3) := by decide +kernel
theorem dX8_plan_36 : decode cX8_plan 36 = .ok (.iload_n 3, 1) := by decide +kernel
theorem dX8_plan_37 : decode cX8_plan 37 = .ok (.invokestatic 314, 3) := by decide +kernel
theorem dX8_plan_40 : decode cX8_plan 40 = .ok (.iadd, 1) := by decide +kernel
theorem dX8_plan_41 : decode cX8_plan 41 = .ok (.ireturn, 1) := by decide +kernel
theorem dX8_plan_42 : decode cX8_plan 42 = .ok (.iload_n 1, 1) := by decide +kernel
theorem dX8_plan_43 : decode cX8_plan 43 = .ok (.iconst 1, 1) := by decide +kernel
theorem dX8_plan_44 : decode cX8_plan 44 = .ok (.if_icmp .ne 7, 3) := by decide +kernel
theorem dX8_plan_47 : decode cX8_plan 47 = .ok (.iload_n 2, 1) := by decide +kernel
theorem dX8_plan_48 : decode cX8_plan 48 = .ok (.goto 4, 3) := by decide +kernel
theorem dX8_plan_51 : decode cX8_plan 51 = .ok (.iload_n 3, 1) := by decide +kernel
theorem dX8_plan_52 : decode cX8_plan 52 = .ok (.ireturn, 1) := by decide +kernel
theorem dX8_clash_0 : decode cX8_clash 0 = .ok (.aload_n 0, 1) := by decide +kernel
theorem dX8_clash_1 : decode cX8_clash 1 = .ok (.iload_n 1, 1) := by decide +kernel
theorem dX8_clash_2 : decode cX8_clash 2 = .ok (.invokevirtual 107, 3) := by decide +kernel
theorem dX8_clash_5 : decode cX8_clash 5 = .ok (.ifCond .ne 5, 3) := by decide +kernel
theorem dX8_clash_8 : decode cX8_clash 8 = .ok (.iconst (-1), 1) := by decide +kernel
theorem dX8_clash_9 : decode cX8_clash 9 = .ok (.ireturn, 1) := by decide +kernel
theorem dX8_clash_10 : decode cX8_clash 10 = .ok (.aload_n 0, 1) := by decide +kernel
theorem dX8_clash_11 : decode cX8_clash 11 = .ok (.getfield 64, 3) := by decide +kernel
theorem dX8_clash_14 : decode cX8_clash 14 = .ok (.aload_n 0, 1) := by decide +kernel
theorem dX8_clash_15 : decode cX8_clash 15 = .ok (.getfield 23, 3) := by decide +kernel
theorem dX8_clash_18 : decode cX8_clash 18 = .ok (.aload_n 0, 1) := by decide +kernel
theorem dX8_clash_19 : decode cX8_clash 19 = .ok (.getfield 42, 3) := by decide +kernel
theorem dX8_clash_22 : decode cX8_clash 22 = .ok (.iload_n 1, 1) := by decide +kernel
theorem dX8_clash_23 : decode cX8_clash 23 = .ok (.invokevirtual 143, 3) := by decide +kernel
theorem dX8_clash_26 : decode cX8_clash 26 = .ok (.iconst 0, 1) := by decide +kernel
theorem dX8_clash_27 : decode cX8_clash 27 = .ok (.istore_n 2, 1) := by decide +kernel
theorem dX8_clash_28 : decode cX8_clash 28 = .ok (.iload_n 2, 1) := by decide +kernel
theorem dX8_clash_29 : decode cX8_clash 29 = .ok (.aload_n 0, 1) := by decide +kernel
theorem dX8_clash_30 : decode cX8_clash 30 = .ok (.getfield 64, 3) := by decide +kernel
theorem dX8_clash_33 : decode cX8_clash 33 = .ok (.getfield 206, 3) := by decide +kernel
theorem dX8_clash_36 : decode cX8_clash 36 = .ok (.if_icmp .ge 30, 3) := by decide +kernel
theorem dX8_clash_39 : decode cX8_clash 39 = .ok (.aload_n 0, 1) := by decide +kernel
theorem dX8_clash_40 : decode cX8_clash 40 = .ok (.getfield 64, 3) := by decide +kernel
theorem dX8_clash_43 : decode cX8_clash 43 = .ok (.iload_n 2, 1) := by decide +kernel
theorem dX8_clash_44 : decode cX8_clash 44 = .ok (.invokevirtual 222, 3) := by decide +kernel
theorem dX8_clash_47 : decode cX8_clash 47 = .ok (.ifCond .eq 13, 3) := by decide +kernel
theorem dX8_clash_50 : decode cX8_clash 50 = .ok (.aload_n 0, 1) := by decide +kernel
theorem dX8_clash_51 : decode cX8_clash 51 = .ok (.getfield 64, 3) := by decide +kernel
theorem dX8_clash_54 : decode cX8_clash 54 = .ok (.getfield 209, 3) := by decide +kernel
theorem dX8_clash_57 : decode cX8_clash 57 = .ok (.iload_n 2, 1) := by decide +kernel
theorem dX8_clash_58 : decode cX8_clash 58 = .ok (.iaload, 1) := by decide +kernel
theorem dX8_clash_59 : decode cX8_clash 59 = .ok (.ireturn, 1) := by decide +kernel
theorem dX8_clash_60 : decode cX8_clash 60 = .ok (.iinc 2 1, 3) := by decide +kernel
theorem dX8_clash_63 : decode cX8_clash 63 = .ok (.goto (-35), 3) := by decide +kernel
theorem dX8_clash_66 : decode cX8_clash 66 = .ok (.bipush (-2), 2) := by decide +kernel
theorem dX8_clash_68 : decode cX8_clash 68 = .ok (.ireturn, 1) := by decide +kernel
theorem dX8_soon_0 : decode cX8_soon 0 = .ok (.aload_n 0, 1) := by decide +kernel
theorem dX8_soon_1 : decode cX8_soon 1 = .ok (.getfield 74, 3) := by decide +kernel
theorem dX8_soon_4 : decode cX8_soon 4 = .ok (.aload_n 0, 1) := by decide +kernel
theorem dX8_soon_5 : decode cX8_soon 5 = .ok (.getfield 42, 3) := by decide +kernel
theorem dX8_soon_8 : decode cX8_soon 8 = .ok (.invokevirtual 318, 3) := by decide +kernel
theorem dX8_soon_11 : decode cX8_soon 11 = .ok (.iconst 0, 1) := by decide +kernel
theorem dX8_soon_12 : decode cX8_soon 12 = .ok (.istore_n 1, 1) := by decide +kernel
theorem dX8_soon_13 : decode cX8_soon 13 = .ok (.iload_n 1, 1) := by decide +kernel
theorem dX8_soon_14 : decode cX8_soon 14 = .ok (.bipush 60, 2) := by decide +kernel
theorem dX8_soon_16 : decode cX8_soon 16 = .ok (.if_icmp .gt 44, 3) := by decide +kernel
theorem dX8_soon_19 : decode cX8_soon 19 = .ok (.aload_n 0, 1) := by decide +kernel
theorem dX8_soon_20 : decode cX8_soon 20 = .ok (.getfield 74, 3) := by decide +kernel
theorem dX8_soon_23 : decode cX8_soon 23 = .ok (.invokevirtual 320, 3) := by decide +kernel
theorem dX8_soon_26 : decode cX8_soon 26 = .ok (.ifCond .eq 5, 3) := by decide +kernel
theorem dX8_soon_29 : decode cX8_soon 29 = .ok (.iload_n 1, 1) := by decide +kernel
theorem dX8_soon_30 : decode cX8_soon 30 = .ok (.ireturn, 1) := by decide +kernel
theorem dX8_soon_31 : decode cX8_soon 31 = .ok (.aload_n 0, 1) := by decide +kernel
theorem dX8_soon_32 : decode cX8_soon 32 = .ok (.getfield 74, 3) := by decide +kernel
theorem dX8_soon_35 : decode cX8_soon 35 = .ok (.aload_n 0, 1) := by decide +kernel
theorem dX8_soon_36 : decode cX8_soon 36 = .ok (.getfield 23, 3) := by decide +kernel
theorem dX8_soon_39 : decode cX8_soon 39 = .ok (.getfield 185, 3) := by decide +kernel
theorem dX8_soon_42 : decode cX8_soon 42 = .ok (.aload_n 0, 1) := by decide +kernel
theorem dX8_soon_43 : decode cX8_soon 43 = .ok (.getfield 42, 3) := by decide +kernel
theorem dX8_soon_46 : decode cX8_soon 46 = .ok (.invokevirtual 179, 3) := by decide +kernel
theorem dX8_soon_49 : decode cX8_soon 49 = .ok (.iload_n 1, 1) := by decide +kernel
theorem dX8_soon_50 : decode cX8_soon 50 = .ok (.iadd, 1) := by decide +kernel
theorem dX8_soon_51 : decode cX8_soon 51 = .ok (.invokevirtual 324, 3) := by decide +kernel
theorem dX8_soon_54 : decode cX8_soon 54 = .ok (.iinc 1 1, 3) := by decide +kernel
theorem dX8_soon_57 : decode cX8_soon 57 = .ok (.goto (-44), 3) := by decide +kernel
theorem dX8_soon_60 : decode cX8_soon 60 = .ok (.bipush (-2), 2) := by decide +kernel
theorem dX8_soon_62 : decode cX8_soon 62 = .ok (.ireturn, 1) := by decide +kernel
theorem dX8_year_0 : decode cX8_year 0 = .ok (.iload_n 1, 1) := by decide +kernel
theorem dX8_year_1 : decode cX8_year 1 = .ok (.ifCond .lt 20, 3) := by decide +kernel
theorem dX8_year_4 : decode cX8_year 4 = .ok (.iload_n 1, 1) := by decide +kernel
theorem dX8_year_5 : decode cX8_year 5 = .ok (.bipush 60, 2) := by decide +kernel
theorem dX8_year_7 : decode cX8_year 7 = .ok (.if_icmp .gt 14, 3) := by decide +kernel
theorem dX8_year_10 : decode cX8_year 10 = .ok (.iload_n 2, 1) := by decide +kernel
theorem dX8_year_11 : decode cX8_year 11 = .ok (.iconst 1, 1) := by decide +kernel
theorem dX8_year_12 : decode cX8_year 12 = .ok (.if_icmp .lt 9, 3) := by decide +kernel
theorem dX8_year_15 : decode cX8_year 15 = .ok (.iload_n 2, 1) := by decide +kernel
theorem dX8_year_16 : decode cX8_year 16 = .ok (.bipush 20, 2) := by decide +kernel
theorem dX8_year_18 : decode cX8_year 18 = .ok (.if_icmp .le 5, 3) := by decide +kernel
theorem dX8_year_21 : decode cX8_year 21 = .ok (.iconst (-1), 1) := by decide +kernel
theorem dX8_year_22 : decode cX8_year 22 = .ok (.ireturn, 1) := by decide +kernel
theorem dX8_year_23 : decode cX8_year 23 = .ok (.iconst 0, 1) := by decide +kernel
theorem dX8_year_24 : decode cX8_year 24 = .ok (.istore_n 3, 1) := by decide +kernel
theorem dX8_year_25 : decode cX8_year 25 = .ok (.aload_n 0, 1) := by decide +kernel
theorem dX8_year_26 : decode cX8_year 26 = .ok (.getfield 23, 3) := by decide +kernel
theorem dX8_year_29 : decode cX8_year 29 = .ok (.getfield 185, 3) := by decide +kernel
theorem dX8_year_32 : decode cX8_year 32 = .ok (.istore 4, 2) := by decide +kernel
theorem dX8_year_34 : decode cX8_year 34 = .ok (.iload 4, 2) := by decide +kernel
theorem dX8_year_36 : decode cX8_year 36 = .ok (.aload_n 0, 1) := by decide +kernel
theorem dX8_year_37 : decode cX8_year 37 = .ok (.getfield 23, 3) := by decide +kernel
theorem dX8_year_40 : decode cX8_year 40 = .ok (.getfield 185, 3) := by decide +kernel
theorem dX8_year_43 : decode cX8_year 43 = .ok (.iload_n 2, 1) := by decide +kernel
theorem dX8_year_44 : decode cX8_year 44 = .ok (.iadd, 1) := by decide +kernel
theorem dX8_year_45 : decode cX8_year 45 = .ok (.if_icmp .ge 67, 3) := by decide +kernel
theorem dX8_year_48 : decode cX8_year 48 = .ok (.aload_n 0, 1) := by decide +kernel
theorem dX8_year_49 : decode cX8_year 49 = .ok (.getfield 74, 3) := by decide +kernel
theorem dX8_year_52 : decode cX8_year 52 = .ok (.aload_n 0, 1) := by decide +kernel
theorem dX8_year_53 : decode cX8_year 53 = .ok (.getfield 42, 3) := by decide +kernel
theorem dX8_year_56 : decode cX8_year 56 = .ok (.invokevirtual 318, 3) := by decide +kernel
theorem dX8_year_59 : decode cX8_year 59 = .ok (.iconst 0, 1) := by decide +kernel
theorem dX8_year_60 : decode cX8_year 60 = .ok (.istore 5, 2) := by decide +kernel
theorem dX8_year_62 : decode cX8_year 62 = .ok (.iload 5, 2) := by decide +kernel
theorem dX8_year_64 : decode cX8_year 64 = .ok (.iload_n 1, 1) := by decide +kernel
theorem dX8_year_65 : decode cX8_year 65 = .ok (.if_icmp .ge 28, 3) := by decide +kernel
theorem dX8_year_68 : decode cX8_year 68 = .ok (.aload_n 0, 1) := by decide +kernel
theorem dX8_year_69 : decode cX8_year 69 = .ok (.getfield 74, 3) := by decide +kernel
theorem dX8_year_72 : decode cX8_year 72 = .ok (.iload 4, 2) := by decide +kernel
theorem dX8_year_74 : decode cX8_year 74 = .ok (.aload_n 0, 1) := by decide +kernel
theorem dX8_year_75 : decode cX8_year 75 = .ok (.getfield 42, 3) := by decide +kernel
theorem dX8_year_78 : decode cX8_year 78 = .ok (.invokevirtual 179, 3) := by decide +kernel
theorem dX8_year_81 : decode cX8_year 81 = .ok (.iload 5, 2) := by decide +kernel
theorem dX8_year_83 : decode cX8_year 83 = .ok (.iadd, 1) := by decide +kernel
theorem dX8_year_84 : decode cX8_year 84 = .ok (.invokevirtual 324, 3) := by decide +kernel
theorem dX8_year_87 : decode cX8_year 87 = .ok (.iinc 5 1, 3) := by decide +kernel
theorem dX8_year_90 : decode cX8_year 90 = .ok (.goto (-28), 3) := by decide +kernel
theorem dX8_year_93 : decode cX8_year 93 = .ok (.aload_n 0, 1) := by decide +kernel
theorem dX8_year_94 : decode cX8_year 94 = .ok (.getfield 74, 3) := by decide +kernel
theorem dX8_year_97 : decode cX8_year 97 = .ok (.invokevirtual 320, 3) := by decide +kernel
theorem dX8_year_100 : decode cX8_year 100 = .ok (.ifCond .eq 6, 3) := by decide +kernel
theorem dX8_year_103 : decode cX8_year 103 = .ok (.iinc 3 1, 3) := by decide +kernel
theorem dX8_year_106 : decode cX8_year 106 = .ok (.iinc 4 1, 3) := by decide +kernel
theorem dX8_year_109 : decode cX8_year 109 = .ok (.goto (-75), 3) := by decide +kernel
theorem dX8_year_112 : decode cX8_year 112 = .ok (.iload_n 3, 1) := by decide +kernel
theorem dX8_year_113 : decode cX8_year 113 = .ok (.ireturn, 1) := by decide +kernel
theorem dX8_isSlot_0 : decode cX8_isSlot 0 = .ok (.iload_n 1, 1) := by decide +kernel
theorem dX8_isSlot_1 : decode cX8_isSlot 1 = .ok (.ifCond .lt 12, 3) := by decide +kernel
theorem dX8_isSlot_4 : decode cX8_isSlot 4 = .ok (.iload_n 1, 1) := by decide +kernel
theorem dX8_isSlot_5 : decode cX8_isSlot 5 = .ok (.iconst 3, 1) := by decide +kernel
theorem dX8_isSlot_6 : decode cX8_isSlot 6 = .ok (.if_icmp .ge 7, 3) := by decide +kernel
theorem dX8_isSlot_9 : decode cX8_isSlot 9 = .ok (.iconst 1, 1) := by decide +kernel
theorem dX8_isSlot_10 : decode cX8_isSlot 10 = .ok (.goto 4, 3) := by decide +kernel
theorem dX8_isSlot_13 : decode cX8_isSlot 13 = .ok (.iconst 0, 1) := by decide +kernel
theorem dX8_isSlot_14 : decode cX8_isSlot 14 = .ok (.ireturn, 1) := by decide +kernel
theorem dX8_hold_0 : decode cX8_hold 0 = .ok (.aload_n 0, 1) := by decide +kernel
theorem dX8_hold_1 : decode cX8_hold 1 = .ok (.iload_n 1, 1) := by decide +kernel
theorem dX8_hold_2 : decode cX8_hold 2 = .ok (.invokevirtual 327, 3) := by decide +kernel
theorem dX8_hold_5 : decode cX8_hold 5 = .ok (.ifCond .ne 5, 3) := by decide +kernel
theorem dX8_hold_8 : decode cX8_hold 8 = .ok (.iconst 0, 1) := by decide +kernel
theorem dX8_hold_9 : decode cX8_hold 9 = .ok (.ireturn, 1) := by decide +kernel
theorem dX8_hold_10 : decode cX8_hold 10 = .ok (.aload_n 0, 1) := by decide +kernel
theorem dX8_hold_11 : decode cX8_hold 11 = .ok (.getfield 53, 3) := by decide +kernel
theorem dX8_hold_14 : decode cX8_hold 14 = .ok (.iload_n 1, 1) := by decide +kernel
theorem dX8_hold_15 : decode cX8_hold 15 = .ok (.aaload, 1) := by decide +kernel
theorem dX8_hold_16 : decode cX8_hold 16 = .ok (.aload_n 0, 1) := by decide +kernel
theorem dX8_hold_17 : decode cX8_hold 17 = .ok (.getfield 42, 3) := by decide +kernel
theorem dX8_hold_20 : decode cX8_hold 20 = .ok (.invokevirtual 330, 3) := by decide +kernel
theorem dX8_hold_23 : decode cX8_hold 23 = .ok (.aload_n 0, 1) := by decide +kernel
theorem dX8_hold_24 : decode cX8_hold 24 = .ok (.getfield 57, 3) := by decide +kernel
theorem dX8_hold_27 : decode cX8_hold 27 = .ok (.iload_n 1, 1) := by decide +kernel
theorem dX8_hold_28 : decode cX8_hold 28 = .ok (.iconst 1, 1) := by decide +kernel
theorem dX8_hold_29 : decode cX8_hold 29 = .ok (.bastore, 1) := by decide +kernel
theorem dX8_hold_30 : decode cX8_hold 30 = .ok (.iconst 1, 1) := by decide +kernel
theorem dX8_hold_31 : decode cX8_hold 31 = .ok (.ireturn, 1) := by decide +kernel
theorem dX8_restore_0 : decode cX8_restore 0 = .ok (.aload_n 0, 1) := by decide +kernel
theorem dX8_restore_1 : decode cX8_restore 1 = .ok (.iload_n 1, 1) := by decide +kernel
theorem dX8_restore_2 : decode cX8_restore 2 = .ok (.invokevirtual 327, 3) := by decide +kernel
theorem dX8_restore_5 : decode cX8_restore 5 = .ok (.ifCond .eq 12, 3) := by decide +kernel
theorem dX8_restore_8 : decode cX8_restore 8 = .ok (.aload_n 0, 1) := by decide +kernel
theorem dX8_restore_9 : decode cX8_restore 9 = .ok (.getfield 57, 3) := by decide +kernel
theorem dX8_restore_12 : decode cX8_restore 12 = .ok (.iload_n 1, 1) := by decide +kernel
theorem dX8_restore_13 : decode cX8_restore 13 = .ok (.baload, 1) := by decide +kernel
theorem dX8_restore_14 : decode cX8_restore 14 = .ok (.ifCond .ne 5, 3) := by decide +kernel
theorem dX8_restore_17 : decode cX8_restore 17 = .ok (.iconst 0, 1) := by decide +kernel
theorem dX8_restore_18 : decode cX8_restore 18 = .ok (.ireturn, 1) := by decide +kernel
theorem dX8_restore_19 : decode cX8_restore 19 = .ok (.aload_n 0, 1) := by decide +kernel
theorem dX8_restore_20 : decode cX8_restore 20 = .ok (.getfield 42, 3) := by decide +kernel
theorem dX8_restore_23 : decode cX8_restore 23 = .ok (.aload_n 0, 1) := by decide +kernel
theorem dX8_restore_24 : decode cX8_restore 24 = .ok (.getfield 53, 3) := by decide +kernel
theorem dX8_restore_27 : decode cX8_restore 27 = .ok (.iload_n 1, 1) := by decide +kernel
theorem dX8_restore_28 : decode cX8_restore 28 = .ok (.aaload, 1) := by decide +kernel
theorem dX8_restore_29 : decode cX8_restore 29 = .ok (.invokevirtual 330, 3) := by decide +kernel
theorem dX8_restore_32 : decode cX8_restore 32 = .ok (.aload_n 0, 1) := by decide +kernel
theorem dX8_restore_33 : decode cX8_restore 33 = .ok (.getfield 49, 3) := by decide +kernel
theorem dX8_restore_36 : decode cX8_restore 36 = .ok (.invokevirtual 333, 3) := by decide +kernel
theorem dX8_restore_39 : decode cX8_restore 39 = .ok (.iconst 1, 1) := by decide +kernel
theorem dX8_restore_40 : decode cX8_restore 40 = .ok (.ireturn, 1) := by decide +kernel
theorem dX8_slotsHeld_0 : decode cX8_slotsHeld 0 = .ok (.iconst 0, 1) := by decide +kernel
theorem dX8_slotsHeld_1 : decode cX8_slotsHeld 1 = .ok (.istore_n 1, 1) := by decide +kernel
theorem dX8_slotsHeld_2 : decode cX8_slotsHeld 2 = .ok (.iconst 0, 1) := by decide +kernel
theorem dX8_slotsHeld_3 : decode cX8_slotsHeld 3 = .ok (.istore_n 2, 1) := by decide +kernel
theorem dX8_slotsHeld_4 : decode cX8_slotsHeld 4 = .ok (.iload_n 2, 1) := by decide +kernel
theorem dX8_slotsHeld_5 : decode cX8_slotsHeld 5 = .ok (.iconst 3, 1) := by decide +kernel
theorem dX8_slotsHeld_6 : decode cX8_slotsHeld 6 = .ok (.if_icmp .ge 21, 3) := by decide +kernel
theorem dX8_slotsHeld_9 : decode cX8_slotsHeld 9 = .ok (.aload_n 0, 1) := by decide +kernel
theorem dX8_slotsHeld_10 : decode cX8_slotsHeld 10 = .ok (.getfield 57, 3) := by decide +kernel
theorem dX8_slotsHeld_13 : decode cX8_slotsHeld 13 = .ok (.iload_n 2, 1) := by decide +kernel
theorem dX8_slotsHeld_14 : decode cX8_slotsHeld 14 = .ok (.baload, 1) := by decide +kernel
theorem dX8_slotsHeld_15 : decode cX8_slotsHeld 15 = .ok (.ifCond .eq 6, 3) := by decide +kernel
theorem dX8_slotsHeld_18 : decode cX8_slotsHeld 18 = .ok (.iinc 1 1, 3) := by decide +kernel
theorem dX8_slotsHeld_21 : decode cX8_slotsHeld 21 = .ok (.iinc 2 1, 3) := by decide +kernel
theorem dX8_slotsHeld_24 : decode cX8_slotsHeld 24 = .ok (.goto (-20), 3) := by decide +kernel
theorem dX8_slotsHeld_27 : decode cX8_slotsHeld 27 = .ok (.iload_n 1, 1) := by decide +kernel
theorem dX8_slotsHeld_28 : decode cX8_slotsHeld 28 = .ok (.ireturn, 1) := by decide +kernel
theorem dX8_countFurther_0 : decode cX8_countFurther 0 = .ok (.iload_n 1, 1) := by decide +kernel
theorem dX8_countFurther_1 : decode cX8_countFurther 1 = .ok (.tableswitch 143 10 18 #[51, 67, 72, 82, 92, 100, 111, 119, 131], 51) := by decide +kernel
theorem dX8_countFurther_52 : decode cX8_countFurther 52 = .ok (.aload_n 0, 1) := by decide +kernel
theorem dX8_countFurther_53 : decode cX8_countFurther 53 = .ok (.getfield 42, 3) := by decide +kernel
theorem dX8_countFurther_56 : decode cX8_countFurther 56 = .ok (.invokevirtual 345, 3) := by decide +kernel
theorem dX8_countFurther_59 : decode cX8_countFurther 59 = .ok (.ifCond .eq 7, 3) := by decide +kernel
theorem dX8_countFurther_62 : decode cX8_countFurther 62 = .ok (.iconst 1, 1) := by decide +kernel
theorem dX8_countFurther_63 : decode cX8_countFurther 63 = .ok (.goto 4, 3) := by decide +kernel
theorem dX8_countFurther_66 : decode cX8_countFurther 66 = .ok (.iconst 0, 1) := by decide +kernel
theorem dX8_countFurther_67 : decode cX8_countFurther 67 = .ok (.ireturn, 1) := by decide +kernel
theorem dX8_countFurther_68 : decode cX8_countFurther 68 = .ok (.aload_n 0, 1) := by decide +kernel
theorem dX8_countFurther_69 : decode cX8_countFurther 69 = .ok (.invokevirtual 348, 3) := by decide +kernel
theorem dX8_countFurther_72 : decode cX8_countFurther 72 = .ok (.ireturn, 1) := by decide +kernel
theorem dX8_countFurther_73 : decode cX8_countFurther 73 = .ok (.aload_n 0, 1) := by decide +kernel
theorem dX8_countFurther_74 : decode cX8_countFurther 74 = .ok (.getfield 42, 3) := by decide +kernel
theorem dX8_countFurther_77 : decode cX8_countFurther 77 = .ok (.bipush 26, 2) := by decide +kernel
theorem dX8_countFurther_79 : decode cX8_countFurther 79 = .ok (.invokevirtual 336, 3) := by decide +kernel
theorem dX8_countFurther_82 : decode cX8_countFurther 82 = .ok (.ireturn, 1) := by decide +kernel
theorem dX8_countFurther_83 : decode cX8_countFurther 83 = .ok (.aload_n 0, 1) := by decide +kernel
theorem dX8_countFurther_84 : decode cX8_countFurther 84 = .ok (.getfield 42, 3) := by decide +kernel
theorem dX8_countFurther_87 : decode cX8_countFurther 87 = .ok (.bipush 31, 2) := by decide +kernel
theorem dX8_countFurther_89 : decode cX8_countFurther 89 = .ok (.invokevirtual 336, 3) := by decide +kernel
theorem dX8_countFurther_92 : decode cX8_countFurther 92 = .ok (.ireturn, 1) := by decide +kernel
theorem dX8_countFurther_93 : decode cX8_countFurther 93 = .ok (.aload_n 0, 1) := by decide +kernel
theorem dX8_countFurther_94 : decode cX8_countFurther 94 = .ok (.getfield 42, 3) := by decide +kernel
theorem dX8_countFurther_97 : decode cX8_countFurther 97 = .ok (.invokevirtual 351, 3) := by decide +kernel
theorem dX8_countFurther_100 : decode cX8_countFurther 100 = .ok (.ireturn, 1) := by decide +kernel
theorem dX8_countFurther_101 : decode cX8_countFurther 101 = .ok (.aload_n 0, 1) := by decide +kernel
theorem dX8_countFurther_102 : decode cX8_countFurther 102 = .ok (.getfield 42, 3) := by decide +kernel
theorem dX8_countFurther_105 : decode cX8_countFurther 105 = .ok (.invokevirtual 354, 3) := by decide +kernel
theorem dX8_countFurther_108 : decode cX8_countFurther 108 = .ok (.invokestatic 253, 3) := by decide +kernel
theorem dX8_countFurther_111 : decode cX8_countFurther 111 = .ok (.ireturn, 1) := by decide +kernel
theorem dX8_countFurther_112 : decode cX8_countFurther 112 = .ok (.aload_n 0, 1) := by decide +kernel
theorem dX8_countFurther_113 : decode cX8_countFurther 113 = .ok (.getfield 42, 3) := by decide +kernel
theorem dX8_countFurther_116 : decode cX8_countFurther 116 = .ok (.invokevirtual 358, 3) := by decide +kernel
theorem dX8_countFurther_119 : decode cX8_countFurther 119 = .ok (.ireturn, 1) := by decide +kernel
theorem dX8_countFurther_120 : decode cX8_countFurther 120 = .ok (.aload_n 0, 1) := by decide +kernel
theorem dX8_countFurther_121 : decode cX8_countFurther 121 = .ok (.aload_n 0, 1) := by decide +kernel
theorem dX8_countFurther_122 : decode cX8_countFurther 122 = .ok (.getfield 42, 3) := by decide +kernel
theorem dX8_countFurther_125 : decode cX8_countFurther 125 = .ok (.invokevirtual 168, 3) := by decide +kernel
theorem dX8_countFurther_128 : decode cX8_countFurther 128 = .ok (.invokevirtual 262, 3) := by decide +kernel
theorem dX8_countFurther_131 : decode cX8_countFurther 131 = .ok (.ireturn, 1) := by decide +kernel
theorem dX8_countFurther_132 : decode cX8_countFurther 132 = .ok (.aload_n 0, 1) := by decide +kernel
theorem dX8_countFurther_133 : decode cX8_countFurther 133 = .ok (.aload_n 0, 1) := by decide +kernel
theorem dX8_countFurther_134 : decode cX8_countFurther 134 = .ok (.getfield 42, 3) := by decide +kernel
theorem dX8_countFurther_137 : decode cX8_countFurther 137 = .ok (.invokevirtual 168, 3) := by decide +kernel
theorem dX8_countFurther_140 : decode cX8_countFurther 140 = .ok (.invokevirtual 265, 3) := by decide +kernel
theorem dX8_countFurther_143 : decode cX8_countFurther 143 = .ok (.ireturn, 1) := by decide +kernel
theorem dX8_countFurther_144 : decode cX8_countFurther 144 = .ok (.iconst (-1), 1) := by decide +kernel
theorem dX8_countFurther_145 : decode cX8_countFurther 145 = .ok (.ireturn, 1) := by decide +kernel
theorem dX8_count_0 : decode cX8_count 0 = .ok (.iload_n 1, 1) := by decide +kernel
theorem dX8_count_1 : decode cX8_count 1 = .ok (.tableswitch 134 0 9 #[55, 63, 71, 79, 87, 95, 103, 111, 121, 126], 55) := by decide +kernel
theorem dX8_count_56 : decode cX8_count 56 = .ok (.aload_n 0, 1) := by decide +kernel
theorem dX8_count_57 : decode cX8_count 57 = .ok (.getfield 23, 3) := by decide +kernel
theorem dX8_count_60 : decode cX8_count 60 = .ok (.getfield 78, 3) := by decide +kernel
theorem dX8_count_63 : decode cX8_count 63 = .ok (.ireturn, 1) := by decide +kernel
theorem dX8_count_64 : decode cX8_count 64 = .ok (.aload_n 0, 1) := by decide +kernel
theorem dX8_count_65 : decode cX8_count 65 = .ok (.getfield 23, 3) := by decide +kernel
theorem dX8_count_68 : decode cX8_count 68 = .ok (.getfield 285, 3) := by decide +kernel
theorem dX8_count_71 : decode cX8_count 71 = .ok (.ireturn, 1) := by decide +kernel
theorem dX8_count_72 : decode cX8_count 72 = .ok (.aload_n 0, 1) := by decide +kernel
theorem dX8_count_73 : decode cX8_count 73 = .ok (.getfield 23, 3) := by decide +kernel
theorem dX8_count_76 : decode cX8_count 76 = .ok (.getfield 110, 3) := by decide +kernel
theorem dX8_count_79 : decode cX8_count 79 = .ok (.ireturn, 1) := by decide +kernel
theorem dX8_count_80 : decode cX8_count 80 = .ok (.aload_n 0, 1) := by decide +kernel
theorem dX8_count_81 : decode cX8_count 81 = .ok (.getfield 42, 3) := by decide +kernel
theorem dX8_count_84 : decode cX8_count 84 = .ok (.invokevirtual 127, 3) := by decide +kernel
theorem dX8_count_87 : decode cX8_count 87 = .ok (.ireturn, 1) := by decide +kernel
theorem dX8_count_88 : decode cX8_count 88 = .ok (.aload_n 0, 1) := by decide +kernel
theorem dX8_count_89 : decode cX8_count 89 = .ok (.getfield 42, 3) := by decide +kernel
theorem dX8_count_92 : decode cX8_count 92 = .ok (.invokevirtual 173, 3) := by decide +kernel
theorem dX8_count_95 : decode cX8_count 95 = .ok (.ireturn, 1) := by decide +kernel
theorem dX8_count_96 : decode cX8_count 96 = .ok (.aload_n 0, 1) := by decide +kernel
theorem dX8_count_97 : decode cX8_count 97 = .ok (.getfield 42, 3) := by decide +kernel
theorem dX8_count_100 : decode cX8_count 100 = .ok (.invokevirtual 168, 3) := by decide +kernel
theorem dX8_count_103 : decode cX8_count 103 = .ok (.ireturn, 1) := by decide +kernel
theorem dX8_count_104 : decode cX8_count 104 = .ok (.aload_n 0, 1) := by decide +kernel
theorem dX8_count_105 : decode cX8_count 105 = .ok (.getfield 42, 3) := by decide +kernel
theorem dX8_count_108 : decode cX8_count 108 = .ok (.invokevirtual 179, 3) := by decide +kernel
theorem dX8_count_111 : decode cX8_count 111 = .ok (.ireturn, 1) := by decide +kernel
theorem dX8_count_112 : decode cX8_count 112 = .ok (.aload_n 0, 1) := by decide +kernel
theorem dX8_count_113 : decode cX8_count 113 = .ok (.getfield 42, 3) := by decide +kernel
theorem dX8_count_116 : decode cX8_count 116 = .ok (.bipush 16, 2) := by decide +kernel
theorem dX8_count_118 : decode cX8_count 118 = .ok (.invokevirtual 336, 3) := by decide +kernel
theorem dX8_count_121 : decode cX8_count 121 = .ok (.ireturn, 1) := by decide +kernel
theorem dX8_count_122 : decode cX8_count 122 = .ok (.aload_n 0, 1) := by decide +kernel
theorem dX8_count_123 : decode cX8_count 123 = .ok (.getfield 13, 3) := by decide +kernel
theorem dX8_count_126 : decode cX8_count 126 = .ok (.ireturn, 1) := by decide +kernel
theorem dX8_count_127 : decode cX8_count 127 = .ok (.aload_n 0, 1) := by decide +kernel
theorem dX8_count_128 : decode cX8_count 128 = .ok (.getfield 49, 3) := by decide +kernel
theorem dX8_count_131 : decode cX8_count 131 = .ok (.getfield 339, 3) := by decide +kernel
theorem dX8_count_134 : decode cX8_count 134 = .ok (.ireturn, 1) := by decide +kernel
theorem dX8_count_135 : decode cX8_count 135 = .ok (.aload_n 0, 1) := by decide +kernel
theorem dX8_count_136 : decode cX8_count 136 = .ok (.iload_n 1, 1) := by decide +kernel
theorem dX8_count_137 : decode cX8_count 137 = .ok (.invokevirtual 342, 3) := by decide +kernel
theorem dX8_count_140 : decode cX8_count 140 = .ok (.ireturn, 1) := by decide +kernel
theorem dL_put_0 : decode cL_put 0 = .ok (.aload_n 0, 1) := by decide +kernel
theorem dL_put_1 : decode cL_put 1 = .ok (.iload_n 2, 1) := by decide +kernel
theorem dL_put_2 : decode cL_put 2 = .ok (.iload_n 3, 1) := by decide +kernel
theorem dL_put_3 : decode cL_put 3 = .ok (.iload 4, 2) := by decide +kernel
theorem dL_put_5 : decode cL_put 5 = .ok (.iload 5, 2) := by decide +kernel
theorem dL_put_7 : decode cL_put 7 = .ok (.iload 6, 2) := by decide +kernel
theorem dL_put_9 : decode cL_put 9 = .ok (.invokevirtual 7, 3) := by decide +kernel
theorem dL_put_12 : decode cL_put 12 = .ok (.pop, 1) := by decide +kernel
theorem dL_put_13 : decode cL_put 13 = .ok (.aload_n 0, 1) := by decide +kernel
theorem dL_put_14 : decode cL_put 14 = .ok (.bipush 20, 2) := by decide +kernel
theorem dL_put_16 : decode cL_put 16 = .ok (.iload_n 1, 1) := by decide +kernel
theorem dL_put_17 : decode cL_put 17 = .ok (.isub, 1) := by decide +kernel
theorem dL_put_18 : decode cL_put 18 = .ok (.invokevirtual 13, 3) := by decide +kernel
theorem dL_put_21 : decode cL_put 21 = .ok (.pop, 1) := by decide +kernel
theorem dL_put_22 : decode cL_put 22 = .ok (.return_, 1) := by decide +kernel
theorem dL_sign_0 : decode cL_sign 0 = .ok (.aload_n 0, 1) := by decide +kernel
theorem dL_sign_1 : decode cL_sign 1 = .ok (.iload_n 1, 1) := by decide +kernel
theorem dL_sign_2 : decode cL_sign 2 = .ok (.bipush 24, 2) := by decide +kernel
theorem dL_sign_4 : decode cL_sign 4 = .ok (.ishl, 1) := by decide +kernel
theorem dL_sign_5 : decode cL_sign 5 = .ok (.iconst 0, 1) := by decide +kernel
theorem dL_sign_6 : decode cL_sign 6 = .ok (.iconst 0, 1) := by decide +kernel
theorem dL_sign_7 : decode cL_sign 7 = .ok (.iconst 0, 1) := by decide +kernel
theorem dL_sign_8 : decode cL_sign 8 = .ok (.iconst 0, 1) := by decide +kernel
theorem dL_sign_9 : decode cL_sign 9 = .ok (.invokevirtual 7, 3) := by decide +kernel
theorem dL_sign_12 : decode cL_sign 12 = .ok (.pop, 1) := by decide +kernel
theorem dL_sign_13 : decode cL_sign 13 = .ok (.aload_n 0, 1) := by decide +kernel
theorem dL_sign_14 : decode cL_sign 14 = .ok (.bipush 19, 2) := by decide +kernel
theorem dL_sign_16 : decode cL_sign 16 = .ok (.invokevirtual 13, 3) := by decide +kernel
theorem dL_sign_19 : decode cL_sign 19 = .ok (.pop, 1) := by decide +kernel
theorem dL_sign_20 : decode cL_sign 20 = .ok (.return_, 1) := by decide +kernel
theorem dL_number_0 : decode cL_number 0 = .ok (.iconst 1, 1) := by decide +kernel
theorem dL_number_1 : decode cL_number 1 = .ok (.istore_n 2, 1) := by decide +kernel
theorem dL_number_2 : decode cL_number 2 = .ok (.iload_n 2, 1) := by decide +kernel
theorem dL_number_3 : decode cL_number 3 = .ok (.iload_n 1, 1) := by decide +kernel
theorem dL_number_4 : decode cL_number 4 = .ok (.bipush 10, 2) := by decide +kernel
theorem dL_number_6 : decode cL_number 6 = .ok (.idiv, 1) := by decide +kernel
theorem dL_number_7 : decode cL_number 7 = .ok (.if_icmp .gt 11, 3) := by decide +kernel
theorem dL_number_10 : decode cL_number 10 = .ok (.iload_n 2, 1) := by decide +kernel
theorem dL_number_11 : decode cL_number 11 = .ok (.bipush 10, 2) := by decide +kernel
theorem dL_number_13 : decode cL_number 13 = .ok (.imul, 1) := by decide +kernel
theorem dL_number_14 : decode cL_number 14 = .ok (.istore_n 2, 1) := by decide +kernel
theorem dL_number_15 : decode cL_number 15 = .ok (.goto (-13), 3) := by decide +kernel
theorem dL_number_18 : decode cL_number 18 = .ok (.iload_n 2, 1) := by decide +kernel
theorem dL_number_19 : decode cL_number 19 = .ok (.ifCond .le 24, 3) := by decide +kernel
theorem dL_number_22 : decode cL_number 22 = .ok (.aload_n 0, 1) := by decide +kernel
theorem dL_number_23 : decode cL_number 23 = .ok (.bipush 48, 2) := by decide +kernel
theorem dL_number_25 : decode cL_number 25 = .ok (.iload_n 1, 1) := by decide +kernel
theorem dL_number_26 : decode cL_number 26 = .ok (.iload_n 2, 1) := by decide +kernel
theorem dL_number_27 : decode cL_number 27 = .ok (.idiv, 1) := by decide +kernel
theorem dL_number_28 : decode cL_number 28 = .ok (.bipush 10, 2) := by decide +kernel
theorem dL_number_30 : decode cL_number 30 = .ok (.irem, 1) := by decide +kernel
theorem dL_number_31 : decode cL_number 31 = .ok (.iadd, 1) := by decide +kernel
theorem dL_number_32 : decode cL_number 32 = .ok (.invokestatic 17, 3) := by decide +kernel
theorem dL_number_35 : decode cL_number 35 = .ok (.iload_n 2, 1) := by decide +kernel
theorem dL_number_36 : decode cL_number 36 = .ok (.bipush 10, 2) := by decide +kernel
theorem dL_number_38 : decode cL_number 38 = .ok (.idiv, 1) := by decide +kernel
theorem dL_number_39 : decode cL_number 39 = .ok (.istore_n 2, 1) := by decide +kernel
theorem dL_number_40 : decode cL_number 40 = .ok (.goto (-22), 3) := by decide +kernel
theorem dL_number_43 : decode cL_number 43 = .ok (.return_, 1) := by decide +kernel
theorem dL_cell_0 : decode cL_cell 0 = .ok (.aload_n 0, 1) := by decide +kernel
theorem dL_cell_1 : decode cL_cell 1 = .ok (.bipush 32, 2) := by decide +kernel
theorem dL_cell_3 : decode cL_cell 3 = .ok (.invokestatic 17, 3) := by decide +kernel
theorem dL_cell_6 : decode cL_cell 6 = .ok (.aload_n 0, 1) := by decide +kernel
theorem dL_cell_7 : decode cL_cell 7 = .ok (.bipush 99, 2) := by decide +kernel
theorem dL_cell_9 : decode cL_cell 9 = .ok (.invokestatic 17, 3) := by decide +kernel
theorem dL_cell_12 : decode cL_cell 12 = .ok (.aload_n 0, 1) := by decide +kernel
theorem dL_cell_13 : decode cL_cell 13 = .ok (.bipush 97, 2) := by decide +kernel
theorem dL_cell_15 : decode cL_cell 15 = .ok (.iload_n 1, 1) := by decide +kernel
theorem dL_cell_16 : decode cL_cell 16 = .ok (.iadd, 1) := by decide +kernel
theorem dL_cell_17 : decode cL_cell 17 = .ok (.invokestatic 17, 3) := by decide +kernel
theorem dL_cell_20 : decode cL_cell 20 = .ok (.aload_n 0, 1) := by decide +kernel
theorem dL_cell_21 : decode cL_cell 21 = .ok (.bipush 32, 2) := by decide +kernel
theorem dL_cell_23 : decode cL_cell 23 = .ok (.invokestatic 17, 3) := by decide +kernel
theorem dL_cell_26 : decode cL_cell 26 = .ok (.return_, 1) := by decide +kernel
