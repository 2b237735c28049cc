/-! decode rows: X12 -/
theorem dX12_thrown_0 : decode cX12_thrown 0 = .ok (.aload_n 0, 1) := by decide +kernel
theorem dX12_thrown_1 : decode cX12_thrown 1 = .ok (.getfield 1, 3) := by decide +kernel
theorem dX12_thrown_4 : decode cX12_thrown 4 = .ok (.ireturn, 1) := by decide +kernel
theorem dX12_isLost_0 : decode cX12_isLost 0 = .ok (.lload_n 0, 1) := by decide +kernel
theorem dX12_isLost_1 : decode cX12_isLost 1 = .ok (.ldc2_w 7, 3) := by decide +kernel
theorem dX12_isLost_4 : decode cX12_isLost 4 = .ok (.land, 1) := by decide +kernel
theorem dX12_isLost_5 : decode cX12_isLost 5 = .ok (.ldc2_w 9, 3) := by decide +kernel
theorem dX12_isLost_8 : decode cX12_isLost 8 = .ok (.lcmp, 1) := by decide +kernel
theorem dX12_isLost_9 : decode cX12_isLost 9 = .ok (.ifCond .le 7, 3) := by decide +kernel
theorem dX12_isLost_12 : decode cX12_isLost 12 = .ok (.iconst 1, 1) := by decide +kernel
theorem dX12_isLost_13 : decode cX12_isLost 13 = .ok (.goto 4, 3) := by decide +kernel
theorem dX12_isLost_16 : decode cX12_isLost 16 = .ok (.iconst 0, 1) := by decide +kernel
theorem dX12_isLost_17 : decode cX12_isLost 17 = .ok (.ireturn, 1) := by decide +kernel
theorem dX12_isInfinite_0 : decode cX12_isInfinite 0 = .ok (.lload_n 0, 1) := by decide +kernel
theorem dX12_isInfinite_1 : decode cX12_isInfinite 1 = .ok (.ldc2_w 7, 3) := by decide +kernel
theorem dX12_isInfinite_4 : decode cX12_isInfinite 4 = .ok (.land, 1) := by decide +kernel
theorem dX12_isInfinite_5 : decode cX12_isInfinite 5 = .ok (.ldc2_w 9, 3) := by decide +kernel
theorem dX12_isInfinite_8 : decode cX12_isInfinite 8 = .ok (.lcmp, 1) := by decide +kernel
theorem dX12_isInfinite_9 : decode cX12_isInfinite 9 = .ok (.ifCond .ne 7, 3) := by decide +kernel
theorem dX12_isInfinite_12 : decode cX12_isInfinite 12 = .ok (.iconst 1, 1) := by decide +kernel
theorem dX12_isInfinite_13 : decode cX12_isInfinite 13 = .ok (.goto 4, 3) := by decide +kernel
theorem dX12_isInfinite_16 : decode cX12_isInfinite 16 = .ok (.iconst 0, 1) := by decide +kernel
theorem dX12_isInfinite_17 : decode cX12_isInfinite 17 = .ok (.ireturn, 1) := by decide +kernel
theorem dX12_isZero_0 : decode cX12_isZero 0 = .ok (.lload_n 0, 1) := by decide +kernel
theorem dX12_isZero_1 : decode cX12_isZero 1 = .ok (.ldc2_w 7, 3) := by decide +kernel
theorem dX12_isZero_4 : decode cX12_isZero 4 = .ok (.land, 1) := by decide +kernel
theorem dX12_isZero_5 : decode cX12_isZero 5 = .ok (.lconst 0, 1) := by decide +kernel
theorem dX12_isZero_6 : decode cX12_isZero 6 = .ok (.lcmp, 1) := by decide +kernel
theorem dX12_isZero_7 : decode cX12_isZero 7 = .ok (.ifCond .ne 7, 3) := by decide +kernel
theorem dX12_isZero_10 : decode cX12_isZero 10 = .ok (.iconst 1, 1) := by decide +kernel
theorem dX12_isZero_11 : decode cX12_isZero 11 = .ok (.goto 4, 3) := by decide +kernel
theorem dX12_isZero_14 : decode cX12_isZero 14 = .ok (.iconst 0, 1) := by decide +kernel
theorem dX12_isZero_15 : decode cX12_isZero 15 = .ok (.ireturn, 1) := by decide +kernel
theorem dX12_one_0 : decode cX12_one 0 = .ok (.lload_n 0, 1) := by decide +kernel
theorem dX12_one_1 : decode cX12_one 1 = .ok (.invokestatic 11, 3) := by decide +kernel
theorem dX12_one_4 : decode cX12_one 4 = .ok (.ifCond .eq 9, 3) := by decide +kernel
theorem dX12_one_7 : decode cX12_one 7 = .ok (.ldc2_w 15, 3) := by decide +kernel
theorem dX12_one_10 : decode cX12_one 10 = .ok (.goto 4, 3) := by decide +kernel
theorem dX12_one_13 : decode cX12_one 13 = .ok (.lload_n 0, 1) := by decide +kernel
theorem dX12_one_14 : decode cX12_one 14 = .ok (.lreturn, 1) := by decide +kernel
theorem dX12_digits_0 : decode cX12_digits 0 = .ok (.lload_n 0, 1) := by decide +kernel
theorem dX12_digits_1 : decode cX12_digits 1 = .ok (.bipush 52, 2) := by decide +kernel
theorem dX12_digits_3 : decode cX12_digits 3 = .ok (.lshr, 1) := by decide +kernel
theorem dX12_digits_4 : decode cX12_digits 4 = .ok (.l2i, 1) := by decide +kernel
theorem dX12_digits_5 : decode cX12_digits 5 = .ok (.sipush 2047, 3) := by decide +kernel
theorem dX12_digits_8 : decode cX12_digits 8 = .ok (.iand, 1) := by decide +kernel
theorem dX12_digits_9 : decode cX12_digits 9 = .ok (.istore_n 2, 1) := by decide +kernel
theorem dX12_digits_10 : decode cX12_digits 10 = .ok (.lload_n 0, 1) := by decide +kernel
theorem dX12_digits_11 : decode cX12_digits 11 = .ok (.ldc2_w 17, 3) := by decide +kernel
theorem dX12_digits_14 : decode cX12_digits 14 = .ok (.land, 1) := by decide +kernel
theorem dX12_digits_15 : decode cX12_digits 15 = .ok (.lstore_n 3, 1) := by decide +kernel
theorem dX12_digits_16 : decode cX12_digits 16 = .ok (.iload_n 2, 1) := by decide +kernel
theorem dX12_digits_17 : decode cX12_digits 17 = .ok (.ifCond .ne 7, 3) := by decide +kernel
theorem dX12_digits_20 : decode cX12_digits 20 = .ok (.lload_n 3, 1) := by decide +kernel
theorem dX12_digits_21 : decode cX12_digits 21 = .ok (.goto 8, 3) := by decide +kernel
theorem dX12_digits_24 : decode cX12_digits 24 = .ok (.lload_n 3, 1) := by decide +kernel
theorem dX12_digits_25 : decode cX12_digits 25 = .ok (.ldc2_w 19, 3) := by decide +kernel
theorem dX12_digits_28 : decode cX12_digits 28 = .ok (.lor, 1) := by decide +kernel
theorem dX12_digits_29 : decode cX12_digits 29 = .ok (.lreturn, 1) := by decide +kernel
theorem dX12_unit_0 : decode cX12_unit 0 = .ok (.lload_n 0, 1) := by decide +kernel
theorem dX12_unit_1 : decode cX12_unit 1 = .ok (.bipush 52, 2) := by decide +kernel
theorem dX12_unit_3 : decode cX12_unit 3 = .ok (.lshr, 1) := by decide +kernel
theorem dX12_unit_4 : decode cX12_unit 4 = .ok (.l2i, 1) := by decide +kernel
theorem dX12_unit_5 : decode cX12_unit 5 = .ok (.sipush 2047, 3) := by decide +kernel
theorem dX12_unit_8 : decode cX12_unit 8 = .ok (.iand, 1) := by decide +kernel
theorem dX12_unit_9 : decode cX12_unit 9 = .ok (.istore_n 2, 1) := by decide +kernel
theorem dX12_unit_10 : decode cX12_unit 10 = .ok (.iload_n 2, 1) := by decide +kernel
theorem dX12_unit_11 : decode cX12_unit 11 = .ok (.ifCond .ne 9, 3) := by decide +kernel
theorem dX12_unit_14 : decode cX12_unit 14 = .ok (.sipush (-1074), 3) := by decide +kernel
theorem dX12_unit_17 : decode cX12_unit 17 = .ok (.goto 8, 3) := by decide +kernel
theorem dX12_unit_20 : decode cX12_unit 20 = .ok (.iload_n 2, 1) := by decide +kernel
theorem dX12_unit_21 : decode cX12_unit 21 = .ok (.sipush 1075, 3) := by decide +kernel
theorem dX12_unit_24 : decode cX12_unit 24 = .ok (.isub, 1) := by decide +kernel
theorem dX12_unit_25 : decode cX12_unit 25 = .ok (.ireturn, 1) := by decide +kernel
theorem dX12_bitsOf_0 : decode cX12_bitsOf 0 = .ok (.lload_n 0, 1) := by decide +kernel
theorem dX12_bitsOf_1 : decode cX12_bitsOf 1 = .ok (.lstore_n 2, 1) := by decide +kernel
theorem dX12_bitsOf_2 : decode cX12_bitsOf 2 = .ok (.iconst 0, 1) := by decide +kernel
theorem dX12_bitsOf_3 : decode cX12_bitsOf 3 = .ok (.istore 4, 2) := by decide +kernel
theorem dX12_bitsOf_5 : decode cX12_bitsOf 5 = .ok (.bipush 32, 2) := by decide +kernel
theorem dX12_bitsOf_7 : decode cX12_bitsOf 7 = .ok (.istore 5, 2) := by decide +kernel
theorem dX12_bitsOf_9 : decode cX12_bitsOf 9 = .ok (.iload 5, 2) := by decide +kernel
theorem dX12_bitsOf_11 : decode cX12_bitsOf 11 = .ok (.ifCond .le 36, 3) := by decide +kernel
theorem dX12_bitsOf_14 : decode cX12_bitsOf 14 = .ok (.lload_n 2, 1) := by decide +kernel
theorem dX12_bitsOf_15 : decode cX12_bitsOf 15 = .ok (.iload 5, 2) := by decide +kernel
theorem dX12_bitsOf_17 : decode cX12_bitsOf 17 = .ok (.lushr, 1) := by decide +kernel
theorem dX12_bitsOf_18 : decode cX12_bitsOf 18 = .ok (.lconst 0, 1) := by decide +kernel
theorem dX12_bitsOf_19 : decode cX12_bitsOf 19 = .ok (.lcmp, 1) := by decide +kernel
theorem dX12_bitsOf_20 : decode cX12_bitsOf 20 = .ok (.ifCond .ne 6, 3) := by decide +kernel
theorem dX12_bitsOf_23 : decode cX12_bitsOf 23 = .ok (.goto 15, 3) := by decide +kernel
theorem dX12_bitsOf_26 : decode cX12_bitsOf 26 = .ok (.iload 4, 2) := by decide +kernel
theorem dX12_bitsOf_28 : decode cX12_bitsOf 28 = .ok (.iload 5, 2) := by decide +kernel
theorem dX12_bitsOf_30 : decode cX12_bitsOf 30 = .ok (.iadd, 1) := by decide +kernel
theorem dX12_bitsOf_31 : decode cX12_bitsOf 31 = .ok (.istore 4, 2) := by decide +kernel
theorem dX12_bitsOf_33 : decode cX12_bitsOf 33 = .ok (.lload_n 2, 1) := by decide +kernel
theorem dX12_bitsOf_34 : decode cX12_bitsOf 34 = .ok (.iload 5, 2) := by decide +kernel
theorem dX12_bitsOf_36 : decode cX12_bitsOf 36 = .ok (.lushr, 1) := by decide +kernel
theorem dX12_bitsOf_37 : decode cX12_bitsOf 37 = .ok (.lstore_n 2, 1) := by decide +kernel
theorem dX12_bitsOf_38 : decode cX12_bitsOf 38 = .ok (.iload 5, 2) := by decide +kernel
theorem dX12_bitsOf_40 : decode cX12_bitsOf 40 = .ok (.iconst 2, 1) := by decide +kernel
theorem dX12_bitsOf_41 : decode cX12_bitsOf 41 = .ok (.idiv, 1) := by decide +kernel
theorem dX12_bitsOf_42 : decode cX12_bitsOf 42 = .ok (.istore 5, 2) := by decide +kernel
theorem dX12_bitsOf_44 : decode cX12_bitsOf 44 = .ok (.goto (-35), 3) := by decide +kernel
theorem dX12_bitsOf_47 : decode cX12_bitsOf 47 = .ok (.lload_n 2, 1) := by decide +kernel
theorem dX12_bitsOf_48 : decode cX12_bitsOf 48 = .ok (.lconst 0, 1) := by decide +kernel
theorem dX12_bitsOf_49 : decode cX12_bitsOf 49 = .ok (.lcmp, 1) := by decide +kernel
theorem dX12_bitsOf_50 : decode cX12_bitsOf 50 = .ok (.ifCond .ne 7, 3) := by decide +kernel
theorem dX12_bitsOf_53 : decode cX12_bitsOf 53 = .ok (.iconst 0, 1) := by decide +kernel
theorem dX12_bitsOf_54 : decode cX12_bitsOf 54 = .ok (.goto 7, 3) := by decide +kernel
theorem dX12_bitsOf_57 : decode cX12_bitsOf 57 = .ok (.iload 4, 2) := by decide +kernel
theorem dX12_bitsOf_59 : decode cX12_bitsOf 59 = .ok (.iconst 1, 1) := by decide +kernel
theorem dX12_bitsOf_60 : decode cX12_bitsOf 60 = .ok (.iadd, 1) := by decide +kernel
theorem dX12_bitsOf_61 : decode cX12_bitsOf 61 = .ok (.ireturn, 1) := by decide +kernel
theorem dX12_nearest_0 : decode cX12_nearest 0 = .ok (.iload_n 0, 1) := by decide +kernel
theorem dX12_nearest_1 : decode cX12_nearest 1 = .ok (.ifCond .eq 9, 3) := by decide +kernel
theorem dX12_nearest_4 : decode cX12_nearest 4 = .ok (.ldc2_w 21, 3) := by decide +kernel
theorem dX12_nearest_7 : decode cX12_nearest 7 = .ok (.goto 4, 3) := by decide +kernel
theorem dX12_nearest_10 : decode cX12_nearest 10 = .ok (.lconst 0, 1) := by decide +kernel
theorem dX12_nearest_11 : decode cX12_nearest 11 = .ok (.lstore 8, 2) := by decide +kernel
theorem dX12_nearest_13 : decode cX12_nearest 13 = .ok (.lload_n 1, 1) := by decide +kernel
theorem dX12_nearest_14 : decode cX12_nearest 14 = .ok (.lconst 0, 1) := by decide +kernel
theorem dX12_nearest_15 : decode cX12_nearest 15 = .ok (.lcmp, 1) := by decide +kernel
theorem dX12_nearest_16 : decode cX12_nearest 16 = .ok (.ifCond .ne 6, 3) := by decide +kernel
theorem dX12_nearest_19 : decode cX12_nearest 19 = .ok (.lload 8, 2) := by decide +kernel
theorem dX12_nearest_21 : decode cX12_nearest 21 = .ok (.lreturn, 1) := by decide +kernel
theorem dX12_nearest_22 : decode cX12_nearest 22 = .ok (.iload_n 3, 1) := by decide +kernel
theorem dX12_nearest_23 : decode cX12_nearest 23 = .ok (.lload_n 1, 1) := by decide +kernel
theorem dX12_nearest_24 : decode cX12_nearest 24 = .ok (.invokestatic 23, 3) := by decide +kernel
theorem dX12_nearest_27 : decode cX12_nearest 27 = .ok (.iadd, 1) := by decide +kernel
theorem dX12_nearest_28 : decode cX12_nearest 28 = .ok (.iload 5, 2) := by decide +kernel
theorem dX12_nearest_30 : decode cX12_nearest 30 = .ok (.isub, 1) := by decide +kernel
theorem dX12_nearest_31 : decode cX12_nearest 31 = .ok (.istore 10, 2) := by decide +kernel
theorem dX12_nearest_33 : decode cX12_nearest 33 = .ok (.iload 10, 2) := by decide +kernel
theorem dX12_nearest_35 : decode cX12_nearest 35 = .ok (.iload 6, 2) := by decide +kernel
theorem dX12_nearest_37 : decode cX12_nearest 37 = .ok (.if_icmp .ge 8, 3) := by decide +kernel
theorem dX12_nearest_40 : decode cX12_nearest 40 = .ok (.iload 6, 2) := by decide +kernel
theorem dX12_nearest_42 : decode cX12_nearest 42 = .ok (.goto 5, 3) := by decide +kernel
theorem dX12_nearest_45 : decode cX12_nearest 45 = .ok (.iload 10, 2) := by decide +kernel
theorem dX12_nearest_47 : decode cX12_nearest 47 = .ok (.istore 10, 2) := by decide +kernel
theorem dX12_nearest_49 : decode cX12_nearest 49 = .ok (.lload_n 1, 1) := by decide +kernel
theorem dX12_nearest_50 : decode cX12_nearest 50 = .ok (.lstore 11, 2) := by decide +kernel
theorem dX12_nearest_52 : decode cX12_nearest 52 = .ok (.iload 10, 2) := by decide +kernel
theorem dX12_nearest_54 : decode cX12_nearest 54 = .ok (.iload_n 3, 1) := by decide +kernel
theorem dX12_nearest_55 : decode cX12_nearest 55 = .ok (.isub, 1) := by decide +kernel
theorem dX12_nearest_56 : decode cX12_nearest 56 = .ok (.istore 13, 2) := by decide +kernel
theorem dX12_nearest_58 : decode cX12_nearest 58 = .ok (.iload 13, 2) := by decide +kernel
theorem dX12_nearest_60 : decode cX12_nearest 60 = .ok (.bipush 62, 2) := by decide +kernel
theorem dX12_nearest_62 : decode cX12_nearest 62 = .ok (.if_icmp .le 9, 3) := by decide +kernel
theorem dX12_nearest_65 : decode cX12_nearest 65 = .ok (.lconst 0, 1) := by decide +kernel
theorem dX12_nearest_66 : decode cX12_nearest 66 = .ok (.lstore 11, 2) := by decide +kernel
theorem dX12_nearest_68 : decode cX12_nearest 68 = .ok (.goto 73, 3) := by decide +kernel
theorem dX12_nearest_71 : decode cX12_nearest 71 = .ok (.iload 13, 2) := by decide +kernel
theorem dX12_nearest_73 : decode cX12_nearest 73 = .ok (.ifCond .le 65, 3) := by decide +kernel
theorem dX12_nearest_76 : decode cX12_nearest 76 = .ok (.lload_n 1, 1) := by decide +kernel
theorem dX12_nearest_77 : decode cX12_nearest 77 = .ok (.iload 13, 2) := by decide +kernel
theorem dX12_nearest_79 : decode cX12_nearest 79 = .ok (.lshr, 1) := by decide +kernel
theorem dX12_nearest_80 : decode cX12_nearest 80 = .ok (.lstore 11, 2) := by decide +kernel
theorem dX12_nearest_82 : decode cX12_nearest 82 = .ok (.lload_n 1, 1) := by decide +kernel
theorem dX12_nearest_83 : decode cX12_nearest 83 = .ok (.lload 11, 2) := by decide +kernel
theorem dX12_nearest_85 : decode cX12_nearest 85 = .ok (.iload 13, 2) := by decide +kernel
theorem dX12_nearest_87 : decode cX12_nearest 87 = .ok (.lshl, 1) := by decide +kernel
theorem dX12_nearest_88 : decode cX12_nearest 88 = .ok (.lsub, 1) := by decide +kernel
theorem dX12_nearest_89 : decode cX12_nearest 89 = .ok (.lstore 14, 2) := by decide +kernel
theorem dX12_nearest_91 : decode cX12_nearest 91 = .ok (.lconst 1, 1) := by decide +kernel
theorem dX12_nearest_92 : decode cX12_nearest 92 = .ok (.iload 13, 2) := by decide +kernel
theorem dX12_nearest_94 : decode cX12_nearest 94 = .ok (.iconst 1, 1) := by decide +kernel
theorem dX12_nearest_95 : decode cX12_nearest 95 = .ok (.isub, 1) := by decide +kernel
theorem dX12_nearest_96 : decode cX12_nearest 96 = .ok (.lshl, 1) := by decide +kernel
theorem dX12_nearest_97 : decode cX12_nearest 97 = .ok (.lstore 16, 2) := by decide +kernel
theorem dX12_nearest_99 : decode cX12_nearest 99 = .ok (.lload 14, 2) := by decide +kernel
theorem dX12_nearest_101 : decode cX12_nearest 101 = .ok (.lload 16, 2) := by decide +kernel
theorem dX12_nearest_103 : decode cX12_nearest 103 = .ok (.lcmp, 1) := by decide +kernel
theorem dX12_nearest_104 : decode cX12_nearest 104 = .ok (.ifCond .gt 25, 3) := by decide +kernel
theorem dX12_nearest_107 : decode cX12_nearest 107 = .ok (.lload 14, 2) := by decide +kernel
theorem dX12_nearest_109 : decode cX12_nearest 109 = .ok (.lload 16, 2) := by decide +kernel
theorem dX12_nearest_111 : decode cX12_nearest 111 = .ok (.lcmp, 1) := by decide +kernel
theorem dX12_nearest_112 : decode cX12_nearest 112 = .ok (.ifCond .ne 23, 3) := by decide +kernel
theorem dX12_nearest_115 : decode cX12_nearest 115 = .ok (.iload 4, 2) := by decide +kernel
theorem dX12_nearest_117 : decode cX12_nearest 117 = .ok (.ifCond .ne 12, 3) := by decide +kernel
theorem dX12_nearest_120 : decode cX12_nearest 120 = .ok (.lload 11, 2) := by decide +kernel
theorem dX12_nearest_122 : decode cX12_nearest 122 = .ok (.lconst 1, 1) := by decide +kernel
theorem dX12_nearest_123 : decode cX12_nearest 123 = .ok (.land, 1) := by decide +kernel
theorem dX12_nearest_124 : decode cX12_nearest 124 = .ok (.lconst 1, 1) := by decide +kernel
theorem dX12_nearest_125 : decode cX12_nearest 125 = .ok (.lcmp, 1) := by decide +kernel
theorem dX12_nearest_126 : decode cX12_nearest 126 = .ok (.ifCond .ne 9, 3) := by decide +kernel
theorem dX12_nearest_129 : decode cX12_nearest 129 = .ok (.lload 11, 2) := by decide +kernel
theorem dX12_nearest_131 : decode cX12_nearest 131 = .ok (.lconst 1, 1) := by decide +kernel
theorem dX12_nearest_132 : decode cX12_nearest 132 = .ok (.ladd, 1) := by decide +kernel
theorem dX12_nearest_133 : decode cX12_nearest 133 = .ok (.lstore 11, 2) := by decide +kernel
theorem dX12_nearest_135 : decode cX12_nearest 135 = .ok (.goto 6, 3) := by decide +kernel
theorem dX12_nearest_138 : decode cX12_nearest 138 = .ok (.iload_n 3, 1) := by decide +kernel
theorem dX12_nearest_139 : decode cX12_nearest 139 = .ok (.istore 10, 2) := by decide +kernel
theorem dX12_nearest_141 : decode cX12_nearest 141 = .ok (.lload 11, 2) := by decide +kernel
theorem dX12_nearest_143 : decode cX12_nearest 143 = .ok (.lconst 0, 1) := by decide +kernel
theorem dX12_nearest_144 : decode cX12_nearest 144 = .ok (.lcmp, 1) := by decide +kernel
theorem dX12_nearest_145 : decode cX12_nearest 145 = .ok (.ifCond .ne 6, 3) := by decide +kernel
theorem dX12_nearest_148 : decode cX12_nearest 148 = .ok (.lload 8, 2) := by decide +kernel
theorem dX12_nearest_150 : decode cX12_nearest 150 = .ok (.lreturn, 1) := by decide +kernel
theorem dX12_nearest_151 : decode cX12_nearest 151 = .ok (.lload 11, 2) := by decide +kernel
theorem dX12_nearest_153 : decode cX12_nearest 153 = .ok (.invokestatic 23, 3) := by decide +kernel
theorem dX12_nearest_156 : decode cX12_nearest 156 = .ok (.iload 10, 2) := by decide +kernel
theorem dX12_nearest_158 : decode cX12_nearest 158 = .ok (.iadd, 1) := by decide +kernel
theorem dX12_nearest_159 : decode cX12_nearest 159 = .ok (.iload 7, 2) := by decide +kernel
theorem dX12_nearest_161 : decode cX12_nearest 161 = .ok (.if_icmp .le 10, 3) := by decide +kernel
theorem dX12_nearest_164 : decode cX12_nearest 164 = .ok (.lload 8, 2) := by decide +kernel
theorem dX12_nearest_166 : decode cX12_nearest 166 = .ok (.ldc2_w 9, 3) := by decide +kernel
theorem dX12_nearest_169 : decode cX12_nearest 169 = .ok (.lor, 1) := by decide +kernel
theorem dX12_nearest_170 : decode cX12_nearest 170 = .ok (.lreturn, 1) := by decide +kernel
theorem dX12_nearest_171 : decode cX12_nearest 171 = .ok (.lload 11, 2) := by decide +kernel
theorem dX12_nearest_173 : decode cX12_nearest 173 = .ok (.invokestatic 23, 3) := by decide +kernel
theorem dX12_nearest_176 : decode cX12_nearest 176 = .ok (.bipush 53, 2) := by decide +kernel
theorem dX12_nearest_178 : decode cX12_nearest 178 = .ok (.if_icmp .le 15, 3) := by decide +kernel
theorem dX12_nearest_181 : decode cX12_nearest 181 = .ok (.lload 11, 2) := by decide +kernel
theorem dX12_nearest_183 : decode cX12_nearest 183 = .ok (.iconst 1, 1) := by decide +kernel
theorem dX12_nearest_184 : decode cX12_nearest 184 = .ok (.lshr, 1) := by decide +kernel
theorem dX12_nearest_185 : decode cX12_nearest 185 = .ok (.lstore 11, 2) := by decide +kernel
theorem dX12_nearest_187 : decode cX12_nearest 187 = .ok (.iinc 10 1, 3) := by decide +kernel
theorem dX12_nearest_190 : decode cX12_nearest 190 = .ok (.goto (-19), 3) := by decide +kernel
theorem dX12_nearest_193 : decode cX12_nearest 193 = .ok (.lload 11, 2) := by decide +kernel
theorem dX12_nearest_195 : decode cX12_nearest 195 = .ok (.invokestatic 23, 3) := by decide +kernel
theorem dX12_nearest_198 : decode cX12_nearest 198 = .ok (.bipush 53, 2) := by decide +kernel
theorem dX12_nearest_200 : decode cX12_nearest 200 = .ok (.if_icmp .ge 23, 3) := by decide +kernel
theorem dX12_nearest_203 : decode cX12_nearest 203 = .ok (.iload 10, 2) := by decide +kernel
theorem dX12_nearest_205 : decode cX12_nearest 205 = .ok (.sipush (-1074), 3) := by decide +kernel
theorem dX12_nearest_208 : decode cX12_nearest 208 = .ok (.if_icmp .le 15, 3) := by decide +kernel
theorem dX12_nearest_211 : decode cX12_nearest 211 = .ok (.lload 11, 2) := by decide +kernel
theorem dX12_nearest_213 : decode cX12_nearest 213 = .ok (.iconst 1, 1) := by decide +kernel
theorem dX12_nearest_214 : decode cX12_nearest 214 = .ok (.lshl, 1) := by decide +kernel
theorem dX12_nearest_215 : decode cX12_nearest 215 = .ok (.lstore 11, 2) := by decide +kernel
theorem dX12_nearest_217 : decode cX12_nearest 217 = .ok (.iinc 10 (-1), 3) := by decide +kernel
theorem dX12_nearest_220 : decode cX12_nearest 220 = .ok (.goto (-27), 3) := by decide +kernel
theorem dX12_nearest_223 : decode cX12_nearest 223 = .ok (.lload 8, 2) := by decide +kernel
theorem dX12_nearest_225 : decode cX12_nearest 225 = .ok (.lload 11, 2) := by decide +kernel
theorem dX12_nearest_227 : decode cX12_nearest 227 = .ok (.ldc2_w 19, 3) := by decide +kernel
theorem dX12_nearest_230 : decode cX12_nearest 230 = .ok (.lcmp, 1) := by decide +kernel
theorem dX12_nearest_231 : decode cX12_nearest 231 = .ok (.ifCond .ge 8, 3) := by decide +kernel
theorem dX12_nearest_234 : decode cX12_nearest 234 = .ok (.lload 11, 2) := by decide +kernel
theorem dX12_nearest_236 : decode cX12_nearest 236 = .ok (.goto 20, 3) := by decide +kernel
theorem dX12_nearest_239 : decode cX12_nearest 239 = .ok (.iload 10, 2) := by decide +kernel
theorem dX12_nearest_241 : decode cX12_nearest 241 = .ok (.sipush 1075, 3) := by decide +kernel
theorem dX12_nearest_244 : decode cX12_nearest 244 = .ok (.iadd, 1) := by decide +kernel
theorem dX12_nearest_245 : decode cX12_nearest 245 = .ok (.i2l, 1) := by decide +kernel
theorem dX12_nearest_246 : decode cX12_nearest 246 = .ok (.bipush 52, 2) := by decide +kernel
theorem dX12_nearest_248 : decode cX12_nearest 248 = .ok (.lshl, 1) := by decide +kernel
theorem dX12_nearest_249 : decode cX12_nearest 249 = .ok (.lload 11, 2) := by decide +kernel
theorem dX12_nearest_251 : decode cX12_nearest 251 = .ok (.ldc2_w 19, 3) := by decide +kernel
theorem dX12_nearest_254 : decode cX12_nearest 254 = .ok (.lsub, 1) := by decide +kernel
theorem dX12_nearest_255 : decode cX12_nearest 255 = .ok (.lor, 1) := by decide +kernel
theorem dX12_nearest_256 : decode cX12_nearest 256 = .ok (.lor, 1) := by decide +kernel
theorem dX12_nearest_257 : decode cX12_nearest 257 = .ok (.lreturn, 1) := by decide +kernel
theorem dX12_made_0 : decode cX12_made 0 = .ok (.iload_n 0, 1) := by decide +kernel
theorem dX12_made_1 : decode cX12_made 1 = .ok (.lload_n 1, 1) := by decide +kernel
theorem dX12_made_2 : decode cX12_made 2 = .ok (.iload_n 3, 1) := by decide +kernel
theorem dX12_made_3 : decode cX12_made 3 = .ok (.iload 4, 2) := by decide +kernel
theorem dX12_made_5 : decode cX12_made 5 = .ok (.bipush 53, 2) := by decide +kernel
theorem dX12_made_7 : decode cX12_made 7 = .ok (.sipush (-1074), 3) := by decide +kernel
theorem dX12_made_10 : decode cX12_made 10 = .ok (.sipush 1024, 3) := by decide +kernel
theorem dX12_made_13 : decode cX12_made 13 = .ok (.invokestatic 27, 3) := by decide +kernel
theorem dX12_made_16 : decode cX12_made 16 = .ok (.lreturn, 1) := by decide +kernel
theorem dX12_small_0 : decode cX12_small 0 = .ok (.lload_n 0, 1) := by decide +kernel
theorem dX12_small_1 : decode cX12_small 1 = .ok (.invokestatic 11, 3) := by decide +kernel
theorem dX12_small_4 : decode cX12_small 4 = .ok (.ifCond .ne 17, 3) := by decide +kernel
theorem dX12_small_7 : decode cX12_small 7 = .ok (.lload_n 0, 1) := by decide +kernel
theorem dX12_small_8 : decode cX12_small 8 = .ok (.invokestatic 31, 3) := by decide +kernel
theorem dX12_small_11 : decode cX12_small 11 = .ok (.ifCond .ne 10, 3) := by decide +kernel
theorem dX12_small_14 : decode cX12_small 14 = .ok (.lload_n 0, 1) := by decide +kernel
theorem dX12_small_15 : decode cX12_small 15 = .ok (.invokestatic 34, 3) := by decide +kernel
theorem dX12_small_18 : decode cX12_small 18 = .ok (.ifCond .eq 10, 3) := by decide +kernel
theorem dX12_small_21 : decode cX12_small 21 = .ok (.lload_n 0, 1) := by decide +kernel
theorem dX12_small_22 : decode cX12_small 22 = .ok (.invokestatic 37, 3) := by decide +kernel
theorem dX12_small_25 : decode cX12_small 25 = .ok (.goto 34, 3) := by decide +kernel
theorem dX12_small_28 : decode cX12_small 28 = .ok (.lload_n 0, 1) := by decide +kernel
theorem dX12_small_29 : decode cX12_small 29 = .ok (.lconst 0, 1) := by decide +kernel
theorem dX12_small_30 : decode cX12_small 30 = .ok (.lcmp, 1) := by decide +kernel
theorem dX12_small_31 : decode cX12_small 31 = .ok (.ifCond .ge 7, 3) := by decide +kernel
theorem dX12_small_34 : decode cX12_small 34 = .ok (.iconst 1, 1) := by decide +kernel
theorem dX12_small_35 : decode cX12_small 35 = .ok (.goto 4, 3) := by decide +kernel
theorem dX12_small_38 : decode cX12_small 38 = .ok (.iconst 0, 1) := by decide +kernel
theorem dX12_small_39 : decode cX12_small 39 = .ok (.lload_n 0, 1) := by decide +kernel
theorem dX12_small_40 : decode cX12_small 40 = .ok (.invokestatic 41, 3) := by decide +kernel
theorem dX12_small_43 : decode cX12_small 43 = .ok (.lload_n 0, 1) := by decide +kernel
theorem dX12_small_44 : decode cX12_small 44 = .ok (.invokestatic 44, 3) := by decide +kernel
theorem dX12_small_47 : decode cX12_small 47 = .ok (.iconst 0, 1) := by decide +kernel
theorem dX12_small_48 : decode cX12_small 48 = .ok (.bipush 24, 2) := by decide +kernel
theorem dX12_small_50 : decode cX12_small 50 = .ok (.sipush (-149), 3) := by decide +kernel
theorem dX12_small_53 : decode cX12_small 53 = .ok (.sipush 128, 3) := by decide +kernel
theorem dX12_small_56 : decode cX12_small 56 = .ok (.invokestatic 27, 3) := by decide +kernel
theorem dX12_small_59 : decode cX12_small 59 = .ok (.lreturn, 1) := by decide +kernel
theorem dX12_whole_0 : decode cX12_whole 0 = .ok (.lload_n 0, 1) := by decide +kernel
theorem dX12_whole_1 : decode cX12_whole 1 = .ok (.lconst 0, 1) := by decide +kernel
theorem dX12_whole_2 : decode cX12_whole 2 = .ok (.lcmp, 1) := by decide +kernel
theorem dX12_whole_3 : decode cX12_whole 3 = .ok (.ifCond .ge 7, 3) := by decide +kernel
theorem dX12_whole_6 : decode cX12_whole 6 = .ok (.iconst 1, 1) := by decide +kernel
theorem dX12_whole_7 : decode cX12_whole 7 = .ok (.goto 4, 3) := by decide +kernel
theorem dX12_whole_10 : decode cX12_whole 10 = .ok (.iconst 0, 1) := by decide +kernel
theorem dX12_whole_11 : decode cX12_whole 11 = .ok (.istore_n 3, 1) := by decide +kernel
theorem dX12_whole_12 : decode cX12_whole 12 = .ok (.iload_n 3, 1) := by decide +kernel
theorem dX12_whole_13 : decode cX12_whole 13 = .ok (.ifCond .eq 8, 3) := by decide +kernel
theorem dX12_whole_16 : decode cX12_whole 16 = .ok (.lload_n 0, 1) := by decide +kernel
theorem dX12_whole_17 : decode cX12_whole 17 = .ok (.lneg, 1) := by decide +kernel
theorem dX12_whole_18 : decode cX12_whole 18 = .ok (.goto 4, 3) := by decide +kernel
theorem dX12_whole_21 : decode cX12_whole 21 = .ok (.lload_n 0, 1) := by decide +kernel
theorem dX12_whole_22 : decode cX12_whole 22 = .ok (.lstore 4, 2) := by decide +kernel
theorem dX12_whole_24 : decode cX12_whole 24 = .ok (.lload 4, 2) := by decide +kernel
theorem dX12_whole_26 : decode cX12_whole 26 = .ok (.ldc2_w 47, 3) := by decide +kernel
theorem dX12_whole_29 : decode cX12_whole 29 = .ok (.land, 1) := by decide +kernel
theorem dX12_whole_30 : decode cX12_whole 30 = .ok (.lconst 0, 1) := by decide +kernel
theorem dX12_whole_31 : decode cX12_whole 31 = .ok (.lcmp, 1) := by decide +kernel
theorem dX12_whole_32 : decode cX12_whole 32 = .ok (.ifCond .eq 7, 3) := by decide +kernel
theorem dX12_whole_35 : decode cX12_whole 35 = .ok (.iconst 1, 1) := by decide +kernel
theorem dX12_whole_36 : decode cX12_whole 36 = .ok (.goto 4, 3) := by decide +kernel
theorem dX12_whole_39 : decode cX12_whole 39 = .ok (.iconst 0, 1) := by decide +kernel
theorem dX12_whole_40 : decode cX12_whole 40 = .ok (.istore 6, 2) := by decide +kernel
theorem dX12_whole_42 : decode cX12_whole 42 = .ok (.lload 4, 2) := by decide +kernel
theorem dX12_whole_44 : decode cX12_whole 44 = .ok (.lconst 0, 1) := by decide +kernel
theorem dX12_whole_45 : decode cX12_whole 45 = .ok (.lcmp, 1) := by decide +kernel
theorem dX12_whole_46 : decode cX12_whole 46 = .ok (.ifCond .lt 12, 3) := by decide +kernel
theorem dX12_whole_49 : decode cX12_whole 49 = .ok (.lload 4, 2) := by decide +kernel
theorem dX12_whole_51 : decode cX12_whole 51 = .ok (.ldc2_w 49, 3) := by decide +kernel
theorem dX12_whole_54 : decode cX12_whole 54 = .ok (.lcmp, 1) := by decide +kernel
theorem dX12_whole_55 : decode cX12_whole 55 = .ok (.ifCond .lt 7, 3) := by decide +kernel
theorem dX12_whole_58 : decode cX12_whole 58 = .ok (.iconst 1, 1) := by decide +kernel
theorem dX12_whole_59 : decode cX12_whole 59 = .ok (.goto 4, 3) := by decide +kernel
theorem dX12_whole_62 : decode cX12_whole 62 = .ok (.iconst 0, 1) := by decide +kernel
theorem dX12_whole_63 : decode cX12_whole 63 = .ok (.istore 7, 2) := by decide +kernel
theorem dX12_whole_65 : decode cX12_whole 65 = .ok (.iload_n 3, 1) := by decide +kernel
theorem dX12_whole_66 : decode cX12_whole 66 = .ok (.iload 7, 2) := by decide +kernel
theorem dX12_whole_68 : decode cX12_whole 68 = .ok (.ifCond .eq 10, 3) := by decide +kernel
theorem dX12_whole_71 : decode cX12_whole 71 = .ok (.lload 4, 2) := by decide +kernel
theorem dX12_whole_73 : decode cX12_whole 73 = .ok (.iconst 2, 1) := by decide +kernel
theorem dX12_whole_74 : decode cX12_whole 74 = .ok (.lushr, 1) := by decide +kernel
theorem dX12_whole_75 : decode cX12_whole 75 = .ok (.goto 5, 3) := by decide +kernel
theorem dX12_whole_78 : decode cX12_whole 78 = .ok (.lload 4, 2) := by decide +kernel
theorem dX12_whole_80 : decode cX12_whole 80 = .ok (.iload 7, 2) := by decide +kernel
theorem dX12_whole_82 : decode cX12_whole 82 = .ok (.ifCond .eq 7, 3) := by decide +kernel
theorem dX12_whole_85 : decode cX12_whole 85 = .ok (.iconst 2, 1) := by decide +kernel
theorem dX12_whole_86 : decode cX12_whole 86 = .ok (.goto 4, 3) := by decide +kernel
theorem dX12_whole_89 : decode cX12_whole 89 = .ok (.iconst 0, 1) := by decide +kernel
theorem dX12_whole_90 : decode cX12_whole 90 = .ok (.iload 7, 2) := by decide +kernel
theorem dX12_whole_92 : decode cX12_whole 92 = .ok (.ifCond .eq 12, 3) := by decide +kernel
theorem dX12_whole_95 : decode cX12_whole 95 = .ok (.iload 6, 2) := by decide +kernel
theorem dX12_whole_97 : decode cX12_whole 97 = .ok (.ifCond .eq 7, 3) := by decide +kernel
theorem dX12_whole_100 : decode cX12_whole 100 = .ok (.iconst 1, 1) := by decide +kernel
theorem dX12_whole_101 : decode cX12_whole 101 = .ok (.goto 4, 3) := by decide +kernel
theorem dX12_whole_104 : decode cX12_whole 104 = .ok (.iconst 0, 1) := by decide +kernel
theorem dX12_whole_105 : decode cX12_whole 105 = .ok (.iload_n 2, 1) := by decide +kernel
theorem dX12_whole_106 : decode cX12_whole 106 = .ok (.ifCond .eq 8, 3) := by decide +kernel
theorem dX12_whole_109 : decode cX12_whole 109 = .ok (.bipush 24, 2) := by decide +kernel
theorem dX12_whole_111 : decode cX12_whole 111 = .ok (.goto 5, 3) := by decide +kernel
theorem dX12_whole_114 : decode cX12_whole 114 = .ok (.bipush 53, 2) := by decide +kernel
theorem dX12_whole_116 : decode cX12_whole 116 = .ok (.iload_n 2, 1) := by decide +kernel
theorem dX12_whole_117 : decode cX12_whole 117 = .ok (.ifCond .eq 9, 3) := by decide +kernel
theorem dX12_whole_120 : decode cX12_whole 120 = .ok (.sipush (-149), 3) := by decide +kernel
theorem dX12_whole_123 : decode cX12_whole 123 = .ok (.goto 6, 3) := by decide +kernel
theorem dX12_whole_126 : decode cX12_whole 126 = .ok (.sipush (-1074), 3) := by decide +kernel
theorem dX12_whole_129 : decode cX12_whole 129 = .ok (.iload_n 2, 1) := by decide +kernel
theorem dX12_whole_130 : decode cX12_whole 130 = .ok (.ifCond .eq 9, 3) := by decide +kernel
theorem dX12_whole_133 : decode cX12_whole 133 = .ok (.sipush 128, 3) := by decide +kernel
theorem dX12_whole_136 : decode cX12_whole 136 = .ok (.goto 6, 3) := by decide +kernel
theorem dX12_whole_139 : decode cX12_whole 139 = .ok (.sipush 1024, 3) := by decide +kernel
theorem dX12_whole_142 : decode cX12_whole 142 = .ok (.invokestatic 27, 3) := by decide +kernel
theorem dX12_whole_145 : decode cX12_whole 145 = .ok (.lreturn, 1) := by decide +kernel
theorem dX12_number_0 : decode cX12_number 0 = .ok (.lload_n 0, 1) := by decide +kernel
theorem dX12_number_1 : decode cX12_number 1 = .ok (.iconst 0, 1) := by decide +kernel
theorem dX12_number_2 : decode cX12_number 2 = .ok (.invokestatic 51, 3) := by decide +kernel
theorem dX12_number_5 : decode cX12_number 5 = .ok (.lreturn, 1) := by decide +kernel
theorem dX12_magnitude_0 : decode cX12_magnitude 0 = .ok (.lload_n 0, 1) := by decide +kernel
theorem dX12_magnitude_1 : decode cX12_magnitude 1 = .ok (.invokestatic 11, 3) := by decide +kernel
theorem dX12_magnitude_4 : decode cX12_magnitude 4 = .ok (.ifCond .eq 9, 3) := by decide +kernel
theorem dX12_magnitude_7 : decode cX12_magnitude 7 = .ok (.ldc2_w 15, 3) := by decide +kernel
theorem dX12_magnitude_10 : decode cX12_magnitude 10 = .ok (.goto 8, 3) := by decide +kernel
theorem dX12_magnitude_13 : decode cX12_magnitude 13 = .ok (.lload_n 0, 1) := by decide +kernel
theorem dX12_magnitude_14 : decode cX12_magnitude 14 = .ok (.ldc2_w 7, 3) := by decide +kernel
theorem dX12_magnitude_17 : decode cX12_magnitude 17 = .ok (.land, 1) := by decide +kernel
theorem dX12_magnitude_18 : decode cX12_magnitude 18 = .ok (.lreturn, 1) := by decide +kernel
theorem dX12_opposite_0 : decode cX12_opposite 0 = .ok (.lload_n 0, 1) := by decide +kernel
theorem dX12_opposite_1 : decode cX12_opposite 1 = .ok (.invokestatic 11, 3) := by decide +kernel
theorem dX12_opposite_4 : decode cX12_opposite 4 = .ok (.ifCond .eq 9, 3) := by decide +kernel
theorem dX12_opposite_7 : decode cX12_opposite 7 = .ok (.ldc2_w 15, 3) := by decide +kernel
theorem dX12_opposite_10 : decode cX12_opposite 10 = .ok (.goto 8, 3) := by decide +kernel
theorem dX12_opposite_13 : decode cX12_opposite 13 = .ok (.lload_n 0, 1) := by decide +kernel
theorem dX12_opposite_14 : decode cX12_opposite 14 = .ok (.ldc2_w 21, 3) := by decide +kernel
theorem dX12_opposite_17 : decode cX12_opposite 17 = .ok (.lxor, 1) := by decide +kernel
theorem dX12_opposite_18 : decode cX12_opposite 18 = .ok (.lreturn, 1) := by decide +kernel
theorem dX12_full_0 : decode cX12_full 0 = .ok (.lload_n 0, 1) := by decide +kernel
theorem dX12_full_1 : decode cX12_full 1 = .ok (.bipush 53, 2) := by decide +kernel
theorem dX12_full_3 : decode cX12_full 3 = .ok (.lload_n 0, 1) := by decide +kernel
theorem dX12_full_4 : decode cX12_full 4 = .ok (.invokestatic 23, 3) := by decide +kernel
theorem dX12_full_7 : decode cX12_full 7 = .ok (.isub, 1) := by decide +kernel
theorem dX12_full_8 : decode cX12_full 8 = .ok (.lshl, 1) := by decide +kernel
theorem dX12_full_9 : decode cX12_full 9 = .ok (.lreturn, 1) := by decide +kernel
theorem dX12_sum_0 : decode cX12_sum 0 = .ok (.lload_n 0, 1) := by decide +kernel
theorem dX12_sum_1 : decode cX12_sum 1 = .ok (.invokestatic 11, 3) := by decide +kernel
theorem dX12_sum_4 : decode cX12_sum 4 = .ok (.ifCond .ne 30, 3) := by decide +kernel
theorem dX12_sum_7 : decode cX12_sum 7 = .ok (.lload_n 2, 1) := by decide +kernel
theorem dX12_sum_8 : decode cX12_sum 8 = .ok (.invokestatic 11, 3) := by decide +kernel
theorem dX12_sum_11 : decode cX12_sum 11 = .ok (.ifCond .ne 23, 3) := by decide +kernel
theorem dX12_sum_14 : decode cX12_sum 14 = .ok (.lload_n 0, 1) := by decide +kernel
theorem dX12_sum_15 : decode cX12_sum 15 = .ok (.invokestatic 31, 3) := by decide +kernel
theorem dX12_sum_18 : decode cX12_sum 18 = .ok (.ifCond .eq 20, 3) := by decide +kernel
theorem dX12_sum_21 : decode cX12_sum 21 = .ok (.lload_n 2, 1) := by decide +kernel
theorem dX12_sum_22 : decode cX12_sum 22 = .ok (.invokestatic 31, 3) := by decide +kernel
theorem dX12_sum_25 : decode cX12_sum 25 = .ok (.ifCond .eq 13, 3) := by decide +kernel
theorem dX12_sum_28 : decode cX12_sum 28 = .ok (.lload_n 0, 1) := by decide +kernel
theorem dX12_sum_29 : decode cX12_sum 29 = .ok (.lload_n 2, 1) := by decide +kernel
theorem dX12_sum_30 : decode cX12_sum 30 = .ok (.lcmp, 1) := by decide +kernel
theorem dX12_sum_31 : decode cX12_sum 31 = .ok (.ifCond .eq 7, 3) := by decide +kernel
theorem dX12_sum_34 : decode cX12_sum 34 = .ok (.ldc2_w 15, 3) := by decide +kernel
theorem dX12_sum_37 : decode cX12_sum 37 = .ok (.lreturn, 1) := by decide +kernel
theorem dX12_sum_38 : decode cX12_sum 38 = .ok (.lload_n 0, 1) := by decide +kernel
theorem dX12_sum_39 : decode cX12_sum 39 = .ok (.invokestatic 31, 3) := by decide +kernel
theorem dX12_sum_42 : decode cX12_sum 42 = .ok (.ifCond .ne 10, 3) := by decide +kernel
theorem dX12_sum_45 : decode cX12_sum 45 = .ok (.lload_n 2, 1) := by decide +kernel
theorem dX12_sum_46 : decode cX12_sum 46 = .ok (.invokestatic 31, 3) := by decide +kernel
theorem dX12_sum_49 : decode cX12_sum 49 = .ok (.ifCond .eq 16, 3) := by decide +kernel
theorem dX12_sum_52 : decode cX12_sum 52 = .ok (.lload_n 0, 1) := by decide +kernel
theorem dX12_sum_53 : decode cX12_sum 53 = .ok (.invokestatic 31, 3) := by decide +kernel
theorem dX12_sum_56 : decode cX12_sum 56 = .ok (.ifCond .eq 7, 3) := by decide +kernel
theorem dX12_sum_59 : decode cX12_sum 59 = .ok (.lload_n 0, 1) := by decide +kernel
theorem dX12_sum_60 : decode cX12_sum 60 = .ok (.goto 4, 3) := by decide +kernel
theorem dX12_sum_63 : decode cX12_sum 63 = .ok (.lload_n 2, 1) := by decide +kernel
theorem dX12_sum_64 : decode cX12_sum 64 = .ok (.lreturn, 1) := by decide +kernel
theorem dX12_sum_65 : decode cX12_sum 65 = .ok (.lload_n 0, 1) := by decide +kernel
theorem dX12_sum_66 : decode cX12_sum 66 = .ok (.invokestatic 34, 3) := by decide +kernel
theorem dX12_sum_69 : decode cX12_sum 69 = .ok (.ifCond .eq 22, 3) := by decide +kernel
theorem dX12_sum_72 : decode cX12_sum 72 = .ok (.lload_n 2, 1) := by decide +kernel
theorem dX12_sum_73 : decode cX12_sum 73 = .ok (.invokestatic 34, 3) := by decide +kernel
theorem dX12_sum_76 : decode cX12_sum 76 = .ok (.ifCond .eq 15, 3) := by decide +kernel
theorem dX12_sum_79 : decode cX12_sum 79 = .ok (.lload_n 0, 1) := by decide +kernel
theorem dX12_sum_80 : decode cX12_sum 80 = .ok (.lload_n 2, 1) := by decide +kernel
theorem dX12_sum_81 : decode cX12_sum 81 = .ok (.lcmp, 1) := by decide +kernel
theorem dX12_sum_82 : decode cX12_sum 82 = .ok (.ifCond .ne 7, 3) := by decide +kernel
theorem dX12_sum_85 : decode cX12_sum 85 = .ok (.lload_n 0, 1) := by decide +kernel
theorem dX12_sum_86 : decode cX12_sum 86 = .ok (.goto 4, 3) := by decide +kernel
theorem dX12_sum_89 : decode cX12_sum 89 = .ok (.lconst 0, 1) := by decide +kernel
theorem dX12_sum_90 : decode cX12_sum 90 = .ok (.lreturn, 1) := by decide +kernel
theorem dX12_sum_91 : decode cX12_sum 91 = .ok (.lload_n 0, 1) := by decide +kernel
theorem dX12_sum_92 : decode cX12_sum 92 = .ok (.invokestatic 34, 3) := by decide +kernel
theorem dX12_sum_95 : decode cX12_sum 95 = .ok (.ifCond .ne 10, 3) := by decide +kernel
theorem dX12_sum_98 : decode cX12_sum 98 = .ok (.lload_n 2, 1) := by decide +kernel
theorem dX12_sum_99 : decode cX12_sum 99 = .ok (.invokestatic 34, 3) := by decide +kernel
theorem dX12_sum_102 : decode cX12_sum 102 = .ok (.ifCond .eq 16, 3) := by decide +kernel
theorem dX12_sum_105 : decode cX12_sum 105 = .ok (.lload_n 0, 1) := by decide +kernel
theorem dX12_sum_106 : decode cX12_sum 106 = .ok (.invokestatic 34, 3) := by decide +kernel
theorem dX12_sum_109 : decode cX12_sum 109 = .ok (.ifCond .eq 7, 3) := by decide +kernel
theorem dX12_sum_112 : decode cX12_sum 112 = .ok (.lload_n 2, 1) := by decide +kernel
theorem dX12_sum_113 : decode cX12_sum 113 = .ok (.goto 4, 3) := by decide +kernel
theorem dX12_sum_116 : decode cX12_sum 116 = .ok (.lload_n 0, 1) := by decide +kernel
theorem dX12_sum_117 : decode cX12_sum 117 = .ok (.lreturn, 1) := by decide +kernel
theorem dX12_sum_118 : decode cX12_sum 118 = .ok (.lload_n 0, 1) := by decide +kernel
theorem dX12_sum_119 : decode cX12_sum 119 = .ok (.ldc2_w 7, 3) := by decide +kernel
theorem dX12_sum_122 : decode cX12_sum 122 = .ok (.land, 1) := by decide +kernel
theorem dX12_sum_123 : decode cX12_sum 123 = .ok (.lload_n 2, 1) := by decide +kernel
theorem dX12_sum_124 : decode cX12_sum 124 = .ok (.ldc2_w 7, 3) := by decide +kernel
theorem dX12_sum_127 : decode cX12_sum 127 = .ok (.land, 1) := by decide +kernel
theorem dX12_sum_128 : decode cX12_sum 128 = .ok (.lcmp, 1) := by decide +kernel
theorem dX12_sum_129 : decode cX12_sum 129 = .ok (.ifCond .ge 7, 3) := by decide +kernel
theorem dX12_sum_132 : decode cX12_sum 132 = .ok (.iconst 1, 1) := by decide +kernel
theorem dX12_sum_133 : decode cX12_sum 133 = .ok (.goto 4, 3) := by decide +kernel
theorem dX12_sum_136 : decode cX12_sum 136 = .ok (.iconst 0, 1) := by decide +kernel
theorem dX12_sum_137 : decode cX12_sum 137 = .ok (.istore 4, 2) := by decide +kernel
theorem dX12_sum_139 : decode cX12_sum 139 = .ok (.iload 4, 2) := by decide +kernel
theorem dX12_sum_141 : decode cX12_sum 141 = .ok (.ifCond .eq 7, 3) := by decide +kernel
theorem dX12_sum_144 : decode cX12_sum 144 = .ok (.lload_n 2, 1) := by decide +kernel
theorem dX12_sum_145 : decode cX12_sum 145 = .ok (.goto 4, 3) := by decide +kernel
theorem dX12_sum_148 : decode cX12_sum 148 = .ok (.lload_n 0, 1) := by decide +kernel
theorem dX12_sum_149 : decode cX12_sum 149 = .ok (.lstore 5, 2) := by decide +kernel
theorem dX12_sum_151 : decode cX12_sum 151 = .ok (.iload 4, 2) := by decide +kernel
theorem dX12_sum_153 : decode cX12_sum 153 = .ok (.ifCond .eq 7, 3) := by decide +kernel
theorem dX12_sum_156 : decode cX12_sum 156 = .ok (.lload_n 0, 1) := by decide +kernel
theorem dX12_sum_157 : decode cX12_sum 157 = .ok (.goto 4, 3) := by decide +kernel
theorem dX12_sum_160 : decode cX12_sum 160 = .ok (.lload_n 2, 1) := by decide +kernel
theorem dX12_sum_161 : decode cX12_sum 161 = .ok (.lstore 7, 2) := by decide +kernel
theorem dX12_sum_163 : decode cX12_sum 163 = .ok (.lload 5, 2) := by decide +kernel
theorem dX12_sum_165 : decode cX12_sum 165 = .ok (.invokestatic 44, 3) := by decide +kernel
theorem dX12_sum_168 : decode cX12_sum 168 = .ok (.lload 7, 2) := by decide +kernel
theorem dX12_sum_170 : decode cX12_sum 170 = .ok (.invokestatic 44, 3) := by decide +kernel
theorem dX12_sum_173 : decode cX12_sum 173 = .ok (.isub, 1) := by decide +kernel
theorem dX12_sum_174 : decode cX12_sum 174 = .ok (.istore 9, 2) := by decide +kernel
theorem dX12_sum_176 : decode cX12_sum 176 = .ok (.lload 5, 2) := by decide +kernel
theorem dX12_sum_178 : decode cX12_sum 178 = .ok (.invokestatic 41, 3) := by decide +kernel
theorem dX12_sum_181 : decode cX12_sum 181 = .ok (.bipush 9, 2) := by decide +kernel
theorem dX12_sum_183 : decode cX12_sum 183 = .ok (.lshl, 1) := by decide +kernel
theorem dX12_sum_184 : decode cX12_sum 184 = .ok (.lstore 10, 2) := by decide +kernel
theorem dX12_sum_186 : decode cX12_sum 186 = .ok (.lload 7, 2) := by decide +kernel
theorem dX12_sum_188 : decode cX12_sum 188 = .ok (.invokestatic 41, 3) := by decide +kernel
theorem dX12_sum_191 : decode cX12_sum 191 = .ok (.bipush 9, 2) := by decide +kernel
theorem dX12_sum_193 : decode cX12_sum 193 = .ok (.lshl, 1) := by decide +kernel
theorem dX12_sum_194 : decode cX12_sum 194 = .ok (.lstore 12, 2) := by decide +kernel
theorem dX12_sum_196 : decode cX12_sum 196 = .ok (.iload 9, 2) := by decide +kernel
theorem dX12_sum_198 : decode cX12_sum 198 = .ok (.bipush 9, 2) := by decide +kernel
theorem dX12_sum_200 : decode cX12_sum 200 = .ok (.if_icmp .le 28, 3) := by decide +kernel
theorem dX12_sum_203 : decode cX12_sum 203 = .ok (.iload 9, 2) := by decide +kernel
theorem dX12_sum_205 : decode cX12_sum 205 = .ok (.bipush 62, 2) := by decide +kernel
theorem dX12_sum_207 : decode cX12_sum 207 = .ok (.if_icmp .gt 17, 3) := by decide +kernel
theorem dX12_sum_210 : decode cX12_sum 210 = .ok (.lload 12, 2) := by decide +kernel
theorem dX12_sum_212 : decode cX12_sum 212 = .ok (.lload 12, 2) := by decide +kernel
theorem dX12_sum_214 : decode cX12_sum 214 = .ok (.iload 9, 2) := by decide +kernel
theorem dX12_sum_216 : decode cX12_sum 216 = .ok (.lshr, 1) := by decide +kernel
theorem dX12_sum_217 : decode cX12_sum 217 = .ok (.iload 9, 2) := by decide +kernel
theorem dX12_sum_219 : decode cX12_sum 219 = .ok (.lshl, 1) := by decide +kernel
theorem dX12_sum_220 : decode cX12_sum 220 = .ok (.lcmp, 1) := by decide +kernel
theorem dX12_sum_221 : decode cX12_sum 221 = .ok (.ifCond .eq 7, 3) := by decide +kernel
theorem dX12_sum_224 : decode cX12_sum 224 = .ok (.iconst 1, 1) := by decide +kernel
theorem dX12_sum_225 : decode cX12_sum 225 = .ok (.goto 4, 3) := by decide +kernel
theorem dX12_sum_228 : decode cX12_sum 228 = .ok (.iconst 0, 1) := by decide +kernel
theorem dX12_sum_229 : decode cX12_sum 229 = .ok (.istore 14, 2) := by decide +kernel
theorem dX12_sum_231 : decode cX12_sum 231 = .ok (.iload 9, 2) := by decide +kernel
theorem dX12_sum_233 : decode cX12_sum 233 = .ok (.bipush 62, 2) := by decide +kernel
theorem dX12_sum_235 : decode cX12_sum 235 = .ok (.if_icmp .le 7, 3) := by decide +kernel
theorem dX12_sum_238 : decode cX12_sum 238 = .ok (.lconst 0, 1) := by decide +kernel
theorem dX12_sum_239 : decode cX12_sum 239 = .ok (.goto 8, 3) := by decide +kernel
theorem dX12_sum_242 : decode cX12_sum 242 = .ok (.lload 12, 2) := by decide +kernel
theorem dX12_sum_244 : decode cX12_sum 244 = .ok (.iload 9, 2) := by decide +kernel
theorem dX12_sum_246 : decode cX12_sum 246 = .ok (.lshr, 1) := by decide +kernel
theorem dX12_sum_247 : decode cX12_sum 247 = .ok (.lstore 12, 2) := by decide +kernel
theorem dX12_sum_249 : decode cX12_sum 249 = .ok (.lload 5, 2) := by decide +kernel
theorem dX12_sum_251 : decode cX12_sum 251 = .ok (.lconst 0, 1) := by decide +kernel
theorem dX12_sum_252 : decode cX12_sum 252 = .ok (.lcmp, 1) := by decide +kernel
theorem dX12_sum_253 : decode cX12_sum 253 = .ok (.ifCond .ge 7, 3) := by decide +kernel
theorem dX12_sum_256 : decode cX12_sum 256 = .ok (.iconst 1, 1) := by decide +kernel
theorem dX12_sum_257 : decode cX12_sum 257 = .ok (.goto 4, 3) := by decide +kernel
theorem dX12_sum_260 : decode cX12_sum 260 = .ok (.iconst 0, 1) := by decide +kernel
theorem dX12_sum_261 : decode cX12_sum 261 = .ok (.lload 7, 2) := by decide +kernel
theorem dX12_sum_263 : decode cX12_sum 263 = .ok (.lconst 0, 1) := by decide +kernel
theorem dX12_sum_264 : decode cX12_sum 264 = .ok (.lcmp, 1) := by decide +kernel
theorem dX12_sum_265 : decode cX12_sum 265 = .ok (.ifCond .ge 7, 3) := by decide +kernel
theorem dX12_sum_268 : decode cX12_sum 268 = .ok (.iconst 1, 1) := by decide +kernel
theorem dX12_sum_269 : decode cX12_sum 269 = .ok (.goto 4, 3) := by decide +kernel
theorem dX12_sum_272 : decode cX12_sum 272 = .ok (.iconst 0, 1) := by decide +kernel
theorem dX12_sum_273 : decode cX12_sum 273 = .ok (.if_icmp .ne 7, 3) := by decide +kernel
theorem dX12_sum_276 : decode cX12_sum 276 = .ok (.iconst 1, 1) := by decide +kernel
theorem dX12_sum_277 : decode cX12_sum 277 = .ok (.goto 4, 3) := by decide +kernel
theorem dX12_sum_280 : decode cX12_sum 280 = .ok (.iconst 0, 1) := by decide +kernel
theorem dX12_sum_281 : decode cX12_sum 281 = .ok (.istore 15, 2) := by decide +kernel
theorem dX12_sum_283 : decode cX12_sum 283 = .ok (.iload 15, 2) := by decide +kernel
theorem dX12_sum_285 : decode cX12_sum 285 = .ok (.ifCond .eq 11, 3) := by decide +kernel
theorem dX12_sum_288 : decode cX12_sum 288 = .ok (.lload 10, 2) := by decide +kernel
theorem dX12_sum_290 : decode cX12_sum 290 = .ok (.lload 12, 2) := by decide +kernel
theorem dX12_sum_292 : decode cX12_sum 292 = .ok (.ladd, 1) := by decide +kernel
theorem dX12_sum_293 : decode cX12_sum 293 = .ok (.goto 19, 3) := by decide +kernel
theorem dX12_sum_296 : decode cX12_sum 296 = .ok (.lload 10, 2) := by decide +kernel
theorem dX12_sum_298 : decode cX12_sum 298 = .ok (.lload 12, 2) := by decide +kernel
theorem dX12_sum_300 : decode cX12_sum 300 = .ok (.lsub, 1) := by decide +kernel
theorem dX12_sum_301 : decode cX12_sum 301 = .ok (.iload 14, 2) := by decide +kernel
theorem dX12_sum_303 : decode cX12_sum 303 = .ok (.ifCond .eq 7, 3) := by decide +kernel
theorem dX12_sum_306 : decode cX12_sum 306 = .ok (.lconst 1, 1) := by decide +kernel
theorem dX12_sum_307 : decode cX12_sum 307 = .ok (.goto 4, 3) := by decide +kernel
theorem dX12_sum_310 : decode cX12_sum 310 = .ok (.lconst 0, 1) := by decide +kernel
theorem dX12_sum_311 : decode cX12_sum 311 = .ok (.lsub, 1) := by decide +kernel
theorem dX12_sum_312 : decode cX12_sum 312 = .ok (.lstore 16, 2) := by decide +kernel
theorem dX12_sum_314 : decode cX12_sum 314 = .ok (.lload 16, 2) := by decide +kernel
theorem dX12_sum_316 : decode cX12_sum 316 = .ok (.lconst 0, 1) := by decide +kernel
theorem dX12_sum_317 : decode cX12_sum 317 = .ok (.lcmp, 1) := by decide +kernel
theorem dX12_sum_318 : decode cX12_sum 318 = .ok (.ifCond .ne 10, 3) := by decide +kernel
theorem dX12_sum_321 : decode cX12_sum 321 = .ok (.iload 14, 2) := by decide +kernel
theorem dX12_sum_323 : decode cX12_sum 323 = .ok (.ifCond .ne 5, 3) := by decide +kernel
theorem dX12_sum_326 : decode cX12_sum 326 = .ok (.lconst 0, 1) := by decide +kernel
theorem dX12_sum_327 : decode cX12_sum 327 = .ok (.lreturn, 1) := by decide +kernel
theorem dX12_sum_328 : decode cX12_sum 328 = .ok (.lload 16, 2) := by decide +kernel
theorem dX12_sum_330 : decode cX12_sum 330 = .ok (.invokestatic 23, 3) := by decide +kernel
theorem dX12_sum_333 : decode cX12_sum 333 = .ok (.bipush 63, 2) := by decide +kernel
theorem dX12_sum_335 : decode cX12_sum 335 = .ok (.if_icmp .ne 54, 3) := by decide +kernel
theorem dX12_sum_338 : decode cX12_sum 338 = .ok (.iload 14, 2) := by decide +kernel
theorem dX12_sum_340 : decode cX12_sum 340 = .ok (.ifCond .ne 12, 3) := by decide +kernel
theorem dX12_sum_343 : decode cX12_sum 343 = .ok (.lload 16, 2) := by decide +kernel
theorem dX12_sum_345 : decode cX12_sum 345 = .ok (.lconst 1, 1) := by decide +kernel
theorem dX12_sum_346 : decode cX12_sum 346 = .ok (.land, 1) := by decide +kernel
theorem dX12_sum_347 : decode cX12_sum 347 = .ok (.lconst 1, 1) := by decide +kernel
theorem dX12_sum_348 : decode cX12_sum 348 = .ok (.lcmp, 1) := by decide +kernel
theorem dX12_sum_349 : decode cX12_sum 349 = .ok (.ifCond .ne 7, 3) := by decide +kernel
theorem dX12_sum_352 : decode cX12_sum 352 = .ok (.iconst 1, 1) := by decide +kernel
theorem dX12_sum_353 : decode cX12_sum 353 = .ok (.goto 4, 3) := by decide +kernel
theorem dX12_sum_356 : decode cX12_sum 356 = .ok (.iconst 0, 1) := by decide +kernel
theorem dX12_sum_357 : decode cX12_sum 357 = .ok (.istore 14, 2) := by decide +kernel
theorem dX12_sum_359 : decode cX12_sum 359 = .ok (.lload 5, 2) := by decide +kernel
theorem dX12_sum_361 : decode cX12_sum 361 = .ok (.lconst 0, 1) := by decide +kernel
theorem dX12_sum_362 : decode cX12_sum 362 = .ok (.lcmp, 1) := by decide +kernel
theorem dX12_sum_363 : decode cX12_sum 363 = .ok (.ifCond .ge 7, 3) := by decide +kernel
theorem dX12_sum_366 : decode cX12_sum 366 = .ok (.iconst 1, 1) := by decide +kernel
theorem dX12_sum_367 : decode cX12_sum 367 = .ok (.goto 4, 3) := by decide +kernel
theorem dX12_sum_370 : decode cX12_sum 370 = .ok (.iconst 0, 1) := by decide +kernel
theorem dX12_sum_371 : decode cX12_sum 371 = .ok (.lload 16, 2) := by decide +kernel
theorem dX12_sum_373 : decode cX12_sum 373 = .ok (.iconst 1, 1) := by decide +kernel
theorem dX12_sum_374 : decode cX12_sum 374 = .ok (.lshr, 1) := by decide +kernel
theorem dX12_sum_375 : decode cX12_sum 375 = .ok (.lload 5, 2) := by decide +kernel
theorem dX12_sum_377 : decode cX12_sum 377 = .ok (.invokestatic 44, 3) := by decide +kernel
theorem dX12_sum_380 : decode cX12_sum 380 = .ok (.bipush 8, 2) := by decide +kernel
theorem dX12_sum_382 : decode cX12_sum 382 = .ok (.isub, 1) := by decide +kernel
theorem dX12_sum_383 : decode cX12_sum 383 = .ok (.iload 14, 2) := by decide +kernel
theorem dX12_sum_385 : decode cX12_sum 385 = .ok (.invokestatic 55, 3) := by decide +kernel
theorem dX12_sum_388 : decode cX12_sum 388 = .ok (.lreturn, 1) := by decide +kernel
theorem dX12_sum_389 : decode cX12_sum 389 = .ok (.lload 5, 2) := by decide +kernel
theorem dX12_sum_391 : decode cX12_sum 391 = .ok (.lconst 0, 1) := by decide +kernel
theorem dX12_sum_392 : decode cX12_sum 392 = .ok (.lcmp, 1) := by decide +kernel
theorem dX12_sum_393 : decode cX12_sum 393 = .ok (.ifCond .ge 7, 3) := by decide +kernel
theorem dX12_sum_396 : decode cX12_sum 396 = .ok (.iconst 1, 1) := by decide +kernel
theorem dX12_sum_397 : decode cX12_sum 397 = .ok (.goto 4, 3) := by decide +kernel
theorem dX12_sum_400 : decode cX12_sum 400 = .ok (.iconst 0, 1) := by decide +kernel
theorem dX12_sum_401 : decode cX12_sum 401 = .ok (.lload 16, 2) := by decide +kernel
theorem dX12_sum_403 : decode cX12_sum 403 = .ok (.lload 5, 2) := by decide +kernel
theorem dX12_sum_405 : decode cX12_sum 405 = .ok (.invokestatic 44, 3) := by decide +kernel
theorem dX12_sum_408 : decode cX12_sum 408 = .ok (.bipush 9, 2) := by decide +kernel
theorem dX12_sum_410 : decode cX12_sum 410 = .ok (.isub, 1) := by decide +kernel
theorem dX12_sum_411 : decode cX12_sum 411 = .ok (.iload 14, 2) := by decide +kernel
theorem dX12_sum_413 : decode cX12_sum 413 = .ok (.invokestatic 55, 3) := by decide +kernel
theorem dX12_sum_416 : decode cX12_sum 416 = .ok (.lreturn, 1) := by decide +kernel
theorem dX12_less_0 : decode cX12_less 0 = .ok (.lload_n 0, 1) := by decide +kernel
theorem dX12_less_1 : decode cX12_less 1 = .ok (.lload_n 2, 1) := by decide +kernel
theorem dX12_less_2 : decode cX12_less 2 = .ok (.invokestatic 59, 3) := by decide +kernel
theorem dX12_less_5 : decode cX12_less 5 = .ok (.invokestatic 62, 3) := by decide +kernel
theorem dX12_less_8 : decode cX12_less 8 = .ok (.lreturn, 1) := by decide +kernel
theorem dX12_multiplies_0 : decode cX12_multiplies 0 = .ok (.lload_n 1, 1) := by decide +kernel
theorem dX12_multiplies_1 : decode cX12_multiplies 1 = .ok (.bipush 27, 2) := by decide +kernel
theorem dX12_multiplies_3 : decode cX12_multiplies 3 = .ok (.lshr, 1) := by decide +kernel
theorem dX12_multiplies_4 : decode cX12_multiplies 4 = .ok (.lstore 5, 2) := by decide +kernel
theorem dX12_multiplies_6 : decode cX12_multiplies 6 = .ok (.lload_n 1, 1) := by decide +kernel
theorem dX12_multiplies_7 : decode cX12_multiplies 7 = .ok (.ldc2_w 66, 3) := by decide +kernel
theorem dX12_multiplies_10 : decode cX12_multiplies 10 = .ok (.land, 1) := by decide +kernel
theorem dX12_multiplies_11 : decode cX12_multiplies 11 = .ok (.lstore 7, 2) := by decide +kernel
theorem dX12_multiplies_13 : decode cX12_multiplies 13 = .ok (.lload_n 3, 1) := by decide +kernel
theorem dX12_multiplies_14 : decode cX12_multiplies 14 = .ok (.bipush 27, 2) := by decide +kernel
theorem dX12_multiplies_16 : decode cX12_multiplies 16 = .ok (.lshr, 1) := by decide +kernel
theorem dX12_multiplies_17 : decode cX12_multiplies 17 = .ok (.lstore 9, 2) := by decide +kernel
theorem dX12_multiplies_19 : decode cX12_multiplies 19 = .ok (.lload_n 3, 1) := by decide +kernel
theorem dX12_multiplies_20 : decode cX12_multiplies 20 = .ok (.ldc2_w 66, 3) := by decide +kernel
theorem dX12_multiplies_23 : decode cX12_multiplies 23 = .ok (.land, 1) := by decide +kernel
theorem dX12_multiplies_24 : decode cX12_multiplies 24 = .ok (.lstore 11, 2) := by decide +kernel
theorem dX12_multiplies_26 : decode cX12_multiplies 26 = .ok (.lload 5, 2) := by decide +kernel
theorem dX12_multiplies_28 : decode cX12_multiplies 28 = .ok (.lload 11, 2) := by decide +kernel
theorem dX12_multiplies_30 : decode cX12_multiplies 30 = .ok (.lmul, 1) := by decide +kernel
theorem dX12_multiplies_31 : decode cX12_multiplies 31 = .ok (.lload 7, 2) := by decide +kernel
theorem dX12_multiplies_33 : decode cX12_multiplies 33 = .ok (.lload 9, 2) := by decide +kernel
theorem dX12_multiplies_35 : decode cX12_multiplies 35 = .ok (.lmul, 1) := by decide +kernel
theorem dX12_multiplies_36 : decode cX12_multiplies 36 = .ok (.ladd, 1) := by decide +kernel
theorem dX12_multiplies_37 : decode cX12_multiplies 37 = .ok (.lstore 13, 2) := by decide +kernel
theorem dX12_multiplies_39 : decode cX12_multiplies 39 = .ok (.lload 7, 2) := by decide +kernel
theorem dX12_multiplies_41 : decode cX12_multiplies 41 = .ok (.lload 11, 2) := by decide +kernel
theorem dX12_multiplies_43 : decode cX12_multiplies 43 = .ok (.lmul, 1) := by decide +kernel
theorem dX12_multiplies_44 : decode cX12_multiplies 44 = .ok (.lload 13, 2) := by decide +kernel
theorem dX12_multiplies_46 : decode cX12_multiplies 46 = .ok (.ldc2_w 66, 3) := by decide +kernel
theorem dX12_multiplies_49 : decode cX12_multiplies 49 = .ok (.land, 1) := by decide +kernel
theorem dX12_multiplies_50 : decode cX12_multiplies 50 = .ok (.bipush 27, 2) := by decide +kernel
theorem dX12_multiplies_52 : decode cX12_multiplies 52 = .ok (.lshl, 1) := by decide +kernel
theorem dX12_multiplies_53 : decode cX12_multiplies 53 = .ok (.ladd, 1) := by decide +kernel
theorem dX12_multiplies_54 : decode cX12_multiplies 54 = .ok (.lstore 15, 2) := by decide +kernel
theorem dX12_multiplies_56 : decode cX12_multiplies 56 = .ok (.aload_n 0, 1) := by decide +kernel
theorem dX12_multiplies_57 : decode cX12_multiplies 57 = .ok (.lload 5, 2) := by decide +kernel
theorem dX12_multiplies_59 : decode cX12_multiplies 59 = .ok (.lload 9, 2) := by decide +kernel
theorem dX12_multiplies_61 : decode cX12_multiplies 61 = .ok (.lmul, 1) := by decide +kernel
theorem dX12_multiplies_62 : decode cX12_multiplies 62 = .ok (.lload 13, 2) := by decide +kernel
theorem dX12_multiplies_64 : decode cX12_multiplies 64 = .ok (.bipush 27, 2) := by decide +kernel
theorem dX12_multiplies_66 : decode cX12_multiplies 66 = .ok (.lshr, 1) := by decide +kernel
theorem dX12_multiplies_67 : decode cX12_multiplies 67 = .ok (.ladd, 1) := by decide +kernel
theorem dX12_multiplies_68 : decode cX12_multiplies 68 = .ok (.lload 15, 2) := by decide +kernel
theorem dX12_multiplies_70 : decode cX12_multiplies 70 = .ok (.bipush 54, 2) := by decide +kernel
theorem dX12_multiplies_72 : decode cX12_multiplies 72 = .ok (.lshr, 1) := by decide +kernel
theorem dX12_multiplies_73 : decode cX12_multiplies 73 = .ok (.ladd, 1) := by decide +kernel
theorem dX12_multiplies_74 : decode cX12_multiplies 74 = .ok (.putfield 68, 3) := by decide +kernel
theorem dX12_multiplies_77 : decode cX12_multiplies 77 = .ok (.aload_n 0, 1) := by decide +kernel
theorem dX12_multiplies_78 : decode cX12_multiplies 78 = .ok (.lload 15, 2) := by decide +kernel
theorem dX12_multiplies_80 : decode cX12_multiplies 80 = .ok (.ldc2_w 72, 3) := by decide +kernel
theorem dX12_multiplies_83 : decode cX12_multiplies 83 = .ok (.land, 1) := by decide +kernel
theorem dX12_multiplies_84 : decode cX12_multiplies 84 = .ok (.putfield 74, 3) := by decide +kernel
theorem dX12_multiplies_87 : decode cX12_multiplies 87 = .ok (.return_, 1) := by decide +kernel
theorem dX12_product_0 : decode cX12_product 0 = .ok (.lload_n 1, 1) := by decide +kernel
theorem dX12_product_1 : decode cX12_product 1 = .ok (.lconst 0, 1) := by decide +kernel
theorem dX12_product_2 : decode cX12_product 2 = .ok (.lcmp, 1) := by decide +kernel
theorem dX12_product_3 : decode cX12_product 3 = .ok (.ifCond .ge 7, 3) := by decide +kernel
theorem dX12_product_6 : decode cX12_product 6 = .ok (.iconst 1, 1) := by decide +kernel
theorem dX12_product_7 : decode cX12_product 7 = .ok (.goto 4, 3) := by decide +kernel
theorem dX12_product_10 : decode cX12_product 10 = .ok (.iconst 0, 1) := by decide +kernel
theorem dX12_product_11 : decode cX12_product 11 = .ok (.lload_n 3, 1) := by decide +kernel
theorem dX12_product_12 : decode cX12_product 12 = .ok (.lconst 0, 1) := by decide +kernel
theorem dX12_product_13 : decode cX12_product 13 = .ok (.lcmp, 1) := by decide +kernel
theorem dX12_product_14 : decode cX12_product 14 = .ok (.ifCond .ge 7, 3) := by decide +kernel
theorem dX12_product_17 : decode cX12_product 17 = .ok (.iconst 1, 1) := by decide +kernel
theorem dX12_product_18 : decode cX12_product 18 = .ok (.goto 4, 3) := by decide +kernel
theorem dX12_product_21 : decode cX12_product 21 = .ok (.iconst 0, 1) := by decide +kernel
theorem dX12_product_22 : decode cX12_product 22 = .ok (.if_icmp .eq 7, 3) := by decide +kernel
theorem dX12_product_25 : decode cX12_product 25 = .ok (.iconst 1, 1) := by decide +kernel
theorem dX12_product_26 : decode cX12_product 26 = .ok (.goto 4, 3) := by decide +kernel
theorem dX12_product_29 : decode cX12_product 29 = .ok (.iconst 0, 1) := by decide +kernel
theorem dX12_product_30 : decode cX12_product 30 = .ok (.istore 5, 2) := by decide +kernel
theorem dX12_product_32 : decode cX12_product 32 = .ok (.lload_n 1, 1) := by decide +kernel
theorem dX12_product_33 : decode cX12_product 33 = .ok (.invokestatic 11, 3) := by decide +kernel
theorem dX12_product_36 : decode cX12_product 36 = .ok (.ifCond .ne 38, 3) := by decide +kernel
theorem dX12_product_39 : decode cX12_product 39 = .ok (.lload_n 3, 1) := by decide +kernel
theorem dX12_product_40 : decode cX12_product 40 = .ok (.invokestatic 11, 3) := by decide +kernel
theorem dX12_product_43 : decode cX12_product 43 = .ok (.ifCond .ne 31, 3) := by decide +kernel
theorem dX12_product_46 : decode cX12_product 46 = .ok (.lload_n 1, 1) := by decide +kernel
theorem dX12_product_47 : decode cX12_product 47 = .ok (.invokestatic 31, 3) := by decide +kernel
theorem dX12_product_50 : decode cX12_product 50 = .ok (.ifCond .eq 10, 3) := by decide +kernel
theorem dX12_product_53 : decode cX12_product 53 = .ok (.lload_n 3, 1) := by decide +kernel
theorem dX12_product_54 : decode cX12_product 54 = .ok (.invokestatic 34, 3) := by decide +kernel
theorem dX12_product_57 : decode cX12_product 57 = .ok (.ifCond .ne 17, 3) := by decide +kernel
theorem dX12_product_60 : decode cX12_product 60 = .ok (.lload_n 1, 1) := by decide +kernel
theorem dX12_product_61 : decode cX12_product 61 = .ok (.invokestatic 34, 3) := by decide +kernel
theorem dX12_product_64 : decode cX12_product 64 = .ok (.ifCond .eq 14, 3) := by decide +kernel
theorem dX12_product_67 : decode cX12_product 67 = .ok (.lload_n 3, 1) := by decide +kernel
theorem dX12_product_68 : decode cX12_product 68 = .ok (.invokestatic 31, 3) := by decide +kernel
theorem dX12_product_71 : decode cX12_product 71 = .ok (.ifCond .eq 7, 3) := by decide +kernel
theorem dX12_product_74 : decode cX12_product 74 = .ok (.ldc2_w 15, 3) := by decide +kernel
theorem dX12_product_77 : decode cX12_product 77 = .ok (.lreturn, 1) := by decide +kernel
theorem dX12_product_78 : decode cX12_product 78 = .ok (.lload_n 1, 1) := by decide +kernel
theorem dX12_product_79 : decode cX12_product 79 = .ok (.invokestatic 31, 3) := by decide +kernel
theorem dX12_product_82 : decode cX12_product 82 = .ok (.ifCond .ne 10, 3) := by decide +kernel
theorem dX12_product_85 : decode cX12_product 85 = .ok (.lload_n 3, 1) := by decide +kernel
theorem dX12_product_86 : decode cX12_product 86 = .ok (.invokestatic 31, 3) := by decide +kernel
theorem dX12_product_89 : decode cX12_product 89 = .ok (.ifCond .eq 18, 3) := by decide +kernel
theorem dX12_product_92 : decode cX12_product 92 = .ok (.iload 5, 2) := by decide +kernel
theorem dX12_product_94 : decode cX12_product 94 = .ok (.ifCond .eq 9, 3) := by decide +kernel
theorem dX12_product_97 : decode cX12_product 97 = .ok (.ldc2_w 77, 3) := by decide +kernel
theorem dX12_product_100 : decode cX12_product 100 = .ok (.goto 6, 3) := by decide +kernel
theorem dX12_product_103 : decode cX12_product 103 = .ok (.ldc2_w 9, 3) := by decide +kernel
theorem dX12_product_106 : decode cX12_product 106 = .ok (.lreturn, 1) := by decide +kernel
theorem dX12_product_107 : decode cX12_product 107 = .ok (.lload_n 1, 1) := by decide +kernel
theorem dX12_product_108 : decode cX12_product 108 = .ok (.invokestatic 34, 3) := by decide +kernel
theorem dX12_product_111 : decode cX12_product 111 = .ok (.ifCond .ne 10, 3) := by decide +kernel
theorem dX12_product_114 : decode cX12_product 114 = .ok (.lload_n 3, 1) := by decide +kernel
theorem dX12_product_115 : decode cX12_product 115 = .ok (.invokestatic 34, 3) := by decide +kernel
theorem dX12_product_118 : decode cX12_product 118 = .ok (.ifCond .eq 16, 3) := by decide +kernel
theorem dX12_product_121 : decode cX12_product 121 = .ok (.iload 5, 2) := by decide +kernel
theorem dX12_product_123 : decode cX12_product 123 = .ok (.ifCond .eq 9, 3) := by decide +kernel
theorem dX12_product_126 : decode cX12_product 126 = .ok (.ldc2_w 21, 3) := by decide +kernel
theorem dX12_product_129 : decode cX12_product 129 = .ok (.goto 4, 3) := by decide +kernel
theorem dX12_product_132 : decode cX12_product 132 = .ok (.lconst 0, 1) := by decide +kernel
theorem dX12_product_133 : decode cX12_product 133 = .ok (.lreturn, 1) := by decide +kernel
theorem dX12_product_134 : decode cX12_product 134 = .ok (.lload_n 1, 1) := by decide +kernel
theorem dX12_product_135 : decode cX12_product 135 = .ok (.invokestatic 41, 3) := by decide +kernel
theorem dX12_product_138 : decode cX12_product 138 = .ok (.invokestatic 79, 3) := by decide +kernel
theorem dX12_product_141 : decode cX12_product 141 = .ok (.lstore 6, 2) := by decide +kernel
theorem dX12_product_143 : decode cX12_product 143 = .ok (.lload_n 3, 1) := by decide +kernel
theorem dX12_product_144 : decode cX12_product 144 = .ok (.invokestatic 41, 3) := by decide +kernel
theorem dX12_product_147 : decode cX12_product 147 = .ok (.invokestatic 79, 3) := by decide +kernel
theorem dX12_product_150 : decode cX12_product 150 = .ok (.lstore 8, 2) := by decide +kernel
theorem dX12_product_152 : decode cX12_product 152 = .ok (.lload_n 1, 1) := by decide +kernel
theorem dX12_product_153 : decode cX12_product 153 = .ok (.invokestatic 44, 3) := by decide +kernel
theorem dX12_product_156 : decode cX12_product 156 = .ok (.bipush 53, 2) := by decide +kernel
theorem dX12_product_158 : decode cX12_product 158 = .ok (.lload_n 1, 1) := by decide +kernel
theorem dX12_product_159 : decode cX12_product 159 = .ok (.invokestatic 41, 3) := by decide +kernel
theorem dX12_product_162 : decode cX12_product 162 = .ok (.invokestatic 23, 3) := by decide +kernel
theorem dX12_product_165 : decode cX12_product 165 = .ok (.isub, 1) := by decide +kernel
theorem dX12_product_166 : decode cX12_product 166 = .ok (.isub, 1) := by decide +kernel
theorem dX12_product_167 : decode cX12_product 167 = .ok (.lload_n 3, 1) := by decide +kernel
theorem dX12_product_168 : decode cX12_product 168 = .ok (.invokestatic 44, 3) := by decide +kernel
theorem dX12_product_171 : decode cX12_product 171 = .ok (.iadd, 1) := by decide +kernel
theorem dX12_product_172 : decode cX12_product 172 = .ok (.bipush 53, 2) := by decide +kernel
theorem dX12_product_174 : decode cX12_product 174 = .ok (.lload_n 3, 1) := by decide +kernel
theorem dX12_product_175 : decode cX12_product 175 = .ok (.invokestatic 41, 3) := by decide +kernel
theorem dX12_product_178 : decode cX12_product 178 = .ok (.invokestatic 23, 3) := by decide +kernel
theorem dX12_product_181 : decode cX12_product 181 = .ok (.isub, 1) := by decide +kernel
theorem dX12_product_182 : decode cX12_product 182 = .ok (.isub, 1) := by decide +kernel
theorem dX12_product_183 : decode cX12_product 183 = .ok (.istore 10, 2) := by decide +kernel
theorem dX12_product_185 : decode cX12_product 185 = .ok (.aload_n 0, 1) := by decide +kernel
theorem dX12_product_186 : decode cX12_product 186 = .ok (.lload 6, 2) := by decide +kernel
theorem dX12_product_188 : decode cX12_product 188 = .ok (.lload 8, 2) := by decide +kernel
theorem dX12_product_190 : decode cX12_product 190 = .ok (.invokevirtual 82, 3) := by decide +kernel
theorem dX12_product_193 : decode cX12_product 193 = .ok (.iload 5, 2) := by decide +kernel
theorem dX12_product_195 : decode cX12_product 195 = .ok (.aload_n 0, 1) := by decide +kernel
theorem dX12_product_196 : decode cX12_product 196 = .ok (.getfield 68, 3) := by decide +kernel
theorem dX12_product_199 : decode cX12_product 199 = .ok (.bipush 10, 2) := by decide +kernel
theorem dX12_product_201 : decode cX12_product 201 = .ok (.lshl, 1) := by decide +kernel
theorem dX12_product_202 : decode cX12_product 202 = .ok (.aload_n 0, 1) := by decide +kernel
theorem dX12_product_203 : decode cX12_product 203 = .ok (.getfield 74, 3) := by decide +kernel
theorem dX12_product_206 : decode cX12_product 206 = .ok (.bipush 44, 2) := by decide +kernel
theorem dX12_product_208 : decode cX12_product 208 = .ok (.lshr, 1) := by decide +kernel
theorem dX12_product_209 : decode cX12_product 209 = .ok (.ladd, 1) := by decide +kernel
theorem dX12_product_210 : decode cX12_product 210 = .ok (.iload 10, 2) := by decide +kernel
theorem dX12_product_212 : decode cX12_product 212 = .ok (.bipush 44, 2) := by decide +kernel
theorem dX12_product_214 : decode cX12_product 214 = .ok (.iadd, 1) := by decide +kernel
theorem dX12_product_215 : decode cX12_product 215 = .ok (.aload_n 0, 1) := by decide +kernel
theorem dX12_product_216 : decode cX12_product 216 = .ok (.getfield 74, 3) := by decide +kernel
theorem dX12_product_219 : decode cX12_product 219 = .ok (.ldc2_w 86, 3) := by decide +kernel
theorem dX12_product_222 : decode cX12_product 222 = .ok (.land, 1) := by decide +kernel
theorem dX12_product_223 : decode cX12_product 223 = .ok (.lconst 0, 1) := by decide +kernel
theorem dX12_product_224 : decode cX12_product 224 = .ok (.lcmp, 1) := by decide +kernel
theorem dX12_product_225 : decode cX12_product 225 = .ok (.ifCond .eq 7, 3) := by decide +kernel
theorem dX12_product_228 : decode cX12_product 228 = .ok (.iconst 1, 1) := by decide +kernel
theorem dX12_product_229 : decode cX12_product 229 = .ok (.goto 4, 3) := by decide +kernel
theorem dX12_product_232 : decode cX12_product 232 = .ok (.iconst 0, 1) := by decide +kernel
theorem dX12_product_233 : decode cX12_product 233 = .ok (.invokestatic 55, 3) := by decide +kernel
theorem dX12_product_236 : decode cX12_product 236 = .ok (.lreturn, 1) := by decide +kernel
theorem dX12_quotient_0 : decode cX12_quotient 0 = .ok (.lload_n 0, 1) := by decide +kernel
theorem dX12_quotient_1 : decode cX12_quotient 1 = .ok (.lconst 0, 1) := by decide +kernel
theorem dX12_quotient_2 : decode cX12_quotient 2 = .ok (.lcmp, 1) := by decide +kernel
theorem dX12_quotient_3 : decode cX12_quotient 3 = .ok (.ifCond .ge 7, 3) := by decide +kernel
theorem dX12_quotient_6 : decode cX12_quotient 6 = .ok (.iconst 1, 1) := by decide +kernel
theorem dX12_quotient_7 : decode cX12_quotient 7 = .ok (.goto 4, 3) := by decide +kernel
theorem dX12_quotient_10 : decode cX12_quotient 10 = .ok (.iconst 0, 1) := by decide +kernel
theorem dX12_quotient_11 : decode cX12_quotient 11 = .ok (.lload_n 2, 1) := by decide +kernel
theorem dX12_quotient_12 : decode cX12_quotient 12 = .ok (.lconst 0, 1) := by decide +kernel
theorem dX12_quotient_13 : decode cX12_quotient 13 = .ok (.lcmp, 1) := by decide +kernel
theorem dX12_quotient_14 : decode cX12_quotient 14 = .ok (.ifCond .ge 7, 3) := by decide +kernel
theorem dX12_quotient_17 : decode cX12_quotient 17 = .ok (.iconst 1, 1) := by decide +kernel
theorem dX12_quotient_18 : decode cX12_quotient 18 = .ok (.goto 4, 3) := by decide +kernel
theorem dX12_quotient_21 : decode cX12_quotient 21 = .ok (.iconst 0, 1) := by decide +kernel
theorem dX12_quotient_22 : decode cX12_quotient 22 = .ok (.if_icmp .eq 7, 3) := by decide +kernel
theorem dX12_quotient_25 : decode cX12_quotient 25 = .ok (.iconst 1, 1) := by decide +kernel
theorem dX12_quotient_26 : decode cX12_quotient 26 = .ok (.goto 4, 3) := by decide +kernel
theorem dX12_quotient_29 : decode cX12_quotient 29 = .ok (.iconst 0, 1) := by decide +kernel
theorem dX12_quotient_30 : decode cX12_quotient 30 = .ok (.istore 4, 2) := by decide +kernel
theorem dX12_quotient_32 : decode cX12_quotient 32 = .ok (.lload_n 0, 1) := by decide +kernel
theorem dX12_quotient_33 : decode cX12_quotient 33 = .ok (.invokestatic 11, 3) := by decide +kernel
theorem dX12_quotient_36 : decode cX12_quotient 36 = .ok (.ifCond .ne 38, 3) := by decide +kernel
theorem dX12_quotient_39 : decode cX12_quotient 39 = .ok (.lload_n 2, 1) := by decide +kernel
theorem dX12_quotient_40 : decode cX12_quotient 40 = .ok (.invokestatic 11, 3) := by decide +kernel
theorem dX12_quotient_43 : decode cX12_quotient 43 = .ok (.ifCond .ne 31, 3) := by decide +kernel
theorem dX12_quotient_46 : decode cX12_quotient 46 = .ok (.lload_n 0, 1) := by decide +kernel
theorem dX12_quotient_47 : decode cX12_quotient 47 = .ok (.invokestatic 31, 3) := by decide +kernel
theorem dX12_quotient_50 : decode cX12_quotient 50 = .ok (.ifCond .eq 10, 3) := by decide +kernel
theorem dX12_quotient_53 : decode cX12_quotient 53 = .ok (.lload_n 2, 1) := by decide +kernel
theorem dX12_quotient_54 : decode cX12_quotient 54 = .ok (.invokestatic 31, 3) := by decide +kernel
theorem dX12_quotient_57 : decode cX12_quotient 57 = .ok (.ifCond .ne 17, 3) := by decide +kernel
theorem dX12_quotient_60 : decode cX12_quotient 60 = .ok (.lload_n 0, 1) := by decide +kernel
theorem dX12_quotient_61 : decode cX12_quotient 61 = .ok (.invokestatic 34, 3) := by decide +kernel
theorem dX12_quotient_64 : decode cX12_quotient 64 = .ok (.ifCond .eq 14, 3) := by decide +kernel
theorem dX12_quotient_67 : decode cX12_quotient 67 = .ok (.lload_n 2, 1) := by decide +kernel
theorem dX12_quotient_68 : decode cX12_quotient 68 = .ok (.invokestatic 34, 3) := by decide +kernel
theorem dX12_quotient_71 : decode cX12_quotient 71 = .ok (.ifCond .eq 7, 3) := by decide +kernel
theorem dX12_quotient_74 : decode cX12_quotient 74 = .ok (.ldc2_w 15, 3) := by decide +kernel
theorem dX12_quotient_77 : decode cX12_quotient 77 = .ok (.lreturn, 1) := by decide +kernel
theorem dX12_quotient_78 : decode cX12_quotient 78 = .ok (.lload_n 0, 1) := by decide +kernel
theorem dX12_quotient_79 : decode cX12_quotient 79 = .ok (.invokestatic 31, 3) := by decide +kernel
theorem dX12_quotient_82 : decode cX12_quotient 82 = .ok (.ifCond .ne 10, 3) := by decide +kernel
theorem dX12_quotient_85 : decode cX12_quotient 85 = .ok (.lload_n 2, 1) := by decide +kernel
theorem dX12_quotient_86 : decode cX12_quotient 86 = .ok (.invokestatic 34, 3) := by decide +kernel
theorem dX12_quotient_89 : decode cX12_quotient 89 = .ok (.ifCond .eq 18, 3) := by decide +kernel
theorem dX12_quotient_92 : decode cX12_quotient 92 = .ok (.iload 4, 2) := by decide +kernel
theorem dX12_quotient_94 : decode cX12_quotient 94 = .ok (.ifCond .eq 9, 3) := by decide +kernel
theorem dX12_quotient_97 : decode cX12_quotient 97 = .ok (.ldc2_w 77, 3) := by decide +kernel
theorem dX12_quotient_100 : decode cX12_quotient 100 = .ok (.goto 6, 3) := by decide +kernel
theorem dX12_quotient_103 : decode cX12_quotient 103 = .ok (.ldc2_w 9, 3) := by decide +kernel
theorem dX12_quotient_106 : decode cX12_quotient 106 = .ok (.lreturn, 1) := by decide +kernel
theorem dX12_quotient_107 : decode cX12_quotient 107 = .ok (.lload_n 0, 1) := by decide +kernel
theorem dX12_quotient_108 : decode cX12_quotient 108 = .ok (.invokestatic 34, 3) := by decide +kernel
theorem dX12_quotient_111 : decode cX12_quotient 111 = .ok (.ifCond .ne 10, 3) := by decide +kernel
theorem dX12_quotient_114 : decode cX12_quotient 114 = .ok (.lload_n 2, 1) := by decide +kernel
theorem dX12_quotient_115 : decode cX12_quotient 115 = .ok (.invokestatic 31, 3) := by decide +kernel
theorem dX12_quotient_118 : decode cX12_quotient 118 = .ok (.ifCond .eq 16, 3) := by decide +kernel
theorem dX12_quotient_121 : decode cX12_quotient 121 = .ok (.iload 4, 2) := by decide +kernel
theorem dX12_quotient_123 : decode cX12_quotient 123 = .ok (.ifCond .eq 9, 3) := by decide +kernel
theorem dX12_quotient_126 : decode cX12_quotient 126 = .ok (.ldc2_w 21, 3) := by decide +kernel
theorem dX12_quotient_129 : decode cX12_quotient 129 = .ok (.goto 4, 3) := by decide +kernel
theorem dX12_quotient_132 : decode cX12_quotient 132 = .ok (.lconst 0, 1) := by decide +kernel
theorem dX12_quotient_133 : decode cX12_quotient 133 = .ok (.lreturn, 1) := by decide +kernel
theorem dX12_quotient_134 : decode cX12_quotient 134 = .ok (.lload_n 0, 1) := by decide +kernel
theorem dX12_quotient_135 : decode cX12_quotient 135 = .ok (.invokestatic 41, 3) := by decide +kernel
theorem dX12_quotient_138 : decode cX12_quotient 138 = .ok (.invokestatic 79, 3) := by decide +kernel
theorem dX12_quotient_141 : decode cX12_quotient 141 = .ok (.lstore 5, 2) := by decide +kernel
theorem dX12_quotient_143 : decode cX12_quotient 143 = .ok (.lload_n 2, 1) := by decide +kernel
theorem dX12_quotient_144 : decode cX12_quotient 144 = .ok (.invokestatic 41, 3) := by decide +kernel
theorem dX12_quotient_147 : decode cX12_quotient 147 = .ok (.invokestatic 79, 3) := by decide +kernel
theorem dX12_quotient_150 : decode cX12_quotient 150 = .ok (.lstore 7, 2) := by decide +kernel
theorem dX12_quotient_152 : decode cX12_quotient 152 = .ok (.lload_n 0, 1) := by decide +kernel
theorem dX12_quotient_153 : decode cX12_quotient 153 = .ok (.invokestatic 44, 3) := by decide +kernel
theorem dX12_quotient_156 : decode cX12_quotient 156 = .ok (.bipush 53, 2) := by decide +kernel
theorem dX12_quotient_158 : decode cX12_quotient 158 = .ok (.lload_n 0, 1) := by decide +kernel
theorem dX12_quotient_159 : decode cX12_quotient 159 = .ok (.invokestatic 41, 3) := by decide +kernel
theorem dX12_quotient_162 : decode cX12_quotient 162 = .ok (.invokestatic 23, 3) := by decide +kernel
theorem dX12_quotient_165 : decode cX12_quotient 165 = .ok (.isub, 1) := by decide +kernel
theorem dX12_quotient_166 : decode cX12_quotient 166 = .ok (.isub, 1) := by decide +kernel
theorem dX12_quotient_167 : decode cX12_quotient 167 = .ok (.lload_n 2, 1) := by decide +kernel
theorem dX12_quotient_168 : decode cX12_quotient 168 = .ok (.invokestatic 44, 3) := by decide +kernel
theorem dX12_quotient_171 : decode cX12_quotient 171 = .ok (.isub, 1) := by decide +kernel
theorem dX12_quotient_172 : decode cX12_quotient 172 = .ok (.bipush 53, 2) := by decide +kernel
theorem dX12_quotient_174 : decode cX12_quotient 174 = .ok (.lload_n 2, 1) := by decide +kernel
theorem dX12_quotient_175 : decode cX12_quotient 175 = .ok (.invokestatic 41, 3) := by decide +kernel
theorem dX12_quotient_178 : decode cX12_quotient 178 = .ok (.invokestatic 23, 3) := by decide +kernel
theorem dX12_quotient_181 : decode cX12_quotient 181 = .ok (.isub, 1) := by decide +kernel
theorem dX12_quotient_182 : decode cX12_quotient 182 = .ok (.iadd, 1) := by decide +kernel
theorem dX12_quotient_183 : decode cX12_quotient 183 = .ok (.istore 9, 2) := by decide +kernel
theorem dX12_quotient_185 : decode cX12_quotient 185 = .ok (.lconst 0, 1) := by decide +kernel
theorem dX12_quotient_186 : decode cX12_quotient 186 = .ok (.lstore 10, 2) := by decide +kernel
theorem dX12_quotient_188 : decode cX12_quotient 188 = .ok (.iconst 0, 1) := by decide +kernel
theorem dX12_quotient_189 : decode cX12_quotient 189 = .ok (.istore 12, 2) := by decide +kernel
theorem dX12_quotient_191 : decode cX12_quotient 191 = .ok (.iload 12, 2) := by decide +kernel
theorem dX12_quotient_193 : decode cX12_quotient 193 = .ok (.bipush 58, 2) := by decide +kernel
theorem dX12_quotient_195 : decode cX12_quotient 195 = .ok (.if_icmp .ge 55, 3) := by decide +kernel
theorem dX12_quotient_198 : decode cX12_quotient 198 = .ok (.ldc2_w 88, 3) := by decide +kernel
theorem dX12_quotient_201 : decode cX12_quotient 201 = .ok (.lload 10, 2) := by decide +kernel
theorem dX12_quotient_203 : decode cX12_quotient 203 = .ok (.lmul, 1) := by decide +kernel
theorem dX12_quotient_204 : decode cX12_quotient 204 = .ok (.lload 5, 2) := by decide +kernel
theorem dX12_quotient_206 : decode cX12_quotient 206 = .ok (.lload 7, 2) := by decide +kernel
theorem dX12_quotient_208 : decode cX12_quotient 208 = .ok (.lcmp, 1) := by decide +kernel
theorem dX12_quotient_209 : decode cX12_quotient 209 = .ok (.ifCond .lt 7, 3) := by decide +kernel
theorem dX12_quotient_212 : decode cX12_quotient 212 = .ok (.lconst 1, 1) := by decide +kernel
theorem dX12_quotient_213 : decode cX12_quotient 213 = .ok (.goto 4, 3) := by decide +kernel
theorem dX12_quotient_216 : decode cX12_quotient 216 = .ok (.lconst 0, 1) := by decide +kernel
theorem dX12_quotient_217 : decode cX12_quotient 217 = .ok (.ladd, 1) := by decide +kernel
theorem dX12_quotient_218 : decode cX12_quotient 218 = .ok (.lstore 10, 2) := by decide +kernel
theorem dX12_quotient_220 : decode cX12_quotient 220 = .ok (.ldc2_w 88, 3) := by decide +kernel
theorem dX12_quotient_223 : decode cX12_quotient 223 = .ok (.lload 5, 2) := by decide +kernel
theorem dX12_quotient_225 : decode cX12_quotient 225 = .ok (.lload 7, 2) := by decide +kernel
theorem dX12_quotient_227 : decode cX12_quotient 227 = .ok (.lcmp, 1) := by decide +kernel
theorem dX12_quotient_228 : decode cX12_quotient 228 = .ok (.ifCond .lt 11, 3) := by decide +kernel
theorem dX12_quotient_231 : decode cX12_quotient 231 = .ok (.lload 5, 2) := by decide +kernel
theorem dX12_quotient_233 : decode cX12_quotient 233 = .ok (.lload 7, 2) := by decide +kernel
theorem dX12_quotient_235 : decode cX12_quotient 235 = .ok (.lsub, 1) := by decide +kernel
theorem dX12_quotient_236 : decode cX12_quotient 236 = .ok (.goto 5, 3) := by decide +kernel
theorem dX12_quotient_239 : decode cX12_quotient 239 = .ok (.lload 5, 2) := by decide +kernel
theorem dX12_quotient_241 : decode cX12_quotient 241 = .ok (.lmul, 1) := by decide +kernel
theorem dX12_quotient_242 : decode cX12_quotient 242 = .ok (.lstore 5, 2) := by decide +kernel
theorem dX12_quotient_244 : decode cX12_quotient 244 = .ok (.iinc 12 1, 3) := by decide +kernel
theorem dX12_quotient_247 : decode cX12_quotient 247 = .ok (.goto (-56), 3) := by decide +kernel
theorem dX12_quotient_250 : decode cX12_quotient 250 = .ok (.iload 4, 2) := by decide +kernel
theorem dX12_quotient_252 : decode cX12_quotient 252 = .ok (.lload 10, 2) := by decide +kernel
theorem dX12_quotient_254 : decode cX12_quotient 254 = .ok (.iload 9, 2) := by decide +kernel
theorem dX12_quotient_256 : decode cX12_quotient 256 = .ok (.bipush 57, 2) := by decide +kernel
theorem dX12_quotient_258 : decode cX12_quotient 258 = .ok (.isub, 1) := by decide +kernel
theorem dX12_quotient_259 : decode cX12_quotient 259 = .ok (.lload 5, 2) := by decide +kernel
theorem dX12_quotient_261 : decode cX12_quotient 261 = .ok (.lconst 0, 1) := by decide +kernel
theorem dX12_quotient_262 : decode cX12_quotient 262 = .ok (.lcmp, 1) := by decide +kernel
theorem dX12_quotient_263 : decode cX12_quotient 263 = .ok (.ifCond .eq 7, 3) := by decide +kernel
theorem dX12_quotient_266 : decode cX12_quotient 266 = .ok (.iconst 1, 1) := by decide +kernel
theorem dX12_quotient_267 : decode cX12_quotient 267 = .ok (.goto 4, 3) := by decide +kernel
theorem dX12_quotient_270 : decode cX12_quotient 270 = .ok (.iconst 0, 1) := by decide +kernel
theorem dX12_quotient_271 : decode cX12_quotient 271 = .ok (.invokestatic 55, 3) := by decide +kernel
theorem dX12_quotient_274 : decode cX12_quotient 274 = .ok (.lreturn, 1) := by decide +kernel
theorem dX12_remainder_0 : decode cX12_remainder 0 = .ok (.lload_n 0, 1) := by decide +kernel
theorem dX12_remainder_1 : decode cX12_remainder 1 = .ok (.invokestatic 11, 3) := by decide +kernel
theorem dX12_remainder_4 : decode cX12_remainder 4 = .ok (.ifCond .ne 24, 3) := by decide +kernel
theorem dX12_remainder_7 : decode cX12_remainder 7 = .ok (.lload_n 2, 1) := by decide +kernel
theorem dX12_remainder_8 : decode cX12_remainder 8 = .ok (.invokestatic 11, 3) := by decide +kernel
theorem dX12_remainder_11 : decode cX12_remainder 11 = .ok (.ifCond .ne 17, 3) := by decide +kernel
theorem dX12_remainder_14 : decode cX12_remainder 14 = .ok (.lload_n 0, 1) := by decide +kernel
theorem dX12_remainder_15 : decode cX12_remainder 15 = .ok (.invokestatic 31, 3) := by decide +kernel
theorem dX12_remainder_18 : decode cX12_remainder 18 = .ok (.ifCond .ne 10, 3) := by decide +kernel
theorem dX12_remainder_21 : decode cX12_remainder 21 = .ok (.lload_n 2, 1) := by decide +kernel
theorem dX12_remainder_22 : decode cX12_remainder 22 = .ok (.invokestatic 34, 3) := by decide +kernel
theorem dX12_remainder_25 : decode cX12_remainder 25 = .ok (.ifCond .eq 7, 3) := by decide +kernel
theorem dX12_remainder_28 : decode cX12_remainder 28 = .ok (.ldc2_w 15, 3) := by decide +kernel
theorem dX12_remainder_31 : decode cX12_remainder 31 = .ok (.lreturn, 1) := by decide +kernel
theorem dX12_remainder_32 : decode cX12_remainder 32 = .ok (.lload_n 0, 1) := by decide +kernel
theorem dX12_remainder_33 : decode cX12_remainder 33 = .ok (.invokestatic 34, 3) := by decide +kernel
theorem dX12_remainder_36 : decode cX12_remainder 36 = .ok (.ifCond .ne 10, 3) := by decide +kernel
theorem dX12_remainder_39 : decode cX12_remainder 39 = .ok (.lload_n 2, 1) := by decide +kernel
theorem dX12_remainder_40 : decode cX12_remainder 40 = .ok (.invokestatic 31, 3) := by decide +kernel
theorem dX12_remainder_43 : decode cX12_remainder 43 = .ok (.ifCond .eq 5, 3) := by decide +kernel
theorem dX12_remainder_46 : decode cX12_remainder 46 = .ok (.lload_n 0, 1) := by decide +kernel
theorem dX12_remainder_47 : decode cX12_remainder 47 = .ok (.lreturn, 1) := by decide +kernel
theorem dX12_remainder_48 : decode cX12_remainder 48 = .ok (.lload_n 0, 1) := by decide +kernel
theorem dX12_remainder_49 : decode cX12_remainder 49 = .ok (.invokestatic 41, 3) := by decide +kernel
theorem dX12_remainder_52 : decode cX12_remainder 52 = .ok (.lstore 4, 2) := by decide +kernel
theorem dX12_remainder_54 : decode cX12_remainder 54 = .ok (.lload_n 2, 1) := by decide +kernel
theorem dX12_remainder_55 : decode cX12_remainder 55 = .ok (.invokestatic 41, 3) := by decide +kernel
theorem dX12_remainder_58 : decode cX12_remainder 58 = .ok (.lstore 6, 2) := by decide +kernel
theorem dX12_remainder_60 : decode cX12_remainder 60 = .ok (.lload_n 0, 1) := by decide +kernel
theorem dX12_remainder_61 : decode cX12_remainder 61 = .ok (.invokestatic 44, 3) := by decide +kernel
theorem dX12_remainder_64 : decode cX12_remainder 64 = .ok (.lload_n 2, 1) := by decide +kernel
theorem dX12_remainder_65 : decode cX12_remainder 65 = .ok (.invokestatic 44, 3) := by decide +kernel
theorem dX12_remainder_68 : decode cX12_remainder 68 = .ok (.isub, 1) := by decide +kernel
theorem dX12_remainder_69 : decode cX12_remainder 69 = .ok (.istore 8, 2) := by decide +kernel
theorem dX12_remainder_71 : decode cX12_remainder 71 = .ok (.iload 8, 2) := by decide +kernel
theorem dX12_remainder_73 : decode cX12_remainder 73 = .ok (.ifCond .ge 47, 3) := by decide +kernel
theorem dX12_remainder_76 : decode cX12_remainder 76 = .ok (.lload 6, 2) := by decide +kernel
theorem dX12_remainder_78 : decode cX12_remainder 78 = .ok (.invokestatic 23, 3) := by decide +kernel
theorem dX12_remainder_81 : decode cX12_remainder 81 = .ok (.iload 8, 2) := by decide +kernel
theorem dX12_remainder_83 : decode cX12_remainder 83 = .ok (.isub, 1) := by decide +kernel
theorem dX12_remainder_84 : decode cX12_remainder 84 = .ok (.bipush 53, 2) := by decide +kernel
theorem dX12_remainder_86 : decode cX12_remainder 86 = .ok (.if_icmp .le 5, 3) := by decide +kernel
theorem dX12_remainder_89 : decode cX12_remainder 89 = .ok (.lload_n 0, 1) := by decide +kernel
theorem dX12_remainder_90 : decode cX12_remainder 90 = .ok (.lreturn, 1) := by decide +kernel
theorem dX12_remainder_91 : decode cX12_remainder 91 = .ok (.lload_n 0, 1) := by decide +kernel
theorem dX12_remainder_92 : decode cX12_remainder 92 = .ok (.lconst 0, 1) := by decide +kernel
theorem dX12_remainder_93 : decode cX12_remainder 93 = .ok (.lcmp, 1) := by decide +kernel
theorem dX12_remainder_94 : decode cX12_remainder 94 = .ok (.ifCond .ge 7, 3) := by decide +kernel
theorem dX12_remainder_97 : decode cX12_remainder 97 = .ok (.iconst 1, 1) := by decide +kernel
theorem dX12_remainder_98 : decode cX12_remainder 98 = .ok (.goto 4, 3) := by decide +kernel
theorem dX12_remainder_101 : decode cX12_remainder 101 = .ok (.iconst 0, 1) := by decide +kernel
theorem dX12_remainder_102 : decode cX12_remainder 102 = .ok (.lload 4, 2) := by decide +kernel
theorem dX12_remainder_104 : decode cX12_remainder 104 = .ok (.lload 6, 2) := by decide +kernel
theorem dX12_remainder_106 : decode cX12_remainder 106 = .ok (.iload 8, 2) := by decide +kernel
theorem dX12_remainder_108 : decode cX12_remainder 108 = .ok (.ineg, 1) := by decide +kernel
theorem dX12_remainder_109 : decode cX12_remainder 109 = .ok (.lshl, 1) := by decide +kernel
theorem dX12_remainder_110 : decode cX12_remainder 110 = .ok (.lrem, 1) := by decide +kernel
theorem dX12_remainder_111 : decode cX12_remainder 111 = .ok (.lload_n 0, 1) := by decide +kernel
theorem dX12_remainder_112 : decode cX12_remainder 112 = .ok (.invokestatic 44, 3) := by decide +kernel
theorem dX12_remainder_115 : decode cX12_remainder 115 = .ok (.iconst 0, 1) := by decide +kernel
theorem dX12_remainder_116 : decode cX12_remainder 116 = .ok (.invokestatic 55, 3) := by decide +kernel
theorem dX12_remainder_119 : decode cX12_remainder 119 = .ok (.lreturn, 1) := by decide +kernel
theorem dX12_remainder_120 : decode cX12_remainder 120 = .ok (.lload 4, 2) := by decide +kernel
theorem dX12_remainder_122 : decode cX12_remainder 122 = .ok (.lload 6, 2) := by decide +kernel
theorem dX12_remainder_124 : decode cX12_remainder 124 = .ok (.lrem, 1) := by decide +kernel
theorem dX12_remainder_125 : decode cX12_remainder 125 = .ok (.lstore 9, 2) := by decide +kernel
theorem dX12_remainder_127 : decode cX12_remainder 127 = .ok (.iconst 0, 1) := by decide +kernel
theorem dX12_remainder_128 : decode cX12_remainder 128 = .ok (.istore 11, 2) := by decide +kernel
theorem dX12_remainder_130 : decode cX12_remainder 130 = .ok (.iload 11, 2) := by decide +kernel
theorem dX12_remainder_132 : decode cX12_remainder 132 = .ok (.iload 8, 2) := by decide +kernel
theorem dX12_remainder_134 : decode cX12_remainder 134 = .ok (.if_icmp .ge 20, 3) := by decide +kernel
theorem dX12_remainder_137 : decode cX12_remainder 137 = .ok (.ldc2_w 88, 3) := by decide +kernel
theorem dX12_remainder_140 : decode cX12_remainder 140 = .ok (.lload 9, 2) := by decide +kernel
theorem dX12_remainder_142 : decode cX12_remainder 142 = .ok (.lmul, 1) := by decide +kernel
theorem dX12_remainder_143 : decode cX12_remainder 143 = .ok (.lload 6, 2) := by decide +kernel
theorem dX12_remainder_145 : decode cX12_remainder 145 = .ok (.lrem, 1) := by decide +kernel
theorem dX12_remainder_146 : decode cX12_remainder 146 = .ok (.lstore 9, 2) := by decide +kernel
theorem dX12_remainder_148 : decode cX12_remainder 148 = .ok (.iinc 11 1, 3) := by decide +kernel
theorem dX12_remainder_151 : decode cX12_remainder 151 = .ok (.goto (-21), 3) := by decide +kernel
theorem dX12_remainder_154 : decode cX12_remainder 154 = .ok (.lload_n 0, 1) := by decide +kernel
theorem dX12_remainder_155 : decode cX12_remainder 155 = .ok (.lconst 0, 1) := by decide +kernel
theorem dX12_remainder_156 : decode cX12_remainder 156 = .ok (.lcmp, 1) := by decide +kernel
theorem dX12_remainder_157 : decode cX12_remainder 157 = .ok (.ifCond .ge 7, 3) := by decide +kernel
theorem dX12_remainder_160 : decode cX12_remainder 160 = .ok (.iconst 1, 1) := by decide +kernel
theorem dX12_remainder_161 : decode cX12_remainder 161 = .ok (.goto 4, 3) := by decide +kernel
theorem dX12_remainder_164 : decode cX12_remainder 164 = .ok (.iconst 0, 1) := by decide +kernel
theorem dX12_remainder_165 : decode cX12_remainder 165 = .ok (.lload 9, 2) := by decide +kernel
theorem dX12_remainder_167 : decode cX12_remainder 167 = .ok (.lload_n 2, 1) := by decide +kernel
theorem dX12_remainder_168 : decode cX12_remainder 168 = .ok (.invokestatic 44, 3) := by decide +kernel
theorem dX12_remainder_171 : decode cX12_remainder 171 = .ok (.iconst 0, 1) := by decide +kernel
theorem dX12_remainder_172 : decode cX12_remainder 172 = .ok (.invokestatic 55, 3) := by decide +kernel
theorem dX12_remainder_175 : decode cX12_remainder 175 = .ok (.lreturn, 1) := by decide +kernel
theorem dX12_root_0 : decode cX12_root 0 = .ok (.lload_n 0, 1) := by decide +kernel
theorem dX12_root_1 : decode cX12_root 1 = .ok (.invokestatic 11, 3) := by decide +kernel
theorem dX12_root_4 : decode cX12_root 4 = .ok (.ifCond .ne 16, 3) := by decide +kernel
theorem dX12_root_7 : decode cX12_root 7 = .ok (.lload_n 0, 1) := by decide +kernel
theorem dX12_root_8 : decode cX12_root 8 = .ok (.lconst 0, 1) := by decide +kernel
theorem dX12_root_9 : decode cX12_root 9 = .ok (.lcmp, 1) := by decide +kernel
theorem dX12_root_10 : decode cX12_root 10 = .ok (.ifCond .ge 14, 3) := by decide +kernel
theorem dX12_root_13 : decode cX12_root 13 = .ok (.lload_n 0, 1) := by decide +kernel
theorem dX12_root_14 : decode cX12_root 14 = .ok (.invokestatic 34, 3) := by decide +kernel
theorem dX12_root_17 : decode cX12_root 17 = .ok (.ifCond .ne 7, 3) := by decide +kernel
theorem dX12_root_20 : decode cX12_root 20 = .ok (.ldc2_w 15, 3) := by decide +kernel
theorem dX12_root_23 : decode cX12_root 23 = .ok (.lreturn, 1) := by decide +kernel
theorem dX12_root_24 : decode cX12_root 24 = .ok (.lload_n 0, 1) := by decide +kernel
theorem dX12_root_25 : decode cX12_root 25 = .ok (.invokestatic 34, 3) := by decide +kernel
theorem dX12_root_28 : decode cX12_root 28 = .ok (.ifCond .ne 10, 3) := by decide +kernel
theorem dX12_root_31 : decode cX12_root 31 = .ok (.lload_n 0, 1) := by decide +kernel
theorem dX12_root_32 : decode cX12_root 32 = .ok (.invokestatic 31, 3) := by decide +kernel
theorem dX12_root_35 : decode cX12_root 35 = .ok (.ifCond .eq 5, 3) := by decide +kernel
theorem dX12_root_38 : decode cX12_root 38 = .ok (.lload_n 0, 1) := by decide +kernel
theorem dX12_root_39 : decode cX12_root 39 = .ok (.lreturn, 1) := by decide +kernel
theorem dX12_root_40 : decode cX12_root 40 = .ok (.lload_n 0, 1) := by decide +kernel
theorem dX12_root_41 : decode cX12_root 41 = .ok (.invokestatic 41, 3) := by decide +kernel
theorem dX12_root_44 : decode cX12_root 44 = .ok (.invokestatic 79, 3) := by decide +kernel
theorem dX12_root_47 : decode cX12_root 47 = .ok (.lstore_n 2, 1) := by decide +kernel
theorem dX12_root_48 : decode cX12_root 48 = .ok (.lload_n 0, 1) := by decide +kernel
theorem dX12_root_49 : decode cX12_root 49 = .ok (.invokestatic 44, 3) := by decide +kernel
theorem dX12_root_52 : decode cX12_root 52 = .ok (.bipush 53, 2) := by decide +kernel
theorem dX12_root_54 : decode cX12_root 54 = .ok (.lload_n 0, 1) := by decide +kernel
theorem dX12_root_55 : decode cX12_root 55 = .ok (.invokestatic 41, 3) := by decide +kernel
theorem dX12_root_58 : decode cX12_root 58 = .ok (.invokestatic 23, 3) := by decide +kernel
theorem dX12_root_61 : decode cX12_root 61 = .ok (.isub, 1) := by decide +kernel
theorem dX12_root_62 : decode cX12_root 62 = .ok (.isub, 1) := by decide +kernel
theorem dX12_root_63 : decode cX12_root 63 = .ok (.istore 4, 2) := by decide +kernel
theorem dX12_root_65 : decode cX12_root 65 = .ok (.iload 4, 2) := by decide +kernel
theorem dX12_root_67 : decode cX12_root 67 = .ok (.iconst 1, 1) := by decide +kernel
theorem dX12_root_68 : decode cX12_root 68 = .ok (.iand, 1) := by decide +kernel
theorem dX12_root_69 : decode cX12_root 69 = .ok (.iconst 1, 1) := by decide +kernel
theorem dX12_root_70 : decode cX12_root 70 = .ok (.if_icmp .ne 7, 3) := by decide +kernel
theorem dX12_root_73 : decode cX12_root 73 = .ok (.iconst 1, 1) := by decide +kernel
theorem dX12_root_74 : decode cX12_root 74 = .ok (.goto 4, 3) := by decide +kernel
theorem dX12_root_77 : decode cX12_root 77 = .ok (.iconst 0, 1) := by decide +kernel
theorem dX12_root_78 : decode cX12_root 78 = .ok (.istore 5, 2) := by decide +kernel
theorem dX12_root_80 : decode cX12_root 80 = .ok (.iload 5, 2) := by decide +kernel
theorem dX12_root_82 : decode cX12_root 82 = .ok (.ifCond .eq 11, 3) := by decide +kernel
theorem dX12_root_85 : decode cX12_root 85 = .ok (.ldc2_w 88, 3) := by decide +kernel
theorem dX12_root_88 : decode cX12_root 88 = .ok (.lload_n 2, 1) := by decide +kernel
theorem dX12_root_89 : decode cX12_root 89 = .ok (.lmul, 1) := by decide +kernel
theorem dX12_root_90 : decode cX12_root 90 = .ok (.goto 4, 3) := by decide +kernel
theorem dX12_root_93 : decode cX12_root 93 = .ok (.lload_n 2, 1) := by decide +kernel
theorem dX12_root_94 : decode cX12_root 94 = .ok (.lstore_n 2, 1) := by decide +kernel
theorem dX12_root_95 : decode cX12_root 95 = .ok (.iload 5, 2) := by decide +kernel
theorem dX12_root_97 : decode cX12_root 97 = .ok (.ifCond .eq 10, 3) := by decide +kernel
theorem dX12_root_100 : decode cX12_root 100 = .ok (.iload 4, 2) := by decide +kernel
theorem dX12_root_102 : decode cX12_root 102 = .ok (.iconst 1, 1) := by decide +kernel
theorem dX12_root_103 : decode cX12_root 103 = .ok (.isub, 1) := by decide +kernel
theorem dX12_root_104 : decode cX12_root 104 = .ok (.goto 5, 3) := by decide +kernel
theorem dX12_root_107 : decode cX12_root 107 = .ok (.iload 4, 2) := by decide +kernel
theorem dX12_root_109 : decode cX12_root 109 = .ok (.istore 4, 2) := by decide +kernel
theorem dX12_root_111 : decode cX12_root 111 = .ok (.lconst 0, 1) := by decide +kernel
theorem dX12_root_112 : decode cX12_root 112 = .ok (.lstore 6, 2) := by decide +kernel
theorem dX12_root_114 : decode cX12_root 114 = .ok (.lconst 0, 1) := by decide +kernel
theorem dX12_root_115 : decode cX12_root 115 = .ok (.lstore 8, 2) := by decide +kernel
theorem dX12_root_117 : decode cX12_root 117 = .ok (.iconst 0, 1) := by decide +kernel
theorem dX12_root_118 : decode cX12_root 118 = .ok (.istore 10, 2) := by decide +kernel
theorem dX12_root_120 : decode cX12_root 120 = .ok (.iload 10, 2) := by decide +kernel
theorem dX12_root_122 : decode cX12_root 122 = .ok (.bipush 57, 2) := by decide +kernel
theorem dX12_root_124 : decode cX12_root 124 = .ok (.if_icmp .ge 79, 3) := by decide +kernel
theorem dX12_root_127 : decode cX12_root 127 = .ok (.iload 10, 2) := by decide +kernel
theorem dX12_root_129 : decode cX12_root 129 = .ok (.bipush 27, 2) := by decide +kernel
theorem dX12_root_131 : decode cX12_root 131 = .ok (.if_icmp .ge 19, 3) := by decide +kernel
theorem dX12_root_134 : decode cX12_root 134 = .ok (.lload_n 2, 1) := by decide +kernel
theorem dX12_root_135 : decode cX12_root 135 = .ok (.bipush 52, 2) := by decide +kernel
theorem dX12_root_137 : decode cX12_root 137 = .ok (.iconst 2, 1) := by decide +kernel
theorem dX12_root_138 : decode cX12_root 138 = .ok (.iload 10, 2) := by decide +kernel
theorem dX12_root_140 : decode cX12_root 140 = .ok (.imul, 1) := by decide +kernel
theorem dX12_root_141 : decode cX12_root 141 = .ok (.isub, 1) := by decide +kernel
theorem dX12_root_142 : decode cX12_root 142 = .ok (.lshr, 1) := by decide +kernel
theorem dX12_root_143 : decode cX12_root 143 = .ok (.ldc2_w 47, 3) := by decide +kernel
theorem dX12_root_146 : decode cX12_root 146 = .ok (.land, 1) := by decide +kernel
theorem dX12_root_147 : decode cX12_root 147 = .ok (.goto 4, 3) := by decide +kernel
theorem dX12_root_150 : decode cX12_root 150 = .ok (.lconst 0, 1) := by decide +kernel
theorem dX12_root_151 : decode cX12_root 151 = .ok (.lstore 11, 2) := by decide +kernel
theorem dX12_root_153 : decode cX12_root 153 = .ok (.lload 8, 2) := by decide +kernel
theorem dX12_root_155 : decode cX12_root 155 = .ok (.iconst 2, 1) := by decide +kernel
theorem dX12_root_156 : decode cX12_root 156 = .ok (.lshl, 1) := by decide +kernel
theorem dX12_root_157 : decode cX12_root 157 = .ok (.lload 11, 2) := by decide +kernel
theorem dX12_root_159 : decode cX12_root 159 = .ok (.lor, 1) := by decide +kernel
theorem dX12_root_160 : decode cX12_root 160 = .ok (.lstore 8, 2) := by decide +kernel
theorem dX12_root_162 : decode cX12_root 162 = .ok (.lload 6, 2) := by decide +kernel
theorem dX12_root_164 : decode cX12_root 164 = .ok (.iconst 2, 1) := by decide +kernel
theorem dX12_root_165 : decode cX12_root 165 = .ok (.lshl, 1) := by decide +kernel
theorem dX12_root_166 : decode cX12_root 166 = .ok (.lconst 1, 1) := by decide +kernel
theorem dX12_root_167 : decode cX12_root 167 = .ok (.lor, 1) := by decide +kernel
theorem dX12_root_168 : decode cX12_root 168 = .ok (.lstore 13, 2) := by decide +kernel
theorem dX12_root_170 : decode cX12_root 170 = .ok (.lload 6, 2) := by decide +kernel
theorem dX12_root_172 : decode cX12_root 172 = .ok (.iconst 1, 1) := by decide +kernel
theorem dX12_root_173 : decode cX12_root 173 = .ok (.lshl, 1) := by decide +kernel
theorem dX12_root_174 : decode cX12_root 174 = .ok (.lstore 6, 2) := by decide +kernel
theorem dX12_root_176 : decode cX12_root 176 = .ok (.lload 8, 2) := by decide +kernel
theorem dX12_root_178 : decode cX12_root 178 = .ok (.lload 13, 2) := by decide +kernel
theorem dX12_root_180 : decode cX12_root 180 = .ok (.lcmp, 1) := by decide +kernel
theorem dX12_root_181 : decode cX12_root 181 = .ok (.ifCond .lt 16, 3) := by decide +kernel
theorem dX12_root_184 : decode cX12_root 184 = .ok (.lload 8, 2) := by decide +kernel
theorem dX12_root_186 : decode cX12_root 186 = .ok (.lload 13, 2) := by decide +kernel
theorem dX12_root_188 : decode cX12_root 188 = .ok (.lsub, 1) := by decide +kernel
theorem dX12_root_189 : decode cX12_root 189 = .ok (.lstore 8, 2) := by decide +kernel
theorem dX12_root_191 : decode cX12_root 191 = .ok (.lload 6, 2) := by decide +kernel
theorem dX12_root_193 : decode cX12_root 193 = .ok (.lconst 1, 1) := by decide +kernel
theorem dX12_root_194 : decode cX12_root 194 = .ok (.lor, 1) := by decide +kernel
theorem dX12_root_195 : decode cX12_root 195 = .ok (.lstore 6, 2) := by decide +kernel
theorem dX12_root_197 : decode cX12_root 197 = .ok (.iinc 10 1, 3) := by decide +kernel
theorem dX12_root_200 : decode cX12_root 200 = .ok (.goto (-80), 3) := by decide +kernel
theorem dX12_root_203 : decode cX12_root 203 = .ok (.iconst 0, 1) := by decide +kernel
theorem dX12_root_204 : decode cX12_root 204 = .ok (.lload 6, 2) := by decide +kernel
theorem dX12_root_206 : decode cX12_root 206 = .ok (.iload 4, 2) := by decide +kernel
theorem dX12_root_208 : decode cX12_root 208 = .ok (.iconst 2, 1) := by decide +kernel
theorem dX12_root_209 : decode cX12_root 209 = .ok (.idiv, 1) := by decide +kernel
theorem dX12_root_210 : decode cX12_root 210 = .ok (.bipush 30, 2) := by decide +kernel
theorem dX12_root_212 : decode cX12_root 212 = .ok (.isub, 1) := by decide +kernel
theorem dX12_root_213 : decode cX12_root 213 = .ok (.lload 8, 2) := by decide +kernel
theorem dX12_root_215 : decode cX12_root 215 = .ok (.lconst 0, 1) := by decide +kernel
theorem dX12_root_216 : decode cX12_root 216 = .ok (.lcmp, 1) := by decide +kernel
theorem dX12_root_217 : decode cX12_root 217 = .ok (.ifCond .eq 7, 3) := by decide +kernel
theorem dX12_root_220 : decode cX12_root 220 = .ok (.iconst 1, 1) := by decide +kernel
theorem dX12_root_221 : decode cX12_root 221 = .ok (.goto 4, 3) := by decide +kernel
theorem dX12_root_224 : decode cX12_root 224 = .ok (.iconst 0, 1) := by decide +kernel
theorem dX12_root_225 : decode cX12_root 225 = .ok (.invokestatic 55, 3) := by decide +kernel
theorem dX12_root_228 : decode cX12_root 228 = .ok (.lreturn, 1) := by decide +kernel
theorem dX12_scaled_0 : decode cX12_scaled 0 = .ok (.lload_n 0, 1) := by decide +kernel
theorem dX12_scaled_1 : decode cX12_scaled 1 = .ok (.invokestatic 11, 3) := by decide +kernel
theorem dX12_scaled_4 : decode cX12_scaled 4 = .ok (.ifCond .ne 17, 3) := by decide +kernel
theorem dX12_scaled_7 : decode cX12_scaled 7 = .ok (.lload_n 0, 1) := by decide +kernel
theorem dX12_scaled_8 : decode cX12_scaled 8 = .ok (.invokestatic 31, 3) := by decide +kernel
theorem dX12_scaled_11 : decode cX12_scaled 11 = .ok (.ifCond .ne 10, 3) := by decide +kernel
theorem dX12_scaled_14 : decode cX12_scaled 14 = .ok (.lload_n 0, 1) := by decide +kernel
theorem dX12_scaled_15 : decode cX12_scaled 15 = .ok (.invokestatic 34, 3) := by decide +kernel
theorem dX12_scaled_18 : decode cX12_scaled 18 = .ok (.ifCond .eq 10, 3) := by decide +kernel
theorem dX12_scaled_21 : decode cX12_scaled 21 = .ok (.lload_n 0, 1) := by decide +kernel
theorem dX12_scaled_22 : decode cX12_scaled 22 = .ok (.invokestatic 37, 3) := by decide +kernel
theorem dX12_scaled_25 : decode cX12_scaled 25 = .ok (.goto 28, 3) := by decide +kernel
theorem dX12_scaled_28 : decode cX12_scaled 28 = .ok (.lload_n 0, 1) := by decide +kernel
theorem dX12_scaled_29 : decode cX12_scaled 29 = .ok (.lconst 0, 1) := by decide +kernel
theorem dX12_scaled_30 : decode cX12_scaled 30 = .ok (.lcmp, 1) := by decide +kernel
theorem dX12_scaled_31 : decode cX12_scaled 31 = .ok (.ifCond .ge 7, 3) := by decide +kernel
theorem dX12_scaled_34 : decode cX12_scaled 34 = .ok (.iconst 1, 1) := by decide +kernel
theorem dX12_scaled_35 : decode cX12_scaled 35 = .ok (.goto 4, 3) := by decide +kernel
theorem dX12_scaled_38 : decode cX12_scaled 38 = .ok (.iconst 0, 1) := by decide +kernel
theorem dX12_scaled_39 : decode cX12_scaled 39 = .ok (.lload_n 0, 1) := by decide +kernel
theorem dX12_scaled_40 : decode cX12_scaled 40 = .ok (.invokestatic 41, 3) := by decide +kernel
theorem dX12_scaled_43 : decode cX12_scaled 43 = .ok (.lload_n 0, 1) := by decide +kernel
theorem dX12_scaled_44 : decode cX12_scaled 44 = .ok (.invokestatic 44, 3) := by decide +kernel
theorem dX12_scaled_47 : decode cX12_scaled 47 = .ok (.iload_n 2, 1) := by decide +kernel
theorem dX12_scaled_48 : decode cX12_scaled 48 = .ok (.iadd, 1) := by decide +kernel
theorem dX12_scaled_49 : decode cX12_scaled 49 = .ok (.iconst 0, 1) := by decide +kernel
theorem dX12_scaled_50 : decode cX12_scaled 50 = .ok (.invokestatic 55, 3) := by decide +kernel
theorem dX12_scaled_53 : decode cX12_scaled 53 = .ok (.lreturn, 1) := by decide +kernel
theorem dX12_cut_0 : decode cX12_cut 0 = .ok (.lload_n 0, 1) := by decide +kernel
theorem dX12_cut_1 : decode cX12_cut 1 = .ok (.invokestatic 11, 3) := by decide +kernel
theorem dX12_cut_4 : decode cX12_cut 4 = .ok (.ifCond .eq 7, 3) := by decide +kernel
theorem dX12_cut_7 : decode cX12_cut 7 = .ok (.ldc2_w 15, 3) := by decide +kernel
theorem dX12_cut_10 : decode cX12_cut 10 = .ok (.lreturn, 1) := by decide +kernel
theorem dX12_cut_11 : decode cX12_cut 11 = .ok (.lload_n 0, 1) := by decide +kernel
theorem dX12_cut_12 : decode cX12_cut 12 = .ok (.invokestatic 31, 3) := by decide +kernel
theorem dX12_cut_15 : decode cX12_cut 15 = .ok (.ifCond .ne 17, 3) := by decide +kernel
theorem dX12_cut_18 : decode cX12_cut 18 = .ok (.lload_n 0, 1) := by decide +kernel
theorem dX12_cut_19 : decode cX12_cut 19 = .ok (.invokestatic 34, 3) := by decide +kernel
theorem dX12_cut_22 : decode cX12_cut 22 = .ok (.ifCond .ne 10, 3) := by decide +kernel
theorem dX12_cut_25 : decode cX12_cut 25 = .ok (.lload_n 0, 1) := by decide +kernel
theorem dX12_cut_26 : decode cX12_cut 26 = .ok (.invokestatic 44, 3) := by decide +kernel
theorem dX12_cut_29 : decode cX12_cut 29 = .ok (.ifCond .lt 5, 3) := by decide +kernel
theorem dX12_cut_32 : decode cX12_cut 32 = .ok (.lload_n 0, 1) := by decide +kernel
theorem dX12_cut_33 : decode cX12_cut 33 = .ok (.lreturn, 1) := by decide +kernel
theorem dX12_cut_34 : decode cX12_cut 34 = .ok (.lload_n 0, 1) := by decide +kernel
theorem dX12_cut_35 : decode cX12_cut 35 = .ok (.invokestatic 44, 3) := by decide +kernel
theorem dX12_cut_38 : decode cX12_cut 38 = .ok (.ineg, 1) := by decide +kernel
theorem dX12_cut_39 : decode cX12_cut 39 = .ok (.istore_n 3, 1) := by decide +kernel
theorem dX12_cut_40 : decode cX12_cut 40 = .ok (.lload_n 0, 1) := by decide +kernel
theorem dX12_cut_41 : decode cX12_cut 41 = .ok (.invokestatic 41, 3) := by decide +kernel
theorem dX12_cut_44 : decode cX12_cut 44 = .ok (.lstore 4, 2) := by decide +kernel
theorem dX12_cut_46 : decode cX12_cut 46 = .ok (.iload_n 3, 1) := by decide +kernel
theorem dX12_cut_47 : decode cX12_cut 47 = .ok (.bipush 60, 2) := by decide +kernel
theorem dX12_cut_49 : decode cX12_cut 49 = .ok (.if_icmp .le 7, 3) := by decide +kernel
theorem dX12_cut_52 : decode cX12_cut 52 = .ok (.lconst 0, 1) := by decide +kernel
theorem dX12_cut_53 : decode cX12_cut 53 = .ok (.goto 7, 3) := by decide +kernel
theorem dX12_cut_56 : decode cX12_cut 56 = .ok (.lload 4, 2) := by decide +kernel
theorem dX12_cut_58 : decode cX12_cut 58 = .ok (.iload_n 3, 1) := by decide +kernel
theorem dX12_cut_59 : decode cX12_cut 59 = .ok (.lshr, 1) := by decide +kernel
theorem dX12_cut_60 : decode cX12_cut 60 = .ok (.lstore 6, 2) := by decide +kernel
theorem dX12_cut_62 : decode cX12_cut 62 = .ok (.iload_n 3, 1) := by decide +kernel
theorem dX12_cut_63 : decode cX12_cut 63 = .ok (.bipush 60, 2) := by decide +kernel
theorem dX12_cut_65 : decode cX12_cut 65 = .ok (.if_icmp .le 8, 3) := by decide +kernel
theorem dX12_cut_68 : decode cX12_cut 68 = .ok (.lload 4, 2) := by decide +kernel
theorem dX12_cut_70 : decode cX12_cut 70 = .ok (.goto 10, 3) := by decide +kernel
theorem dX12_cut_73 : decode cX12_cut 73 = .ok (.lload 4, 2) := by decide +kernel
theorem dX12_cut_75 : decode cX12_cut 75 = .ok (.lload 6, 2) := by decide +kernel
theorem dX12_cut_77 : decode cX12_cut 77 = .ok (.iload_n 3, 1) := by decide +kernel
theorem dX12_cut_78 : decode cX12_cut 78 = .ok (.lshl, 1) := by decide +kernel
theorem dX12_cut_79 : decode cX12_cut 79 = .ok (.lsub, 1) := by decide +kernel
theorem dX12_cut_80 : decode cX12_cut 80 = .ok (.lstore 8, 2) := by decide +kernel
theorem dX12_cut_82 : decode cX12_cut 82 = .ok (.lload_n 0, 1) := by decide +kernel
theorem dX12_cut_83 : decode cX12_cut 83 = .ok (.lconst 0, 1) := by decide +kernel
theorem dX12_cut_84 : decode cX12_cut 84 = .ok (.lcmp, 1) := by decide +kernel
theorem dX12_cut_85 : decode cX12_cut 85 = .ok (.ifCond .ge 7, 3) := by decide +kernel
theorem dX12_cut_88 : decode cX12_cut 88 = .ok (.iconst 1, 1) := by decide +kernel
theorem dX12_cut_89 : decode cX12_cut 89 = .ok (.goto 4, 3) := by decide +kernel
theorem dX12_cut_92 : decode cX12_cut 92 = .ok (.iconst 0, 1) := by decide +kernel
theorem dX12_cut_93 : decode cX12_cut 93 = .ok (.istore 10, 2) := by decide +kernel
theorem dX12_cut_95 : decode cX12_cut 95 = .ok (.iload_n 2, 1) := by decide +kernel
theorem dX12_cut_96 : decode cX12_cut 96 = .ok (.iconst 1, 1) := by decide +kernel
theorem dX12_cut_97 : decode cX12_cut 97 = .ok (.if_icmp .ne 23, 3) := by decide +kernel
theorem dX12_cut_100 : decode cX12_cut 100 = .ok (.iload 10, 2) := by decide +kernel
theorem dX12_cut_102 : decode cX12_cut 102 = .ok (.ifCond .eq 14, 3) := by decide +kernel
theorem dX12_cut_105 : decode cX12_cut 105 = .ok (.lload 8, 2) := by decide +kernel
theorem dX12_cut_107 : decode cX12_cut 107 = .ok (.lconst 0, 1) := by decide +kernel
theorem dX12_cut_108 : decode cX12_cut 108 = .ok (.lcmp, 1) := by decide +kernel
theorem dX12_cut_109 : decode cX12_cut 109 = .ok (.ifCond .le 7, 3) := by decide +kernel
theorem dX12_cut_112 : decode cX12_cut 112 = .ok (.iconst 1, 1) := by decide +kernel
theorem dX12_cut_113 : decode cX12_cut 113 = .ok (.goto 74, 3) := by decide +kernel
theorem dX12_cut_116 : decode cX12_cut 116 = .ok (.iconst 0, 1) := by decide +kernel
theorem dX12_cut_117 : decode cX12_cut 117 = .ok (.goto 70, 3) := by decide +kernel
theorem dX12_cut_120 : decode cX12_cut 120 = .ok (.iload_n 2, 1) := by decide +kernel
theorem dX12_cut_121 : decode cX12_cut 121 = .ok (.iconst 2, 1) := by decide +kernel
theorem dX12_cut_122 : decode cX12_cut 122 = .ok (.if_icmp .ne 23, 3) := by decide +kernel
theorem dX12_cut_125 : decode cX12_cut 125 = .ok (.iload 10, 2) := by decide +kernel
theorem dX12_cut_127 : decode cX12_cut 127 = .ok (.ifCond .ne 14, 3) := by decide +kernel
theorem dX12_cut_130 : decode cX12_cut 130 = .ok (.lload 8, 2) := by decide +kernel
theorem dX12_cut_132 : decode cX12_cut 132 = .ok (.lconst 0, 1) := by decide +kernel
theorem dX12_cut_133 : decode cX12_cut 133 = .ok (.lcmp, 1) := by decide +kernel
theorem dX12_cut_134 : decode cX12_cut 134 = .ok (.ifCond .le 7, 3) := by decide +kernel
theorem dX12_cut_137 : decode cX12_cut 137 = .ok (.iconst 1, 1) := by decide +kernel
theorem dX12_cut_138 : decode cX12_cut 138 = .ok (.goto 49, 3) := by decide +kernel
theorem dX12_cut_141 : decode cX12_cut 141 = .ok (.iconst 0, 1) := by decide +kernel
theorem dX12_cut_142 : decode cX12_cut 142 = .ok (.goto 45, 3) := by decide +kernel
theorem dX12_cut_145 : decode cX12_cut 145 = .ok (.iload_n 3, 1) := by decide +kernel
theorem dX12_cut_146 : decode cX12_cut 146 = .ok (.bipush 60, 2) := by decide +kernel
theorem dX12_cut_148 : decode cX12_cut 148 = .ok (.if_icmp .gt 38, 3) := by decide +kernel
theorem dX12_cut_151 : decode cX12_cut 151 = .ok (.lload 8, 2) := by decide +kernel
theorem dX12_cut_153 : decode cX12_cut 153 = .ok (.lconst 1, 1) := by decide +kernel
theorem dX12_cut_154 : decode cX12_cut 154 = .ok (.iload_n 3, 1) := by decide +kernel
theorem dX12_cut_155 : decode cX12_cut 155 = .ok (.iconst 1, 1) := by decide +kernel
theorem dX12_cut_156 : decode cX12_cut 156 = .ok (.isub, 1) := by decide +kernel
theorem dX12_cut_157 : decode cX12_cut 157 = .ok (.lshl, 1) := by decide +kernel
theorem dX12_cut_158 : decode cX12_cut 158 = .ok (.lcmp, 1) := by decide +kernel
theorem dX12_cut_159 : decode cX12_cut 159 = .ok (.ifCond .gt 23, 3) := by decide +kernel
theorem dX12_cut_162 : decode cX12_cut 162 = .ok (.lload 8, 2) := by decide +kernel
theorem dX12_cut_164 : decode cX12_cut 164 = .ok (.lconst 1, 1) := by decide +kernel
theorem dX12_cut_165 : decode cX12_cut 165 = .ok (.iload_n 3, 1) := by decide +kernel
theorem dX12_cut_166 : decode cX12_cut 166 = .ok (.iconst 1, 1) := by decide +kernel
theorem dX12_cut_167 : decode cX12_cut 167 = .ok (.isub, 1) := by decide +kernel
theorem dX12_cut_168 : decode cX12_cut 168 = .ok (.lshl, 1) := by decide +kernel
theorem dX12_cut_169 : decode cX12_cut 169 = .ok (.lcmp, 1) := by decide +kernel
theorem dX12_cut_170 : decode cX12_cut 170 = .ok (.ifCond .ne 16, 3) := by decide +kernel
theorem dX12_cut_173 : decode cX12_cut 173 = .ok (.lload 6, 2) := by decide +kernel
theorem dX12_cut_175 : decode cX12_cut 175 = .ok (.lconst 1, 1) := by decide +kernel
theorem dX12_cut_176 : decode cX12_cut 176 = .ok (.land, 1) := by decide +kernel
theorem dX12_cut_177 : decode cX12_cut 177 = .ok (.lconst 1, 1) := by decide +kernel
theorem dX12_cut_178 : decode cX12_cut 178 = .ok (.lcmp, 1) := by decide +kernel
theorem dX12_cut_179 : decode cX12_cut 179 = .ok (.ifCond .ne 7, 3) := by decide +kernel
theorem dX12_cut_182 : decode cX12_cut 182 = .ok (.iconst 1, 1) := by decide +kernel
theorem dX12_cut_183 : decode cX12_cut 183 = .ok (.goto 4, 3) := by decide +kernel
theorem dX12_cut_186 : decode cX12_cut 186 = .ok (.iconst 0, 1) := by decide +kernel
theorem dX12_cut_187 : decode cX12_cut 187 = .ok (.istore 11, 2) := by decide +kernel
theorem dX12_cut_189 : decode cX12_cut 189 = .ok (.iload 10, 2) := by decide +kernel
theorem dX12_cut_191 : decode cX12_cut 191 = .ok (.iload 11, 2) := by decide +kernel
theorem dX12_cut_193 : decode cX12_cut 193 = .ok (.ifCond .eq 10, 3) := by decide +kernel
theorem dX12_cut_196 : decode cX12_cut 196 = .ok (.lload 6, 2) := by decide +kernel
theorem dX12_cut_198 : decode cX12_cut 198 = .ok (.lconst 1, 1) := by decide +kernel
theorem dX12_cut_199 : decode cX12_cut 199 = .ok (.ladd, 1) := by decide +kernel
theorem dX12_cut_200 : decode cX12_cut 200 = .ok (.goto 5, 3) := by decide +kernel
theorem dX12_cut_203 : decode cX12_cut 203 = .ok (.lload 6, 2) := by decide +kernel
theorem dX12_cut_205 : decode cX12_cut 205 = .ok (.iconst 0, 1) := by decide +kernel
theorem dX12_cut_206 : decode cX12_cut 206 = .ok (.iconst 0, 1) := by decide +kernel
theorem dX12_cut_207 : decode cX12_cut 207 = .ok (.invokestatic 55, 3) := by decide +kernel
theorem dX12_cut_210 : decode cX12_cut 210 = .ok (.lreturn, 1) := by decide +kernel
theorem dX12_total_0 : decode cX12_total 0 = .ok (.lload_n 0, 1) := by decide +kernel
theorem dX12_total_1 : decode cX12_total 1 = .ok (.invokestatic 11, 3) := by decide +kernel
theorem dX12_total_4 : decode cX12_total 4 = .ok (.ifCond .ne 10, 3) := by decide +kernel
theorem dX12_total_7 : decode cX12_total 7 = .ok (.lload_n 2, 1) := by decide +kernel
theorem dX12_total_8 : decode cX12_total 8 = .ok (.invokestatic 11, 3) := by decide +kernel
theorem dX12_total_11 : decode cX12_total 11 = .ok (.ifCond .eq 27, 3) := by decide +kernel
theorem dX12_total_14 : decode cX12_total 14 = .ok (.lload_n 0, 1) := by decide +kernel
theorem dX12_total_15 : decode cX12_total 15 = .ok (.invokestatic 11, 3) := by decide +kernel
theorem dX12_total_18 : decode cX12_total 18 = .ok (.ifCond .eq 18, 3) := by decide +kernel
theorem dX12_total_21 : decode cX12_total 21 = .ok (.lload_n 2, 1) := by decide +kernel
theorem dX12_total_22 : decode cX12_total 22 = .ok (.invokestatic 11, 3) := by decide +kernel
theorem dX12_total_25 : decode cX12_total 25 = .ok (.ifCond .eq 7, 3) := by decide +kernel
theorem dX12_total_28 : decode cX12_total 28 = .ok (.iconst 0, 1) := by decide +kernel
theorem dX12_total_29 : decode cX12_total 29 = .ok (.goto 8, 3) := by decide +kernel
theorem dX12_total_32 : decode cX12_total 32 = .ok (.iconst 1, 1) := by decide +kernel
theorem dX12_total_33 : decode cX12_total 33 = .ok (.goto 4, 3) := by decide +kernel
theorem dX12_total_36 : decode cX12_total 36 = .ok (.iconst (-1), 1) := by decide +kernel
theorem dX12_total_37 : decode cX12_total 37 = .ok (.ireturn, 1) := by decide +kernel
theorem dX12_total_38 : decode cX12_total 38 = .ok (.lload_n 0, 1) := by decide +kernel
theorem dX12_total_39 : decode cX12_total 39 = .ok (.lconst 0, 1) := by decide +kernel
theorem dX12_total_40 : decode cX12_total 40 = .ok (.lcmp, 1) := by decide +kernel
theorem dX12_total_41 : decode cX12_total 41 = .ok (.ifCond .ge 13, 3) := by decide +kernel
theorem dX12_total_44 : decode cX12_total 44 = .ok (.ldc2_w 21, 3) := by decide +kernel
theorem dX12_total_47 : decode cX12_total 47 = .ok (.lload_n 0, 1) := by decide +kernel
theorem dX12_total_48 : decode cX12_total 48 = .ok (.lsub, 1) := by decide +kernel
theorem dX12_total_49 : decode cX12_total 49 = .ok (.lconst 1, 1) := by decide +kernel
theorem dX12_total_50 : decode cX12_total 50 = .ok (.lsub, 1) := by decide +kernel
theorem dX12_total_51 : decode cX12_total 51 = .ok (.goto 4, 3) := by decide +kernel
theorem dX12_total_54 : decode cX12_total 54 = .ok (.lload_n 0, 1) := by decide +kernel
theorem dX12_total_55 : decode cX12_total 55 = .ok (.lstore 4, 2) := by decide +kernel
theorem dX12_total_57 : decode cX12_total 57 = .ok (.lload_n 2, 1) := by decide +kernel
theorem dX12_total_58 : decode cX12_total 58 = .ok (.lconst 0, 1) := by decide +kernel
theorem dX12_total_59 : decode cX12_total 59 = .ok (.lcmp, 1) := by decide +kernel
theorem dX12_total_60 : decode cX12_total 60 = .ok (.ifCond .ge 13, 3) := by decide +kernel
theorem dX12_total_63 : decode cX12_total 63 = .ok (.ldc2_w 21, 3) := by decide +kernel
theorem dX12_total_66 : decode cX12_total 66 = .ok (.lload_n 2, 1) := by decide +kernel
theorem dX12_total_67 : decode cX12_total 67 = .ok (.lsub, 1) := by decide +kernel
theorem dX12_total_68 : decode cX12_total 68 = .ok (.lconst 1, 1) := by decide +kernel
theorem dX12_total_69 : decode cX12_total 69 = .ok (.lsub, 1) := by decide +kernel
theorem dX12_total_70 : decode cX12_total 70 = .ok (.goto 4, 3) := by decide +kernel
theorem dX12_total_73 : decode cX12_total 73 = .ok (.lload_n 2, 1) := by decide +kernel
theorem dX12_total_74 : decode cX12_total 74 = .ok (.lstore 6, 2) := by decide +kernel
theorem dX12_total_76 : decode cX12_total 76 = .ok (.lload 4, 2) := by decide +kernel
theorem dX12_total_78 : decode cX12_total 78 = .ok (.lload 6, 2) := by decide +kernel
theorem dX12_total_80 : decode cX12_total 80 = .ok (.lcmp, 1) := by decide +kernel
theorem dX12_total_81 : decode cX12_total 81 = .ok (.ifCond .ge 7, 3) := by decide +kernel
theorem dX12_total_84 : decode cX12_total 84 = .ok (.iconst (-1), 1) := by decide +kernel
theorem dX12_total_85 : decode cX12_total 85 = .ok (.goto 16, 3) := by decide +kernel
theorem dX12_total_88 : decode cX12_total 88 = .ok (.lload 4, 2) := by decide +kernel
theorem dX12_total_90 : decode cX12_total 90 = .ok (.lload 6, 2) := by decide +kernel
theorem dX12_total_92 : decode cX12_total 92 = .ok (.lcmp, 1) := by decide +kernel
theorem dX12_total_93 : decode cX12_total 93 = .ok (.ifCond .le 7, 3) := by decide +kernel
theorem dX12_total_96 : decode cX12_total 96 = .ok (.iconst 1, 1) := by decide +kernel
theorem dX12_total_97 : decode cX12_total 97 = .ok (.goto 4, 3) := by decide +kernel
theorem dX12_total_100 : decode cX12_total 100 = .ok (.iconst 0, 1) := by decide +kernel
theorem dX12_total_101 : decode cX12_total 101 = .ok (.ireturn, 1) := by decide +kernel
theorem dX12_byValue_0 : decode cX12_byValue 0 = .ok (.lload_n 0, 1) := by decide +kernel
theorem dX12_byValue_1 : decode cX12_byValue 1 = .ok (.invokestatic 34, 3) := by decide +kernel
theorem dX12_byValue_4 : decode cX12_byValue 4 = .ok (.ifCond .eq 14, 3) := by decide +kernel
theorem dX12_byValue_7 : decode cX12_byValue 7 = .ok (.lload_n 2, 1) := by decide +kernel
theorem dX12_byValue_8 : decode cX12_byValue 8 = .ok (.invokestatic 34, 3) := by decide +kernel
theorem dX12_byValue_11 : decode cX12_byValue 11 = .ok (.ifCond .eq 7, 3) := by decide +kernel
theorem dX12_byValue_14 : decode cX12_byValue 14 = .ok (.iconst 0, 1) := by decide +kernel
theorem dX12_byValue_15 : decode cX12_byValue 15 = .ok (.goto 8, 3) := by decide +kernel
theorem dX12_byValue_18 : decode cX12_byValue 18 = .ok (.lload_n 0, 1) := by decide +kernel
theorem dX12_byValue_19 : decode cX12_byValue 19 = .ok (.lload_n 2, 1) := by decide +kernel
theorem dX12_byValue_20 : decode cX12_byValue 20 = .ok (.invokestatic 90, 3) := by decide +kernel
theorem dX12_byValue_23 : decode cX12_byValue 23 = .ok (.ireturn, 1) := by decide +kernel
theorem dX12_isLess_0 : decode cX12_isLess 0 = .ok (.lload_n 0, 1) := by decide +kernel
theorem dX12_isLess_1 : decode cX12_isLess 1 = .ok (.invokestatic 11, 3) := by decide +kernel
theorem dX12_isLess_4 : decode cX12_isLess 4 = .ok (.ifCond .ne 22, 3) := by decide +kernel
theorem dX12_isLess_7 : decode cX12_isLess 7 = .ok (.lload_n 2, 1) := by decide +kernel
theorem dX12_isLess_8 : decode cX12_isLess 8 = .ok (.invokestatic 11, 3) := by decide +kernel
theorem dX12_isLess_11 : decode cX12_isLess 11 = .ok (.ifCond .ne 15, 3) := by decide +kernel
theorem dX12_isLess_14 : decode cX12_isLess 14 = .ok (.lload_n 0, 1) := by decide +kernel
theorem dX12_isLess_15 : decode cX12_isLess 15 = .ok (.lload_n 2, 1) := by decide +kernel
theorem dX12_isLess_16 : decode cX12_isLess 16 = .ok (.invokestatic 94, 3) := by decide +kernel
theorem dX12_isLess_19 : decode cX12_isLess 19 = .ok (.ifCond .ge 7, 3) := by decide +kernel
theorem dX12_isLess_22 : decode cX12_isLess 22 = .ok (.iconst 1, 1) := by decide +kernel
theorem dX12_isLess_23 : decode cX12_isLess 23 = .ok (.goto 4, 3) := by decide +kernel
theorem dX12_isLess_26 : decode cX12_isLess 26 = .ok (.iconst 0, 1) := by decide +kernel
theorem dX12_isLess_27 : decode cX12_isLess 27 = .ok (.ireturn, 1) := by decide +kernel
theorem dX12_upwards_0 : decode cX12_upwards 0 = .ok (.lload_n 0, 1) := by decide +kernel
theorem dX12_upwards_1 : decode cX12_upwards 1 = .ok (.invokestatic 11, 3) := by decide +kernel
theorem dX12_upwards_4 : decode cX12_upwards 4 = .ok (.ifCond .eq 7, 3) := by decide +kernel
theorem dX12_upwards_7 : decode cX12_upwards 7 = .ok (.ldc2_w 15, 3) := by decide +kernel
theorem dX12_upwards_10 : decode cX12_upwards 10 = .ok (.lreturn, 1) := by decide +kernel
theorem dX12_upwards_11 : decode cX12_upwards 11 = .ok (.lload_n 0, 1) := by decide +kernel
theorem dX12_upwards_12 : decode cX12_upwards 12 = .ok (.ldc2_w 9, 3) := by decide +kernel
theorem dX12_upwards_15 : decode cX12_upwards 15 = .ok (.lcmp, 1) := by decide +kernel
theorem dX12_upwards_16 : decode cX12_upwards 16 = .ok (.ifCond .ne 5, 3) := by decide +kernel
theorem dX12_upwards_19 : decode cX12_upwards 19 = .ok (.lload_n 0, 1) := by decide +kernel
theorem dX12_upwards_20 : decode cX12_upwards 20 = .ok (.lreturn, 1) := by decide +kernel
theorem dX12_upwards_21 : decode cX12_upwards 21 = .ok (.lload_n 0, 1) := by decide +kernel
theorem dX12_upwards_22 : decode cX12_upwards 22 = .ok (.invokestatic 34, 3) := by decide +kernel
theorem dX12_upwards_25 : decode cX12_upwards 25 = .ok (.ifCond .eq 7, 3) := by decide +kernel
theorem dX12_upwards_28 : decode cX12_upwards 28 = .ok (.lconst 1, 1) := by decide +kernel
theorem dX12_upwards_29 : decode cX12_upwards 29 = .ok (.goto 18, 3) := by decide +kernel
theorem dX12_upwards_32 : decode cX12_upwards 32 = .ok (.lload_n 0, 1) := by decide +kernel
theorem dX12_upwards_33 : decode cX12_upwards 33 = .ok (.lconst 0, 1) := by decide +kernel
theorem dX12_upwards_34 : decode cX12_upwards 34 = .ok (.lcmp, 1) := by decide +kernel
theorem dX12_upwards_35 : decode cX12_upwards 35 = .ok (.ifCond .ge 9, 3) := by decide +kernel
theorem dX12_upwards_38 : decode cX12_upwards 38 = .ok (.lload_n 0, 1) := by decide +kernel
theorem dX12_upwards_39 : decode cX12_upwards 39 = .ok (.lconst 1, 1) := by decide +kernel
theorem dX12_upwards_40 : decode cX12_upwards 40 = .ok (.lsub, 1) := by decide +kernel
theorem dX12_upwards_41 : decode cX12_upwards 41 = .ok (.goto 6, 3) := by decide +kernel
theorem dX12_upwards_44 : decode cX12_upwards 44 = .ok (.lload_n 0, 1) := by decide +kernel
theorem dX12_upwards_45 : decode cX12_upwards 45 = .ok (.lconst 1, 1) := by decide +kernel
theorem dX12_upwards_46 : decode cX12_upwards 46 = .ok (.ladd, 1) := by decide +kernel
theorem dX12_upwards_47 : decode cX12_upwards 47 = .ok (.lreturn, 1) := by decide +kernel
theorem dX12_singled_0 : decode cX12_singled 0 = .ok (.iload_n 0, 1) := by decide +kernel
theorem dX12_singled_1 : decode cX12_singled 1 = .ok (.tableswitch 197 0 11 #[63, 68, 68, 68, 74, 111, 116, 153, 158, 169, 174, 192], 63) := by decide +kernel
theorem dX12_singled_64 : decode cX12_singled 64 = .ok (.lload_n 1, 1) := by decide +kernel
theorem dX12_singled_65 : decode cX12_singled 65 = .ok (.invokestatic 97, 3) := by decide +kernel
theorem dX12_singled_68 : decode cX12_singled 68 = .ok (.lreturn, 1) := by decide +kernel
theorem dX12_singled_69 : decode cX12_singled 69 = .ok (.lload_n 1, 1) := by decide +kernel
theorem dX12_singled_70 : decode cX12_singled 70 = .ok (.iload_n 0, 1) := by decide +kernel
theorem dX12_singled_71 : decode cX12_singled 71 = .ok (.invokestatic 100, 3) := by decide +kernel
theorem dX12_singled_74 : decode cX12_singled 74 = .ok (.lreturn, 1) := by decide +kernel
theorem dX12_singled_75 : decode cX12_singled 75 = .ok (.lload_n 1, 1) := by decide +kernel
theorem dX12_singled_76 : decode cX12_singled 76 = .ok (.invokestatic 11, 3) := by decide +kernel
theorem dX12_singled_79 : decode cX12_singled 79 = .ok (.ifCond .ne 10, 3) := by decide +kernel
theorem dX12_singled_82 : decode cX12_singled 82 = .ok (.lload_n 1, 1) := by decide +kernel
theorem dX12_singled_83 : decode cX12_singled 83 = .ok (.invokestatic 34, 3) := by decide +kernel
theorem dX12_singled_86 : decode cX12_singled 86 = .ok (.ifCond .eq 10, 3) := by decide +kernel
theorem dX12_singled_89 : decode cX12_singled 89 = .ok (.lload_n 1, 1) := by decide +kernel
theorem dX12_singled_90 : decode cX12_singled 90 = .ok (.invokestatic 37, 3) := by decide +kernel
theorem dX12_singled_93 : decode cX12_singled 93 = .ok (.goto 18, 3) := by decide +kernel
theorem dX12_singled_96 : decode cX12_singled 96 = .ok (.lload_n 1, 1) := by decide +kernel
theorem dX12_singled_97 : decode cX12_singled 97 = .ok (.lconst 0, 1) := by decide +kernel
theorem dX12_singled_98 : decode cX12_singled 98 = .ok (.lcmp, 1) := by decide +kernel
theorem dX12_singled_99 : decode cX12_singled 99 = .ok (.ifCond .ge 9, 3) := by decide +kernel
theorem dX12_singled_102 : decode cX12_singled 102 = .ok (.ldc2_w 104, 3) := by decide +kernel
theorem dX12_singled_105 : decode cX12_singled 105 = .ok (.goto 6, 3) := by decide +kernel
theorem dX12_singled_108 : decode cX12_singled 108 = .ok (.ldc2_w 106, 3) := by decide +kernel
theorem dX12_singled_111 : decode cX12_singled 111 = .ok (.lreturn, 1) := by decide +kernel
theorem dX12_singled_112 : decode cX12_singled 112 = .ok (.lload_n 1, 1) := by decide +kernel
theorem dX12_singled_113 : decode cX12_singled 113 = .ok (.invokestatic 108, 3) := by decide +kernel
theorem dX12_singled_116 : decode cX12_singled 116 = .ok (.lreturn, 1) := by decide +kernel
theorem dX12_singled_117 : decode cX12_singled 117 = .ok (.lload_n 1, 1) := by decide +kernel
theorem dX12_singled_118 : decode cX12_singled 118 = .ok (.invokestatic 11, 3) := by decide +kernel
theorem dX12_singled_121 : decode cX12_singled 121 = .ok (.ifCond .eq 9, 3) := by decide +kernel
theorem dX12_singled_124 : decode cX12_singled 124 = .ok (.ldc2_w 15, 3) := by decide +kernel
theorem dX12_singled_127 : decode cX12_singled 127 = .ok (.goto 26, 3) := by decide +kernel
theorem dX12_singled_130 : decode cX12_singled 130 = .ok (.lload_n 1, 1) := by decide +kernel
theorem dX12_singled_131 : decode cX12_singled 131 = .ok (.invokestatic 31, 3) := by decide +kernel
theorem dX12_singled_134 : decode cX12_singled 134 = .ok (.ifCond .eq 9, 3) := by decide +kernel
theorem dX12_singled_137 : decode cX12_singled 137 = .ok (.ldc2_w 9, 3) := by decide +kernel
theorem dX12_singled_140 : decode cX12_singled 140 = .ok (.goto 13, 3) := by decide +kernel
theorem dX12_singled_143 : decode cX12_singled 143 = .ok (.iconst 0, 1) := by decide +kernel
theorem dX12_singled_144 : decode cX12_singled 144 = .ok (.lconst 1, 1) := by decide +kernel
theorem dX12_singled_145 : decode cX12_singled 145 = .ok (.lload_n 1, 1) := by decide +kernel
theorem dX12_singled_146 : decode cX12_singled 146 = .ok (.invokestatic 44, 3) := by decide +kernel
theorem dX12_singled_149 : decode cX12_singled 149 = .ok (.iconst 0, 1) := by decide +kernel
theorem dX12_singled_150 : decode cX12_singled 150 = .ok (.invokestatic 55, 3) := by decide +kernel
theorem dX12_singled_153 : decode cX12_singled 153 = .ok (.lreturn, 1) := by decide +kernel
theorem dX12_singled_154 : decode cX12_singled 154 = .ok (.lload_n 1, 1) := by decide +kernel
theorem dX12_singled_155 : decode cX12_singled 155 = .ok (.invokestatic 111, 3) := by decide +kernel
theorem dX12_singled_158 : decode cX12_singled 158 = .ok (.lreturn, 1) := by decide +kernel
theorem dX12_singled_159 : decode cX12_singled 159 = .ok (.lload_n 1, 1) := by decide +kernel
theorem dX12_singled_160 : decode cX12_singled 160 = .ok (.invokestatic 59, 3) := by decide +kernel
theorem dX12_singled_163 : decode cX12_singled 163 = .ok (.invokestatic 111, 3) := by decide +kernel
theorem dX12_singled_166 : decode cX12_singled 166 = .ok (.invokestatic 59, 3) := by decide +kernel
theorem dX12_singled_169 : decode cX12_singled 169 = .ok (.lreturn, 1) := by decide +kernel
theorem dX12_singled_170 : decode cX12_singled 170 = .ok (.lload_n 1, 1) := by decide +kernel
theorem dX12_singled_171 : decode cX12_singled 171 = .ok (.invokestatic 59, 3) := by decide +kernel
theorem dX12_singled_174 : decode cX12_singled 174 = .ok (.lreturn, 1) := by decide +kernel
theorem dX12_singled_175 : decode cX12_singled 175 = .ok (.lload_n 1, 1) := by decide +kernel
theorem dX12_singled_176 : decode cX12_singled 176 = .ok (.bipush 52, 2) := by decide +kernel
theorem dX12_singled_178 : decode cX12_singled 178 = .ok (.lshr, 1) := by decide +kernel
theorem dX12_singled_179 : decode cX12_singled 179 = .ok (.l2i, 1) := by decide +kernel
theorem dX12_singled_180 : decode cX12_singled 180 = .ok (.sipush 2047, 3) := by decide +kernel
theorem dX12_singled_183 : decode cX12_singled 183 = .ok (.iand, 1) := by decide +kernel
theorem dX12_singled_184 : decode cX12_singled 184 = .ok (.sipush 1023, 3) := by decide +kernel
theorem dX12_singled_187 : decode cX12_singled 187 = .ok (.isub, 1) := by decide +kernel
theorem dX12_singled_188 : decode cX12_singled 188 = .ok (.i2l, 1) := by decide +kernel
theorem dX12_singled_189 : decode cX12_singled 189 = .ok (.invokestatic 114, 3) := by decide +kernel
theorem dX12_singled_192 : decode cX12_singled 192 = .ok (.lreturn, 1) := by decide +kernel
theorem dX12_singled_193 : decode cX12_singled 193 = .ok (.lload_n 1, 1) := by decide +kernel
theorem dX12_singled_194 : decode cX12_singled 194 = .ok (.invokestatic 117, 3) := by decide +kernel
theorem dX12_singled_197 : decode cX12_singled 197 = .ok (.lreturn, 1) := by decide +kernel
theorem dX12_singled_198 : decode cX12_singled 198 = .ok (.lload_n 1, 1) := by decide +kernel
theorem dX12_singled_199 : decode cX12_singled 199 = .ok (.lreturn, 1) := by decide +kernel
theorem dX12_paired_0 : decode cX12_paired 0 = .ok (.lload_n 2, 1) := by decide +kernel
theorem dX12_paired_1 : decode cX12_paired 1 = .ok (.invokestatic 11, 3) := by decide +kernel
theorem dX12_paired_4 : decode cX12_paired 4 = .ok (.ifCond .ne 11, 3) := by decide +kernel
theorem dX12_paired_7 : decode cX12_paired 7 = .ok (.lload 4, 2) := by decide +kernel
theorem dX12_paired_9 : decode cX12_paired 9 = .ok (.invokestatic 11, 3) := by decide +kernel
theorem dX12_paired_12 : decode cX12_paired 12 = .ok (.ifCond .eq 7, 3) := by decide +kernel
theorem dX12_paired_15 : decode cX12_paired 15 = .ok (.iconst 1, 1) := by decide +kernel
theorem dX12_paired_16 : decode cX12_paired 16 = .ok (.goto 4, 3) := by decide +kernel
theorem dX12_paired_19 : decode cX12_paired 19 = .ok (.iconst 0, 1) := by decide +kernel
theorem dX12_paired_20 : decode cX12_paired 20 = .ok (.istore 10, 2) := by decide +kernel
theorem dX12_paired_22 : decode cX12_paired 22 = .ok (.iload_n 1, 1) := by decide +kernel
theorem dX12_paired_23 : decode cX12_paired 23 = .ok (.tableswitch 230 0 6 #[41, 68, 95, 133, 146, 157, 195], 41) := by decide +kernel
theorem dX12_paired_64 : decode cX12_paired 64 = .ok (.iload 10, 2) := by decide +kernel
theorem dX12_paired_66 : decode cX12_paired 66 = .ok (.ifCond .eq 9, 3) := by decide +kernel
theorem dX12_paired_69 : decode cX12_paired 69 = .ok (.ldc2_w 15, 3) := by decide +kernel
theorem dX12_paired_72 : decode cX12_paired 72 = .ok (.goto 18, 3) := by decide +kernel
theorem dX12_paired_75 : decode cX12_paired 75 = .ok (.lload_n 2, 1) := by decide +kernel
theorem dX12_paired_76 : decode cX12_paired 76 = .ok (.lload 4, 2) := by decide +kernel
theorem dX12_paired_78 : decode cX12_paired 78 = .ok (.invokestatic 90, 3) := by decide +kernel
theorem dX12_paired_81 : decode cX12_paired 81 = .ok (.ifCond .lt 7, 3) := by decide +kernel
theorem dX12_paired_84 : decode cX12_paired 84 = .ok (.lload_n 2, 1) := by decide +kernel
theorem dX12_paired_85 : decode cX12_paired 85 = .ok (.goto 5, 3) := by decide +kernel
theorem dX12_paired_88 : decode cX12_paired 88 = .ok (.lload 4, 2) := by decide +kernel
theorem dX12_paired_90 : decode cX12_paired 90 = .ok (.lreturn, 1) := by decide +kernel
theorem dX12_paired_91 : decode cX12_paired 91 = .ok (.iload 10, 2) := by decide +kernel
theorem dX12_paired_93 : decode cX12_paired 93 = .ok (.ifCond .eq 9, 3) := by decide +kernel
theorem dX12_paired_96 : decode cX12_paired 96 = .ok (.ldc2_w 15, 3) := by decide +kernel
theorem dX12_paired_99 : decode cX12_paired 99 = .ok (.goto 18, 3) := by decide +kernel
theorem dX12_paired_102 : decode cX12_paired 102 = .ok (.lload_n 2, 1) := by decide +kernel
theorem dX12_paired_103 : decode cX12_paired 103 = .ok (.lload 4, 2) := by decide +kernel
theorem dX12_paired_105 : decode cX12_paired 105 = .ok (.invokestatic 90, 3) := by decide +kernel
theorem dX12_paired_108 : decode cX12_paired 108 = .ok (.ifCond .gt 7, 3) := by decide +kernel
theorem dX12_paired_111 : decode cX12_paired 111 = .ok (.lload_n 2, 1) := by decide +kernel
theorem dX12_paired_112 : decode cX12_paired 112 = .ok (.goto 5, 3) := by decide +kernel
theorem dX12_paired_115 : decode cX12_paired 115 = .ok (.lload 4, 2) := by decide +kernel
theorem dX12_paired_117 : decode cX12_paired 117 = .ok (.lreturn, 1) := by decide +kernel
theorem dX12_paired_118 : decode cX12_paired 118 = .ok (.lload_n 2, 1) := by decide +kernel
theorem dX12_paired_119 : decode cX12_paired 119 = .ok (.invokestatic 11, 3) := by decide +kernel
theorem dX12_paired_122 : decode cX12_paired 122 = .ok (.ifCond .eq 9, 3) := by decide +kernel
theorem dX12_paired_125 : decode cX12_paired 125 = .ok (.ldc2_w 15, 3) := by decide +kernel
theorem dX12_paired_128 : decode cX12_paired 128 = .ok (.goto 27, 3) := by decide +kernel
theorem dX12_paired_131 : decode cX12_paired 131 = .ok (.lload_n 2, 1) := by decide +kernel
theorem dX12_paired_132 : decode cX12_paired 132 = .ok (.ldc2_w 7, 3) := by decide +kernel
theorem dX12_paired_135 : decode cX12_paired 135 = .ok (.land, 1) := by decide +kernel
theorem dX12_paired_136 : decode cX12_paired 136 = .ok (.lload 4, 2) := by decide +kernel
theorem dX12_paired_138 : decode cX12_paired 138 = .ok (.invokestatic 11, 3) := by decide +kernel
theorem dX12_paired_141 : decode cX12_paired 141 = .ok (.ifCond .eq 7, 3) := by decide +kernel
theorem dX12_paired_144 : decode cX12_paired 144 = .ok (.lconst 0, 1) := by decide +kernel
theorem dX12_paired_145 : decode cX12_paired 145 = .ok (.goto 9, 3) := by decide +kernel
theorem dX12_paired_148 : decode cX12_paired 148 = .ok (.lload 4, 2) := by decide +kernel
theorem dX12_paired_150 : decode cX12_paired 150 = .ok (.ldc2_w 21, 3) := by decide +kernel
theorem dX12_paired_153 : decode cX12_paired 153 = .ok (.land, 1) := by decide +kernel
theorem dX12_paired_154 : decode cX12_paired 154 = .ok (.lor, 1) := by decide +kernel
theorem dX12_paired_155 : decode cX12_paired 155 = .ok (.lreturn, 1) := by decide +kernel
theorem dX12_paired_156 : decode cX12_paired 156 = .ok (.aload_n 0, 1) := by decide +kernel
theorem dX12_paired_157 : decode cX12_paired 157 = .ok (.lload_n 2, 1) := by decide +kernel
theorem dX12_paired_158 : decode cX12_paired 158 = .ok (.lload 4, 2) := by decide +kernel
theorem dX12_paired_160 : decode cX12_paired 160 = .ok (.invokevirtual 120, 3) := by decide +kernel
theorem dX12_paired_163 : decode cX12_paired 163 = .ok (.lload 6, 2) := by decide +kernel
theorem dX12_paired_165 : decode cX12_paired 165 = .ok (.invokestatic 62, 3) := by decide +kernel
theorem dX12_paired_168 : decode cX12_paired 168 = .ok (.lreturn, 1) := by decide +kernel
theorem dX12_paired_169 : decode cX12_paired 169 = .ok (.lload_n 2, 1) := by decide +kernel
theorem dX12_paired_170 : decode cX12_paired 170 = .ok (.lload 4, 2) := by decide +kernel
theorem dX12_paired_172 : decode cX12_paired 172 = .ok (.invokestatic 90, 3) := by decide +kernel
theorem dX12_paired_175 : decode cX12_paired 175 = .ok (.i2l, 1) := by decide +kernel
theorem dX12_paired_176 : decode cX12_paired 176 = .ok (.invokestatic 114, 3) := by decide +kernel
theorem dX12_paired_179 : decode cX12_paired 179 = .ok (.lreturn, 1) := by decide +kernel
theorem dX12_paired_180 : decode cX12_paired 180 = .ok (.lload_n 2, 1) := by decide +kernel
theorem dX12_paired_181 : decode cX12_paired 181 = .ok (.lload 8, 2) := by decide +kernel
theorem dX12_paired_183 : decode cX12_paired 183 = .ok (.ldc2_w 123, 3) := by decide +kernel
theorem dX12_paired_186 : decode cX12_paired 186 = .ok (.lcmp, 1) := by decide +kernel
theorem dX12_paired_187 : decode cX12_paired 187 = .ok (.ifCond .ge 9, 3) := by decide +kernel
theorem dX12_paired_190 : decode cX12_paired 190 = .ok (.sipush (-3000), 3) := by decide +kernel
theorem dX12_paired_193 : decode cX12_paired 193 = .ok (.goto 21, 3) := by decide +kernel
theorem dX12_paired_196 : decode cX12_paired 196 = .ok (.lload 8, 2) := by decide +kernel
theorem dX12_paired_198 : decode cX12_paired 198 = .ok (.ldc2_w 125, 3) := by decide +kernel
theorem dX12_paired_201 : decode cX12_paired 201 = .ok (.lcmp, 1) := by decide +kernel
theorem dX12_paired_202 : decode cX12_paired 202 = .ok (.ifCond .le 9, 3) := by decide +kernel
theorem dX12_paired_205 : decode cX12_paired 205 = .ok (.sipush 3000, 3) := by decide +kernel
theorem dX12_paired_208 : decode cX12_paired 208 = .ok (.goto 6, 3) := by decide +kernel
theorem dX12_paired_211 : decode cX12_paired 211 = .ok (.lload 8, 2) := by decide +kernel
theorem dX12_paired_213 : decode cX12_paired 213 = .ok (.l2i, 1) := by decide +kernel
theorem dX12_paired_214 : decode cX12_paired 214 = .ok (.invokestatic 127, 3) := by decide +kernel
theorem dX12_paired_217 : decode cX12_paired 217 = .ok (.lreturn, 1) := by decide +kernel
theorem dX12_paired_218 : decode cX12_paired 218 = .ok (.iload 10, 2) := by decide +kernel
theorem dX12_paired_220 : decode cX12_paired 220 = .ok (.ifCond .eq 19, 3) := by decide +kernel
theorem dX12_paired_223 : decode cX12_paired 223 = .ok (.lload_n 2, 1) := by decide +kernel
theorem dX12_paired_224 : decode cX12_paired 224 = .ok (.invokestatic 11, 3) := by decide +kernel
theorem dX12_paired_227 : decode cX12_paired 227 = .ok (.ifCond .eq 8, 3) := by decide +kernel
theorem dX12_paired_230 : decode cX12_paired 230 = .ok (.lload 4, 2) := by decide +kernel
theorem dX12_paired_232 : decode cX12_paired 232 = .ok (.goto 20, 3) := by decide +kernel
theorem dX12_paired_235 : decode cX12_paired 235 = .ok (.lload_n 2, 1) := by decide +kernel
theorem dX12_paired_236 : decode cX12_paired 236 = .ok (.goto 16, 3) := by decide +kernel
theorem dX12_paired_239 : decode cX12_paired 239 = .ok (.aload_n 0, 1) := by decide +kernel
theorem dX12_paired_240 : decode cX12_paired 240 = .ok (.lload_n 2, 1) := by decide +kernel
theorem dX12_paired_241 : decode cX12_paired 241 = .ok (.lload 4, 2) := by decide +kernel
theorem dX12_paired_243 : decode cX12_paired 243 = .ok (.invokestatic 62, 3) := by decide +kernel
theorem dX12_paired_246 : decode cX12_paired 246 = .ok (.ldc2_w 130, 3) := by decide +kernel
theorem dX12_paired_249 : decode cX12_paired 249 = .ok (.invokevirtual 120, 3) := by decide +kernel
theorem dX12_paired_252 : decode cX12_paired 252 = .ok (.lreturn, 1) := by decide +kernel
theorem dX12_paired_253 : decode cX12_paired 253 = .ok (.lload_n 2, 1) := by decide +kernel
theorem dX12_paired_254 : decode cX12_paired 254 = .ok (.lreturn, 1) := by decide +kernel
theorem dX12_test_0 : decode cX12_test 0 = .ok (.lload_n 1, 1) := by decide +kernel
theorem dX12_test_1 : decode cX12_test 1 = .ok (.invokestatic 11, 3) := by decide +kernel
theorem dX12_test_4 : decode cX12_test 4 = .ok (.ifCond .ne 10, 3) := by decide +kernel
theorem dX12_test_7 : decode cX12_test 7 = .ok (.lload_n 3, 1) := by decide +kernel
theorem dX12_test_8 : decode cX12_test 8 = .ok (.invokestatic 11, 3) := by decide +kernel
theorem dX12_test_11 : decode cX12_test 11 = .ok (.ifCond .eq 14, 3) := by decide +kernel
theorem dX12_test_14 : decode cX12_test 14 = .ok (.iload_n 0, 1) := by decide +kernel
theorem dX12_test_15 : decode cX12_test 15 = .ok (.iconst 4, 1) := by decide +kernel
theorem dX12_test_16 : decode cX12_test 16 = .ok (.if_icmp .le 7, 3) := by decide +kernel
theorem dX12_test_19 : decode cX12_test 19 = .ok (.iconst 1, 1) := by decide +kernel
theorem dX12_test_20 : decode cX12_test 20 = .ok (.goto 4, 3) := by decide +kernel
theorem dX12_test_23 : decode cX12_test 23 = .ok (.iconst 0, 1) := by decide +kernel
theorem dX12_test_24 : decode cX12_test 24 = .ok (.ireturn, 1) := by decide +kernel
theorem dX12_test_25 : decode cX12_test 25 = .ok (.lload_n 1, 1) := by decide +kernel
theorem dX12_test_26 : decode cX12_test 26 = .ok (.lload_n 3, 1) := by decide +kernel
theorem dX12_test_27 : decode cX12_test 27 = .ok (.invokestatic 94, 3) := by decide +kernel
theorem dX12_test_30 : decode cX12_test 30 = .ok (.istore 5, 2) := by decide +kernel
theorem dX12_test_32 : decode cX12_test 32 = .ok (.iload_n 0, 1) := by decide +kernel
theorem dX12_test_33 : decode cX12_test 33 = .ok (.ifCond .ne 16, 3) := by decide +kernel
theorem dX12_test_36 : decode cX12_test 36 = .ok (.iload 5, 2) := by decide +kernel
theorem dX12_test_38 : decode cX12_test 38 = .ok (.ifCond .ge 7, 3) := by decide +kernel
theorem dX12_test_41 : decode cX12_test 41 = .ok (.iconst 1, 1) := by decide +kernel
theorem dX12_test_42 : decode cX12_test 42 = .ok (.goto 89, 3) := by decide +kernel
theorem dX12_test_45 : decode cX12_test 45 = .ok (.iconst 0, 1) := by decide +kernel
theorem dX12_test_46 : decode cX12_test 46 = .ok (.goto 85, 3) := by decide +kernel
theorem dX12_test_49 : decode cX12_test 49 = .ok (.iload_n 0, 1) := by decide +kernel
theorem dX12_test_50 : decode cX12_test 50 = .ok (.iconst 1, 1) := by decide +kernel
theorem dX12_test_51 : decode cX12_test 51 = .ok (.if_icmp .ne 16, 3) := by decide +kernel
theorem dX12_test_54 : decode cX12_test 54 = .ok (.iload 5, 2) := by decide +kernel
theorem dX12_test_56 : decode cX12_test 56 = .ok (.ifCond .gt 7, 3) := by decide +kernel
theorem dX12_test_59 : decode cX12_test 59 = .ok (.iconst 1, 1) := by decide +kernel
theorem dX12_test_60 : decode cX12_test 60 = .ok (.goto 71, 3) := by decide +kernel
theorem dX12_test_63 : decode cX12_test 63 = .ok (.iconst 0, 1) := by decide +kernel
theorem dX12_test_64 : decode cX12_test 64 = .ok (.goto 67, 3) := by decide +kernel
theorem dX12_test_67 : decode cX12_test 67 = .ok (.iload_n 0, 1) := by decide +kernel
theorem dX12_test_68 : decode cX12_test 68 = .ok (.iconst 2, 1) := by decide +kernel
theorem dX12_test_69 : decode cX12_test 69 = .ok (.if_icmp .ne 16, 3) := by decide +kernel
theorem dX12_test_72 : decode cX12_test 72 = .ok (.iload 5, 2) := by decide +kernel
theorem dX12_test_74 : decode cX12_test 74 = .ok (.ifCond .le 7, 3) := by decide +kernel
theorem dX12_test_77 : decode cX12_test 77 = .ok (.iconst 1, 1) := by decide +kernel
theorem dX12_test_78 : decode cX12_test 78 = .ok (.goto 53, 3) := by decide +kernel
theorem dX12_test_81 : decode cX12_test 81 = .ok (.iconst 0, 1) := by decide +kernel
theorem dX12_test_82 : decode cX12_test 82 = .ok (.goto 49, 3) := by decide +kernel
theorem dX12_test_85 : decode cX12_test 85 = .ok (.iload_n 0, 1) := by decide +kernel
theorem dX12_test_86 : decode cX12_test 86 = .ok (.iconst 3, 1) := by decide +kernel
theorem dX12_test_87 : decode cX12_test 87 = .ok (.if_icmp .ne 16, 3) := by decide +kernel
theorem dX12_test_90 : decode cX12_test 90 = .ok (.iload 5, 2) := by decide +kernel
theorem dX12_test_92 : decode cX12_test 92 = .ok (.ifCond .lt 7, 3) := by decide +kernel
theorem dX12_test_95 : decode cX12_test 95 = .ok (.iconst 1, 1) := by decide +kernel
theorem dX12_test_96 : decode cX12_test 96 = .ok (.goto 35, 3) := by decide +kernel
theorem dX12_test_99 : decode cX12_test 99 = .ok (.iconst 0, 1) := by decide +kernel
theorem dX12_test_100 : decode cX12_test 100 = .ok (.goto 31, 3) := by decide +kernel
theorem dX12_test_103 : decode cX12_test 103 = .ok (.iload_n 0, 1) := by decide +kernel
theorem dX12_test_104 : decode cX12_test 104 = .ok (.iconst 4, 1) := by decide +kernel
theorem dX12_test_105 : decode cX12_test 105 = .ok (.if_icmp .ne 16, 3) := by decide +kernel
theorem dX12_test_108 : decode cX12_test 108 = .ok (.iload 5, 2) := by decide +kernel
theorem dX12_test_110 : decode cX12_test 110 = .ok (.ifCond .ne 7, 3) := by decide +kernel
theorem dX12_test_113 : decode cX12_test 113 = .ok (.iconst 1, 1) := by decide +kernel
theorem dX12_test_114 : decode cX12_test 114 = .ok (.goto 17, 3) := by decide +kernel
theorem dX12_test_117 : decode cX12_test 117 = .ok (.iconst 0, 1) := by decide +kernel
theorem dX12_test_118 : decode cX12_test 118 = .ok (.goto 13, 3) := by decide +kernel
theorem dX12_test_121 : decode cX12_test 121 = .ok (.iload 5, 2) := by decide +kernel
theorem dX12_test_123 : decode cX12_test 123 = .ok (.ifCond .eq 7, 3) := by decide +kernel
theorem dX12_test_126 : decode cX12_test 126 = .ok (.iconst 1, 1) := by decide +kernel
theorem dX12_test_127 : decode cX12_test 127 = .ok (.goto 4, 3) := by decide +kernel
theorem dX12_test_130 : decode cX12_test 130 = .ok (.iconst 0, 1) := by decide +kernel
theorem dX12_test_131 : decode cX12_test 131 = .ok (.ireturn, 1) := by decide +kernel
theorem dX12_towards_0 : decode cX12_towards 0 = .ok (.lload_n 0, 1) := by decide +kernel
theorem dX12_towards_1 : decode cX12_towards 1 = .ok (.invokestatic 41, 3) := by decide +kernel
theorem dX12_towards_4 : decode cX12_towards 4 = .ok (.lstore 6, 2) := by decide +kernel
theorem dX12_towards_6 : decode cX12_towards 6 = .ok (.lload_n 0, 1) := by decide +kernel
theorem dX12_towards_7 : decode cX12_towards 7 = .ok (.invokestatic 44, 3) := by decide +kernel
theorem dX12_towards_10 : decode cX12_towards 10 = .ok (.istore 8, 2) := by decide +kernel
theorem dX12_towards_12 : decode cX12_towards 12 = .ok (.lload_n 0, 1) := by decide +kernel
theorem dX12_towards_13 : decode cX12_towards 13 = .ok (.invokestatic 31, 3) := by decide +kernel
theorem dX12_towards_16 : decode cX12_towards 16 = .ok (.ifCond .ne 10, 3) := by decide +kernel
theorem dX12_towards_19 : decode cX12_towards 19 = .ok (.iload 8, 2) := by decide +kernel
theorem dX12_towards_21 : decode cX12_towards 21 = .ok (.bipush 10, 2) := by decide +kernel
theorem dX12_towards_23 : decode cX12_towards 23 = .ok (.if_icmp .le 7, 3) := by decide +kernel
theorem dX12_towards_26 : decode cX12_towards 26 = .ok (.iconst 1, 1) := by decide +kernel
theorem dX12_towards_27 : decode cX12_towards 27 = .ok (.goto 4, 3) := by decide +kernel
theorem dX12_towards_30 : decode cX12_towards 30 = .ok (.iconst 0, 1) := by decide +kernel
theorem dX12_towards_31 : decode cX12_towards 31 = .ok (.istore 9, 2) := by decide +kernel
theorem dX12_towards_33 : decode cX12_towards 33 = .ok (.iload 9, 2) := by decide +kernel
theorem dX12_towards_35 : decode cX12_towards 35 = .ok (.ifCond .eq 7, 3) := by decide +kernel
theorem dX12_towards_38 : decode cX12_towards 38 = .ok (.lconst 0, 1) := by decide +kernel
theorem dX12_towards_39 : decode cX12_towards 39 = .ok (.goto 33, 3) := by decide +kernel
theorem dX12_towards_42 : decode cX12_towards 42 = .ok (.iload 8, 2) := by decide +kernel
theorem dX12_towards_44 : decode cX12_towards 44 = .ok (.ifCond .lt 11, 3) := by decide +kernel
theorem dX12_towards_47 : decode cX12_towards 47 = .ok (.lload 6, 2) := by decide +kernel
theorem dX12_towards_49 : decode cX12_towards 49 = .ok (.iload 8, 2) := by decide +kernel
theorem dX12_towards_51 : decode cX12_towards 51 = .ok (.lshl, 1) := by decide +kernel
theorem dX12_towards_52 : decode cX12_towards 52 = .ok (.goto 20, 3) := by decide +kernel
theorem dX12_towards_55 : decode cX12_towards 55 = .ok (.iload 8, 2) := by decide +kernel
theorem dX12_towards_57 : decode cX12_towards 57 = .ok (.bipush (-60), 2) := by decide +kernel
theorem dX12_towards_59 : decode cX12_towards 59 = .ok (.if_icmp .ge 7, 3) := by decide +kernel
theorem dX12_towards_62 : decode cX12_towards 62 = .ok (.lconst 0, 1) := by decide +kernel
theorem dX12_towards_63 : decode cX12_towards 63 = .ok (.goto 9, 3) := by decide +kernel
theorem dX12_towards_66 : decode cX12_towards 66 = .ok (.lload 6, 2) := by decide +kernel
theorem dX12_towards_68 : decode cX12_towards 68 = .ok (.iload 8, 2) := by decide +kernel
theorem dX12_towards_70 : decode cX12_towards 70 = .ok (.ineg, 1) := by decide +kernel
theorem dX12_towards_71 : decode cX12_towards 71 = .ok (.lshr, 1) := by decide +kernel
theorem dX12_towards_72 : decode cX12_towards 72 = .ok (.lstore 10, 2) := by decide +kernel
theorem dX12_towards_74 : decode cX12_towards 74 = .ok (.iload 9, 2) := by decide +kernel
theorem dX12_towards_76 : decode cX12_towards 76 = .ok (.ifCond .eq 16, 3) := by decide +kernel
theorem dX12_towards_79 : decode cX12_towards 79 = .ok (.lload_n 0, 1) := by decide +kernel
theorem dX12_towards_80 : decode cX12_towards 80 = .ok (.lconst 0, 1) := by decide +kernel
theorem dX12_towards_81 : decode cX12_towards 81 = .ok (.lcmp, 1) := by decide +kernel
theorem dX12_towards_82 : decode cX12_towards 82 = .ok (.ifCond .ge 7, 3) := by decide +kernel
theorem dX12_towards_85 : decode cX12_towards 85 = .ok (.lload_n 2, 1) := by decide +kernel
theorem dX12_towards_86 : decode cX12_towards 86 = .ok (.goto 5, 3) := by decide +kernel
theorem dX12_towards_89 : decode cX12_towards 89 = .ok (.lload 4, 2) := by decide +kernel
theorem dX12_towards_91 : decode cX12_towards 91 = .ok (.lreturn, 1) := by decide +kernel
theorem dX12_towards_92 : decode cX12_towards 92 = .ok (.lload_n 0, 1) := by decide +kernel
theorem dX12_towards_93 : decode cX12_towards 93 = .ok (.lconst 0, 1) := by decide +kernel
theorem dX12_towards_94 : decode cX12_towards 94 = .ok (.lcmp, 1) := by decide +kernel
theorem dX12_towards_95 : decode cX12_towards 95 = .ok (.ifCond .ge 9, 3) := by decide +kernel
theorem dX12_towards_98 : decode cX12_towards 98 = .ok (.lload 10, 2) := by decide +kernel
theorem dX12_towards_100 : decode cX12_towards 100 = .ok (.lneg, 1) := by decide +kernel
theorem dX12_towards_101 : decode cX12_towards 101 = .ok (.goto 5, 3) := by decide +kernel
theorem dX12_towards_104 : decode cX12_towards 104 = .ok (.lload 10, 2) := by decide +kernel
theorem dX12_towards_106 : decode cX12_towards 106 = .ok (.lstore 10, 2) := by decide +kernel
theorem dX12_towards_108 : decode cX12_towards 108 = .ok (.lload 10, 2) := by decide +kernel
theorem dX12_towards_110 : decode cX12_towards 110 = .ok (.lload_n 2, 1) := by decide +kernel
theorem dX12_towards_111 : decode cX12_towards 111 = .ok (.lcmp, 1) := by decide +kernel
theorem dX12_towards_112 : decode cX12_towards 112 = .ok (.ifCond .ge 7, 3) := by decide +kernel
theorem dX12_towards_115 : decode cX12_towards 115 = .ok (.lload_n 2, 1) := by decide +kernel
theorem dX12_towards_116 : decode cX12_towards 116 = .ok (.goto 18, 3) := by decide +kernel
theorem dX12_towards_119 : decode cX12_towards 119 = .ok (.lload 10, 2) := by decide +kernel
theorem dX12_towards_121 : decode cX12_towards 121 = .ok (.lload 4, 2) := by decide +kernel
theorem dX12_towards_123 : decode cX12_towards 123 = .ok (.lcmp, 1) := by decide +kernel
theorem dX12_towards_124 : decode cX12_towards 124 = .ok (.ifCond .le 8, 3) := by decide +kernel
theorem dX12_towards_127 : decode cX12_towards 127 = .ok (.lload 4, 2) := by decide +kernel
theorem dX12_towards_129 : decode cX12_towards 129 = .ok (.goto 5, 3) := by decide +kernel
theorem dX12_towards_132 : decode cX12_towards 132 = .ok (.lload 10, 2) := by decide +kernel
theorem dX12_towards_134 : decode cX12_towards 134 = .ok (.lreturn, 1) := by decide +kernel
theorem dX12_rounded_0 : decode cX12_rounded 0 = .ok (.lload_n 0, 1) := by decide +kernel
theorem dX12_rounded_1 : decode cX12_rounded 1 = .ok (.invokestatic 31, 3) := by decide +kernel
theorem dX12_rounded_4 : decode cX12_rounded 4 = .ok (.ifCond .ne 10, 3) := by decide +kernel
theorem dX12_rounded_7 : decode cX12_rounded 7 = .ok (.lload_n 0, 1) := by decide +kernel
theorem dX12_rounded_8 : decode cX12_rounded 8 = .ok (.invokestatic 44, 3) := by decide +kernel
theorem dX12_rounded_11 : decode cX12_rounded 11 = .ok (.ifCond .lt 14, 3) := by decide +kernel
theorem dX12_rounded_14 : decode cX12_rounded 14 = .ok (.lload_n 0, 1) := by decide +kernel
theorem dX12_rounded_15 : decode cX12_rounded 15 = .ok (.ldc2_w 21, 3) := by decide +kernel
theorem dX12_rounded_18 : decode cX12_rounded 18 = .ok (.ldc2_w 7, 3) := by decide +kernel
theorem dX12_rounded_21 : decode cX12_rounded 21 = .ok (.invokestatic 132, 3) := by decide +kernel
theorem dX12_rounded_24 : decode cX12_rounded 24 = .ok (.lreturn, 1) := by decide +kernel
theorem dX12_rounded_25 : decode cX12_rounded 25 = .ok (.lload_n 0, 1) := by decide +kernel
theorem dX12_rounded_26 : decode cX12_rounded 26 = .ok (.invokestatic 44, 3) := by decide +kernel
theorem dX12_rounded_29 : decode cX12_rounded 29 = .ok (.ineg, 1) := by decide +kernel
theorem dX12_rounded_30 : decode cX12_rounded 30 = .ok (.istore_n 2, 1) := by decide +kernel
theorem dX12_rounded_31 : decode cX12_rounded 31 = .ok (.iload_n 2, 1) := by decide +kernel
theorem dX12_rounded_32 : decode cX12_rounded 32 = .ok (.bipush 54, 2) := by decide +kernel
theorem dX12_rounded_34 : decode cX12_rounded 34 = .ok (.if_icmp .le 5, 3) := by decide +kernel
theorem dX12_rounded_37 : decode cX12_rounded 37 = .ok (.lconst 0, 1) := by decide +kernel
theorem dX12_rounded_38 : decode cX12_rounded 38 = .ok (.lreturn, 1) := by decide +kernel
theorem dX12_rounded_39 : decode cX12_rounded 39 = .ok (.ldc2_w 88, 3) := by decide +kernel
theorem dX12_rounded_42 : decode cX12_rounded 42 = .ok (.lload_n 0, 1) := by decide +kernel
theorem dX12_rounded_43 : decode cX12_rounded 43 = .ok (.invokestatic 41, 3) := by decide +kernel
theorem dX12_rounded_46 : decode cX12_rounded 46 = .ok (.lmul, 1) := by decide +kernel
theorem dX12_rounded_47 : decode cX12_rounded 47 = .ok (.lstore_n 3, 1) := by decide +kernel
theorem dX12_rounded_48 : decode cX12_rounded 48 = .ok (.lload_n 0, 1) := by decide +kernel
theorem dX12_rounded_49 : decode cX12_rounded 49 = .ok (.lconst 0, 1) := by decide +kernel
theorem dX12_rounded_50 : decode cX12_rounded 50 = .ok (.lcmp, 1) := by decide +kernel
theorem dX12_rounded_51 : decode cX12_rounded 51 = .ok (.ifCond .ge 8, 3) := by decide +kernel
theorem dX12_rounded_54 : decode cX12_rounded 54 = .ok (.lload_n 3, 1) := by decide +kernel
theorem dX12_rounded_55 : decode cX12_rounded 55 = .ok (.lneg, 1) := by decide +kernel
theorem dX12_rounded_56 : decode cX12_rounded 56 = .ok (.goto 4, 3) := by decide +kernel
theorem dX12_rounded_59 : decode cX12_rounded 59 = .ok (.lload_n 3, 1) := by decide +kernel
theorem dX12_rounded_60 : decode cX12_rounded 60 = .ok (.lconst 1, 1) := by decide +kernel
theorem dX12_rounded_61 : decode cX12_rounded 61 = .ok (.iload_n 2, 1) := by decide +kernel
theorem dX12_rounded_62 : decode cX12_rounded 62 = .ok (.lshl, 1) := by decide +kernel
theorem dX12_rounded_63 : decode cX12_rounded 63 = .ok (.ladd, 1) := by decide +kernel
theorem dX12_rounded_64 : decode cX12_rounded 64 = .ok (.iload_n 2, 1) := by decide +kernel
theorem dX12_rounded_65 : decode cX12_rounded 65 = .ok (.iconst 1, 1) := by decide +kernel
theorem dX12_rounded_66 : decode cX12_rounded 66 = .ok (.iadd, 1) := by decide +kernel
theorem dX12_rounded_67 : decode cX12_rounded 67 = .ok (.lshr, 1) := by decide +kernel
theorem dX12_rounded_68 : decode cX12_rounded 68 = .ok (.lreturn, 1) := by decide +kernel
theorem dX12_smallBits_0 : decode cX12_smallBits 0 = .ok (.lload_n 0, 1) := by decide +kernel
theorem dX12_smallBits_1 : decode cX12_smallBits 1 = .ok (.invokestatic 117, 3) := by decide +kernel
theorem dX12_smallBits_4 : decode cX12_smallBits 4 = .ok (.lstore_n 2, 1) := by decide +kernel
theorem dX12_smallBits_5 : decode cX12_smallBits 5 = .ok (.lload_n 2, 1) := by decide +kernel
theorem dX12_smallBits_6 : decode cX12_smallBits 6 = .ok (.invokestatic 11, 3) := by decide +kernel
theorem dX12_smallBits_9 : decode cX12_smallBits 9 = .ok (.ifCond .eq 7, 3) := by decide +kernel
theorem dX12_smallBits_12 : decode cX12_smallBits 12 = .ok (.ldc2_w 136, 3) := by decide +kernel
theorem dX12_smallBits_15 : decode cX12_smallBits 15 = .ok (.lreturn, 1) := by decide +kernel
theorem dX12_smallBits_16 : decode cX12_smallBits 16 = .ok (.lload_n 2, 1) := by decide +kernel
theorem dX12_smallBits_17 : decode cX12_smallBits 17 = .ok (.lconst 0, 1) := by decide +kernel
theorem dX12_smallBits_18 : decode cX12_smallBits 18 = .ok (.lcmp, 1) := by decide +kernel
theorem dX12_smallBits_19 : decode cX12_smallBits 19 = .ok (.ifCond .ge 9, 3) := by decide +kernel
theorem dX12_smallBits_22 : decode cX12_smallBits 22 = .ok (.ldc2_w 138, 3) := by decide +kernel
theorem dX12_smallBits_25 : decode cX12_smallBits 25 = .ok (.goto 4, 3) := by decide +kernel
theorem dX12_smallBits_28 : decode cX12_smallBits 28 = .ok (.lconst 0, 1) := by decide +kernel
theorem dX12_smallBits_29 : decode cX12_smallBits 29 = .ok (.lstore 4, 2) := by decide +kernel
theorem dX12_smallBits_31 : decode cX12_smallBits 31 = .ok (.lload_n 2, 1) := by decide +kernel
theorem dX12_smallBits_32 : decode cX12_smallBits 32 = .ok (.invokestatic 31, 3) := by decide +kernel
theorem dX12_smallBits_35 : decode cX12_smallBits 35 = .ok (.ifCond .eq 10, 3) := by decide +kernel
theorem dX12_smallBits_38 : decode cX12_smallBits 38 = .ok (.lload 4, 2) := by decide +kernel
theorem dX12_smallBits_40 : decode cX12_smallBits 40 = .ok (.ldc2_w 140, 3) := by decide +kernel
theorem dX12_smallBits_43 : decode cX12_smallBits 43 = .ok (.lor, 1) := by decide +kernel
theorem dX12_smallBits_44 : decode cX12_smallBits 44 = .ok (.lreturn, 1) := by decide +kernel
theorem dX12_smallBits_45 : decode cX12_smallBits 45 = .ok (.lload_n 2, 1) := by decide +kernel
theorem dX12_smallBits_46 : decode cX12_smallBits 46 = .ok (.invokestatic 34, 3) := by decide +kernel
theorem dX12_smallBits_49 : decode cX12_smallBits 49 = .ok (.ifCond .eq 6, 3) := by decide +kernel
theorem dX12_smallBits_52 : decode cX12_smallBits 52 = .ok (.lload 4, 2) := by decide +kernel
theorem dX12_smallBits_54 : decode cX12_smallBits 54 = .ok (.lreturn, 1) := by decide +kernel
theorem dX12_smallBits_55 : decode cX12_smallBits 55 = .ok (.lload_n 2, 1) := by decide +kernel
theorem dX12_smallBits_56 : decode cX12_smallBits 56 = .ok (.invokestatic 41, 3) := by decide +kernel
theorem dX12_smallBits_59 : decode cX12_smallBits 59 = .ok (.invokestatic 79, 3) := by decide +kernel
theorem dX12_smallBits_62 : decode cX12_smallBits 62 = .ok (.lstore 6, 2) := by decide +kernel
theorem dX12_smallBits_64 : decode cX12_smallBits 64 = .ok (.lload_n 2, 1) := by decide +kernel
theorem dX12_smallBits_65 : decode cX12_smallBits 65 = .ok (.invokestatic 44, 3) := by decide +kernel
theorem dX12_smallBits_68 : decode cX12_smallBits 68 = .ok (.bipush 53, 2) := by decide +kernel
theorem dX12_smallBits_70 : decode cX12_smallBits 70 = .ok (.lload_n 2, 1) := by decide +kernel
theorem dX12_smallBits_71 : decode cX12_smallBits 71 = .ok (.invokestatic 41, 3) := by decide +kernel
theorem dX12_smallBits_74 : decode cX12_smallBits 74 = .ok (.invokestatic 23, 3) := by decide +kernel
theorem dX12_smallBits_77 : decode cX12_smallBits 77 = .ok (.isub, 1) := by decide +kernel
theorem dX12_smallBits_78 : decode cX12_smallBits 78 = .ok (.isub, 1) := by decide +kernel
theorem dX12_smallBits_79 : decode cX12_smallBits 79 = .ok (.istore 8, 2) := by decide +kernel
theorem dX12_smallBits_81 : decode cX12_smallBits 81 = .ok (.iload 8, 2) := by decide +kernel
theorem dX12_smallBits_83 : decode cX12_smallBits 83 = .ok (.bipush 29, 2) := by decide +kernel
theorem dX12_smallBits_85 : decode cX12_smallBits 85 = .ok (.iadd, 1) := by decide +kernel
theorem dX12_smallBits_86 : decode cX12_smallBits 86 = .ok (.istore 9, 2) := by decide +kernel
theorem dX12_smallBits_88 : decode cX12_smallBits 88 = .ok (.lload 4, 2) := by decide +kernel
theorem dX12_smallBits_90 : decode cX12_smallBits 90 = .ok (.iload 9, 2) := by decide +kernel
theorem dX12_smallBits_92 : decode cX12_smallBits 92 = .ok (.sipush (-149), 3) := by decide +kernel
theorem dX12_smallBits_95 : decode cX12_smallBits 95 = .ok (.if_icmp .ge 18, 3) := by decide +kernel
theorem dX12_smallBits_98 : decode cX12_smallBits 98 = .ok (.lload 6, 2) := by decide +kernel
theorem dX12_smallBits_100 : decode cX12_smallBits 100 = .ok (.bipush 29, 2) := by decide +kernel
theorem dX12_smallBits_102 : decode cX12_smallBits 102 = .ok (.sipush (-149), 3) := by decide +kernel
theorem dX12_smallBits_105 : decode cX12_smallBits 105 = .ok (.iload 9, 2) := by decide +kernel
theorem dX12_smallBits_107 : decode cX12_smallBits 107 = .ok (.isub, 1) := by decide +kernel
theorem dX12_smallBits_108 : decode cX12_smallBits 108 = .ok (.iadd, 1) := by decide +kernel
theorem dX12_smallBits_109 : decode cX12_smallBits 109 = .ok (.lshr, 1) := by decide +kernel
theorem dX12_smallBits_110 : decode cX12_smallBits 110 = .ok (.goto 23, 3) := by decide +kernel
theorem dX12_smallBits_113 : decode cX12_smallBits 113 = .ok (.iload 9, 2) := by decide +kernel
theorem dX12_smallBits_115 : decode cX12_smallBits 115 = .ok (.sipush 150, 3) := by decide +kernel
theorem dX12_smallBits_118 : decode cX12_smallBits 118 = .ok (.iadd, 1) := by decide +kernel
theorem dX12_smallBits_119 : decode cX12_smallBits 119 = .ok (.i2l, 1) := by decide +kernel
theorem dX12_smallBits_120 : decode cX12_smallBits 120 = .ok (.bipush 23, 2) := by decide +kernel
theorem dX12_smallBits_122 : decode cX12_smallBits 122 = .ok (.lshl, 1) := by decide +kernel
theorem dX12_smallBits_123 : decode cX12_smallBits 123 = .ok (.lload 6, 2) := by decide +kernel
theorem dX12_smallBits_125 : decode cX12_smallBits 125 = .ok (.bipush 29, 2) := by decide +kernel
theorem dX12_smallBits_127 : decode cX12_smallBits 127 = .ok (.lshr, 1) := by decide +kernel
theorem dX12_smallBits_128 : decode cX12_smallBits 128 = .ok (.ldc2_w 142, 3) := by decide +kernel
theorem dX12_smallBits_131 : decode cX12_smallBits 131 = .ok (.lsub, 1) := by decide +kernel
theorem dX12_smallBits_132 : decode cX12_smallBits 132 = .ok (.lor, 1) := by decide +kernel
theorem dX12_smallBits_133 : decode cX12_smallBits 133 = .ok (.lor, 1) := by decide +kernel
theorem dX12_smallBits_134 : decode cX12_smallBits 134 = .ok (.lreturn, 1) := by decide +kernel
theorem dX12_fromSmall_0 : decode cX12_fromSmall 0 = .ok (.iload_n 0, 1) := by decide +kernel
theorem dX12_fromSmall_1 : decode cX12_fromSmall 1 = .ok (.bipush 23, 2) := by decide +kernel
theorem dX12_fromSmall_3 : decode cX12_fromSmall 3 = .ok (.ishr, 1) := by decide +kernel
theorem dX12_fromSmall_4 : decode cX12_fromSmall 4 = .ok (.sipush 255, 3) := by decide +kernel
theorem dX12_fromSmall_7 : decode cX12_fromSmall 7 = .ok (.iand, 1) := by decide +kernel
theorem dX12_fromSmall_8 : decode cX12_fromSmall 8 = .ok (.istore_n 1, 1) := by decide +kernel
theorem dX12_fromSmall_9 : decode cX12_fromSmall 9 = .ok (.iload_n 0, 1) := by decide +kernel
theorem dX12_fromSmall_10 : decode cX12_fromSmall 10 = .ok (.ldc 144, 2) := by decide +kernel
theorem dX12_fromSmall_12 : decode cX12_fromSmall 12 = .ok (.iand, 1) := by decide +kernel
theorem dX12_fromSmall_13 : decode cX12_fromSmall 13 = .ok (.i2l, 1) := by decide +kernel
theorem dX12_fromSmall_14 : decode cX12_fromSmall 14 = .ok (.lstore_n 2, 1) := by decide +kernel
theorem dX12_fromSmall_15 : decode cX12_fromSmall 15 = .ok (.iload_n 1, 1) := by decide +kernel
theorem dX12_fromSmall_16 : decode cX12_fromSmall 16 = .ok (.sipush 255, 3) := by decide +kernel
theorem dX12_fromSmall_19 : decode cX12_fromSmall 19 = .ok (.if_icmp .ne 29, 3) := by decide +kernel
theorem dX12_fromSmall_22 : decode cX12_fromSmall 22 = .ok (.lload_n 2, 1) := by decide +kernel
theorem dX12_fromSmall_23 : decode cX12_fromSmall 23 = .ok (.lconst 0, 1) := by decide +kernel
theorem dX12_fromSmall_24 : decode cX12_fromSmall 24 = .ok (.lcmp, 1) := by decide +kernel
theorem dX12_fromSmall_25 : decode cX12_fromSmall 25 = .ok (.ifCond .eq 9, 3) := by decide +kernel
theorem dX12_fromSmall_28 : decode cX12_fromSmall 28 = .ok (.ldc2_w 15, 3) := by decide +kernel
theorem dX12_fromSmall_31 : decode cX12_fromSmall 31 = .ok (.goto 16, 3) := by decide +kernel
theorem dX12_fromSmall_34 : decode cX12_fromSmall 34 = .ok (.iload_n 0, 1) := by decide +kernel
theorem dX12_fromSmall_35 : decode cX12_fromSmall 35 = .ok (.ifCond .ge 9, 3) := by decide +kernel
theorem dX12_fromSmall_38 : decode cX12_fromSmall 38 = .ok (.ldc2_w 77, 3) := by decide +kernel
theorem dX12_fromSmall_41 : decode cX12_fromSmall 41 = .ok (.goto 6, 3) := by decide +kernel
theorem dX12_fromSmall_44 : decode cX12_fromSmall 44 = .ok (.ldc2_w 9, 3) := by decide +kernel
theorem dX12_fromSmall_47 : decode cX12_fromSmall 47 = .ok (.lreturn, 1) := by decide +kernel
theorem dX12_fromSmall_48 : decode cX12_fromSmall 48 = .ok (.iload_n 0, 1) := by decide +kernel
theorem dX12_fromSmall_49 : decode cX12_fromSmall 49 = .ok (.ifCond .ge 7, 3) := by decide +kernel
theorem dX12_fromSmall_52 : decode cX12_fromSmall 52 = .ok (.iconst 1, 1) := by decide +kernel
theorem dX12_fromSmall_53 : decode cX12_fromSmall 53 = .ok (.goto 4, 3) := by decide +kernel
theorem dX12_fromSmall_56 : decode cX12_fromSmall 56 = .ok (.iconst 0, 1) := by decide +kernel
theorem dX12_fromSmall_57 : decode cX12_fromSmall 57 = .ok (.iload_n 1, 1) := by decide +kernel
theorem dX12_fromSmall_58 : decode cX12_fromSmall 58 = .ok (.ifCond .ne 7, 3) := by decide +kernel
theorem dX12_fromSmall_61 : decode cX12_fromSmall 61 = .ok (.lload_n 2, 1) := by decide +kernel
theorem dX12_fromSmall_62 : decode cX12_fromSmall 62 = .ok (.goto 8, 3) := by decide +kernel
theorem dX12_fromSmall_65 : decode cX12_fromSmall 65 = .ok (.lload_n 2, 1) := by decide +kernel
theorem dX12_fromSmall_66 : decode cX12_fromSmall 66 = .ok (.ldc2_w 142, 3) := by decide +kernel
theorem dX12_fromSmall_69 : decode cX12_fromSmall 69 = .ok (.lor, 1) := by decide +kernel
theorem dX12_fromSmall_70 : decode cX12_fromSmall 70 = .ok (.iload_n 1, 1) := by decide +kernel
theorem dX12_fromSmall_71 : decode cX12_fromSmall 71 = .ok (.ifCond .ne 9, 3) := by decide +kernel
theorem dX12_fromSmall_74 : decode cX12_fromSmall 74 = .ok (.sipush (-149), 3) := by decide +kernel
theorem dX12_fromSmall_77 : decode cX12_fromSmall 77 = .ok (.goto 8, 3) := by decide +kernel
theorem dX12_fromSmall_80 : decode cX12_fromSmall 80 = .ok (.iload_n 1, 1) := by decide +kernel
theorem dX12_fromSmall_81 : decode cX12_fromSmall 81 = .ok (.sipush 150, 3) := by decide +kernel
theorem dX12_fromSmall_84 : decode cX12_fromSmall 84 = .ok (.isub, 1) := by decide +kernel
theorem dX12_fromSmall_85 : decode cX12_fromSmall 85 = .ok (.iconst 0, 1) := by decide +kernel
theorem dX12_fromSmall_86 : decode cX12_fromSmall 86 = .ok (.invokestatic 55, 3) := by decide +kernel
theorem dX12_fromSmall_89 : decode cX12_fromSmall 89 = .ok (.lreturn, 1) := by decide +kernel
theorem dX12_isRow_0 : decode cX12_isRow 0 = .ok (.iload_n 0, 1) := by decide +kernel
theorem dX12_isRow_1 : decode cX12_isRow 1 = .ok (.ifCond .lt 13, 3) := by decide +kernel
theorem dX12_isRow_4 : decode cX12_isRow 4 = .ok (.iload_n 0, 1) := by decide +kernel
theorem dX12_isRow_5 : decode cX12_isRow 5 = .ok (.bipush 10, 2) := by decide +kernel
theorem dX12_isRow_7 : decode cX12_isRow 7 = .ok (.if_icmp .gt 7, 3) := by decide +kernel
theorem dX12_isRow_10 : decode cX12_isRow 10 = .ok (.iconst 1, 1) := by decide +kernel
theorem dX12_isRow_11 : decode cX12_isRow 11 = .ok (.goto 4, 3) := by decide +kernel
theorem dX12_isRow_14 : decode cX12_isRow 14 = .ok (.iconst 0, 1) := by decide +kernel
theorem dX12_isRow_15 : decode cX12_isRow 15 = .ok (.ireturn, 1) := by decide +kernel
theorem dX12_isPose_0 : decode cX12_isPose 0 = .ok (.iload_n 0, 1) := by decide +kernel
theorem dX12_isPose_1 : decode cX12_isPose 1 = .ok (.bipush 11, 2) := by decide +kernel
theorem dX12_isPose_3 : decode cX12_isPose 3 = .ok (.if_icmp .eq 9, 3) := by decide +kernel
theorem dX12_isPose_6 : decode cX12_isPose 6 = .ok (.iload_n 0, 1) := by decide +kernel
theorem dX12_isPose_7 : decode cX12_isPose 7 = .ok (.bipush 12, 2) := by decide +kernel
theorem dX12_isPose_9 : decode cX12_isPose 9 = .ok (.if_icmp .ne 7, 3) := by decide +kernel
theorem dX12_isPose_12 : decode cX12_isPose 12 = .ok (.iconst 1, 1) := by decide +kernel
theorem dX12_isPose_13 : decode cX12_isPose 13 = .ok (.goto 4, 3) := by decide +kernel
theorem dX12_isPose_16 : decode cX12_isPose 16 = .ok (.iconst 0, 1) := by decide +kernel
theorem dX12_isPose_17 : decode cX12_isPose 17 = .ok (.ireturn, 1) := by decide +kernel
theorem dX12_isDevice_0 : decode cX12_isDevice 0 = .ok (.iload_n 0, 1) := by decide +kernel
theorem dX12_isDevice_1 : decode cX12_isDevice 1 = .ok (.bipush 12, 2) := by decide +kernel
theorem dX12_isDevice_3 : decode cX12_isDevice 3 = .ok (.if_icmp .le 7, 3) := by decide +kernel
theorem dX12_isDevice_6 : decode cX12_isDevice 6 = .ok (.iconst 1, 1) := by decide +kernel
theorem dX12_isDevice_7 : decode cX12_isDevice 7 = .ok (.goto 4, 3) := by decide +kernel
theorem dX12_isDevice_10 : decode cX12_isDevice 10 = .ok (.iconst 0, 1) := by decide +kernel
theorem dX12_isDevice_11 : decode cX12_isDevice 11 = .ok (.ireturn, 1) := by decide +kernel
theorem dX12_kindOf_0 : decode cX12_kindOf 0 = .ok (.aload_n 0, 1) := by decide +kernel
theorem dX12_kindOf_1 : decode cX12_kindOf 1 = .ok (.getfield 145, 3) := by decide +kernel
theorem dX12_kindOf_4 : decode cX12_kindOf 4 = .ok (.iload_n 1, 1) := by decide +kernel
theorem dX12_kindOf_5 : decode cX12_kindOf 5 = .ok (.bipush 15, 2) := by decide +kernel
theorem dX12_kindOf_7 : decode cX12_kindOf 7 = .ok (.iand, 1) := by decide +kernel
theorem dX12_kindOf_8 : decode cX12_kindOf 8 = .ok (.iaload, 1) := by decide +kernel
theorem dX12_kindOf_9 : decode cX12_kindOf 9 = .ok (.ifCond .ne 7, 3) := by decide +kernel
theorem dX12_kindOf_12 : decode cX12_kindOf 12 = .ok (.iconst (-1), 1) := by decide +kernel
theorem dX12_kindOf_13 : decode cX12_kindOf 13 = .ok (.goto 17, 3) := by decide +kernel
theorem dX12_kindOf_16 : decode cX12_kindOf 16 = .ok (.aload_n 0, 1) := by decide +kernel
theorem dX12_kindOf_17 : decode cX12_kindOf 17 = .ok (.getfield 149, 3) := by decide +kernel
theorem dX12_kindOf_20 : decode cX12_kindOf 20 = .ok (.aload_n 0, 1) := by decide +kernel
theorem dX12_kindOf_21 : decode cX12_kindOf 21 = .ok (.getfield 145, 3) := by decide +kernel
theorem dX12_kindOf_24 : decode cX12_kindOf 24 = .ok (.iload_n 1, 1) := by decide +kernel
theorem dX12_kindOf_25 : decode cX12_kindOf 25 = .ok (.bipush 15, 2) := by decide +kernel
theorem dX12_kindOf_27 : decode cX12_kindOf 27 = .ok (.iand, 1) := by decide +kernel
theorem dX12_kindOf_28 : decode cX12_kindOf 28 = .ok (.iaload, 1) := by decide +kernel
theorem dX12_kindOf_29 : decode cX12_kindOf 29 = .ok (.iaload, 1) := by decide +kernel
theorem dX12_kindOf_30 : decode cX12_kindOf 30 = .ok (.ireturn, 1) := by decide +kernel
theorem dX12_newThing_0 : decode cX12_newThing 0 = .ok (.aload_n 0, 1) := by decide +kernel
theorem dX12_newThing_1 : decode cX12_newThing 1 = .ok (.dup, 1) := by decide +kernel
theorem dX12_newThing_2 : decode cX12_newThing 2 = .ok (.getfield 152, 3) := by decide +kernel
theorem dX12_newThing_5 : decode cX12_newThing 5 = .ok (.iconst 1, 1) := by decide +kernel
theorem dX12_newThing_6 : decode cX12_newThing 6 = .ok (.iadd, 1) := by decide +kernel
theorem dX12_newThing_7 : decode cX12_newThing 7 = .ok (.putfield 152, 3) := by decide +kernel
theorem dX12_newThing_10 : decode cX12_newThing 10 = .ok (.aload_n 0, 1) := by decide +kernel
theorem dX12_newThing_11 : decode cX12_newThing 11 = .ok (.getfield 149, 3) := by decide +kernel
theorem dX12_newThing_14 : decode cX12_newThing 14 = .ok (.aload_n 0, 1) := by decide +kernel
theorem dX12_newThing_15 : decode cX12_newThing 15 = .ok (.getfield 152, 3) := by decide +kernel
theorem dX12_newThing_18 : decode cX12_newThing 18 = .ok (.iload_n 1, 1) := by decide +kernel
theorem dX12_newThing_19 : decode cX12_newThing 19 = .ok (.iastore, 1) := by decide +kernel
theorem dX12_newThing_20 : decode cX12_newThing 20 = .ok (.aload_n 0, 1) := by decide +kernel
theorem dX12_newThing_21 : decode cX12_newThing 21 = .ok (.getfield 155, 3) := by decide +kernel
theorem dX12_newThing_24 : decode cX12_newThing 24 = .ok (.aload_n 0, 1) := by decide +kernel
theorem dX12_newThing_25 : decode cX12_newThing 25 = .ok (.getfield 152, 3) := by decide +kernel
theorem dX12_newThing_28 : decode cX12_newThing 28 = .ok (.iconst 0, 1) := by decide +kernel
theorem dX12_newThing_29 : decode cX12_newThing 29 = .ok (.iastore, 1) := by decide +kernel
theorem dX12_newThing_30 : decode cX12_newThing 30 = .ok (.aload_n 0, 1) := by decide +kernel
theorem dX12_newThing_31 : decode cX12_newThing 31 = .ok (.getfield 158, 3) := by decide +kernel
theorem dX12_newThing_34 : decode cX12_newThing 34 = .ok (.aload_n 0, 1) := by decide +kernel
theorem dX12_newThing_35 : decode cX12_newThing 35 = .ok (.getfield 152, 3) := by decide +kernel
theorem dX12_newThing_38 : decode cX12_newThing 38 = .ok (.aload_n 0, 1) := by decide +kernel
theorem dX12_newThing_39 : decode cX12_newThing 39 = .ok (.getfield 161, 3) := by decide +kernel
theorem dX12_newThing_42 : decode cX12_newThing 42 = .ok (.iastore, 1) := by decide +kernel
theorem dX12_newThing_43 : decode cX12_newThing 43 = .ok (.aload_n 0, 1) := by decide +kernel
theorem dX12_newThing_44 : decode cX12_newThing 44 = .ok (.getfield 152, 3) := by decide +kernel
theorem dX12_newThing_47 : decode cX12_newThing 47 = .ok (.ireturn, 1) := by decide +kernel
theorem dX12_newRow_0 : decode cX12_newRow 0 = .ok (.aload_n 0, 1) := by decide +kernel
theorem dX12_newRow_1 : decode cX12_newRow 1 = .ok (.iload_n 1, 1) := by decide +kernel
theorem dX12_newRow_2 : decode cX12_newRow 2 = .ok (.invokevirtual 164, 3) := by decide +kernel
theorem dX12_newRow_5 : decode cX12_newRow 5 = .ok (.istore_n 3, 1) := by decide +kernel
theorem dX12_newRow_6 : decode cX12_newRow 6 = .ok (.aload_n 0, 1) := by decide +kernel
theorem dX12_newRow_7 : decode cX12_newRow 7 = .ok (.getfield 155, 3) := by decide +kernel
theorem dX12_newRow_10 : decode cX12_newRow 10 = .ok (.iload_n 3, 1) := by decide +kernel
theorem dX12_newRow_11 : decode cX12_newRow 11 = .ok (.iload_n 2, 1) := by decide +kernel
theorem dX12_newRow_12 : decode cX12_newRow 12 = .ok (.iastore, 1) := by decide +kernel
theorem dX12_newRow_13 : decode cX12_newRow 13 = .ok (.iconst 0, 1) := by decide +kernel
theorem dX12_newRow_14 : decode cX12_newRow 14 = .ok (.istore 4, 2) := by decide +kernel
theorem dX12_newRow_16 : decode cX12_newRow 16 = .ok (.iload 4, 2) := by decide +kernel
theorem dX12_newRow_18 : decode cX12_newRow 18 = .ok (.iload_n 2, 1) := by decide +kernel
theorem dX12_newRow_19 : decode cX12_newRow 19 = .ok (.if_icmp .ge 22, 3) := by decide +kernel
theorem dX12_newRow_22 : decode cX12_newRow 22 = .ok (.aload_n 0, 1) := by decide +kernel
theorem dX12_newRow_23 : decode cX12_newRow 23 = .ok (.getfield 168, 3) := by decide +kernel
theorem dX12_newRow_26 : decode cX12_newRow 26 = .ok (.aload_n 0, 1) := by decide +kernel
theorem dX12_newRow_27 : decode cX12_newRow 27 = .ok (.getfield 161, 3) := by decide +kernel
theorem dX12_newRow_30 : decode cX12_newRow 30 = .ok (.iload 4, 2) := by decide +kernel
theorem dX12_newRow_32 : decode cX12_newRow 32 = .ok (.iadd, 1) := by decide +kernel
theorem dX12_newRow_33 : decode cX12_newRow 33 = .ok (.lconst 0, 1) := by decide +kernel
theorem dX12_newRow_34 : decode cX12_newRow 34 = .ok (.lastore, 1) := by decide +kernel
theorem dX12_newRow_35 : decode cX12_newRow 35 = .ok (.iinc 4 1, 3) := by decide +kernel
theorem dX12_newRow_38 : decode cX12_newRow 38 = .ok (.goto (-22), 3) := by decide +kernel
theorem dX12_newRow_41 : decode cX12_newRow 41 = .ok (.aload_n 0, 1) := by decide +kernel
theorem dX12_newRow_42 : decode cX12_newRow 42 = .ok (.dup, 1) := by decide +kernel
theorem dX12_newRow_43 : decode cX12_newRow 43 = .ok (.getfield 161, 3) := by decide +kernel
theorem dX12_newRow_46 : decode cX12_newRow 46 = .ok (.iload_n 2, 1) := by decide +kernel
theorem dX12_newRow_47 : decode cX12_newRow 47 = .ok (.iadd, 1) := by decide +kernel
theorem dX12_newRow_48 : decode cX12_newRow 48 = .ok (.putfield 161, 3) := by decide +kernel
theorem dX12_newRow_51 : decode cX12_newRow 51 = .ok (.iload_n 3, 1) := by decide +kernel
theorem dX12_newRow_52 : decode cX12_newRow 52 = .ok (.ireturn, 1) := by decide +kernel
theorem dX12_run_0 : decode cX12_run 0 = .ok (.aload_n 0, 1) := by decide +kernel
theorem dX12_run_1 : decode cX12_run 1 = .ok (.iconst 0, 1) := by decide +kernel
theorem dX12_run_2 : decode cX12_run 2 = .ok (.putfield 1, 3) := by decide +kernel
theorem dX12_run_5 : decode cX12_run 5 = .ok (.iload_n 1, 1) := by decide +kernel
theorem dX12_run_6 : decode cX12_run 6 = .ok (.ifCond .lt 10, 3) := by decide +kernel
theorem dX12_run_9 : decode cX12_run 9 = .ok (.iload_n 1, 1) := by decide +kernel
theorem dX12_run_10 : decode cX12_run 10 = .ok (.sipush 20000, 3) := by decide +kernel
theorem dX12_run_13 : decode cX12_run 13 = .ok (.if_icmp .le 5, 3) := by decide +kernel
theorem dX12_run_16 : decode cX12_run 16 = .ok (.iconst (-1), 1) := by decide +kernel
theorem dX12_run_17 : decode cX12_run 17 = .ok (.ireturn, 1) := by decide +kernel
theorem dX12_run_18 : decode cX12_run 18 = .ok (.aload_n 0, 1) := by decide +kernel
theorem dX12_run_19 : decode cX12_run 19 = .ok (.iload_n 1, 1) := by decide +kernel
theorem dX12_run_20 : decode cX12_run 20 = .ok (.putfield 172, 3) := by decide +kernel
theorem dX12_run_23 : decode cX12_run 23 = .ok (.aload_n 0, 1) := by decide +kernel
theorem dX12_run_24 : decode cX12_run 24 = .ok (.iconst 0, 1) := by decide +kernel
theorem dX12_run_25 : decode cX12_run 25 = .ok (.putfield 175, 3) := by decide +kernel
theorem dX12_run_28 : decode cX12_run 28 = .ok (.aload_n 0, 1) := by decide +kernel
theorem dX12_run_29 : decode cX12_run 29 = .ok (.iconst (-1), 1) := by decide +kernel
theorem dX12_run_30 : decode cX12_run 30 = .ok (.putfield 178, 3) := by decide +kernel
theorem dX12_run_33 : decode cX12_run 33 = .ok (.aload_n 0, 1) := by decide +kernel
theorem dX12_run_34 : decode cX12_run 34 = .ok (.iconst (-1), 1) := by decide +kernel
theorem dX12_run_35 : decode cX12_run 35 = .ok (.putfield 181, 3) := by decide +kernel
theorem dX12_run_38 : decode cX12_run 38 = .ok (.aload_n 0, 1) := by decide +kernel
theorem dX12_run_39 : decode cX12_run 39 = .ok (.iconst 0, 1) := by decide +kernel
theorem dX12_run_40 : decode cX12_run 40 = .ok (.putfield 184, 3) := by decide +kernel
theorem dX12_run_43 : decode cX12_run 43 = .ok (.aload_n 0, 1) := by decide +kernel
theorem dX12_run_44 : decode cX12_run 44 = .ok (.iconst 1, 1) := by decide +kernel
theorem dX12_run_45 : decode cX12_run 45 = .ok (.putfield 187, 3) := by decide +kernel
theorem dX12_run_48 : decode cX12_run 48 = .ok (.aload_n 0, 1) := by decide +kernel
theorem dX12_run_49 : decode cX12_run 49 = .ok (.iconst 0, 1) := by decide +kernel
theorem dX12_run_50 : decode cX12_run 50 = .ok (.putfield 190, 3) := by decide +kernel
theorem dX12_run_53 : decode cX12_run 53 = .ok (.aload_n 0, 1) := by decide +kernel
theorem dX12_run_54 : decode cX12_run 54 = .ok (.iconst 0, 1) := by decide +kernel
theorem dX12_run_55 : decode cX12_run 55 = .ok (.iconst 0, 1) := by decide +kernel
theorem dX12_run_56 : decode cX12_run 56 = .ok (.invokevirtual 193, 3) := by decide +kernel
theorem dX12_run_59 : decode cX12_run 59 = .ok (.aload_n 0, 1) := by decide +kernel
theorem dX12_run_60 : decode cX12_run 60 = .ok (.getfield 178, 3) := by decide +kernel
theorem dX12_run_63 : decode cX12_run 63 = .ok (.iconst (-1), 1) := by decide +kernel
theorem dX12_run_64 : decode cX12_run 64 = .ok (.if_icmp .ne 10, 3) := by decide +kernel
theorem dX12_run_67 : decode cX12_run 67 = .ok (.aload_n 0, 1) := by decide +kernel
theorem dX12_run_68 : decode cX12_run 68 = .ok (.invokevirtual 197, 3) := by decide +kernel
theorem dX12_run_71 : decode cX12_run 71 = .ok (.goto (-12), 3) := by decide +kernel
theorem dX12_run_74 : decode cX12_run 74 = .ok (.aload_n 0, 1) := by decide +kernel
theorem dX12_run_75 : decode cX12_run 75 = .ok (.getfield 178, 3) := by decide +kernel
theorem dX12_run_78 : decode cX12_run 78 = .ok (.ireturn, 1) := by decide +kernel
theorem dX12_opens_0 : decode cX12_opens 0 = .ok (.aload_n 0, 1) := by decide +kernel
theorem dX12_opens_1 : decode cX12_opens 1 = .ok (.getfield 201, 3) := by decide +kernel
theorem dX12_opens_4 : decode cX12_opens 4 = .ok (.aload_n 0, 1) := by decide +kernel
theorem dX12_opens_5 : decode cX12_opens 5 = .ok (.getfield 190, 3) := by decide +kernel
theorem dX12_opens_8 : decode cX12_opens 8 = .ok (.iload_n 1, 1) := by decide +kernel
theorem dX12_opens_9 : decode cX12_opens 9 = .ok (.iastore, 1) := by decide +kernel
theorem dX12_opens_10 : decode cX12_opens 10 = .ok (.aload_n 0, 1) := by decide +kernel
theorem dX12_opens_11 : decode cX12_opens 11 = .ok (.getfield 204, 3) := by decide +kernel
theorem dX12_opens_14 : decode cX12_opens 14 = .ok (.aload_n 0, 1) := by decide +kernel
theorem dX12_opens_15 : decode cX12_opens 15 = .ok (.getfield 190, 3) := by decide +kernel
theorem dX12_opens_18 : decode cX12_opens 18 = .ok (.iload_n 2, 1) := by decide +kernel
theorem dX12_opens_19 : decode cX12_opens 19 = .ok (.iastore, 1) := by decide +kernel
theorem dX12_opens_20 : decode cX12_opens 20 = .ok (.aload_n 0, 1) := by decide +kernel
theorem dX12_opens_21 : decode cX12_opens 21 = .ok (.getfield 207, 3) := by decide +kernel
theorem dX12_opens_24 : decode cX12_opens 24 = .ok (.aload_n 0, 1) := by decide +kernel
theorem dX12_opens_25 : decode cX12_opens 25 = .ok (.getfield 190, 3) := by decide +kernel
theorem dX12_opens_28 : decode cX12_opens 28 = .ok (.iload_n 2, 1) := by decide +kernel
theorem dX12_opens_29 : decode cX12_opens 29 = .ok (.iastore, 1) := by decide +kernel
theorem dX12_opens_30 : decode cX12_opens 30 = .ok (.aload_n 0, 1) := by decide +kernel
theorem dX12_opens_31 : decode cX12_opens 31 = .ok (.getfield 210, 3) := by decide +kernel
theorem dX12_opens_34 : decode cX12_opens 34 = .ok (.aload_n 0, 1) := by decide +kernel
theorem dX12_opens_35 : decode cX12_opens 35 = .ok (.getfield 190, 3) := by decide +kernel
theorem dX12_opens_38 : decode cX12_opens 38 = .ok (.iconst 0, 1) := by decide +kernel
theorem dX12_opens_39 : decode cX12_opens 39 = .ok (.iastore, 1) := by decide +kernel
theorem dX12_opens_40 : decode cX12_opens 40 = .ok (.aload_n 0, 1) := by decide +kernel
theorem dX12_opens_41 : decode cX12_opens 41 = .ok (.dup, 1) := by decide +kernel
theorem dX12_opens_42 : decode cX12_opens 42 = .ok (.getfield 190, 3) := by decide +kernel
theorem dX12_opens_45 : decode cX12_opens 45 = .ok (.iconst 1, 1) := by decide +kernel
theorem dX12_opens_46 : decode cX12_opens 46 = .ok (.iadd, 1) := by decide +kernel
theorem dX12_opens_47 : decode cX12_opens 47 = .ok (.putfield 190, 3) := by decide +kernel
theorem dX12_opens_50 : decode cX12_opens 50 = .ok (.return_, 1) := by decide +kernel
theorem dX12_steps_0 : decode cX12_steps 0 = .ok (.aload_n 0, 1) := by decide +kernel
theorem dX12_steps_1 : decode cX12_steps 1 = .ok (.getfield 190, 3) := by decide +kernel
theorem dX12_steps_4 : decode cX12_steps 4 = .ok (.iconst 1, 1) := by decide +kernel
theorem dX12_steps_5 : decode cX12_steps 5 = .ok (.isub, 1) := by decide +kernel
theorem dX12_steps_6 : decode cX12_steps 6 = .ok (.istore_n 1, 1) := by decide +kernel
theorem dX12_steps_7 : decode cX12_steps 7 = .ok (.aload_n 0, 1) := by decide +kernel
theorem dX12_steps_8 : decode cX12_steps 8 = .ok (.getfield 204, 3) := by decide +kernel
theorem dX12_steps_11 : decode cX12_steps 11 = .ok (.iload_n 1, 1) := by decide +kernel
theorem dX12_steps_12 : decode cX12_steps 12 = .ok (.iaload, 1) := by decide +kernel
theorem dX12_steps_13 : decode cX12_steps 13 = .ok (.istore_n 2, 1) := by decide +kernel
theorem dX12_steps_14 : decode cX12_steps 14 = .ok (.iload_n 2, 1) := by decide +kernel
theorem dX12_steps_15 : decode cX12_steps 15 = .ok (.ifCond .lt 11, 3) := by decide +kernel
theorem dX12_steps_18 : decode cX12_steps 18 = .ok (.iload_n 2, 1) := by decide +kernel
theorem dX12_steps_19 : decode cX12_steps 19 = .ok (.aload_n 0, 1) := by decide +kernel
theorem dX12_steps_20 : decode cX12_steps 20 = .ok (.getfield 213, 3) := by decide +kernel
theorem dX12_steps_23 : decode cX12_steps 23 = .ok (.if_icmp .lt 9, 3) := by decide +kernel
theorem dX12_steps_26 : decode cX12_steps 26 = .ok (.aload_n 0, 1) := by decide +kernel
theorem dX12_steps_27 : decode cX12_steps 27 = .ok (.iload_n 1, 1) := by decide +kernel
theorem dX12_steps_28 : decode cX12_steps 28 = .ok (.invokevirtual 216, 3) := by decide +kernel
theorem dX12_steps_31 : decode cX12_steps 31 = .ok (.return_, 1) := by decide +kernel
theorem dX12_steps_32 : decode cX12_steps 32 = .ok (.aload_n 0, 1) := by decide +kernel
theorem dX12_steps_33 : decode cX12_steps 33 = .ok (.getfield 172, 3) := by decide +kernel
theorem dX12_steps_36 : decode cX12_steps 36 = .ok (.ifCond .ne 10, 3) := by decide +kernel
theorem dX12_steps_39 : decode cX12_steps 39 = .ok (.aload_n 0, 1) := by decide +kernel
theorem dX12_steps_40 : decode cX12_steps 40 = .ok (.bipush 10, 2) := by decide +kernel
theorem dX12_steps_42 : decode cX12_steps 42 = .ok (.putfield 178, 3) := by decide +kernel
theorem dX12_steps_45 : decode cX12_steps 45 = .ok (.return_, 1) := by decide +kernel
theorem dX12_steps_46 : decode cX12_steps 46 = .ok (.aload_n 0, 1) := by decide +kernel
theorem dX12_steps_47 : decode cX12_steps 47 = .ok (.dup, 1) := by decide +kernel
theorem dX12_steps_48 : decode cX12_steps 48 = .ok (.getfield 172, 3) := by decide +kernel
theorem dX12_steps_51 : decode cX12_steps 51 = .ok (.iconst 1, 1) := by decide +kernel
theorem dX12_steps_52 : decode cX12_steps 52 = .ok (.isub, 1) := by decide +kernel
theorem dX12_steps_53 : decode cX12_steps 53 = .ok (.putfield 172, 3) := by decide +kernel
theorem dX12_steps_56 : decode cX12_steps 56 = .ok (.aload_n 0, 1) := by decide +kernel
theorem dX12_steps_57 : decode cX12_steps 57 = .ok (.dup, 1) := by decide +kernel
theorem dX12_steps_58 : decode cX12_steps 58 = .ok (.getfield 175, 3) := by decide +kernel
theorem dX12_steps_61 : decode cX12_steps 61 = .ok (.iconst 1, 1) := by decide +kernel
theorem dX12_steps_62 : decode cX12_steps 62 = .ok (.iadd, 1) := by decide +kernel
theorem dX12_steps_63 : decode cX12_steps 63 = .ok (.putfield 175, 3) := by decide +kernel
theorem dX12_steps_66 : decode cX12_steps 66 = .ok (.aload_n 0, 1) := by decide +kernel
theorem dX12_steps_67 : decode cX12_steps 67 = .ok (.getfield 204, 3) := by decide +kernel
theorem dX12_steps_70 : decode cX12_steps 70 = .ok (.iload_n 1, 1) := by decide +kernel
theorem dX12_steps_71 : decode cX12_steps 71 = .ok (.dup2, 1) := by decide +kernel
theorem dX12_steps_72 : decode cX12_steps 72 = .ok (.iaload, 1) := by decide +kernel
theorem dX12_steps_73 : decode cX12_steps 73 = .ok (.iconst 1, 1) := by decide +kernel
theorem dX12_steps_74 : decode cX12_steps 74 = .ok (.iadd, 1) := by decide +kernel
theorem dX12_steps_75 : decode cX12_steps 75 = .ok (.iastore, 1) := by decide +kernel
theorem dX12_steps_76 : decode cX12_steps 76 = .ok (.aload_n 0, 1) := by decide +kernel
theorem dX12_steps_77 : decode cX12_steps 77 = .ok (.getfield 220, 3) := by decide +kernel
theorem dX12_steps_80 : decode cX12_steps 80 = .ok (.iload_n 2, 1) := by decide +kernel
theorem dX12_steps_81 : decode cX12_steps 81 = .ok (.iaload, 1) := by decide +kernel
theorem dX12_steps_82 : decode cX12_steps 82 = .ok (.ifCond .ne 9, 3) := by decide +kernel
theorem dX12_steps_85 : decode cX12_steps 85 = .ok (.aload_n 0, 1) := by decide +kernel
theorem dX12_steps_86 : decode cX12_steps 86 = .ok (.iload_n 1, 1) := by decide +kernel
theorem dX12_steps_87 : decode cX12_steps 87 = .ok (.invokevirtual 216, 3) := by decide +kernel
theorem dX12_steps_90 : decode cX12_steps 90 = .ok (.return_, 1) := by decide +kernel
theorem dX12_steps_91 : decode cX12_steps 91 = .ok (.aload_n 0, 1) := by decide +kernel
theorem dX12_steps_92 : decode cX12_steps 92 = .ok (.iload_n 2, 1) := by decide +kernel
theorem dX12_steps_93 : decode cX12_steps 93 = .ok (.invokevirtual 223, 3) := by decide +kernel
theorem dX12_steps_96 : decode cX12_steps 96 = .ok (.istore_n 3, 1) := by decide +kernel
theorem dX12_steps_97 : decode cX12_steps 97 = .ok (.iload_n 3, 1) := by decide +kernel
theorem dX12_steps_98 : decode cX12_steps 98 = .ok (.ifCond .le 9, 3) := by decide +kernel
theorem dX12_steps_101 : decode cX12_steps 101 = .ok (.aload_n 0, 1) := by decide +kernel
theorem dX12_steps_102 : decode cX12_steps 102 = .ok (.iload_n 3, 1) := by decide +kernel
theorem dX12_steps_103 : decode cX12_steps 103 = .ok (.iload_n 2, 1) := by decide +kernel
theorem dX12_steps_104 : decode cX12_steps 104 = .ok (.invokevirtual 226, 3) := by decide +kernel
theorem dX12_steps_107 : decode cX12_steps 107 = .ok (.return_, 1) := by decide +kernel
theorem dX12_through_0 : decode cX12_through 0 = .ok (.aload_n 0, 1) := by decide +kernel
theorem dX12_through_1 : decode cX12_through 1 = .ok (.getfield 201, 3) := by decide +kernel
theorem dX12_through_4 : decode cX12_through 4 = .ok (.iload_n 1, 1) := by decide +kernel
theorem dX12_through_5 : decode cX12_through 5 = .ok (.iaload, 1) := by decide +kernel
theorem dX12_through_6 : decode cX12_through 6 = .ok (.tableswitch 165 1 4 #[30, 165, 105, 127], 30) := by decide +kernel
theorem dX12_through_36 : decode cX12_through 36 = .ok (.aload_n 0, 1) := by decide +kernel
theorem dX12_through_37 : decode cX12_through 37 = .ok (.getfield 229, 3) := by decide +kernel
theorem dX12_through_40 : decode cX12_through 40 = .ok (.iload_n 1, 1) := by decide +kernel
theorem dX12_through_41 : decode cX12_through 41 = .ok (.dup2, 1) := by decide +kernel
theorem dX12_through_42 : decode cX12_through 42 = .ok (.laload, 1) := by decide +kernel
theorem dX12_through_43 : decode cX12_through 43 = .ok (.lconst 1, 1) := by decide +kernel
theorem dX12_through_44 : decode cX12_through 44 = .ok (.lsub, 1) := by decide +kernel
theorem dX12_through_45 : decode cX12_through 45 = .ok (.lastore, 1) := by decide +kernel
theorem dX12_through_46 : decode cX12_through 46 = .ok (.aload_n 0, 1) := by decide +kernel
theorem dX12_through_47 : decode cX12_through 47 = .ok (.getfield 229, 3) := by decide +kernel
theorem dX12_through_50 : decode cX12_through 50 = .ok (.iload_n 1, 1) := by decide +kernel
theorem dX12_through_51 : decode cX12_through 51 = .ok (.laload, 1) := by decide +kernel
theorem dX12_through_52 : decode cX12_through 52 = .ok (.lconst 0, 1) := by decide +kernel
theorem dX12_through_53 : decode cX12_through 53 = .ok (.lcmp, 1) := by decide +kernel
theorem dX12_through_54 : decode cX12_through 54 = .ok (.ifCond .ne 16, 3) := by decide +kernel
theorem dX12_through_57 : decode cX12_through 57 = .ok (.aload_n 0, 1) := by decide +kernel
theorem dX12_through_58 : decode cX12_through 58 = .ok (.dup, 1) := by decide +kernel
theorem dX12_through_59 : decode cX12_through 59 = .ok (.getfield 190, 3) := by decide +kernel
theorem dX12_through_62 : decode cX12_through 62 = .ok (.iconst 1, 1) := by decide +kernel
theorem dX12_through_63 : decode cX12_through 63 = .ok (.isub, 1) := by decide +kernel
theorem dX12_through_64 : decode cX12_through 64 = .ok (.putfield 190, 3) := by decide +kernel
theorem dX12_through_67 : decode cX12_through 67 = .ok (.goto 126, 3) := by decide +kernel
theorem dX12_through_70 : decode cX12_through 70 = .ok (.aload_n 0, 1) := by decide +kernel
theorem dX12_through_71 : decode cX12_through 71 = .ok (.getfield 172, 3) := by decide +kernel
theorem dX12_through_74 : decode cX12_through 74 = .ok (.ifCond .ne 12, 3) := by decide +kernel
theorem dX12_through_77 : decode cX12_through 77 = .ok (.aload_n 0, 1) := by decide +kernel
theorem dX12_through_78 : decode cX12_through 78 = .ok (.bipush 10, 2) := by decide +kernel
theorem dX12_through_80 : decode cX12_through 80 = .ok (.putfield 178, 3) := by decide +kernel
theorem dX12_through_83 : decode cX12_through 83 = .ok (.goto 110, 3) := by decide +kernel
theorem dX12_through_86 : decode cX12_through 86 = .ok (.aload_n 0, 1) := by decide +kernel
theorem dX12_through_87 : decode cX12_through 87 = .ok (.dup, 1) := by decide +kernel
theorem dX12_through_88 : decode cX12_through 88 = .ok (.getfield 172, 3) := by decide +kernel
theorem dX12_through_91 : decode cX12_through 91 = .ok (.iconst 1, 1) := by decide +kernel
theorem dX12_through_92 : decode cX12_through 92 = .ok (.isub, 1) := by decide +kernel
theorem dX12_through_93 : decode cX12_through 93 = .ok (.putfield 172, 3) := by decide +kernel
theorem dX12_through_96 : decode cX12_through 96 = .ok (.aload_n 0, 1) := by decide +kernel
theorem dX12_through_97 : decode cX12_through 97 = .ok (.getfield 204, 3) := by decide +kernel
theorem dX12_through_100 : decode cX12_through 100 = .ok (.iload_n 1, 1) := by decide +kernel
theorem dX12_through_101 : decode cX12_through 101 = .ok (.aload_n 0, 1) := by decide +kernel
theorem dX12_through_102 : decode cX12_through 102 = .ok (.getfield 207, 3) := by decide +kernel
theorem dX12_through_105 : decode cX12_through 105 = .ok (.iload_n 1, 1) := by decide +kernel
theorem dX12_through_106 : decode cX12_through 106 = .ok (.iaload, 1) := by decide +kernel
theorem dX12_through_107 : decode cX12_through 107 = .ok (.iastore, 1) := by decide +kernel
theorem dX12_through_108 : decode cX12_through 108 = .ok (.goto 85, 3) := by decide +kernel
theorem dX12_through_111 : decode cX12_through 111 = .ok (.aload_n 0, 1) := by decide +kernel
theorem dX12_through_112 : decode cX12_through 112 = .ok (.getfield 201, 3) := by decide +kernel
theorem dX12_through_115 : decode cX12_through 115 = .ok (.iload_n 1, 1) := by decide +kernel
theorem dX12_through_116 : decode cX12_through 116 = .ok (.iconst 4, 1) := by decide +kernel
theorem dX12_through_117 : decode cX12_through 117 = .ok (.iastore, 1) := by decide +kernel
theorem dX12_through_118 : decode cX12_through 118 = .ok (.aload_n 0, 1) := by decide +kernel
theorem dX12_through_119 : decode cX12_through 119 = .ok (.getfield 204, 3) := by decide +kernel
theorem dX12_through_122 : decode cX12_through 122 = .ok (.iload_n 1, 1) := by decide +kernel
theorem dX12_through_123 : decode cX12_through 123 = .ok (.aload_n 0, 1) := by decide +kernel
theorem dX12_through_124 : decode cX12_through 124 = .ok (.getfield 232, 3) := by decide +kernel
theorem dX12_through_127 : decode cX12_through 127 = .ok (.iload_n 1, 1) := by decide +kernel
theorem dX12_through_128 : decode cX12_through 128 = .ok (.iaload, 1) := by decide +kernel
theorem dX12_through_129 : decode cX12_through 129 = .ok (.iastore, 1) := by decide +kernel
theorem dX12_through_130 : decode cX12_through 130 = .ok (.goto 63, 3) := by decide +kernel
theorem dX12_through_133 : decode cX12_through 133 = .ok (.aload_n 0, 1) := by decide +kernel
theorem dX12_through_134 : decode cX12_through 134 = .ok (.dup, 1) := by decide +kernel
theorem dX12_through_135 : decode cX12_through 135 = .ok (.getfield 190, 3) := by decide +kernel
theorem dX12_through_138 : decode cX12_through 138 = .ok (.iconst 1, 1) := by decide +kernel
theorem dX12_through_139 : decode cX12_through 139 = .ok (.isub, 1) := by decide +kernel
theorem dX12_through_140 : decode cX12_through 140 = .ok (.putfield 190, 3) := by decide +kernel
theorem dX12_through_143 : decode cX12_through 143 = .ok (.aload_n 0, 1) := by decide +kernel
theorem dX12_through_144 : decode cX12_through 144 = .ok (.getfield 210, 3) := by decide +kernel
theorem dX12_through_147 : decode cX12_through 147 = .ok (.iload_n 1, 1) := by decide +kernel
theorem dX12_through_148 : decode cX12_through 148 = .ok (.iaload, 1) := by decide +kernel
theorem dX12_through_149 : decode cX12_through 149 = .ok (.ifCond .le 44, 3) := by decide +kernel
theorem dX12_through_152 : decode cX12_through 152 = .ok (.aload_n 0, 1) := by decide +kernel
theorem dX12_through_153 : decode cX12_through 153 = .ok (.aload_n 0, 1) := by decide +kernel
theorem dX12_through_154 : decode cX12_through 154 = .ok (.getfield 210, 3) := by decide +kernel
theorem dX12_through_157 : decode cX12_through 157 = .ok (.iload_n 1, 1) := by decide +kernel
theorem dX12_through_158 : decode cX12_through 158 = .ok (.iaload, 1) := by decide +kernel
theorem dX12_through_159 : decode cX12_through 159 = .ok (.aload_n 0, 1) := by decide +kernel
theorem dX12_through_160 : decode cX12_through 160 = .ok (.getfield 235, 3) := by decide +kernel
theorem dX12_through_163 : decode cX12_through 163 = .ok (.iload_n 1, 1) := by decide +kernel
theorem dX12_through_164 : decode cX12_through 164 = .ok (.iaload, 1) := by decide +kernel
theorem dX12_through_165 : decode cX12_through 165 = .ok (.invokevirtual 238, 3) := by decide +kernel
theorem dX12_through_168 : decode cX12_through 168 = .ok (.goto 25, 3) := by decide +kernel
theorem dX12_through_171 : decode cX12_through 171 = .ok (.aload_n 0, 1) := by decide +kernel
theorem dX12_through_172 : decode cX12_through 172 = .ok (.dup, 1) := by decide +kernel
theorem dX12_through_173 : decode cX12_through 173 = .ok (.getfield 190, 3) := by decide +kernel
theorem dX12_through_176 : decode cX12_through 176 = .ok (.iconst 1, 1) := by decide +kernel
theorem dX12_through_177 : decode cX12_through 177 = .ok (.isub, 1) := by decide +kernel
theorem dX12_through_178 : decode cX12_through 178 = .ok (.putfield 190, 3) := by decide +kernel
theorem dX12_through_181 : decode cX12_through 181 = .ok (.aload_n 0, 1) := by decide +kernel
theorem dX12_through_182 : decode cX12_through 182 = .ok (.getfield 190, 3) := by decide +kernel
theorem dX12_through_185 : decode cX12_through 185 = .ok (.ifCond .ne 8, 3) := by decide +kernel
theorem dX12_through_188 : decode cX12_through 188 = .ok (.aload_n 0, 1) := by decide +kernel
theorem dX12_through_189 : decode cX12_through 189 = .ok (.iconst 0, 1) := by decide +kernel
theorem dX12_through_190 : decode cX12_through 190 = .ok (.putfield 178, 3) := by decide +kernel
theorem dX12_through_193 : decode cX12_through 193 = .ok (.return_, 1) := by decide +kernel
theorem dX12_comes_0 : decode cX12_comes 0 = .ok (.aload_n 0, 1) := by decide +kernel
theorem dX12_comes_1 : decode cX12_comes 1 = .ok (.getfield 241, 3) := by decide +kernel
theorem dX12_comes_4 : decode cX12_comes 4 = .ok (.sipush 2000, 3) := by decide +kernel
theorem dX12_comes_7 : decode cX12_comes 7 = .ok (.if_icmp .ne 10, 3) := by decide +kernel
theorem dX12_comes_10 : decode cX12_comes 10 = .ok (.aload_n 0, 1) := by decide +kernel
theorem dX12_comes_11 : decode cX12_comes 11 = .ok (.bipush 10, 2) := by decide +kernel
theorem dX12_comes_13 : decode cX12_comes 13 = .ok (.putfield 178, 3) := by decide +kernel
theorem dX12_comes_16 : decode cX12_comes 16 = .ok (.return_, 1) := by decide +kernel
theorem dX12_comes_17 : decode cX12_comes 17 = .ok (.aload_n 0, 1) := by decide +kernel
theorem dX12_comes_18 : decode cX12_comes 18 = .ok (.dup, 1) := by decide +kernel
theorem dX12_comes_19 : decode cX12_comes 19 = .ok (.getfield 241, 3) := by decide +kernel
theorem dX12_comes_22 : decode cX12_comes 22 = .ok (.iconst 1, 1) := by decide +kernel
theorem dX12_comes_23 : decode cX12_comes 23 = .ok (.iadd, 1) := by decide +kernel
theorem dX12_comes_24 : decode cX12_comes 24 = .ok (.putfield 241, 3) := by decide +kernel
theorem dX12_comes_27 : decode cX12_comes 27 = .ok (.aload_n 0, 1) := by decide +kernel
theorem dX12_comes_28 : decode cX12_comes 28 = .ok (.iload_n 1, 1) := by decide +kernel
theorem dX12_comes_29 : decode cX12_comes 29 = .ok (.iload_n 2, 1) := by decide +kernel
theorem dX12_comes_30 : decode cX12_comes 30 = .ok (.invokevirtual 238, 3) := by decide +kernel
theorem dX12_comes_33 : decode cX12_comes 33 = .ok (.return_, 1) := by decide +kernel
theorem dX12_goesOn_0 : decode cX12_goesOn 0 = .ok (.aload_n 0, 1) := by decide +kernel
theorem dX12_goesOn_1 : decode cX12_goesOn 1 = .ok (.getfield 190, 3) := by decide +kernel
theorem dX12_goesOn_4 : decode cX12_goesOn 4 = .ok (.ifCond .le 120, 3) := by decide +kernel
theorem dX12_goesOn_7 : decode cX12_goesOn 7 = .ok (.aload_n 0, 1) := by decide +kernel
theorem dX12_goesOn_8 : decode cX12_goesOn 8 = .ok (.getfield 190, 3) := by decide +kernel
theorem dX12_goesOn_11 : decode cX12_goesOn 11 = .ok (.iconst 1, 1) := by decide +kernel
theorem dX12_goesOn_12 : decode cX12_goesOn 12 = .ok (.isub, 1) := by decide +kernel
theorem dX12_goesOn_13 : decode cX12_goesOn 13 = .ok (.istore_n 3, 1) := by decide +kernel
theorem dX12_goesOn_14 : decode cX12_goesOn 14 = .ok (.aload_n 0, 1) := by decide +kernel
theorem dX12_goesOn_15 : decode cX12_goesOn 15 = .ok (.getfield 201, 3) := by decide +kernel
theorem dX12_goesOn_18 : decode cX12_goesOn 18 = .ok (.iload_n 3, 1) := by decide +kernel
theorem dX12_goesOn_19 : decode cX12_goesOn 19 = .ok (.iaload, 1) := by decide +kernel
theorem dX12_goesOn_20 : decode cX12_goesOn 20 = .ok (.iconst 3, 1) := by decide +kernel
theorem dX12_goesOn_21 : decode cX12_goesOn 21 = .ok (.if_icmp .ne 37, 3) := by decide +kernel
theorem dX12_goesOn_24 : decode cX12_goesOn 24 = .ok (.aload_n 0, 1) := by decide +kernel
theorem dX12_goesOn_25 : decode cX12_goesOn 25 = .ok (.getfield 201, 3) := by decide +kernel
theorem dX12_goesOn_28 : decode cX12_goesOn 28 = .ok (.iload_n 3, 1) := by decide +kernel
theorem dX12_goesOn_29 : decode cX12_goesOn 29 = .ok (.iconst 4, 1) := by decide +kernel
theorem dX12_goesOn_30 : decode cX12_goesOn 30 = .ok (.iastore, 1) := by decide +kernel
theorem dX12_goesOn_31 : decode cX12_goesOn 31 = .ok (.aload_n 0, 1) := by decide +kernel
theorem dX12_goesOn_32 : decode cX12_goesOn 32 = .ok (.getfield 204, 3) := by decide +kernel
theorem dX12_goesOn_35 : decode cX12_goesOn 35 = .ok (.iload_n 3, 1) := by decide +kernel
theorem dX12_goesOn_36 : decode cX12_goesOn 36 = .ok (.aload_n 0, 1) := by decide +kernel
theorem dX12_goesOn_37 : decode cX12_goesOn 37 = .ok (.getfield 232, 3) := by decide +kernel
theorem dX12_goesOn_40 : decode cX12_goesOn 40 = .ok (.iload_n 3, 1) := by decide +kernel
theorem dX12_goesOn_41 : decode cX12_goesOn 41 = .ok (.iaload, 1) := by decide +kernel
theorem dX12_goesOn_42 : decode cX12_goesOn 42 = .ok (.iastore, 1) := by decide +kernel
theorem dX12_goesOn_43 : decode cX12_goesOn 43 = .ok (.aload_n 0, 1) := by decide +kernel
theorem dX12_goesOn_44 : decode cX12_goesOn 44 = .ok (.getfield 210, 3) := by decide +kernel
theorem dX12_goesOn_47 : decode cX12_goesOn 47 = .ok (.iload_n 3, 1) := by decide +kernel
theorem dX12_goesOn_48 : decode cX12_goesOn 48 = .ok (.iload_n 1, 1) := by decide +kernel
theorem dX12_goesOn_49 : decode cX12_goesOn 49 = .ok (.iastore, 1) := by decide +kernel
theorem dX12_goesOn_50 : decode cX12_goesOn 50 = .ok (.aload_n 0, 1) := by decide +kernel
theorem dX12_goesOn_51 : decode cX12_goesOn 51 = .ok (.getfield 235, 3) := by decide +kernel
theorem dX12_goesOn_54 : decode cX12_goesOn 54 = .ok (.iload_n 3, 1) := by decide +kernel
theorem dX12_goesOn_55 : decode cX12_goesOn 55 = .ok (.iload_n 2, 1) := by decide +kernel
theorem dX12_goesOn_56 : decode cX12_goesOn 56 = .ok (.iastore, 1) := by decide +kernel
theorem dX12_goesOn_57 : decode cX12_goesOn 57 = .ok (.return_, 1) := by decide +kernel
theorem dX12_goesOn_58 : decode cX12_goesOn 58 = .ok (.aload_n 0, 1) := by decide +kernel
theorem dX12_goesOn_59 : decode cX12_goesOn 59 = .ok (.dup, 1) := by decide +kernel
theorem dX12_goesOn_60 : decode cX12_goesOn 60 = .ok (.getfield 190, 3) := by decide +kernel
theorem dX12_goesOn_63 : decode cX12_goesOn 63 = .ok (.iconst 1, 1) := by decide +kernel
theorem dX12_goesOn_64 : decode cX12_goesOn 64 = .ok (.isub, 1) := by decide +kernel
theorem dX12_goesOn_65 : decode cX12_goesOn 65 = .ok (.putfield 190, 3) := by decide +kernel
theorem dX12_goesOn_68 : decode cX12_goesOn 68 = .ok (.aload_n 0, 1) := by decide +kernel
theorem dX12_goesOn_69 : decode cX12_goesOn 69 = .ok (.getfield 201, 3) := by decide +kernel
theorem dX12_goesOn_72 : decode cX12_goesOn 72 = .ok (.iload_n 3, 1) := by decide +kernel
theorem dX12_goesOn_73 : decode cX12_goesOn 73 = .ok (.iaload, 1) := by decide +kernel
theorem dX12_goesOn_74 : decode cX12_goesOn 74 = .ok (.iconst 2, 1) := by decide +kernel
theorem dX12_goesOn_75 : decode cX12_goesOn 75 = .ok (.if_icmp .ne 46, 3) := by decide +kernel
theorem dX12_goesOn_78 : decode cX12_goesOn 78 = .ok (.aload_n 0, 1) := by decide +kernel
theorem dX12_goesOn_79 : decode cX12_goesOn 79 = .ok (.getfield 244, 3) := by decide +kernel
theorem dX12_goesOn_82 : decode cX12_goesOn 82 = .ok (.iload_n 3, 1) := by decide +kernel
theorem dX12_goesOn_83 : decode cX12_goesOn 83 = .ok (.iaload, 1) := by decide +kernel
theorem dX12_goesOn_84 : decode cX12_goesOn 84 = .ok (.ifCond .eq 13, 3) := by decide +kernel
theorem dX12_goesOn_87 : decode cX12_goesOn 87 = .ok (.aload_n 0, 1) := by decide +kernel
theorem dX12_goesOn_88 : decode cX12_goesOn 88 = .ok (.getfield 244, 3) := by decide +kernel
theorem dX12_goesOn_91 : decode cX12_goesOn 91 = .ok (.iload_n 3, 1) := by decide +kernel
theorem dX12_goesOn_92 : decode cX12_goesOn 92 = .ok (.iaload, 1) := by decide +kernel
theorem dX12_goesOn_93 : decode cX12_goesOn 93 = .ok (.iload_n 1, 1) := by decide +kernel
theorem dX12_goesOn_94 : decode cX12_goesOn 94 = .ok (.if_icmp .ne 27, 3) := by decide +kernel
theorem dX12_goesOn_97 : decode cX12_goesOn 97 = .ok (.aload_n 0, 1) := by decide +kernel
theorem dX12_goesOn_98 : decode cX12_goesOn 98 = .ok (.getfield 247, 3) := by decide +kernel
theorem dX12_goesOn_101 : decode cX12_goesOn 101 = .ok (.aload_n 0, 1) := by decide +kernel
theorem dX12_goesOn_102 : decode cX12_goesOn 102 = .ok (.getfield 250, 3) := by decide +kernel
theorem dX12_goesOn_105 : decode cX12_goesOn 105 = .ok (.iload_n 3, 1) := by decide +kernel
theorem dX12_goesOn_106 : decode cX12_goesOn 106 = .ok (.iaload, 1) := by decide +kernel
theorem dX12_goesOn_107 : decode cX12_goesOn 107 = .ok (.iload_n 1, 1) := by decide +kernel
theorem dX12_goesOn_108 : decode cX12_goesOn 108 = .ok (.i2l, 1) := by decide +kernel
theorem dX12_goesOn_109 : decode cX12_goesOn 109 = .ok (.lastore, 1) := by decide +kernel
theorem dX12_goesOn_110 : decode cX12_goesOn 110 = .ok (.aload_n 0, 1) := by decide +kernel
theorem dX12_goesOn_111 : decode cX12_goesOn 111 = .ok (.iload_n 1, 1) := by decide +kernel
theorem dX12_goesOn_112 : decode cX12_goesOn 112 = .ok (.putfield 184, 3) := by decide +kernel
theorem dX12_goesOn_115 : decode cX12_goesOn 115 = .ok (.aload_n 0, 1) := by decide +kernel
theorem dX12_goesOn_116 : decode cX12_goesOn 116 = .ok (.iload_n 2, 1) := by decide +kernel
theorem dX12_goesOn_117 : decode cX12_goesOn 117 = .ok (.putfield 253, 3) := by decide +kernel
theorem dX12_goesOn_120 : decode cX12_goesOn 120 = .ok (.return_, 1) := by decide +kernel
theorem dX12_goesOn_121 : decode cX12_goesOn 121 = .ok (.goto (-121), 3) := by decide +kernel
theorem dX12_goesOn_124 : decode cX12_goesOn 124 = .ok (.aload_n 0, 1) := by decide +kernel
theorem dX12_goesOn_125 : decode cX12_goesOn 125 = .ok (.iload_n 1, 1) := by decide +kernel
theorem dX12_goesOn_126 : decode cX12_goesOn 126 = .ok (.putfield 178, 3) := by decide +kernel
theorem dX12_goesOn_129 : decode cX12_goesOn 129 = .ok (.aload_n 0, 1) := by decide +kernel
theorem dX12_goesOn_130 : decode cX12_goesOn 130 = .ok (.iload_n 2, 1) := by decide +kernel
theorem dX12_goesOn_131 : decode cX12_goesOn 131 = .ok (.putfield 181, 3) := by decide +kernel
theorem dX12_goesOn_134 : decode cX12_goesOn 134 = .ok (.return_, 1) := by decide +kernel
theorem dX12_does_0 : decode cX12_does 0 = .ok (.aload_n 0, 1) := by decide +kernel
theorem dX12_does_1 : decode cX12_does 1 = .ok (.getfield 220, 3) := by decide +kernel
theorem dX12_does_4 : decode cX12_does 4 = .ok (.iload_n 1, 1) := by decide +kernel
theorem dX12_does_5 : decode cX12_does 5 = .ok (.iaload, 1) := by decide +kernel
theorem dX12_does_6 : decode cX12_does 6 = .ok (.istore_n 2, 1) := by decide +kernel
theorem dX12_does_7 : decode cX12_does 7 = .ok (.aload_n 0, 1) := by decide +kernel
theorem dX12_does_8 : decode cX12_does 8 = .ok (.getfield 256, 3) := by decide +kernel
theorem dX12_does_11 : decode cX12_does 11 = .ok (.iload_n 1, 1) := by decide +kernel
theorem dX12_does_12 : decode cX12_does 12 = .ok (.iaload, 1) := by decide +kernel
theorem dX12_does_13 : decode cX12_does 13 = .ok (.istore_n 3, 1) := by decide +kernel
theorem dX12_does_14 : decode cX12_does 14 = .ok (.aload_n 0, 1) := by decide +kernel
theorem dX12_does_15 : decode cX12_does 15 = .ok (.getfield 259, 3) := by decide +kernel
theorem dX12_does_18 : decode cX12_does 18 = .ok (.iload_n 1, 1) := by decide +kernel
theorem dX12_does_19 : decode cX12_does 19 = .ok (.iaload, 1) := by decide +kernel
theorem dX12_does_20 : decode cX12_does 20 = .ok (.istore 4, 2) := by decide +kernel
theorem dX12_does_22 : decode cX12_does 22 = .ok (.aload_n 0, 1) := by decide +kernel
theorem dX12_does_23 : decode cX12_does 23 = .ok (.getfield 262, 3) := by decide +kernel
theorem dX12_does_26 : decode cX12_does 26 = .ok (.iload_n 1, 1) := by decide +kernel
theorem dX12_does_27 : decode cX12_does 27 = .ok (.iaload, 1) := by decide +kernel
theorem dX12_does_28 : decode cX12_does 28 = .ok (.istore 5, 2) := by decide +kernel
theorem dX12_does_30 : decode cX12_does 30 = .ok (.iload_n 2, 1) := by decide +kernel
theorem dX12_does_31 : decode cX12_does 31 = .ok (.ifCond .le 23, 3) := by decide +kernel
theorem dX12_does_34 : decode cX12_does 34 = .ok (.iload_n 2, 1) := by decide +kernel
theorem dX12_does_35 : decode cX12_does 35 = .ok (.bipush 13, 2) := by decide +kernel
theorem dX12_does_37 : decode cX12_does 37 = .ok (.if_icmp .ge 17, 3) := by decide +kernel
theorem dX12_does_40 : decode cX12_does 40 = .ok (.aload_n 0, 1) := by decide +kernel
theorem dX12_does_41 : decode cX12_does 41 = .ok (.iload_n 2, 1) := by decide +kernel
theorem dX12_does_42 : decode cX12_does 42 = .ok (.iload_n 3, 1) := by decide +kernel
theorem dX12_does_43 : decode cX12_does 43 = .ok (.bipush 15, 2) := by decide +kernel
theorem dX12_does_45 : decode cX12_does 45 = .ok (.iand, 1) := by decide +kernel
theorem dX12_does_46 : decode cX12_does 46 = .ok (.iload 4, 2) := by decide +kernel
theorem dX12_does_48 : decode cX12_does 48 = .ok (.iload 5, 2) := by decide +kernel
theorem dX12_does_50 : decode cX12_does 50 = .ok (.invokevirtual 265, 3) := by decide +kernel
theorem dX12_does_53 : decode cX12_does 53 = .ok (.ireturn, 1) := by decide +kernel
theorem dX12_does_54 : decode cX12_does 54 = .ok (.iload_n 2, 1) := by decide +kernel
theorem dX12_does_55 : decode cX12_does 55 = .ok (.bipush 12, 2) := by decide +kernel
theorem dX12_does_57 : decode cX12_does 57 = .ok (.if_icmp .le 24, 3) := by decide +kernel
theorem dX12_does_60 : decode cX12_does 60 = .ok (.iload_n 2, 1) := by decide +kernel
theorem dX12_does_61 : decode cX12_does 61 = .ok (.bipush 22, 2) := by decide +kernel
theorem dX12_does_63 : decode cX12_does 63 = .ok (.if_icmp .ge 18, 3) := by decide +kernel
theorem dX12_does_66 : decode cX12_does 66 = .ok (.aload_n 0, 1) := by decide +kernel
theorem dX12_does_67 : decode cX12_does 67 = .ok (.iload_n 2, 1) := by decide +kernel
theorem dX12_does_68 : decode cX12_does 68 = .ok (.iload_n 3, 1) := by decide +kernel
theorem dX12_does_69 : decode cX12_does 69 = .ok (.bipush 15, 2) := by decide +kernel
theorem dX12_does_71 : decode cX12_does 71 = .ok (.iand, 1) := by decide +kernel
theorem dX12_does_72 : decode cX12_does 72 = .ok (.iload 4, 2) := by decide +kernel
theorem dX12_does_74 : decode cX12_does 74 = .ok (.iload 5, 2) := by decide +kernel
theorem dX12_does_76 : decode cX12_does 76 = .ok (.iload_n 1, 1) := by decide +kernel
theorem dX12_does_77 : decode cX12_does 77 = .ok (.invokevirtual 269, 3) := by decide +kernel
theorem dX12_does_80 : decode cX12_does 80 = .ok (.ireturn, 1) := by decide +kernel
theorem dX12_does_81 : decode cX12_does 81 = .ok (.iload_n 2, 1) := by decide +kernel
theorem dX12_does_82 : decode cX12_does 82 = .ok (.bipush 24, 2) := by decide +kernel
theorem dX12_does_84 : decode cX12_does 84 = .ok (.if_icmp .lt 23, 3) := by decide +kernel
theorem dX12_does_87 : decode cX12_does 87 = .ok (.iload_n 2, 1) := by decide +kernel
theorem dX12_does_88 : decode cX12_does 88 = .ok (.bipush 34, 2) := by decide +kernel
theorem dX12_does_90 : decode cX12_does 90 = .ok (.if_icmp .gt 17, 3) := by decide +kernel
theorem dX12_does_93 : decode cX12_does 93 = .ok (.aload_n 0, 1) := by decide +kernel
theorem dX12_does_94 : decode cX12_does 94 = .ok (.iload_n 2, 1) := by decide +kernel
theorem dX12_does_95 : decode cX12_does 95 = .ok (.iload_n 3, 1) := by decide +kernel
theorem dX12_does_96 : decode cX12_does 96 = .ok (.bipush 15, 2) := by decide +kernel
theorem dX12_does_98 : decode cX12_does 98 = .ok (.iand, 1) := by decide +kernel
theorem dX12_does_99 : decode cX12_does 99 = .ok (.iload 4, 2) := by decide +kernel
theorem dX12_does_101 : decode cX12_does 101 = .ok (.iload 5, 2) := by decide +kernel
theorem dX12_does_103 : decode cX12_does 103 = .ok (.invokevirtual 273, 3) := by decide +kernel
theorem dX12_does_106 : decode cX12_does 106 = .ok (.ireturn, 1) := by decide +kernel
theorem dX12_does_107 : decode cX12_does 107 = .ok (.iload_n 2, 1) := by decide +kernel
theorem dX12_does_108 : decode cX12_does 108 = .ok (.bipush 40, 2) := by decide +kernel
theorem dX12_does_110 : decode cX12_does 110 = .ok (.if_icmp .lt 20, 3) := by decide +kernel
theorem dX12_does_113 : decode cX12_does 113 = .ok (.iload_n 2, 1) := by decide +kernel
theorem dX12_does_114 : decode cX12_does 114 = .ok (.bipush 47, 2) := by decide +kernel
theorem dX12_does_116 : decode cX12_does 116 = .ok (.if_icmp .gt 14, 3) := by decide +kernel
theorem dX12_does_119 : decode cX12_does 119 = .ok (.aload_n 0, 1) := by decide +kernel
theorem dX12_does_120 : decode cX12_does 120 = .ok (.iload_n 2, 1) := by decide +kernel
theorem dX12_does_121 : decode cX12_does 121 = .ok (.iload_n 3, 1) := by decide +kernel
theorem dX12_does_122 : decode cX12_does 122 = .ok (.iload 4, 2) := by decide +kernel
theorem dX12_does_124 : decode cX12_does 124 = .ok (.iload 5, 2) := by decide +kernel
theorem dX12_does_126 : decode cX12_does 126 = .ok (.invokevirtual 276, 3) := by decide +kernel
theorem dX12_does_129 : decode cX12_does 129 = .ok (.ireturn, 1) := by decide +kernel
theorem dX12_does_130 : decode cX12_does 130 = .ok (.iload_n 2, 1) := by decide +kernel
theorem dX12_does_131 : decode cX12_does 131 = .ok (.bipush 48, 2) := by decide +kernel
theorem dX12_does_133 : decode cX12_does 133 = .ok (.if_icmp .lt 26, 3) := by decide +kernel
theorem dX12_does_136 : decode cX12_does 136 = .ok (.iload_n 2, 1) := by decide +kernel
theorem dX12_does_137 : decode cX12_does 137 = .ok (.bipush 58, 2) := by decide +kernel
theorem dX12_does_139 : decode cX12_does 139 = .ok (.if_icmp .gt 20, 3) := by decide +kernel
theorem dX12_does_142 : decode cX12_does 142 = .ok (.aload_n 0, 1) := by decide +kernel
theorem dX12_does_143 : decode cX12_does 143 = .ok (.iload_n 2, 1) := by decide +kernel
theorem dX12_does_144 : decode cX12_does 144 = .ok (.bipush 48, 2) := by decide +kernel
theorem dX12_does_146 : decode cX12_does 146 = .ok (.isub, 1) := by decide +kernel
theorem dX12_does_147 : decode cX12_does 147 = .ok (.iload_n 3, 1) := by decide +kernel
theorem dX12_does_148 : decode cX12_does 148 = .ok (.bipush 15, 2) := by decide +kernel
theorem dX12_does_150 : decode cX12_does 150 = .ok (.iand, 1) := by decide +kernel
theorem dX12_does_151 : decode cX12_does 151 = .ok (.iload 4, 2) := by decide +kernel
theorem dX12_does_153 : decode cX12_does 153 = .ok (.iload 5, 2) := by decide +kernel
theorem dX12_does_155 : decode cX12_does 155 = .ok (.invokevirtual 279, 3) := by decide +kernel
theorem dX12_does_158 : decode cX12_does 158 = .ok (.ireturn, 1) := by decide +kernel
theorem dX12_does_159 : decode cX12_does 159 = .ok (.iload_n 2, 1) := by decide +kernel
theorem dX12_does_160 : decode cX12_does 160 = .ok (.bipush 64, 2) := by decide +kernel
theorem dX12_does_162 : decode cX12_does 162 = .ok (.if_icmp .lt 26, 3) := by decide +kernel
theorem dX12_does_165 : decode cX12_does 165 = .ok (.iload_n 2, 1) := by decide +kernel
theorem dX12_does_166 : decode cX12_does 166 = .ok (.bipush 74, 2) := by decide +kernel
theorem dX12_does_168 : decode cX12_does 168 = .ok (.if_icmp .gt 20, 3) := by decide +kernel
theorem dX12_does_171 : decode cX12_does 171 = .ok (.aload_n 0, 1) := by decide +kernel
theorem dX12_does_172 : decode cX12_does 172 = .ok (.iload_n 2, 1) := by decide +kernel
theorem dX12_does_173 : decode cX12_does 173 = .ok (.bipush 64, 2) := by decide +kernel
theorem dX12_does_175 : decode cX12_does 175 = .ok (.isub, 1) := by decide +kernel
theorem dX12_does_176 : decode cX12_does 176 = .ok (.iload_n 3, 1) := by decide +kernel
theorem dX12_does_177 : decode cX12_does 177 = .ok (.bipush 15, 2) := by decide +kernel
theorem dX12_does_179 : decode cX12_does 179 = .ok (.iand, 1) := by decide +kernel
theorem dX12_does_180 : decode cX12_does 180 = .ok (.iload 4, 2) := by decide +kernel
theorem dX12_does_182 : decode cX12_does 182 = .ok (.iload 5, 2) := by decide +kernel
theorem dX12_does_184 : decode cX12_does 184 = .ok (.invokevirtual 282, 3) := by decide +kernel
theorem dX12_does_187 : decode cX12_does 187 = .ok (.ireturn, 1) := by decide +kernel
theorem dX12_does_188 : decode cX12_does 188 = .ok (.iload_n 2, 1) := by decide +kernel
theorem dX12_does_189 : decode cX12_does 189 = .ok (.bipush 80, 2) := by decide +kernel
theorem dX12_does_191 : decode cX12_does 191 = .ok (.if_icmp .lt 20, 3) := by decide +kernel
theorem dX12_does_194 : decode cX12_does 194 = .ok (.iload_n 2, 1) := by decide +kernel
theorem dX12_does_195 : decode cX12_does 195 = .ok (.bipush 84, 2) := by decide +kernel
theorem dX12_does_197 : decode cX12_does 197 = .ok (.if_icmp .gt 14, 3) := by decide +kernel
theorem dX12_does_200 : decode cX12_does 200 = .ok (.aload_n 0, 1) := by decide +kernel
theorem dX12_does_201 : decode cX12_does 201 = .ok (.iload_n 2, 1) := by decide +kernel
theorem dX12_does_202 : decode cX12_does 202 = .ok (.iload_n 3, 1) := by decide +kernel
theorem dX12_does_203 : decode cX12_does 203 = .ok (.iload 4, 2) := by decide +kernel
theorem dX12_does_205 : decode cX12_does 205 = .ok (.iload 5, 2) := by decide +kernel
theorem dX12_does_207 : decode cX12_does 207 = .ok (.invokevirtual 285, 3) := by decide +kernel
theorem dX12_does_210 : decode cX12_does 210 = .ok (.ireturn, 1) := by decide +kernel
theorem dX12_does_211 : decode cX12_does 211 = .ok (.iload_n 2, 1) := by decide +kernel
theorem dX12_does_212 : decode cX12_does 212 = .ok (.bipush 88, 2) := by decide +kernel
theorem dX12_does_214 : decode cX12_does 214 = .ok (.if_icmp .lt 22, 3) := by decide +kernel
theorem dX12_does_217 : decode cX12_does 217 = .ok (.iload_n 2, 1) := by decide +kernel
theorem dX12_does_218 : decode cX12_does 218 = .ok (.bipush 92, 2) := by decide +kernel
theorem dX12_does_220 : decode cX12_does 220 = .ok (.if_icmp .gt 16, 3) := by decide +kernel
theorem dX12_does_223 : decode cX12_does 223 = .ok (.aload_n 0, 1) := by decide +kernel
theorem dX12_does_224 : decode cX12_does 224 = .ok (.iload_n 2, 1) := by decide +kernel
theorem dX12_does_225 : decode cX12_does 225 = .ok (.iload_n 3, 1) := by decide +kernel
theorem dX12_does_226 : decode cX12_does 226 = .ok (.iload 4, 2) := by decide +kernel
theorem dX12_does_228 : decode cX12_does 228 = .ok (.iload 5, 2) := by decide +kernel
theorem dX12_does_230 : decode cX12_does 230 = .ok (.invokevirtual 288, 3) := by decide +kernel
theorem dX12_does_233 : decode cX12_does 233 = .ok (.goto 4, 3) := by decide +kernel
theorem dX12_does_236 : decode cX12_does 236 = .ok (.iconst 2, 1) := by decide +kernel
theorem dX12_does_237 : decode cX12_does 237 = .ok (.ireturn, 1) := by decide +kernel
theorem dX12_reckons_0 : decode cX12_reckons 0 = .ok (.aload_n 0, 1) := by decide +kernel
theorem dX12_reckons_1 : decode cX12_reckons 1 = .ok (.getfield 247, 3) := by decide +kernel
theorem dX12_reckons_4 : decode cX12_reckons 4 = .ok (.iload_n 3, 1) := by decide +kernel
theorem dX12_reckons_5 : decode cX12_reckons 5 = .ok (.bipush 15, 2) := by decide +kernel
theorem dX12_reckons_7 : decode cX12_reckons 7 = .ok (.iand, 1) := by decide +kernel
theorem dX12_reckons_8 : decode cX12_reckons 8 = .ok (.laload, 1) := by decide +kernel
theorem dX12_reckons_9 : decode cX12_reckons 9 = .ok (.lstore 5, 2) := by decide +kernel
theorem dX12_reckons_11 : decode cX12_reckons 11 = .ok (.aload_n 0, 1) := by decide +kernel
theorem dX12_reckons_12 : decode cX12_reckons 12 = .ok (.getfield 247, 3) := by decide +kernel
theorem dX12_reckons_15 : decode cX12_reckons 15 = .ok (.iload 4, 2) := by decide +kernel
theorem dX12_reckons_17 : decode cX12_reckons 17 = .ok (.bipush 15, 2) := by decide +kernel
theorem dX12_reckons_19 : decode cX12_reckons 19 = .ok (.iand, 1) := by decide +kernel
theorem dX12_reckons_20 : decode cX12_reckons 20 = .ok (.laload, 1) := by decide +kernel
theorem dX12_reckons_21 : decode cX12_reckons 21 = .ok (.lstore 7, 2) := by decide +kernel
theorem dX12_reckons_23 : decode cX12_reckons 23 = .ok (.iload_n 1, 1) := by decide +kernel
theorem dX12_reckons_24 : decode cX12_reckons 24 = .ok (.tableswitch 249 1 11 #[60, 82, 96, 110, 124, 124, 161, 175, 189, 208, 227], 60) := by decide +kernel
theorem dX12_reckons_84 : decode cX12_reckons 84 = .ok (.aload_n 0, 1) := by decide +kernel
theorem dX12_reckons_85 : decode cX12_reckons 85 = .ok (.getfield 247, 3) := by decide +kernel
theorem dX12_reckons_88 : decode cX12_reckons 88 = .ok (.iload_n 2, 1) := by decide +kernel
theorem dX12_reckons_89 : decode cX12_reckons 89 = .ok (.iload_n 3, 1) := by decide +kernel
theorem dX12_reckons_90 : decode cX12_reckons 90 = .ok (.i2l, 1) := by decide +kernel
theorem dX12_reckons_91 : decode cX12_reckons 91 = .ok (.bipush 32, 2) := by decide +kernel
theorem dX12_reckons_93 : decode cX12_reckons 93 = .ok (.lshl, 1) := by decide +kernel
theorem dX12_reckons_94 : decode cX12_reckons 94 = .ok (.iload 4, 2) := by decide +kernel
theorem dX12_reckons_96 : decode cX12_reckons 96 = .ok (.i2l, 1) := by decide +kernel
theorem dX12_reckons_97 : decode cX12_reckons 97 = .ok (.ldc2_w 291, 3) := by decide +kernel
theorem dX12_reckons_100 : decode cX12_reckons 100 = .ok (.land, 1) := by decide +kernel
theorem dX12_reckons_101 : decode cX12_reckons 101 = .ok (.ladd, 1) := by decide +kernel
theorem dX12_reckons_102 : decode cX12_reckons 102 = .ok (.lastore, 1) := by decide +kernel
theorem dX12_reckons_103 : decode cX12_reckons 103 = .ok (.goto 189, 3) := by decide +kernel
theorem dX12_reckons_106 : decode cX12_reckons 106 = .ok (.aload_n 0, 1) := by decide +kernel
theorem dX12_reckons_107 : decode cX12_reckons 107 = .ok (.getfield 247, 3) := by decide +kernel
theorem dX12_reckons_110 : decode cX12_reckons 110 = .ok (.iload_n 2, 1) := by decide +kernel
theorem dX12_reckons_111 : decode cX12_reckons 111 = .ok (.lload 5, 2) := by decide +kernel
theorem dX12_reckons_113 : decode cX12_reckons 113 = .ok (.lload 7, 2) := by decide +kernel
theorem dX12_reckons_115 : decode cX12_reckons 115 = .ok (.ladd, 1) := by decide +kernel
theorem dX12_reckons_116 : decode cX12_reckons 116 = .ok (.lastore, 1) := by decide +kernel
theorem dX12_reckons_117 : decode cX12_reckons 117 = .ok (.goto 175, 3) := by decide +kernel
theorem dX12_reckons_120 : decode cX12_reckons 120 = .ok (.aload_n 0, 1) := by decide +kernel
theorem dX12_reckons_121 : decode cX12_reckons 121 = .ok (.getfield 247, 3) := by decide +kernel
theorem dX12_reckons_124 : decode cX12_reckons 124 = .ok (.iload_n 2, 1) := by decide +kernel
theorem dX12_reckons_125 : decode cX12_reckons 125 = .ok (.lload 5, 2) := by decide +kernel
theorem dX12_reckons_127 : decode cX12_reckons 127 = .ok (.lload 7, 2) := by decide +kernel
theorem dX12_reckons_129 : decode cX12_reckons 129 = .ok (.lsub, 1) := by decide +kernel
theorem dX12_reckons_130 : decode cX12_reckons 130 = .ok (.lastore, 1) := by decide +kernel
theorem dX12_reckons_131 : decode cX12_reckons 131 = .ok (.goto 161, 3) := by decide +kernel
theorem dX12_reckons_134 : decode cX12_reckons 134 = .ok (.aload_n 0, 1) := by decide +kernel
theorem dX12_reckons_135 : decode cX12_reckons 135 = .ok (.getfield 247, 3) := by decide +kernel
theorem dX12_reckons_138 : decode cX12_reckons 138 = .ok (.iload_n 2, 1) := by decide +kernel
theorem dX12_reckons_139 : decode cX12_reckons 139 = .ok (.lload 5, 2) := by decide +kernel
theorem dX12_reckons_141 : decode cX12_reckons 141 = .ok (.lload 7, 2) := by decide +kernel
theorem dX12_reckons_143 : decode cX12_reckons 143 = .ok (.lmul, 1) := by decide +kernel
theorem dX12_reckons_144 : decode cX12_reckons 144 = .ok (.lastore, 1) := by decide +kernel
theorem dX12_reckons_145 : decode cX12_reckons 145 = .ok (.goto 147, 3) := by decide +kernel
theorem dX12_reckons_148 : decode cX12_reckons 148 = .ok (.lload 7, 2) := by decide +kernel
theorem dX12_reckons_150 : decode cX12_reckons 150 = .ok (.lconst 0, 1) := by decide +kernel
theorem dX12_reckons_151 : decode cX12_reckons 151 = .ok (.lcmp, 1) := by decide +kernel
theorem dX12_reckons_152 : decode cX12_reckons 152 = .ok (.ifCond .ne 6, 3) := by decide +kernel
theorem dX12_reckons_155 : decode cX12_reckons 155 = .ok (.bipush 6, 2) := by decide +kernel
theorem dX12_reckons_157 : decode cX12_reckons 157 = .ok (.ireturn, 1) := by decide +kernel
theorem dX12_reckons_158 : decode cX12_reckons 158 = .ok (.aload_n 0, 1) := by decide +kernel
theorem dX12_reckons_159 : decode cX12_reckons 159 = .ok (.getfield 247, 3) := by decide +kernel
theorem dX12_reckons_162 : decode cX12_reckons 162 = .ok (.iload_n 2, 1) := by decide +kernel
theorem dX12_reckons_163 : decode cX12_reckons 163 = .ok (.iload_n 1, 1) := by decide +kernel
theorem dX12_reckons_164 : decode cX12_reckons 164 = .ok (.iconst 5, 1) := by decide +kernel
theorem dX12_reckons_165 : decode cX12_reckons 165 = .ok (.if_icmp .ne 11, 3) := by decide +kernel
theorem dX12_reckons_168 : decode cX12_reckons 168 = .ok (.lload 5, 2) := by decide +kernel
theorem dX12_reckons_170 : decode cX12_reckons 170 = .ok (.lload 7, 2) := by decide +kernel
theorem dX12_reckons_172 : decode cX12_reckons 172 = .ok (.ldiv, 1) := by decide +kernel
theorem dX12_reckons_173 : decode cX12_reckons 173 = .ok (.goto 8, 3) := by decide +kernel
theorem dX12_reckons_176 : decode cX12_reckons 176 = .ok (.lload 5, 2) := by decide +kernel
theorem dX12_reckons_178 : decode cX12_reckons 178 = .ok (.lload 7, 2) := by decide +kernel
theorem dX12_reckons_180 : decode cX12_reckons 180 = .ok (.lrem, 1) := by decide +kernel
theorem dX12_reckons_181 : decode cX12_reckons 181 = .ok (.lastore, 1) := by decide +kernel
theorem dX12_reckons_182 : decode cX12_reckons 182 = .ok (.goto 110, 3) := by decide +kernel
theorem dX12_reckons_185 : decode cX12_reckons 185 = .ok (.aload_n 0, 1) := by decide +kernel
theorem dX12_reckons_186 : decode cX12_reckons 186 = .ok (.getfield 247, 3) := by decide +kernel
theorem dX12_reckons_189 : decode cX12_reckons 189 = .ok (.iload_n 2, 1) := by decide +kernel
theorem dX12_reckons_190 : decode cX12_reckons 190 = .ok (.lload 5, 2) := by decide +kernel
theorem dX12_reckons_192 : decode cX12_reckons 192 = .ok (.lload 7, 2) := by decide +kernel
theorem dX12_reckons_194 : decode cX12_reckons 194 = .ok (.land, 1) := by decide +kernel
theorem dX12_reckons_195 : decode cX12_reckons 195 = .ok (.lastore, 1) := by decide +kernel
theorem dX12_reckons_196 : decode cX12_reckons 196 = .ok (.goto 96, 3) := by decide +kernel
theorem dX12_reckons_199 : decode cX12_reckons 199 = .ok (.aload_n 0, 1) := by decide +kernel
theorem dX12_reckons_200 : decode cX12_reckons 200 = .ok (.getfield 247, 3) := by decide +kernel
theorem dX12_reckons_203 : decode cX12_reckons 203 = .ok (.iload_n 2, 1) := by decide +kernel
theorem dX12_reckons_204 : decode cX12_reckons 204 = .ok (.lload 5, 2) := by decide +kernel
theorem dX12_reckons_206 : decode cX12_reckons 206 = .ok (.lload 7, 2) := by decide +kernel
theorem dX12_reckons_208 : decode cX12_reckons 208 = .ok (.lxor, 1) := by decide +kernel
theorem dX12_reckons_209 : decode cX12_reckons 209 = .ok (.lastore, 1) := by decide +kernel
theorem dX12_reckons_210 : decode cX12_reckons 210 = .ok (.goto 82, 3) := by decide +kernel
theorem dX12_reckons_213 : decode cX12_reckons 213 = .ok (.aload_n 0, 1) := by decide +kernel
theorem dX12_reckons_214 : decode cX12_reckons 214 = .ok (.getfield 247, 3) := by decide +kernel
theorem dX12_reckons_217 : decode cX12_reckons 217 = .ok (.iload_n 2, 1) := by decide +kernel
theorem dX12_reckons_218 : decode cX12_reckons 218 = .ok (.lload 5, 2) := by decide +kernel
theorem dX12_reckons_220 : decode cX12_reckons 220 = .ok (.lload 7, 2) := by decide +kernel
theorem dX12_reckons_222 : decode cX12_reckons 222 = .ok (.ldc2_w 293, 3) := by decide +kernel
theorem dX12_reckons_225 : decode cX12_reckons 225 = .ok (.land, 1) := by decide +kernel
theorem dX12_reckons_226 : decode cX12_reckons 226 = .ok (.l2i, 1) := by decide +kernel
theorem dX12_reckons_227 : decode cX12_reckons 227 = .ok (.lshl, 1) := by decide +kernel
theorem dX12_reckons_228 : decode cX12_reckons 228 = .ok (.lastore, 1) := by decide +kernel
theorem dX12_reckons_229 : decode cX12_reckons 229 = .ok (.goto 63, 3) := by decide +kernel
theorem dX12_reckons_232 : decode cX12_reckons 232 = .ok (.aload_n 0, 1) := by decide +kernel
theorem dX12_reckons_233 : decode cX12_reckons 233 = .ok (.getfield 247, 3) := by decide +kernel
theorem dX12_reckons_236 : decode cX12_reckons 236 = .ok (.iload_n 2, 1) := by decide +kernel
theorem dX12_reckons_237 : decode cX12_reckons 237 = .ok (.lload 5, 2) := by decide +kernel
theorem dX12_reckons_239 : decode cX12_reckons 239 = .ok (.lload 7, 2) := by decide +kernel
theorem dX12_reckons_241 : decode cX12_reckons 241 = .ok (.ldc2_w 293, 3) := by decide +kernel
theorem dX12_reckons_244 : decode cX12_reckons 244 = .ok (.land, 1) := by decide +kernel
theorem dX12_reckons_245 : decode cX12_reckons 245 = .ok (.l2i, 1) := by decide +kernel
theorem dX12_reckons_246 : decode cX12_reckons 246 = .ok (.lshr, 1) := by decide +kernel
theorem dX12_reckons_247 : decode cX12_reckons 247 = .ok (.lastore, 1) := by decide +kernel
theorem dX12_reckons_248 : decode cX12_reckons 248 = .ok (.goto 44, 3) := by decide +kernel
theorem dX12_reckons_251 : decode cX12_reckons 251 = .ok (.aload_n 0, 1) := by decide +kernel
theorem dX12_reckons_252 : decode cX12_reckons 252 = .ok (.getfield 247, 3) := by decide +kernel
theorem dX12_reckons_255 : decode cX12_reckons 255 = .ok (.iload_n 2, 1) := by decide +kernel
theorem dX12_reckons_256 : decode cX12_reckons 256 = .ok (.lload 5, 2) := by decide +kernel
theorem dX12_reckons_258 : decode cX12_reckons 258 = .ok (.lload 7, 2) := by decide +kernel
theorem dX12_reckons_260 : decode cX12_reckons 260 = .ok (.lcmp, 1) := by decide +kernel
theorem dX12_reckons_261 : decode cX12_reckons 261 = .ok (.ifCond .ge 7, 3) := by decide +kernel
theorem dX12_reckons_264 : decode cX12_reckons 264 = .ok (.lconst 1, 1) := by decide +kernel
theorem dX12_reckons_265 : decode cX12_reckons 265 = .ok (.goto 4, 3) := by decide +kernel
theorem dX12_reckons_268 : decode cX12_reckons 268 = .ok (.lconst 0, 1) := by decide +kernel
theorem dX12_reckons_269 : decode cX12_reckons 269 = .ok (.lastore, 1) := by decide +kernel
theorem dX12_reckons_270 : decode cX12_reckons 270 = .ok (.goto 22, 3) := by decide +kernel
theorem dX12_reckons_273 : decode cX12_reckons 273 = .ok (.aload_n 0, 1) := by decide +kernel
theorem dX12_reckons_274 : decode cX12_reckons 274 = .ok (.getfield 247, 3) := by decide +kernel
theorem dX12_reckons_277 : decode cX12_reckons 277 = .ok (.iload_n 2, 1) := by decide +kernel
theorem dX12_reckons_278 : decode cX12_reckons 278 = .ok (.lload 5, 2) := by decide +kernel
theorem dX12_reckons_280 : decode cX12_reckons 280 = .ok (.lload 7, 2) := by decide +kernel
theorem dX12_reckons_282 : decode cX12_reckons 282 = .ok (.lcmp, 1) := by decide +kernel
theorem dX12_reckons_283 : decode cX12_reckons 283 = .ok (.ifCond .ne 7, 3) := by decide +kernel
theorem dX12_reckons_286 : decode cX12_reckons 286 = .ok (.lconst 1, 1) := by decide +kernel
theorem dX12_reckons_287 : decode cX12_reckons 287 = .ok (.goto 4, 3) := by decide +kernel
theorem dX12_reckons_290 : decode cX12_reckons 290 = .ok (.lconst 0, 1) := by decide +kernel
theorem dX12_reckons_291 : decode cX12_reckons 291 = .ok (.lastore, 1) := by decide +kernel
theorem dX12_reckons_292 : decode cX12_reckons 292 = .ok (.iconst 0, 1) := by decide +kernel
theorem dX12_reckons_293 : decode cX12_reckons 293 = .ok (.ireturn, 1) := by decide +kernel
theorem dX12_controls_0 : decode cX12_controls 0 = .ok (.aload_n 0, 1) := by decide +kernel
theorem dX12_controls_1 : decode cX12_controls 1 = .ok (.getfield 190, 3) := by decide +kernel
theorem dX12_controls_4 : decode cX12_controls 4 = .ok (.iconst 1, 1) := by decide +kernel
theorem dX12_controls_5 : decode cX12_controls 5 = .ok (.isub, 1) := by decide +kernel
theorem dX12_controls_6 : decode cX12_controls 6 = .ok (.istore 6, 2) := by decide +kernel
theorem dX12_controls_8 : decode cX12_controls 8 = .ok (.iload_n 1, 1) := by decide +kernel
theorem dX12_controls_9 : decode cX12_controls 9 = .ok (.bipush 13, 2) := by decide +kernel
theorem dX12_controls_11 : decode cX12_controls 11 = .ok (.if_icmp .ne 32, 3) := by decide +kernel
theorem dX12_controls_14 : decode cX12_controls 14 = .ok (.aload_n 0, 1) := by decide +kernel
theorem dX12_controls_15 : decode cX12_controls 15 = .ok (.getfield 247, 3) := by decide +kernel
theorem dX12_controls_18 : decode cX12_controls 18 = .ok (.iload_n 2, 1) := by decide +kernel
theorem dX12_controls_19 : decode cX12_controls 19 = .ok (.laload, 1) := by decide +kernel
theorem dX12_controls_20 : decode cX12_controls 20 = .ok (.lconst 0, 1) := by decide +kernel
theorem dX12_controls_21 : decode cX12_controls 21 = .ok (.lcmp, 1) := by decide +kernel
theorem dX12_controls_22 : decode cX12_controls 22 = .ok (.ifCond .eq 322, 3) := by decide +kernel
theorem dX12_controls_25 : decode cX12_controls 25 = .ok (.aload_n 0, 1) := by decide +kernel
theorem dX12_controls_26 : decode cX12_controls 26 = .ok (.getfield 204, 3) := by decide +kernel
theorem dX12_controls_29 : decode cX12_controls 29 = .ok (.iload 6, 2) := by decide +kernel
theorem dX12_controls_31 : decode cX12_controls 31 = .ok (.dup2, 1) := by decide +kernel
theorem dX12_controls_32 : decode cX12_controls 32 = .ok (.iaload, 1) := by decide +kernel
theorem dX12_controls_33 : decode cX12_controls 33 = .ok (.iload_n 3, 1) := by decide +kernel
theorem dX12_controls_34 : decode cX12_controls 34 = .ok (.sipush 255, 3) := by decide +kernel
theorem dX12_controls_37 : decode cX12_controls 37 = .ok (.iand, 1) := by decide +kernel
theorem dX12_controls_38 : decode cX12_controls 38 = .ok (.iadd, 1) := by decide +kernel
theorem dX12_controls_39 : decode cX12_controls 39 = .ok (.iastore, 1) := by decide +kernel
theorem dX12_controls_40 : decode cX12_controls 40 = .ok (.goto 304, 3) := by decide +kernel
theorem dX12_controls_43 : decode cX12_controls 43 = .ok (.iload_n 1, 1) := by decide +kernel
theorem dX12_controls_44 : decode cX12_controls 44 = .ok (.bipush 15, 2) := by decide +kernel
theorem dX12_controls_46 : decode cX12_controls 46 = .ok (.if_icmp .ne 79, 3) := by decide +kernel
theorem dX12_controls_49 : decode cX12_controls 49 = .ok (.aload_n 0, 1) := by decide +kernel
theorem dX12_controls_50 : decode cX12_controls 50 = .ok (.getfield 247, 3) := by decide +kernel
theorem dX12_controls_53 : decode cX12_controls 53 = .ok (.iload_n 2, 1) := by decide +kernel
theorem dX12_controls_54 : decode cX12_controls 54 = .ok (.laload, 1) := by decide +kernel
theorem dX12_controls_55 : decode cX12_controls 55 = .ok (.lconst 0, 1) := by decide +kernel
theorem dX12_controls_56 : decode cX12_controls 56 = .ok (.lcmp, 1) := by decide +kernel
theorem dX12_controls_57 : decode cX12_controls 57 = .ok (.ifCond .gt 5, 3) := by decide +kernel
theorem dX12_controls_60 : decode cX12_controls 60 = .ok (.iconst 0, 1) := by decide +kernel
theorem dX12_controls_61 : decode cX12_controls 61 = .ok (.ireturn, 1) := by decide +kernel
theorem dX12_controls_62 : decode cX12_controls 62 = .ok (.aload_n 0, 1) := by decide +kernel
theorem dX12_controls_63 : decode cX12_controls 63 = .ok (.getfield 172, 3) := by decide +kernel
theorem dX12_controls_66 : decode cX12_controls 66 = .ok (.ifCond .ne 11, 3) := by decide +kernel
theorem dX12_controls_69 : decode cX12_controls 69 = .ok (.aload_n 0, 1) := by decide +kernel
theorem dX12_controls_70 : decode cX12_controls 70 = .ok (.bipush 10, 2) := by decide +kernel
theorem dX12_controls_72 : decode cX12_controls 72 = .ok (.putfield 178, 3) := by decide +kernel
theorem dX12_controls_75 : decode cX12_controls 75 = .ok (.iconst 0, 1) := by decide +kernel
theorem dX12_controls_76 : decode cX12_controls 76 = .ok (.ireturn, 1) := by decide +kernel
theorem dX12_controls_77 : decode cX12_controls 77 = .ok (.aload_n 0, 1) := by decide +kernel
theorem dX12_controls_78 : decode cX12_controls 78 = .ok (.dup, 1) := by decide +kernel
theorem dX12_controls_79 : decode cX12_controls 79 = .ok (.getfield 172, 3) := by decide +kernel
theorem dX12_controls_82 : decode cX12_controls 82 = .ok (.iconst 1, 1) := by decide +kernel
theorem dX12_controls_83 : decode cX12_controls 83 = .ok (.isub, 1) := by decide +kernel
theorem dX12_controls_84 : decode cX12_controls 84 = .ok (.putfield 172, 3) := by decide +kernel
theorem dX12_controls_87 : decode cX12_controls 87 = .ok (.aload_n 0, 1) := by decide +kernel
theorem dX12_controls_88 : decode cX12_controls 88 = .ok (.getfield 190, 3) := by decide +kernel
theorem dX12_controls_91 : decode cX12_controls 91 = .ok (.bipush 40, 2) := by decide +kernel
theorem dX12_controls_93 : decode cX12_controls 93 = .ok (.if_icmp .ne 6, 3) := by decide +kernel
theorem dX12_controls_96 : decode cX12_controls 96 = .ok (.bipush 9, 2) := by decide +kernel
theorem dX12_controls_98 : decode cX12_controls 98 = .ok (.ireturn, 1) := by decide +kernel
theorem dX12_controls_99 : decode cX12_controls 99 = .ok (.aload_n 0, 1) := by decide +kernel
theorem dX12_controls_100 : decode cX12_controls 100 = .ok (.iconst 1, 1) := by decide +kernel
theorem dX12_controls_101 : decode cX12_controls 101 = .ok (.iload_n 3, 1) := by decide +kernel
theorem dX12_controls_102 : decode cX12_controls 102 = .ok (.invokevirtual 193, 3) := by decide +kernel
theorem dX12_controls_105 : decode cX12_controls 105 = .ok (.aload_n 0, 1) := by decide +kernel
theorem dX12_controls_106 : decode cX12_controls 106 = .ok (.getfield 229, 3) := by decide +kernel
theorem dX12_controls_109 : decode cX12_controls 109 = .ok (.aload_n 0, 1) := by decide +kernel
theorem dX12_controls_110 : decode cX12_controls 110 = .ok (.getfield 190, 3) := by decide +kernel
theorem dX12_controls_113 : decode cX12_controls 113 = .ok (.iconst 1, 1) := by decide +kernel
theorem dX12_controls_114 : decode cX12_controls 114 = .ok (.isub, 1) := by decide +kernel
theorem dX12_controls_115 : decode cX12_controls 115 = .ok (.aload_n 0, 1) := by decide +kernel
theorem dX12_controls_116 : decode cX12_controls 116 = .ok (.getfield 247, 3) := by decide +kernel
theorem dX12_controls_119 : decode cX12_controls 119 = .ok (.iload_n 2, 1) := by decide +kernel
theorem dX12_controls_120 : decode cX12_controls 120 = .ok (.laload, 1) := by decide +kernel
theorem dX12_controls_121 : decode cX12_controls 121 = .ok (.lastore, 1) := by decide +kernel
theorem dX12_controls_122 : decode cX12_controls 122 = .ok (.goto 222, 3) := by decide +kernel
theorem dX12_controls_125 : decode cX12_controls 125 = .ok (.iload_n 1, 1) := by decide +kernel
theorem dX12_controls_126 : decode cX12_controls 126 = .ok (.bipush 14, 2) := by decide +kernel
theorem dX12_controls_128 : decode cX12_controls 128 = .ok (.if_icmp .eq 15, 3) := by decide +kernel
theorem dX12_controls_131 : decode cX12_controls 131 = .ok (.iload_n 1, 1) := by decide +kernel
theorem dX12_controls_132 : decode cX12_controls 132 = .ok (.bipush 16, 2) := by decide +kernel
theorem dX12_controls_134 : decode cX12_controls 134 = .ok (.if_icmp .eq 9, 3) := by decide +kernel
theorem dX12_controls_137 : decode cX12_controls 137 = .ok (.iload_n 1, 1) := by decide +kernel
theorem dX12_controls_138 : decode cX12_controls 138 = .ok (.bipush 17, 2) := by decide +kernel
theorem dX12_controls_140 : decode cX12_controls 140 = .ok (.if_icmp .ne 75, 3) := by decide +kernel
theorem dX12_controls_143 : decode cX12_controls 143 = .ok (.aload_n 0, 1) := by decide +kernel
theorem dX12_controls_144 : decode cX12_controls 144 = .ok (.getfield 190, 3) := by decide +kernel
theorem dX12_controls_147 : decode cX12_controls 147 = .ok (.bipush 40, 2) := by decide +kernel
theorem dX12_controls_149 : decode cX12_controls 149 = .ok (.if_icmp .ne 6, 3) := by decide +kernel
theorem dX12_controls_152 : decode cX12_controls 152 = .ok (.bipush 9, 2) := by decide +kernel
theorem dX12_controls_154 : decode cX12_controls 154 = .ok (.ireturn, 1) := by decide +kernel
theorem dX12_controls_155 : decode cX12_controls 155 = .ok (.aload_n 0, 1) := by decide +kernel
theorem dX12_controls_156 : decode cX12_controls 156 = .ok (.iload_n 1, 1) := by decide +kernel
theorem dX12_controls_157 : decode cX12_controls 157 = .ok (.bipush 14, 2) := by decide +kernel
theorem dX12_controls_159 : decode cX12_controls 159 = .ok (.if_icmp .ne 7, 3) := by decide +kernel
theorem dX12_controls_162 : decode cX12_controls 162 = .ok (.iconst 0, 1) := by decide +kernel
theorem dX12_controls_163 : decode cX12_controls 163 = .ok (.goto 7, 3) := by decide +kernel
theorem dX12_controls_166 : decode cX12_controls 166 = .ok (.iload_n 1, 1) := by decide +kernel
theorem dX12_controls_167 : decode cX12_controls 167 = .ok (.bipush 14, 2) := by decide +kernel
theorem dX12_controls_169 : decode cX12_controls 169 = .ok (.isub, 1) := by decide +kernel
theorem dX12_controls_170 : decode cX12_controls 170 = .ok (.iload_n 3, 1) := by decide +kernel
theorem dX12_controls_171 : decode cX12_controls 171 = .ok (.invokevirtual 193, 3) := by decide +kernel
theorem dX12_controls_174 : decode cX12_controls 174 = .ok (.aload_n 0, 1) := by decide +kernel
theorem dX12_controls_175 : decode cX12_controls 175 = .ok (.getfield 250, 3) := by decide +kernel
theorem dX12_controls_178 : decode cX12_controls 178 = .ok (.aload_n 0, 1) := by decide +kernel
theorem dX12_controls_179 : decode cX12_controls 179 = .ok (.getfield 190, 3) := by decide +kernel
theorem dX12_controls_182 : decode cX12_controls 182 = .ok (.iconst 1, 1) := by decide +kernel
theorem dX12_controls_183 : decode cX12_controls 183 = .ok (.isub, 1) := by decide +kernel
theorem dX12_controls_184 : decode cX12_controls 184 = .ok (.iload_n 2, 1) := by decide +kernel
theorem dX12_controls_185 : decode cX12_controls 185 = .ok (.iastore, 1) := by decide +kernel
theorem dX12_controls_186 : decode cX12_controls 186 = .ok (.aload_n 0, 1) := by decide +kernel
theorem dX12_controls_187 : decode cX12_controls 187 = .ok (.getfield 244, 3) := by decide +kernel
theorem dX12_controls_190 : decode cX12_controls 190 = .ok (.aload_n 0, 1) := by decide +kernel
theorem dX12_controls_191 : decode cX12_controls 191 = .ok (.getfield 190, 3) := by decide +kernel
theorem dX12_controls_194 : decode cX12_controls 194 = .ok (.iconst 1, 1) := by decide +kernel
theorem dX12_controls_195 : decode cX12_controls 195 = .ok (.isub, 1) := by decide +kernel
theorem dX12_controls_196 : decode cX12_controls 196 = .ok (.iload 4, 2) := by decide +kernel
theorem dX12_controls_198 : decode cX12_controls 198 = .ok (.iastore, 1) := by decide +kernel
theorem dX12_controls_199 : decode cX12_controls 199 = .ok (.aload_n 0, 1) := by decide +kernel
theorem dX12_controls_200 : decode cX12_controls 200 = .ok (.getfield 232, 3) := by decide +kernel
theorem dX12_controls_203 : decode cX12_controls 203 = .ok (.aload_n 0, 1) := by decide +kernel
theorem dX12_controls_204 : decode cX12_controls 204 = .ok (.getfield 190, 3) := by decide +kernel
theorem dX12_controls_207 : decode cX12_controls 207 = .ok (.iconst 1, 1) := by decide +kernel
theorem dX12_controls_208 : decode cX12_controls 208 = .ok (.isub, 1) := by decide +kernel
theorem dX12_controls_209 : decode cX12_controls 209 = .ok (.iload 4, 2) := by decide +kernel
theorem dX12_controls_211 : decode cX12_controls 211 = .ok (.iastore, 1) := by decide +kernel
theorem dX12_controls_212 : decode cX12_controls 212 = .ok (.goto 132, 3) := by decide +kernel
theorem dX12_controls_215 : decode cX12_controls 215 = .ok (.iload_n 1, 1) := by decide +kernel
theorem dX12_controls_216 : decode cX12_controls 216 = .ok (.bipush 18, 2) := by decide +kernel
theorem dX12_controls_218 : decode cX12_controls 218 = .ok (.if_icmp .ne 39, 3) := by decide +kernel
theorem dX12_controls_221 : decode cX12_controls 221 = .ok (.aload_n 0, 1) := by decide +kernel
theorem dX12_controls_222 : decode cX12_controls 222 = .ok (.getfield 247, 3) := by decide +kernel
theorem dX12_controls_225 : decode cX12_controls 225 = .ok (.iload_n 2, 1) := by decide +kernel
theorem dX12_controls_226 : decode cX12_controls 226 = .ok (.laload, 1) := by decide +kernel
theorem dX12_controls_227 : decode cX12_controls 227 = .ok (.lconst 1, 1) := by decide +kernel
theorem dX12_controls_228 : decode cX12_controls 228 = .ok (.lcmp, 1) := by decide +kernel
theorem dX12_controls_229 : decode cX12_controls 229 = .ok (.ifCond .lt 26, 3) := by decide +kernel
theorem dX12_controls_232 : decode cX12_controls 232 = .ok (.aload_n 0, 1) := by decide +kernel
theorem dX12_controls_233 : decode cX12_controls 233 = .ok (.getfield 247, 3) := by decide +kernel
theorem dX12_controls_236 : decode cX12_controls 236 = .ok (.iload_n 2, 1) := by decide +kernel
theorem dX12_controls_237 : decode cX12_controls 237 = .ok (.laload, 1) := by decide +kernel
theorem dX12_controls_238 : decode cX12_controls 238 = .ok (.ldc2_w 295, 3) := by decide +kernel
theorem dX12_controls_241 : decode cX12_controls 241 = .ok (.lcmp, 1) := by decide +kernel
theorem dX12_controls_242 : decode cX12_controls 242 = .ok (.ifCond .gt 13, 3) := by decide +kernel
theorem dX12_controls_245 : decode cX12_controls 245 = .ok (.aload_n 0, 1) := by decide +kernel
theorem dX12_controls_246 : decode cX12_controls 246 = .ok (.getfield 247, 3) := by decide +kernel
theorem dX12_controls_249 : decode cX12_controls 249 = .ok (.iload_n 2, 1) := by decide +kernel
theorem dX12_controls_250 : decode cX12_controls 250 = .ok (.laload, 1) := by decide +kernel
theorem dX12_controls_251 : decode cX12_controls 251 = .ok (.l2i, 1) := by decide +kernel
theorem dX12_controls_252 : decode cX12_controls 252 = .ok (.goto 4, 3) := by decide +kernel
theorem dX12_controls_255 : decode cX12_controls 255 = .ok (.iconst 2, 1) := by decide +kernel
theorem dX12_controls_256 : decode cX12_controls 256 = .ok (.ireturn, 1) := by decide +kernel
theorem dX12_controls_257 : decode cX12_controls 257 = .ok (.iload_n 1, 1) := by decide +kernel
theorem dX12_controls_258 : decode cX12_controls 258 = .ok (.bipush 19, 2) := by decide +kernel
theorem dX12_controls_260 : decode cX12_controls 260 = .ok (.if_icmp .ne 27, 3) := by decide +kernel
theorem dX12_controls_263 : decode cX12_controls 263 = .ok (.aload_n 0, 1) := by decide +kernel
theorem dX12_controls_264 : decode cX12_controls 264 = .ok (.getfield 184, 3) := by decide +kernel
theorem dX12_controls_267 : decode cX12_controls 267 = .ok (.ifCond .ne 5, 3) := by decide +kernel
theorem dX12_controls_270 : decode cX12_controls 270 = .ok (.iconst 1, 1) := by decide +kernel
theorem dX12_controls_271 : decode cX12_controls 271 = .ok (.ireturn, 1) := by decide +kernel
theorem dX12_controls_272 : decode cX12_controls 272 = .ok (.aload_n 0, 1) := by decide +kernel
theorem dX12_controls_273 : decode cX12_controls 273 = .ok (.aload_n 0, 1) := by decide +kernel
theorem dX12_controls_274 : decode cX12_controls 274 = .ok (.getfield 184, 3) := by decide +kernel
theorem dX12_controls_277 : decode cX12_controls 277 = .ok (.aload_n 0, 1) := by decide +kernel
theorem dX12_controls_278 : decode cX12_controls 278 = .ok (.getfield 253, 3) := by decide +kernel
theorem dX12_controls_281 : decode cX12_controls 281 = .ok (.invokevirtual 238, 3) := by decide +kernel
theorem dX12_controls_284 : decode cX12_controls 284 = .ok (.goto 60, 3) := by decide +kernel
theorem dX12_controls_287 : decode cX12_controls 287 = .ok (.iload_n 1, 1) := by decide +kernel
theorem dX12_controls_288 : decode cX12_controls 288 = .ok (.bipush 20, 2) := by decide +kernel
theorem dX12_controls_290 : decode cX12_controls 290 = .ok (.if_icmp .ne 12, 3) := by decide +kernel
theorem dX12_controls_293 : decode cX12_controls 293 = .ok (.aload_n 0, 1) := by decide +kernel
theorem dX12_controls_294 : decode cX12_controls 294 = .ok (.getfield 247, 3) := by decide +kernel
theorem dX12_controls_297 : decode cX12_controls 297 = .ok (.iload_n 2, 1) := by decide +kernel
theorem dX12_controls_298 : decode cX12_controls 298 = .ok (.laload, 1) := by decide +kernel
theorem dX12_controls_299 : decode cX12_controls 299 = .ok (.goto 12, 3) := by decide +kernel
theorem dX12_controls_302 : decode cX12_controls 302 = .ok (.aload_n 0, 1) := by decide +kernel
theorem dX12_controls_303 : decode cX12_controls 303 = .ok (.getfield 297, 3) := by decide +kernel
theorem dX12_controls_306 : decode cX12_controls 306 = .ok (.iload_n 2, 1) := by decide +kernel
theorem dX12_controls_307 : decode cX12_controls 307 = .ok (.laload, 1) := by decide +kernel
theorem dX12_controls_308 : decode cX12_controls 308 = .ok (.invokestatic 37, 3) := by decide +kernel
theorem dX12_controls_311 : decode cX12_controls 311 = .ok (.lstore 7, 2) := by decide +kernel
theorem dX12_controls_313 : decode cX12_controls 313 = .ok (.aload_n 0, 1) := by decide +kernel
theorem dX12_controls_314 : decode cX12_controls 314 = .ok (.getfield 300, 3) := by decide +kernel
theorem dX12_controls_317 : decode cX12_controls 317 = .ok (.sipush 200, 3) := by decide +kernel
theorem dX12_controls_320 : decode cX12_controls 320 = .ok (.if_icmp .ge 14, 3) := by decide +kernel
theorem dX12_controls_323 : decode cX12_controls 323 = .ok (.aload_n 0, 1) := by decide +kernel
theorem dX12_controls_324 : decode cX12_controls 324 = .ok (.getfield 303, 3) := by decide +kernel
theorem dX12_controls_327 : decode cX12_controls 327 = .ok (.aload_n 0, 1) := by decide +kernel
theorem dX12_controls_328 : decode cX12_controls 328 = .ok (.getfield 300, 3) := by decide +kernel
theorem dX12_controls_331 : decode cX12_controls 331 = .ok (.lload 7, 2) := by decide +kernel
theorem dX12_controls_333 : decode cX12_controls 333 = .ok (.lastore, 1) := by decide +kernel
theorem dX12_controls_334 : decode cX12_controls 334 = .ok (.aload_n 0, 1) := by decide +kernel
theorem dX12_controls_335 : decode cX12_controls 335 = .ok (.dup, 1) := by decide +kernel
theorem dX12_controls_336 : decode cX12_controls 336 = .ok (.getfield 300, 3) := by decide +kernel
theorem dX12_controls_339 : decode cX12_controls 339 = .ok (.iconst 1, 1) := by decide +kernel
theorem dX12_controls_340 : decode cX12_controls 340 = .ok (.iadd, 1) := by decide +kernel
theorem dX12_controls_341 : decode cX12_controls 341 = .ok (.putfield 300, 3) := by decide +kernel
theorem dX12_controls_344 : decode cX12_controls 344 = .ok (.iconst 0, 1) := by decide +kernel
theorem dX12_controls_345 : decode cX12_controls 345 = .ok (.ireturn, 1) := by decide +kernel
theorem dX12_measures_0 : decode cX12_measures 0 = .ok (.aload_n 0, 1) := by decide +kernel
theorem dX12_measures_1 : decode cX12_measures 1 = .ok (.getfield 297, 3) := by decide +kernel
theorem dX12_measures_4 : decode cX12_measures 4 = .ok (.iload_n 3, 1) := by decide +kernel
theorem dX12_measures_5 : decode cX12_measures 5 = .ok (.bipush 15, 2) := by decide +kernel
theorem dX12_measures_7 : decode cX12_measures 7 = .ok (.iand, 1) := by decide +kernel
theorem dX12_measures_8 : decode cX12_measures 8 = .ok (.laload, 1) := by decide +kernel
theorem dX12_measures_9 : decode cX12_measures 9 = .ok (.lstore 5, 2) := by decide +kernel
theorem dX12_measures_11 : decode cX12_measures 11 = .ok (.aload_n 0, 1) := by decide +kernel
theorem dX12_measures_12 : decode cX12_measures 12 = .ok (.getfield 297, 3) := by decide +kernel
theorem dX12_measures_15 : decode cX12_measures 15 = .ok (.iload 4, 2) := by decide +kernel
theorem dX12_measures_17 : decode cX12_measures 17 = .ok (.bipush 15, 2) := by decide +kernel
theorem dX12_measures_19 : decode cX12_measures 19 = .ok (.iand, 1) := by decide +kernel
theorem dX12_measures_20 : decode cX12_measures 20 = .ok (.laload, 1) := by decide +kernel
theorem dX12_measures_21 : decode cX12_measures 21 = .ok (.lstore 7, 2) := by decide +kernel
theorem dX12_measures_23 : decode cX12_measures 23 = .ok (.iload 4, 2) := by decide +kernel
theorem dX12_measures_25 : decode cX12_measures 25 = .ok (.iconst 4, 1) := by decide +kernel
theorem dX12_measures_26 : decode cX12_measures 26 = .ok (.ishr, 1) := by decide +kernel
theorem dX12_measures_27 : decode cX12_measures 27 = .ok (.bipush 7, 2) := by decide +kernel
theorem dX12_measures_29 : decode cX12_measures 29 = .ok (.iand, 1) := by decide +kernel
theorem dX12_measures_30 : decode cX12_measures 30 = .ok (.istore 9, 2) := by decide +kernel
theorem dX12_measures_32 : decode cX12_measures 32 = .ok (.iload_n 1, 1) := by decide +kernel
theorem dX12_measures_33 : decode cX12_measures 33 = .ok (.tableswitch 252 24 33 #[55, 78, 94, 110, 127, 143, 159, 178, 213, 239], 55) := by decide +kernel
theorem dX12_measures_88 : decode cX12_measures 88 = .ok (.aload_n 0, 1) := by decide +kernel
theorem dX12_measures_89 : decode cX12_measures 89 = .ok (.getfield 297, 3) := by decide +kernel
theorem dX12_measures_92 : decode cX12_measures 92 = .ok (.iload_n 2, 1) := by decide +kernel
theorem dX12_measures_93 : decode cX12_measures 93 = .ok (.iload_n 3, 1) := by decide +kernel
theorem dX12_measures_94 : decode cX12_measures 94 = .ok (.i2l, 1) := by decide +kernel
theorem dX12_measures_95 : decode cX12_measures 95 = .ok (.invokestatic 114, 3) := by decide +kernel
theorem dX12_measures_98 : decode cX12_measures 98 = .ok (.iload 4, 2) := by decide +kernel
theorem dX12_measures_100 : decode cX12_measures 100 = .ok (.i2l, 1) := by decide +kernel
theorem dX12_measures_101 : decode cX12_measures 101 = .ok (.invokestatic 114, 3) := by decide +kernel
theorem dX12_measures_104 : decode cX12_measures 104 = .ok (.invokestatic 306, 3) := by decide +kernel
theorem dX12_measures_107 : decode cX12_measures 107 = .ok (.lastore, 1) := by decide +kernel
theorem dX12_measures_108 : decode cX12_measures 108 = .ok (.goto 248, 3) := by decide +kernel
theorem dX12_measures_111 : decode cX12_measures 111 = .ok (.aload_n 0, 1) := by decide +kernel
theorem dX12_measures_112 : decode cX12_measures 112 = .ok (.getfield 297, 3) := by decide +kernel
theorem dX12_measures_115 : decode cX12_measures 115 = .ok (.iload_n 2, 1) := by decide +kernel
theorem dX12_measures_116 : decode cX12_measures 116 = .ok (.lload 5, 2) := by decide +kernel
theorem dX12_measures_118 : decode cX12_measures 118 = .ok (.lload 7, 2) := by decide +kernel
theorem dX12_measures_120 : decode cX12_measures 120 = .ok (.invokestatic 62, 3) := by decide +kernel
theorem dX12_measures_123 : decode cX12_measures 123 = .ok (.lastore, 1) := by decide +kernel
theorem dX12_measures_124 : decode cX12_measures 124 = .ok (.goto 232, 3) := by decide +kernel
theorem dX12_measures_127 : decode cX12_measures 127 = .ok (.aload_n 0, 1) := by decide +kernel
theorem dX12_measures_128 : decode cX12_measures 128 = .ok (.getfield 297, 3) := by decide +kernel
theorem dX12_measures_131 : decode cX12_measures 131 = .ok (.iload_n 2, 1) := by decide +kernel
theorem dX12_measures_132 : decode cX12_measures 132 = .ok (.lload 5, 2) := by decide +kernel
theorem dX12_measures_134 : decode cX12_measures 134 = .ok (.lload 7, 2) := by decide +kernel
theorem dX12_measures_136 : decode cX12_measures 136 = .ok (.invokestatic 309, 3) := by decide +kernel
theorem dX12_measures_139 : decode cX12_measures 139 = .ok (.lastore, 1) := by decide +kernel
theorem dX12_measures_140 : decode cX12_measures 140 = .ok (.goto 216, 3) := by decide +kernel
theorem dX12_measures_143 : decode cX12_measures 143 = .ok (.aload_n 0, 1) := by decide +kernel
theorem dX12_measures_144 : decode cX12_measures 144 = .ok (.getfield 297, 3) := by decide +kernel
theorem dX12_measures_147 : decode cX12_measures 147 = .ok (.iload_n 2, 1) := by decide +kernel
theorem dX12_measures_148 : decode cX12_measures 148 = .ok (.aload_n 0, 1) := by decide +kernel
theorem dX12_measures_149 : decode cX12_measures 149 = .ok (.lload 5, 2) := by decide +kernel
theorem dX12_measures_151 : decode cX12_measures 151 = .ok (.lload 7, 2) := by decide +kernel
theorem dX12_measures_153 : decode cX12_measures 153 = .ok (.invokevirtual 120, 3) := by decide +kernel
theorem dX12_measures_156 : decode cX12_measures 156 = .ok (.lastore, 1) := by decide +kernel
theorem dX12_measures_157 : decode cX12_measures 157 = .ok (.goto 199, 3) := by decide +kernel
theorem dX12_measures_160 : decode cX12_measures 160 = .ok (.aload_n 0, 1) := by decide +kernel
theorem dX12_measures_161 : decode cX12_measures 161 = .ok (.getfield 297, 3) := by decide +kernel
theorem dX12_measures_164 : decode cX12_measures 164 = .ok (.iload_n 2, 1) := by decide +kernel
theorem dX12_measures_165 : decode cX12_measures 165 = .ok (.lload 5, 2) := by decide +kernel
theorem dX12_measures_167 : decode cX12_measures 167 = .ok (.lload 7, 2) := by decide +kernel
theorem dX12_measures_169 : decode cX12_measures 169 = .ok (.invokestatic 306, 3) := by decide +kernel
theorem dX12_measures_172 : decode cX12_measures 172 = .ok (.lastore, 1) := by decide +kernel
theorem dX12_measures_173 : decode cX12_measures 173 = .ok (.goto 183, 3) := by decide +kernel
theorem dX12_measures_176 : decode cX12_measures 176 = .ok (.aload_n 0, 1) := by decide +kernel
theorem dX12_measures_177 : decode cX12_measures 177 = .ok (.getfield 297, 3) := by decide +kernel
theorem dX12_measures_180 : decode cX12_measures 180 = .ok (.iload_n 2, 1) := by decide +kernel
theorem dX12_measures_181 : decode cX12_measures 181 = .ok (.lload 5, 2) := by decide +kernel
theorem dX12_measures_183 : decode cX12_measures 183 = .ok (.lload 7, 2) := by decide +kernel
theorem dX12_measures_185 : decode cX12_measures 185 = .ok (.invokestatic 312, 3) := by decide +kernel
theorem dX12_measures_188 : decode cX12_measures 188 = .ok (.lastore, 1) := by decide +kernel
theorem dX12_measures_189 : decode cX12_measures 189 = .ok (.goto 167, 3) := by decide +kernel
theorem dX12_measures_192 : decode cX12_measures 192 = .ok (.aload_n 0, 1) := by decide +kernel
theorem dX12_measures_193 : decode cX12_measures 193 = .ok (.getfield 297, 3) := by decide +kernel
theorem dX12_measures_196 : decode cX12_measures 196 = .ok (.iload_n 2, 1) := by decide +kernel
theorem dX12_measures_197 : decode cX12_measures 197 = .ok (.iload 4, 2) := by decide +kernel
theorem dX12_measures_199 : decode cX12_measures 199 = .ok (.bipush 15, 2) := by decide +kernel
theorem dX12_measures_201 : decode cX12_measures 201 = .ok (.iand, 1) := by decide +kernel
theorem dX12_measures_202 : decode cX12_measures 202 = .ok (.lload 5, 2) := by decide +kernel
theorem dX12_measures_204 : decode cX12_measures 204 = .ok (.invokestatic 315, 3) := by decide +kernel
theorem dX12_measures_207 : decode cX12_measures 207 = .ok (.lastore, 1) := by decide +kernel
theorem dX12_measures_208 : decode cX12_measures 208 = .ok (.goto 148, 3) := by decide +kernel
theorem dX12_measures_211 : decode cX12_measures 211 = .ok (.aload_n 0, 1) := by decide +kernel
theorem dX12_measures_212 : decode cX12_measures 212 = .ok (.getfield 297, 3) := by decide +kernel
theorem dX12_measures_215 : decode cX12_measures 215 = .ok (.iload_n 2, 1) := by decide +kernel
theorem dX12_measures_216 : decode cX12_measures 216 = .ok (.aload_n 0, 1) := by decide +kernel
theorem dX12_measures_217 : decode cX12_measures 217 = .ok (.iload 9, 2) := by decide +kernel
theorem dX12_measures_219 : decode cX12_measures 219 = .ok (.lload 5, 2) := by decide +kernel
theorem dX12_measures_221 : decode cX12_measures 221 = .ok (.lload 7, 2) := by decide +kernel
theorem dX12_measures_223 : decode cX12_measures 223 = .ok (.aload_n 0, 1) := by decide +kernel
theorem dX12_measures_224 : decode cX12_measures 224 = .ok (.getfield 297, 3) := by decide +kernel
theorem dX12_measures_227 : decode cX12_measures 227 = .ok (.iload_n 2, 1) := by decide +kernel
theorem dX12_measures_228 : decode cX12_measures 228 = .ok (.laload, 1) := by decide +kernel
theorem dX12_measures_229 : decode cX12_measures 229 = .ok (.aload_n 0, 1) := by decide +kernel
theorem dX12_measures_230 : decode cX12_measures 230 = .ok (.getfield 247, 3) := by decide +kernel
theorem dX12_measures_233 : decode cX12_measures 233 = .ok (.iload 4, 2) := by decide +kernel
theorem dX12_measures_235 : decode cX12_measures 235 = .ok (.bipush 15, 2) := by decide +kernel
theorem dX12_measures_237 : decode cX12_measures 237 = .ok (.iand, 1) := by decide +kernel
theorem dX12_measures_238 : decode cX12_measures 238 = .ok (.laload, 1) := by decide +kernel
theorem dX12_measures_239 : decode cX12_measures 239 = .ok (.invokevirtual 319, 3) := by decide +kernel
theorem dX12_measures_242 : decode cX12_measures 242 = .ok (.lastore, 1) := by decide +kernel
theorem dX12_measures_243 : decode cX12_measures 243 = .ok (.goto 113, 3) := by decide +kernel
theorem dX12_measures_246 : decode cX12_measures 246 = .ok (.aload_n 0, 1) := by decide +kernel
theorem dX12_measures_247 : decode cX12_measures 247 = .ok (.getfield 247, 3) := by decide +kernel
theorem dX12_measures_250 : decode cX12_measures 250 = .ok (.iload_n 2, 1) := by decide +kernel
theorem dX12_measures_251 : decode cX12_measures 251 = .ok (.iload 9, 2) := by decide +kernel
theorem dX12_measures_253 : decode cX12_measures 253 = .ok (.lload 5, 2) := by decide +kernel
theorem dX12_measures_255 : decode cX12_measures 255 = .ok (.lload 7, 2) := by decide +kernel
theorem dX12_measures_257 : decode cX12_measures 257 = .ok (.invokestatic 323, 3) := by decide +kernel
theorem dX12_measures_260 : decode cX12_measures 260 = .ok (.ifCond .eq 7, 3) := by decide +kernel
theorem dX12_measures_263 : decode cX12_measures 263 = .ok (.lconst 1, 1) := by decide +kernel
theorem dX12_measures_264 : decode cX12_measures 264 = .ok (.goto 4, 3) := by decide +kernel
theorem dX12_measures_267 : decode cX12_measures 267 = .ok (.lconst 0, 1) := by decide +kernel
theorem dX12_measures_268 : decode cX12_measures 268 = .ok (.lastore, 1) := by decide +kernel
theorem dX12_measures_269 : decode cX12_measures 269 = .ok (.goto 87, 3) := by decide +kernel
theorem dX12_measures_272 : decode cX12_measures 272 = .ok (.aload_n 0, 1) := by decide +kernel
theorem dX12_measures_273 : decode cX12_measures 273 = .ok (.iload_n 2, 1) := by decide +kernel
theorem dX12_measures_274 : decode cX12_measures 274 = .ok (.iload 4, 2) := by decide +kernel
theorem dX12_measures_276 : decode cX12_measures 276 = .ok (.bipush 7, 2) := by decide +kernel
theorem dX12_measures_278 : decode cX12_measures 278 = .ok (.iand, 1) := by decide +kernel
theorem dX12_measures_279 : decode cX12_measures 279 = .ok (.lload 5, 2) := by decide +kernel
theorem dX12_measures_281 : decode cX12_measures 281 = .ok (.invokevirtual 327, 3) := by decide +kernel
theorem dX12_measures_284 : decode cX12_measures 284 = .ok (.ireturn, 1) := by decide +kernel
theorem dX12_measures_285 : decode cX12_measures 285 = .ok (.aload_n 0, 1) := by decide +kernel
theorem dX12_measures_286 : decode cX12_measures 286 = .ok (.getfield 247, 3) := by decide +kernel
theorem dX12_measures_289 : decode cX12_measures 289 = .ok (.iload_n 3, 1) := by decide +kernel
theorem dX12_measures_290 : decode cX12_measures 290 = .ok (.bipush 15, 2) := by decide +kernel
theorem dX12_measures_292 : decode cX12_measures 292 = .ok (.iand, 1) := by decide +kernel
theorem dX12_measures_293 : decode cX12_measures 293 = .ok (.laload, 1) := by decide +kernel
theorem dX12_measures_294 : decode cX12_measures 294 = .ok (.lstore 10, 2) := by decide +kernel
theorem dX12_measures_296 : decode cX12_measures 296 = .ok (.aload_n 0, 1) := by decide +kernel
theorem dX12_measures_297 : decode cX12_measures 297 = .ok (.getfield 297, 3) := by decide +kernel
theorem dX12_measures_300 : decode cX12_measures 300 = .ok (.iload_n 2, 1) := by decide +kernel
theorem dX12_measures_301 : decode cX12_measures 301 = .ok (.iload 4, 2) := by decide +kernel
theorem dX12_measures_303 : decode cX12_measures 303 = .ok (.iconst 3, 1) := by decide +kernel
theorem dX12_measures_304 : decode cX12_measures 304 = .ok (.iand, 1) := by decide +kernel
theorem dX12_measures_305 : decode cX12_measures 305 = .ok (.ifCond .ne 11, 3) := by decide +kernel
theorem dX12_measures_308 : decode cX12_measures 308 = .ok (.lload 10, 2) := by decide +kernel
theorem dX12_measures_310 : decode cX12_measures 310 = .ok (.invokestatic 114, 3) := by decide +kernel
theorem dX12_measures_313 : decode cX12_measures 313 = .ok (.goto 42, 3) := by decide +kernel
theorem dX12_measures_316 : decode cX12_measures 316 = .ok (.iload 4, 2) := by decide +kernel
theorem dX12_measures_318 : decode cX12_measures 318 = .ok (.iconst 3, 1) := by decide +kernel
theorem dX12_measures_319 : decode cX12_measures 319 = .ok (.iand, 1) := by decide +kernel
theorem dX12_measures_320 : decode cX12_measures 320 = .ok (.iconst 1, 1) := by decide +kernel
theorem dX12_measures_321 : decode cX12_measures 321 = .ok (.if_icmp .ne 11, 3) := by decide +kernel
theorem dX12_measures_324 : decode cX12_measures 324 = .ok (.lload 10, 2) := by decide +kernel
theorem dX12_measures_326 : decode cX12_measures 326 = .ok (.invokestatic 37, 3) := by decide +kernel
theorem dX12_measures_329 : decode cX12_measures 329 = .ok (.goto 26, 3) := by decide +kernel
theorem dX12_measures_332 : decode cX12_measures 332 = .ok (.iload 4, 2) := by decide +kernel
theorem dX12_measures_334 : decode cX12_measures 334 = .ok (.iconst 3, 1) := by decide +kernel
theorem dX12_measures_335 : decode cX12_measures 335 = .ok (.iand, 1) := by decide +kernel
theorem dX12_measures_336 : decode cX12_measures 336 = .ok (.iconst 2, 1) := by decide +kernel
theorem dX12_measures_337 : decode cX12_measures 337 = .ok (.if_icmp .ne 12, 3) := by decide +kernel
theorem dX12_measures_340 : decode cX12_measures 340 = .ok (.lload 10, 2) := by decide +kernel
theorem dX12_measures_342 : decode cX12_measures 342 = .ok (.l2i, 1) := by decide +kernel
theorem dX12_measures_343 : decode cX12_measures 343 = .ok (.invokestatic 331, 3) := by decide +kernel
theorem dX12_measures_346 : decode cX12_measures 346 = .ok (.goto 9, 3) := by decide +kernel
theorem dX12_measures_349 : decode cX12_measures 349 = .ok (.lload 10, 2) := by decide +kernel
theorem dX12_measures_351 : decode cX12_measures 351 = .ok (.iconst 1, 1) := by decide +kernel
theorem dX12_measures_352 : decode cX12_measures 352 = .ok (.invokestatic 51, 3) := by decide +kernel
theorem dX12_measures_355 : decode cX12_measures 355 = .ok (.lastore, 1) := by decide +kernel
theorem dX12_measures_356 : decode cX12_measures 356 = .ok (.iconst 0, 1) := by decide +kernel
theorem dX12_measures_357 : decode cX12_measures 357 = .ok (.ireturn, 1) := by decide +kernel
theorem dX12_toNumber_0 : decode cX12_toNumber 0 = .ok (.iload_n 2, 1) := by decide +kernel
theorem dX12_toNumber_1 : decode cX12_toNumber 1 = .ok (.iconst 3, 1) := by decide +kernel
theorem dX12_toNumber_2 : decode cX12_toNumber 2 = .ok (.if_icmp .ge 13, 3) := by decide +kernel
theorem dX12_toNumber_5 : decode cX12_toNumber 5 = .ok (.lload_n 3, 1) := by decide +kernel
theorem dX12_toNumber_6 : decode cX12_toNumber 6 = .ok (.invokestatic 11, 3) := by decide +kernel
theorem dX12_toNumber_9 : decode cX12_toNumber 9 = .ok (.ifCond .eq 6, 3) := by decide +kernel
theorem dX12_toNumber_12 : decode cX12_toNumber 12 = .ok (.bipush 7, 2) := by decide +kernel
theorem dX12_toNumber_14 : decode cX12_toNumber 14 = .ok (.ireturn, 1) := by decide +kernel
theorem dX12_toNumber_15 : decode cX12_toNumber 15 = .ok (.aload_n 0, 1) := by decide +kernel
theorem dX12_toNumber_16 : decode cX12_toNumber 16 = .ok (.getfield 247, 3) := by decide +kernel
theorem dX12_toNumber_19 : decode cX12_toNumber 19 = .ok (.iload_n 1, 1) := by decide +kernel
theorem dX12_toNumber_20 : decode cX12_toNumber 20 = .ok (.iload_n 2, 1) := by decide +kernel
theorem dX12_toNumber_21 : decode cX12_toNumber 21 = .ok (.ifCond .ne 16, 3) := by decide +kernel
theorem dX12_toNumber_24 : decode cX12_toNumber 24 = .ok (.lload_n 3, 1) := by decide +kernel
theorem dX12_toNumber_25 : decode cX12_toNumber 25 = .ok (.ldc2_w 21, 3) := by decide +kernel
theorem dX12_toNumber_28 : decode cX12_toNumber 28 = .ok (.ldc2_w 7, 3) := by decide +kernel
theorem dX12_toNumber_31 : decode cX12_toNumber 31 = .ok (.invokestatic 132, 3) := by decide +kernel
theorem dX12_toNumber_34 : decode cX12_toNumber 34 = .ok (.goto 74, 3) := by decide +kernel
theorem dX12_toNumber_37 : decode cX12_toNumber 37 = .ok (.iload_n 2, 1) := by decide +kernel
theorem dX12_toNumber_38 : decode cX12_toNumber 38 = .ok (.iconst 1, 1) := by decide +kernel
theorem dX12_toNumber_39 : decode cX12_toNumber 39 = .ok (.if_icmp .ne 16, 3) := by decide +kernel
theorem dX12_toNumber_42 : decode cX12_toNumber 42 = .ok (.lload_n 3, 1) := by decide +kernel
theorem dX12_toNumber_43 : decode cX12_toNumber 43 = .ok (.ldc2_w 138, 3) := by decide +kernel
theorem dX12_toNumber_46 : decode cX12_toNumber 46 = .ok (.ldc2_w 335, 3) := by decide +kernel
theorem dX12_toNumber_49 : decode cX12_toNumber 49 = .ok (.invokestatic 132, 3) := by decide +kernel
theorem dX12_toNumber_52 : decode cX12_toNumber 52 = .ok (.goto 56, 3) := by decide +kernel
theorem dX12_toNumber_55 : decode cX12_toNumber 55 = .ok (.iload_n 2, 1) := by decide +kernel
theorem dX12_toNumber_56 : decode cX12_toNumber 56 = .ok (.iconst 2, 1) := by decide +kernel
theorem dX12_toNumber_57 : decode cX12_toNumber 57 = .ok (.if_icmp .ne 10, 3) := by decide +kernel
theorem dX12_toNumber_60 : decode cX12_toNumber 60 = .ok (.lload_n 3, 1) := by decide +kernel
theorem dX12_toNumber_61 : decode cX12_toNumber 61 = .ok (.invokestatic 337, 3) := by decide +kernel
theorem dX12_toNumber_64 : decode cX12_toNumber 64 = .ok (.goto 44, 3) := by decide +kernel
theorem dX12_toNumber_67 : decode cX12_toNumber 67 = .ok (.iload_n 2, 1) := by decide +kernel
theorem dX12_toNumber_68 : decode cX12_toNumber 68 = .ok (.iconst 3, 1) := by decide +kernel
theorem dX12_toNumber_69 : decode cX12_toNumber 69 = .ok (.if_icmp .ne 10, 3) := by decide +kernel
theorem dX12_toNumber_72 : decode cX12_toNumber 72 = .ok (.lload_n 3, 1) := by decide +kernel
theorem dX12_toNumber_73 : decode cX12_toNumber 73 = .ok (.invokestatic 37, 3) := by decide +kernel
theorem dX12_toNumber_76 : decode cX12_toNumber 76 = .ok (.goto 32, 3) := by decide +kernel
theorem dX12_toNumber_79 : decode cX12_toNumber 79 = .ok (.iload_n 2, 1) := by decide +kernel
theorem dX12_toNumber_80 : decode cX12_toNumber 80 = .ok (.iconst 4, 1) := by decide +kernel
theorem dX12_toNumber_81 : decode cX12_toNumber 81 = .ok (.if_icmp .ne 10, 3) := by decide +kernel
theorem dX12_toNumber_84 : decode cX12_toNumber 84 = .ok (.lload_n 3, 1) := by decide +kernel
theorem dX12_toNumber_85 : decode cX12_toNumber 85 = .ok (.invokestatic 340, 3) := by decide +kernel
theorem dX12_toNumber_88 : decode cX12_toNumber 88 = .ok (.goto 20, 3) := by decide +kernel
theorem dX12_toNumber_91 : decode cX12_toNumber 91 = .ok (.iload_n 2, 1) := by decide +kernel
theorem dX12_toNumber_92 : decode cX12_toNumber 92 = .ok (.iconst 5, 1) := by decide +kernel
theorem dX12_toNumber_93 : decode cX12_toNumber 93 = .ok (.if_icmp .ne 14, 3) := by decide +kernel
theorem dX12_toNumber_96 : decode cX12_toNumber 96 = .ok (.lload_n 3, 1) := by decide +kernel
theorem dX12_toNumber_97 : decode cX12_toNumber 97 = .ok (.invokestatic 11, 3) := by decide +kernel
theorem dX12_toNumber_100 : decode cX12_toNumber 100 = .ok (.ifCond .eq 7, 3) := by decide +kernel
theorem dX12_toNumber_103 : decode cX12_toNumber 103 = .ok (.lconst 1, 1) := by decide +kernel
theorem dX12_toNumber_104 : decode cX12_toNumber 104 = .ok (.goto 4, 3) := by decide +kernel
theorem dX12_toNumber_107 : decode cX12_toNumber 107 = .ok (.lconst 0, 1) := by decide +kernel
theorem dX12_toNumber_108 : decode cX12_toNumber 108 = .ok (.lastore, 1) := by decide +kernel
theorem dX12_toNumber_109 : decode cX12_toNumber 109 = .ok (.iconst 0, 1) := by decide +kernel
theorem dX12_toNumber_110 : decode cX12_toNumber 110 = .ok (.ireturn, 1) := by decide +kernel
theorem dX12_hasRoom_0 : decode cX12_hasRoom 0 = .ok (.aload_n 0, 1) := by decide +kernel
theorem dX12_hasRoom_1 : decode cX12_hasRoom 1 = .ok (.getfield 152, 3) := by decide +kernel
theorem dX12_hasRoom_4 : decode cX12_hasRoom 4 = .ok (.i2l, 1) := by decide +kernel
theorem dX12_hasRoom_5 : decode cX12_hasRoom 5 = .ok (.lload_n 1, 1) := by decide +kernel
theorem dX12_hasRoom_6 : decode cX12_hasRoom 6 = .ok (.ladd, 1) := by decide +kernel
theorem dX12_hasRoom_7 : decode cX12_hasRoom 7 = .ok (.ldc2_w 343, 3) := by decide +kernel
theorem dX12_hasRoom_10 : decode cX12_hasRoom 10 = .ok (.lcmp, 1) := by decide +kernel
theorem dX12_hasRoom_11 : decode cX12_hasRoom 11 = .ok (.ifCond .gt 7, 3) := by decide +kernel
theorem dX12_hasRoom_14 : decode cX12_hasRoom 14 = .ok (.iconst 1, 1) := by decide +kernel
theorem dX12_hasRoom_15 : decode cX12_hasRoom 15 = .ok (.goto 4, 3) := by decide +kernel
theorem dX12_hasRoom_18 : decode cX12_hasRoom 18 = .ok (.iconst 0, 1) := by decide +kernel
theorem dX12_hasRoom_19 : decode cX12_hasRoom 19 = .ok (.ireturn, 1) := by decide +kernel
theorem dX12_rows_0 : decode cX12_rows 0 = .ok (.iload_n 1, 1) := by decide +kernel
theorem dX12_rows_1 : decode cX12_rows 1 = .ok (.tableswitch 361 40 46 #[43, 43, 74, 133, 193, 324, 341], 43) := by decide +kernel
theorem dX12_rows_44 : decode cX12_rows 44 = .ok (.aload_n 0, 1) := by decide +kernel
theorem dX12_rows_45 : decode cX12_rows 45 = .ok (.iload_n 1, 1) := by decide +kernel
theorem dX12_rows_46 : decode cX12_rows 46 = .ok (.bipush 41, 2) := by decide +kernel
theorem dX12_rows_48 : decode cX12_rows 48 = .ok (.if_icmp .ne 7, 3) := by decide +kernel
theorem dX12_rows_51 : decode cX12_rows 51 = .ok (.iconst 1, 1) := by decide +kernel
theorem dX12_rows_52 : decode cX12_rows 52 = .ok (.goto 4, 3) := by decide +kernel
theorem dX12_rows_55 : decode cX12_rows 55 = .ok (.iconst 0, 1) := by decide +kernel
theorem dX12_rows_56 : decode cX12_rows 56 = .ok (.iload_n 2, 1) := by decide +kernel
theorem dX12_rows_57 : decode cX12_rows 57 = .ok (.bipush 15, 2) := by decide +kernel
theorem dX12_rows_59 : decode cX12_rows 59 = .ok (.iand, 1) := by decide +kernel
theorem dX12_rows_60 : decode cX12_rows 60 = .ok (.aload_n 0, 1) := by decide +kernel
theorem dX12_rows_61 : decode cX12_rows 61 = .ok (.getfield 247, 3) := by decide +kernel
theorem dX12_rows_64 : decode cX12_rows 64 = .ok (.iload_n 3, 1) := by decide +kernel
theorem dX12_rows_65 : decode cX12_rows 65 = .ok (.bipush 15, 2) := by decide +kernel
theorem dX12_rows_67 : decode cX12_rows 67 = .ok (.iand, 1) := by decide +kernel
theorem dX12_rows_68 : decode cX12_rows 68 = .ok (.laload, 1) := by decide +kernel
theorem dX12_rows_69 : decode cX12_rows 69 = .ok (.iload 4, 2) := by decide +kernel
theorem dX12_rows_71 : decode cX12_rows 71 = .ok (.invokevirtual 345, 3) := by decide +kernel
theorem dX12_rows_74 : decode cX12_rows 74 = .ok (.ireturn, 1) := by decide +kernel
theorem dX12_rows_75 : decode cX12_rows 75 = .ok (.aload_n 0, 1) := by decide +kernel
theorem dX12_rows_76 : decode cX12_rows 76 = .ok (.iload_n 3, 1) := by decide +kernel
theorem dX12_rows_77 : decode cX12_rows 77 = .ok (.invokevirtual 349, 3) := by decide +kernel
theorem dX12_rows_80 : decode cX12_rows 80 = .ok (.iconst (-1), 1) := by decide +kernel
theorem dX12_rows_81 : decode cX12_rows 81 = .ok (.if_icmp .eq 16, 3) := by decide +kernel
theorem dX12_rows_84 : decode cX12_rows 84 = .ok (.aload_n 0, 1) := by decide +kernel
theorem dX12_rows_85 : decode cX12_rows 85 = .ok (.iload_n 3, 1) := by decide +kernel
theorem dX12_rows_86 : decode cX12_rows 86 = .ok (.invokevirtual 349, 3) := by decide +kernel
theorem dX12_rows_89 : decode cX12_rows 89 = .ok (.invokestatic 352, 3) := by decide +kernel
theorem dX12_rows_92 : decode cX12_rows 92 = .ok (.ifCond .ne 5, 3) := by decide +kernel
theorem dX12_rows_95 : decode cX12_rows 95 = .ok (.iconst 2, 1) := by decide +kernel
theorem dX12_rows_96 : decode cX12_rows 96 = .ok (.ireturn, 1) := by decide +kernel
theorem dX12_rows_97 : decode cX12_rows 97 = .ok (.aload_n 0, 1) := by decide +kernel
theorem dX12_rows_98 : decode cX12_rows 98 = .ok (.iload_n 3, 1) := by decide +kernel
theorem dX12_rows_99 : decode cX12_rows 99 = .ok (.invokevirtual 349, 3) := by decide +kernel
theorem dX12_rows_102 : decode cX12_rows 102 = .ok (.iconst (-1), 1) := by decide +kernel
theorem dX12_rows_103 : decode cX12_rows 103 = .ok (.if_icmp .ne 5, 3) := by decide +kernel
theorem dX12_rows_106 : decode cX12_rows 106 = .ok (.iconst 1, 1) := by decide +kernel
theorem dX12_rows_107 : decode cX12_rows 107 = .ok (.ireturn, 1) := by decide +kernel
theorem dX12_rows_108 : decode cX12_rows 108 = .ok (.aload_n 0, 1) := by decide +kernel
theorem dX12_rows_109 : decode cX12_rows 109 = .ok (.getfield 247, 3) := by decide +kernel
theorem dX12_rows_112 : decode cX12_rows 112 = .ok (.iload_n 2, 1) := by decide +kernel
theorem dX12_rows_113 : decode cX12_rows 113 = .ok (.bipush 15, 2) := by decide +kernel
theorem dX12_rows_115 : decode cX12_rows 115 = .ok (.iand, 1) := by decide +kernel
theorem dX12_rows_116 : decode cX12_rows 116 = .ok (.aload_n 0, 1) := by decide +kernel
theorem dX12_rows_117 : decode cX12_rows 117 = .ok (.getfield 155, 3) := by decide +kernel
theorem dX12_rows_120 : decode cX12_rows 120 = .ok (.aload_n 0, 1) := by decide +kernel
theorem dX12_rows_121 : decode cX12_rows 121 = .ok (.getfield 145, 3) := by decide +kernel
theorem dX12_rows_124 : decode cX12_rows 124 = .ok (.iload_n 3, 1) := by decide +kernel
theorem dX12_rows_125 : decode cX12_rows 125 = .ok (.bipush 15, 2) := by decide +kernel
theorem dX12_rows_127 : decode cX12_rows 127 = .ok (.iand, 1) := by decide +kernel
theorem dX12_rows_128 : decode cX12_rows 128 = .ok (.iaload, 1) := by decide +kernel
theorem dX12_rows_129 : decode cX12_rows 129 = .ok (.iaload, 1) := by decide +kernel
theorem dX12_rows_130 : decode cX12_rows 130 = .ok (.i2l, 1) := by decide +kernel
theorem dX12_rows_131 : decode cX12_rows 131 = .ok (.lastore, 1) := by decide +kernel
theorem dX12_rows_132 : decode cX12_rows 132 = .ok (.iconst 0, 1) := by decide +kernel
theorem dX12_rows_133 : decode cX12_rows 133 = .ok (.ireturn, 1) := by decide +kernel
theorem dX12_rows_134 : decode cX12_rows 134 = .ok (.aload_n 0, 1) := by decide +kernel
theorem dX12_rows_135 : decode cX12_rows 135 = .ok (.aload_n 0, 1) := by decide +kernel
theorem dX12_rows_136 : decode cX12_rows 136 = .ok (.getfield 145, 3) := by decide +kernel
theorem dX12_rows_139 : decode cX12_rows 139 = .ok (.iload_n 2, 1) := by decide +kernel
theorem dX12_rows_140 : decode cX12_rows 140 = .ok (.bipush 15, 2) := by decide +kernel
theorem dX12_rows_142 : decode cX12_rows 142 = .ok (.iand, 1) := by decide +kernel
theorem dX12_rows_143 : decode cX12_rows 143 = .ok (.iaload, 1) := by decide +kernel
theorem dX12_rows_144 : decode cX12_rows 144 = .ok (.aload_n 0, 1) := by decide +kernel
theorem dX12_rows_145 : decode cX12_rows 145 = .ok (.getfield 145, 3) := by decide +kernel
theorem dX12_rows_148 : decode cX12_rows 148 = .ok (.iload_n 3, 1) := by decide +kernel
theorem dX12_rows_149 : decode cX12_rows 149 = .ok (.bipush 15, 2) := by decide +kernel
theorem dX12_rows_151 : decode cX12_rows 151 = .ok (.iand, 1) := by decide +kernel
theorem dX12_rows_152 : decode cX12_rows 152 = .ok (.iaload, 1) := by decide +kernel
theorem dX12_rows_153 : decode cX12_rows 153 = .ok (.aload_n 0, 1) := by decide +kernel
theorem dX12_rows_154 : decode cX12_rows 154 = .ok (.getfield 247, 3) := by decide +kernel
theorem dX12_rows_157 : decode cX12_rows 157 = .ok (.iload 4, 2) := by decide +kernel
theorem dX12_rows_159 : decode cX12_rows 159 = .ok (.bipush 15, 2) := by decide +kernel
theorem dX12_rows_161 : decode cX12_rows 161 = .ok (.iand, 1) := by decide +kernel
theorem dX12_rows_162 : decode cX12_rows 162 = .ok (.laload, 1) := by decide +kernel
theorem dX12_rows_163 : decode cX12_rows 163 = .ok (.l2i, 1) := by decide +kernel
theorem dX12_rows_164 : decode cX12_rows 164 = .ok (.aload_n 0, 1) := by decide +kernel
theorem dX12_rows_165 : decode cX12_rows 165 = .ok (.getfield 247, 3) := by decide +kernel
theorem dX12_rows_168 : decode cX12_rows 168 = .ok (.iload 4, 2) := by decide +kernel
theorem dX12_rows_170 : decode cX12_rows 170 = .ok (.iconst 1, 1) := by decide +kernel
theorem dX12_rows_171 : decode cX12_rows 171 = .ok (.iadd, 1) := by decide +kernel
theorem dX12_rows_172 : decode cX12_rows 172 = .ok (.bipush 15, 2) := by decide +kernel
theorem dX12_rows_174 : decode cX12_rows 174 = .ok (.iand, 1) := by decide +kernel
theorem dX12_rows_175 : decode cX12_rows 175 = .ok (.laload, 1) := by decide +kernel
theorem dX12_rows_176 : decode cX12_rows 176 = .ok (.l2i, 1) := by decide +kernel
theorem dX12_rows_177 : decode cX12_rows 177 = .ok (.aload_n 0, 1) := by decide +kernel
theorem dX12_rows_178 : decode cX12_rows 178 = .ok (.getfield 247, 3) := by decide +kernel
theorem dX12_rows_181 : decode cX12_rows 181 = .ok (.iload 4, 2) := by decide +kernel
theorem dX12_rows_183 : decode cX12_rows 183 = .ok (.iconst 2, 1) := by decide +kernel
theorem dX12_rows_184 : decode cX12_rows 184 = .ok (.iadd, 1) := by decide +kernel
theorem dX12_rows_185 : decode cX12_rows 185 = .ok (.bipush 15, 2) := by decide +kernel
theorem dX12_rows_187 : decode cX12_rows 187 = .ok (.iand, 1) := by decide +kernel
theorem dX12_rows_188 : decode cX12_rows 188 = .ok (.laload, 1) := by decide +kernel
theorem dX12_rows_189 : decode cX12_rows 189 = .ok (.l2i, 1) := by decide +kernel
theorem dX12_rows_190 : decode cX12_rows 190 = .ok (.invokevirtual 356, 3) := by decide +kernel
theorem dX12_rows_193 : decode cX12_rows 193 = .ok (.ireturn, 1) := by decide +kernel
theorem dX12_rows_194 : decode cX12_rows 194 = .ok (.aload_n 0, 1) := by decide +kernel
theorem dX12_rows_195 : decode cX12_rows 195 = .ok (.iload_n 3, 1) := by decide +kernel
theorem dX12_rows_196 : decode cX12_rows 196 = .ok (.invokevirtual 349, 3) := by decide +kernel
theorem dX12_rows_199 : decode cX12_rows 199 = .ok (.iconst (-1), 1) := by decide +kernel
theorem dX12_rows_200 : decode cX12_rows 200 = .ok (.if_icmp .eq 14, 3) := by decide +kernel
theorem dX12_rows_203 : decode cX12_rows 203 = .ok (.aload_n 0, 1) := by decide +kernel
theorem dX12_rows_204 : decode cX12_rows 204 = .ok (.iload_n 3, 1) := by decide +kernel
theorem dX12_rows_205 : decode cX12_rows 205 = .ok (.invokevirtual 349, 3) := by decide +kernel
theorem dX12_rows_208 : decode cX12_rows 208 = .ok (.iconst 4, 1) := by decide +kernel
theorem dX12_rows_209 : decode cX12_rows 209 = .ok (.if_icmp .eq 5, 3) := by decide +kernel
theorem dX12_rows_212 : decode cX12_rows 212 = .ok (.iconst 2, 1) := by decide +kernel
theorem dX12_rows_213 : decode cX12_rows 213 = .ok (.ireturn, 1) := by decide +kernel
theorem dX12_rows_214 : decode cX12_rows 214 = .ok (.aload_n 0, 1) := by decide +kernel
theorem dX12_rows_215 : decode cX12_rows 215 = .ok (.iload_n 3, 1) := by decide +kernel
theorem dX12_rows_216 : decode cX12_rows 216 = .ok (.invokevirtual 349, 3) := by decide +kernel
theorem dX12_rows_219 : decode cX12_rows 219 = .ok (.iconst (-1), 1) := by decide +kernel
theorem dX12_rows_220 : decode cX12_rows 220 = .ok (.if_icmp .ne 5, 3) := by decide +kernel
theorem dX12_rows_223 : decode cX12_rows 223 = .ok (.iconst 1, 1) := by decide +kernel
theorem dX12_rows_224 : decode cX12_rows 224 = .ok (.ireturn, 1) := by decide +kernel
theorem dX12_rows_225 : decode cX12_rows 225 = .ok (.aload_n 0, 1) := by decide +kernel
theorem dX12_rows_226 : decode cX12_rows 226 = .ok (.lconst 1, 1) := by decide +kernel
theorem dX12_rows_227 : decode cX12_rows 227 = .ok (.invokevirtual 359, 3) := by decide +kernel
theorem dX12_rows_230 : decode cX12_rows 230 = .ok (.ifCond .ne 6, 3) := by decide +kernel
theorem dX12_rows_233 : decode cX12_rows 233 = .ok (.bipush 8, 2) := by decide +kernel
theorem dX12_rows_235 : decode cX12_rows 235 = .ok (.ireturn, 1) := by decide +kernel
theorem dX12_rows_236 : decode cX12_rows 236 = .ok (.aload_n 0, 1) := by decide +kernel
theorem dX12_rows_237 : decode cX12_rows 237 = .ok (.getfield 145, 3) := by decide +kernel
theorem dX12_rows_240 : decode cX12_rows 240 = .ok (.iload_n 3, 1) := by decide +kernel
theorem dX12_rows_241 : decode cX12_rows 241 = .ok (.bipush 15, 2) := by decide +kernel
theorem dX12_rows_243 : decode cX12_rows 243 = .ok (.iand, 1) := by decide +kernel
theorem dX12_rows_244 : decode cX12_rows 244 = .ok (.iaload, 1) := by decide +kernel
theorem dX12_rows_245 : decode cX12_rows 245 = .ok (.istore 5, 2) := by decide +kernel
theorem dX12_rows_247 : decode cX12_rows 247 = .ok (.aload_n 0, 1) := by decide +kernel
theorem dX12_rows_248 : decode cX12_rows 248 = .ok (.iconst 4, 1) := by decide +kernel
theorem dX12_rows_249 : decode cX12_rows 249 = .ok (.aload_n 0, 1) := by decide +kernel
theorem dX12_rows_250 : decode cX12_rows 250 = .ok (.getfield 155, 3) := by decide +kernel
theorem dX12_rows_253 : decode cX12_rows 253 = .ok (.iload 5, 2) := by decide +kernel
theorem dX12_rows_255 : decode cX12_rows 255 = .ok (.iaload, 1) := by decide +kernel
theorem dX12_rows_256 : decode cX12_rows 256 = .ok (.invokevirtual 362, 3) := by decide +kernel
theorem dX12_rows_259 : decode cX12_rows 259 = .ok (.istore 6, 2) := by decide +kernel
theorem dX12_rows_261 : decode cX12_rows 261 = .ok (.iconst 0, 1) := by decide +kernel
theorem dX12_rows_262 : decode cX12_rows 262 = .ok (.istore 7, 2) := by decide +kernel
theorem dX12_rows_264 : decode cX12_rows 264 = .ok (.iload 7, 2) := by decide +kernel
theorem dX12_rows_266 : decode cX12_rows 266 = .ok (.aload_n 0, 1) := by decide +kernel
theorem dX12_rows_267 : decode cX12_rows 267 = .ok (.getfield 155, 3) := by decide +kernel
theorem dX12_rows_270 : decode cX12_rows 270 = .ok (.iload 5, 2) := by decide +kernel
theorem dX12_rows_272 : decode cX12_rows 272 = .ok (.iaload, 1) := by decide +kernel
theorem dX12_rows_273 : decode cX12_rows 273 = .ok (.if_icmp .ge 39, 3) := by decide +kernel
theorem dX12_rows_276 : decode cX12_rows 276 = .ok (.aload_n 0, 1) := by decide +kernel
theorem dX12_rows_277 : decode cX12_rows 277 = .ok (.getfield 168, 3) := by decide +kernel
theorem dX12_rows_280 : decode cX12_rows 280 = .ok (.aload_n 0, 1) := by decide +kernel
theorem dX12_rows_281 : decode cX12_rows 281 = .ok (.getfield 158, 3) := by decide +kernel
theorem dX12_rows_284 : decode cX12_rows 284 = .ok (.iload 6, 2) := by decide +kernel
theorem dX12_rows_286 : decode cX12_rows 286 = .ok (.iaload, 1) := by decide +kernel
theorem dX12_rows_287 : decode cX12_rows 287 = .ok (.iload 7, 2) := by decide +kernel
theorem dX12_rows_289 : decode cX12_rows 289 = .ok (.iadd, 1) := by decide +kernel
theorem dX12_rows_290 : decode cX12_rows 290 = .ok (.aload_n 0, 1) := by decide +kernel
theorem dX12_rows_291 : decode cX12_rows 291 = .ok (.getfield 168, 3) := by decide +kernel
theorem dX12_rows_294 : decode cX12_rows 294 = .ok (.aload_n 0, 1) := by decide +kernel
theorem dX12_rows_295 : decode cX12_rows 295 = .ok (.getfield 158, 3) := by decide +kernel
theorem dX12_rows_298 : decode cX12_rows 298 = .ok (.iload 5, 2) := by decide +kernel
theorem dX12_rows_300 : decode cX12_rows 300 = .ok (.iaload, 1) := by decide +kernel
theorem dX12_rows_301 : decode cX12_rows 301 = .ok (.iload 7, 2) := by decide +kernel
theorem dX12_rows_303 : decode cX12_rows 303 = .ok (.iadd, 1) := by decide +kernel
theorem dX12_rows_304 : decode cX12_rows 304 = .ok (.laload, 1) := by decide +kernel
theorem dX12_rows_305 : decode cX12_rows 305 = .ok (.lastore, 1) := by decide +kernel
theorem dX12_rows_306 : decode cX12_rows 306 = .ok (.iinc 7 1, 3) := by decide +kernel
theorem dX12_rows_309 : decode cX12_rows 309 = .ok (.goto (-45), 3) := by decide +kernel
theorem dX12_rows_312 : decode cX12_rows 312 = .ok (.aload_n 0, 1) := by decide +kernel
theorem dX12_rows_313 : decode cX12_rows 313 = .ok (.getfield 145, 3) := by decide +kernel
theorem dX12_rows_316 : decode cX12_rows 316 = .ok (.iload_n 2, 1) := by decide +kernel
theorem dX12_rows_317 : decode cX12_rows 317 = .ok (.bipush 15, 2) := by decide +kernel
theorem dX12_rows_319 : decode cX12_rows 319 = .ok (.iand, 1) := by decide +kernel
theorem dX12_rows_320 : decode cX12_rows 320 = .ok (.iload 6, 2) := by decide +kernel
theorem dX12_rows_322 : decode cX12_rows 322 = .ok (.iastore, 1) := by decide +kernel
theorem dX12_rows_323 : decode cX12_rows 323 = .ok (.iconst 0, 1) := by decide +kernel
theorem dX12_rows_324 : decode cX12_rows 324 = .ok (.ireturn, 1) := by decide +kernel
theorem dX12_rows_325 : decode cX12_rows 325 = .ok (.aload_n 0, 1) := by decide +kernel
theorem dX12_rows_326 : decode cX12_rows 326 = .ok (.getfield 247, 3) := by decide +kernel
theorem dX12_rows_329 : decode cX12_rows 329 = .ok (.iload_n 2, 1) := by decide +kernel
theorem dX12_rows_330 : decode cX12_rows 330 = .ok (.bipush 15, 2) := by decide +kernel
theorem dX12_rows_332 : decode cX12_rows 332 = .ok (.iand, 1) := by decide +kernel
theorem dX12_rows_333 : decode cX12_rows 333 = .ok (.aload_n 0, 1) := by decide +kernel
theorem dX12_rows_334 : decode cX12_rows 334 = .ok (.iload_n 3, 1) := by decide +kernel
theorem dX12_rows_335 : decode cX12_rows 335 = .ok (.invokevirtual 349, 3) := by decide +kernel
theorem dX12_rows_338 : decode cX12_rows 338 = .ok (.i2l, 1) := by decide +kernel
theorem dX12_rows_339 : decode cX12_rows 339 = .ok (.lastore, 1) := by decide +kernel
theorem dX12_rows_340 : decode cX12_rows 340 = .ok (.iconst 0, 1) := by decide +kernel
theorem dX12_rows_341 : decode cX12_rows 341 = .ok (.ireturn, 1) := by decide +kernel
theorem dX12_rows_342 : decode cX12_rows 342 = .ok (.aload_n 0, 1) := by decide +kernel
theorem dX12_rows_343 : decode cX12_rows 343 = .ok (.getfield 145, 3) := by decide +kernel
theorem dX12_rows_346 : decode cX12_rows 346 = .ok (.iload_n 2, 1) := by decide +kernel
theorem dX12_rows_347 : decode cX12_rows 347 = .ok (.bipush 15, 2) := by decide +kernel
theorem dX12_rows_349 : decode cX12_rows 349 = .ok (.iand, 1) := by decide +kernel
theorem dX12_rows_350 : decode cX12_rows 350 = .ok (.aload_n 0, 1) := by decide +kernel
theorem dX12_rows_351 : decode cX12_rows 351 = .ok (.getfield 145, 3) := by decide +kernel
theorem dX12_rows_354 : decode cX12_rows 354 = .ok (.iload_n 3, 1) := by decide +kernel
theorem dX12_rows_355 : decode cX12_rows 355 = .ok (.bipush 15, 2) := by decide +kernel
theorem dX12_rows_357 : decode cX12_rows 357 = .ok (.iand, 1) := by decide +kernel
theorem dX12_rows_358 : decode cX12_rows 358 = .ok (.iaload, 1) := by decide +kernel
theorem dX12_rows_359 : decode cX12_rows 359 = .ok (.iastore, 1) := by decide +kernel
theorem dX12_rows_360 : decode cX12_rows 360 = .ok (.iconst 0, 1) := by decide +kernel
theorem dX12_rows_361 : decode cX12_rows 361 = .ok (.ireturn, 1) := by decide +kernel
theorem dX12_rows_362 : decode cX12_rows 362 = .ok (.aload_n 0, 1) := by decide +kernel
theorem dX12_rows_363 : decode cX12_rows 363 = .ok (.getfield 145, 3) := by decide +kernel
theorem dX12_rows_366 : decode cX12_rows 366 = .ok (.iload_n 2, 1) := by decide +kernel
theorem dX12_rows_367 : decode cX12_rows 367 = .ok (.bipush 15, 2) := by decide +kernel
theorem dX12_rows_369 : decode cX12_rows 369 = .ok (.iand, 1) := by decide +kernel
theorem dX12_rows_370 : decode cX12_rows 370 = .ok (.iconst 0, 1) := by decide +kernel
theorem dX12_rows_371 : decode cX12_rows 371 = .ok (.iastore, 1) := by decide +kernel
theorem dX12_rows_372 : decode cX12_rows 372 = .ok (.iconst 0, 1) := by decide +kernel
theorem dX12_rows_373 : decode cX12_rows 373 = .ok (.ireturn, 1) := by decide +kernel
theorem dX12_makes_0 : decode cX12_makes 0 = .ok (.iload_n 1, 1) := by decide +kernel
theorem dX12_makes_1 : decode cX12_makes 1 = .ok (.ifCond .ne 60, 3) := by decide +kernel
theorem dX12_makes_4 : decode cX12_makes 4 = .ok (.iload 5, 2) := by decide +kernel
theorem dX12_makes_6 : decode cX12_makes 6 = .ok (.ifCond .lt 10, 3) := by decide +kernel
theorem dX12_makes_9 : decode cX12_makes 9 = .ok (.iload 5, 2) := by decide +kernel
theorem dX12_makes_11 : decode cX12_makes 11 = .ok (.bipush 9, 2) := by decide +kernel
theorem dX12_makes_13 : decode cX12_makes 13 = .ok (.if_icmp .le 5, 3) := by decide +kernel
theorem dX12_makes_16 : decode cX12_makes 16 = .ok (.iconst 2, 1) := by decide +kernel
theorem dX12_makes_17 : decode cX12_makes 17 = .ok (.ireturn, 1) := by decide +kernel
theorem dX12_makes_18 : decode cX12_makes 18 = .ok (.lload_n 3, 1) := by decide +kernel
theorem dX12_makes_19 : decode cX12_makes 19 = .ok (.lconst 0, 1) := by decide +kernel
theorem dX12_makes_20 : decode cX12_makes 20 = .ok (.lcmp, 1) := by decide +kernel
theorem dX12_makes_21 : decode cX12_makes 21 = .ok (.ifCond .ge 5, 3) := by decide +kernel
theorem dX12_makes_24 : decode cX12_makes 24 = .ok (.iconst 4, 1) := by decide +kernel
theorem dX12_makes_25 : decode cX12_makes 25 = .ok (.ireturn, 1) := by decide +kernel
theorem dX12_makes_26 : decode cX12_makes 26 = .ok (.lload_n 3, 1) := by decide +kernel
theorem dX12_makes_27 : decode cX12_makes 27 = .ok (.ldc2_w 366, 3) := by decide +kernel
theorem dX12_makes_30 : decode cX12_makes 30 = .ok (.lcmp, 1) := by decide +kernel
theorem dX12_makes_31 : decode cX12_makes 31 = .ok (.ifCond .gt 11, 3) := by decide +kernel
theorem dX12_makes_34 : decode cX12_makes 34 = .ok (.aload_n 0, 1) := by decide +kernel
theorem dX12_makes_35 : decode cX12_makes 35 = .ok (.lconst 1, 1) := by decide +kernel
theorem dX12_makes_36 : decode cX12_makes 36 = .ok (.invokevirtual 359, 3) := by decide +kernel
theorem dX12_makes_39 : decode cX12_makes 39 = .ok (.ifCond .ne 6, 3) := by decide +kernel
theorem dX12_makes_42 : decode cX12_makes 42 = .ok (.bipush 8, 2) := by decide +kernel
theorem dX12_makes_44 : decode cX12_makes 44 = .ok (.ireturn, 1) := by decide +kernel
theorem dX12_makes_45 : decode cX12_makes 45 = .ok (.aload_n 0, 1) := by decide +kernel
theorem dX12_makes_46 : decode cX12_makes 46 = .ok (.getfield 145, 3) := by decide +kernel
theorem dX12_makes_49 : decode cX12_makes 49 = .ok (.iload_n 2, 1) := by decide +kernel
theorem dX12_makes_50 : decode cX12_makes 50 = .ok (.aload_n 0, 1) := by decide +kernel
theorem dX12_makes_51 : decode cX12_makes 51 = .ok (.iload 5, 2) := by decide +kernel
theorem dX12_makes_53 : decode cX12_makes 53 = .ok (.lload_n 3, 1) := by decide +kernel
theorem dX12_makes_54 : decode cX12_makes 54 = .ok (.l2i, 1) := by decide +kernel
theorem dX12_makes_55 : decode cX12_makes 55 = .ok (.invokevirtual 362, 3) := by decide +kernel
theorem dX12_makes_58 : decode cX12_makes 58 = .ok (.iastore, 1) := by decide +kernel
theorem dX12_makes_59 : decode cX12_makes 59 = .ok (.iconst 0, 1) := by decide +kernel
theorem dX12_makes_60 : decode cX12_makes 60 = .ok (.ireturn, 1) := by decide +kernel
theorem dX12_makes_61 : decode cX12_makes 61 = .ok (.aload_n 0, 1) := by decide +kernel
theorem dX12_makes_62 : decode cX12_makes 62 = .ok (.getfield 247, 3) := by decide +kernel
theorem dX12_makes_65 : decode cX12_makes 65 = .ok (.iload 5, 2) := by decide +kernel
theorem dX12_makes_67 : decode cX12_makes 67 = .ok (.bipush 15, 2) := by decide +kernel
theorem dX12_makes_69 : decode cX12_makes 69 = .ok (.iand, 1) := by decide +kernel
theorem dX12_makes_70 : decode cX12_makes 70 = .ok (.laload, 1) := by decide +kernel
theorem dX12_makes_71 : decode cX12_makes 71 = .ok (.lstore 6, 2) := by decide +kernel
theorem dX12_makes_73 : decode cX12_makes 73 = .ok (.lload_n 3, 1) := by decide +kernel
theorem dX12_makes_74 : decode cX12_makes 74 = .ok (.lconst 0, 1) := by decide +kernel
theorem dX12_makes_75 : decode cX12_makes 75 = .ok (.lcmp, 1) := by decide +kernel
theorem dX12_makes_76 : decode cX12_makes 76 = .ok (.ifCond .lt 10, 3) := by decide +kernel
theorem dX12_makes_79 : decode cX12_makes 79 = .ok (.lload 6, 2) := by decide +kernel
theorem dX12_makes_81 : decode cX12_makes 81 = .ok (.lconst 0, 1) := by decide +kernel
theorem dX12_makes_82 : decode cX12_makes 82 = .ok (.lcmp, 1) := by decide +kernel
theorem dX12_makes_83 : decode cX12_makes 83 = .ok (.ifCond .ge 5, 3) := by decide +kernel
theorem dX12_makes_86 : decode cX12_makes 86 = .ok (.iconst 4, 1) := by decide +kernel
theorem dX12_makes_87 : decode cX12_makes 87 = .ok (.ireturn, 1) := by decide +kernel
theorem dX12_makes_88 : decode cX12_makes 88 = .ok (.lload_n 3, 1) := by decide +kernel
theorem dX12_makes_89 : decode cX12_makes 89 = .ok (.ldc2_w 368, 3) := by decide +kernel
theorem dX12_makes_92 : decode cX12_makes 92 = .ok (.lcmp, 1) := by decide +kernel
theorem dX12_makes_93 : decode cX12_makes 93 = .ok (.ifCond .gt 22, 3) := by decide +kernel
theorem dX12_makes_96 : decode cX12_makes 96 = .ok (.lload 6, 2) := by decide +kernel
theorem dX12_makes_98 : decode cX12_makes 98 = .ok (.ldc2_w 368, 3) := by decide +kernel
theorem dX12_makes_101 : decode cX12_makes 101 = .ok (.lcmp, 1) := by decide +kernel
theorem dX12_makes_102 : decode cX12_makes 102 = .ok (.ifCond .gt 13, 3) := by decide +kernel
theorem dX12_makes_105 : decode cX12_makes 105 = .ok (.aload_n 0, 1) := by decide +kernel
theorem dX12_makes_106 : decode cX12_makes 106 = .ok (.lconst 1, 1) := by decide +kernel
theorem dX12_makes_107 : decode cX12_makes 107 = .ok (.lload_n 3, 1) := by decide +kernel
theorem dX12_makes_108 : decode cX12_makes 108 = .ok (.ladd, 1) := by decide +kernel
theorem dX12_makes_109 : decode cX12_makes 109 = .ok (.invokevirtual 359, 3) := by decide +kernel
theorem dX12_makes_112 : decode cX12_makes 112 = .ok (.ifCond .ne 6, 3) := by decide +kernel
theorem dX12_makes_115 : decode cX12_makes 115 = .ok (.bipush 8, 2) := by decide +kernel
theorem dX12_makes_117 : decode cX12_makes 117 = .ok (.ireturn, 1) := by decide +kernel
theorem dX12_makes_118 : decode cX12_makes 118 = .ok (.aload_n 0, 1) := by decide +kernel
theorem dX12_makes_119 : decode cX12_makes 119 = .ok (.bipush 10, 2) := by decide +kernel
theorem dX12_makes_121 : decode cX12_makes 121 = .ok (.lload_n 3, 1) := by decide +kernel
theorem dX12_makes_122 : decode cX12_makes 122 = .ok (.l2i, 1) := by decide +kernel
theorem dX12_makes_123 : decode cX12_makes 123 = .ok (.invokevirtual 362, 3) := by decide +kernel
theorem dX12_makes_126 : decode cX12_makes 126 = .ok (.istore 8, 2) := by decide +kernel
theorem dX12_makes_128 : decode cX12_makes 128 = .ok (.iconst 0, 1) := by decide +kernel
theorem dX12_makes_129 : decode cX12_makes 129 = .ok (.istore 9, 2) := by decide +kernel
theorem dX12_makes_131 : decode cX12_makes 131 = .ok (.iload 9, 2) := by decide +kernel
theorem dX12_makes_133 : decode cX12_makes 133 = .ok (.i2l, 1) := by decide +kernel
theorem dX12_makes_134 : decode cX12_makes 134 = .ok (.lload_n 3, 1) := by decide +kernel
theorem dX12_makes_135 : decode cX12_makes 135 = .ok (.lcmp, 1) := by decide +kernel
theorem dX12_makes_136 : decode cX12_makes 136 = .ok (.ifCond .ge 33, 3) := by decide +kernel
theorem dX12_makes_139 : decode cX12_makes 139 = .ok (.aload_n 0, 1) := by decide +kernel
theorem dX12_makes_140 : decode cX12_makes 140 = .ok (.getfield 168, 3) := by decide +kernel
theorem dX12_makes_143 : decode cX12_makes 143 = .ok (.aload_n 0, 1) := by decide +kernel
theorem dX12_makes_144 : decode cX12_makes 144 = .ok (.getfield 158, 3) := by decide +kernel
theorem dX12_makes_147 : decode cX12_makes 147 = .ok (.iload 8, 2) := by decide +kernel
theorem dX12_makes_149 : decode cX12_makes 149 = .ok (.iaload, 1) := by decide +kernel
theorem dX12_makes_150 : decode cX12_makes 150 = .ok (.iload 9, 2) := by decide +kernel
theorem dX12_makes_152 : decode cX12_makes 152 = .ok (.iadd, 1) := by decide +kernel
theorem dX12_makes_153 : decode cX12_makes 153 = .ok (.aload_n 0, 1) := by decide +kernel
theorem dX12_makes_154 : decode cX12_makes 154 = .ok (.iconst 4, 1) := by decide +kernel
theorem dX12_makes_155 : decode cX12_makes 155 = .ok (.lload 6, 2) := by decide +kernel
theorem dX12_makes_157 : decode cX12_makes 157 = .ok (.l2i, 1) := by decide +kernel
theorem dX12_makes_158 : decode cX12_makes 158 = .ok (.invokevirtual 362, 3) := by decide +kernel
theorem dX12_makes_161 : decode cX12_makes 161 = .ok (.i2l, 1) := by decide +kernel
theorem dX12_makes_162 : decode cX12_makes 162 = .ok (.lastore, 1) := by decide +kernel
theorem dX12_makes_163 : decode cX12_makes 163 = .ok (.iinc 9 1, 3) := by decide +kernel
theorem dX12_makes_166 : decode cX12_makes 166 = .ok (.goto (-35), 3) := by decide +kernel
theorem dX12_makes_169 : decode cX12_makes 169 = .ok (.aload_n 0, 1) := by decide +kernel
theorem dX12_makes_170 : decode cX12_makes 170 = .ok (.getfield 145, 3) := by decide +kernel
theorem dX12_makes_173 : decode cX12_makes 173 = .ok (.iload_n 2, 1) := by decide +kernel
theorem dX12_makes_174 : decode cX12_makes 174 = .ok (.iload 8, 2) := by decide +kernel
theorem dX12_makes_176 : decode cX12_makes 176 = .ok (.iastore, 1) := by decide +kernel
theorem dX12_makes_177 : decode cX12_makes 177 = .ok (.iconst 0, 1) := by decide +kernel
theorem dX12_makes_178 : decode cX12_makes 178 = .ok (.ireturn, 1) := by decide +kernel
theorem dX12_belongs_0 : decode cX12_belongs 0 = .ok (.iload_n 1, 1) := by decide +kernel
theorem dX12_belongs_1 : decode cX12_belongs 1 = .ok (.ifCond .eq 54, 3) := by decide +kernel
theorem dX12_belongs_4 : decode cX12_belongs 4 = .ok (.iload_n 2, 1) := by decide +kernel
theorem dX12_belongs_5 : decode cX12_belongs 5 = .ok (.bipush 8, 2) := by decide +kernel
theorem dX12_belongs_7 : decode cX12_belongs 7 = .ok (.if_icmp .ne 18, 3) := by decide +kernel
theorem dX12_belongs_10 : decode cX12_belongs 10 = .ok (.aload_n 0, 1) := by decide +kernel
theorem dX12_belongs_11 : decode cX12_belongs 11 = .ok (.getfield 149, 3) := by decide +kernel
theorem dX12_belongs_14 : decode cX12_belongs 14 = .ok (.iload_n 1, 1) := by decide +kernel
theorem dX12_belongs_15 : decode cX12_belongs 15 = .ok (.iaload, 1) := by decide +kernel
theorem dX12_belongs_16 : decode cX12_belongs 16 = .ok (.invokestatic 370, 3) := by decide +kernel
theorem dX12_belongs_19 : decode cX12_belongs 19 = .ok (.ifCond .eq 40, 3) := by decide +kernel
theorem dX12_belongs_22 : decode cX12_belongs 22 = .ok (.goto 33, 3) := by decide +kernel
theorem dX12_belongs_25 : decode cX12_belongs 25 = .ok (.iload_n 2, 1) := by decide +kernel
theorem dX12_belongs_26 : decode cX12_belongs 26 = .ok (.bipush 9, 2) := by decide +kernel
theorem dX12_belongs_28 : decode cX12_belongs 28 = .ok (.if_icmp .ne 17, 3) := by decide +kernel
theorem dX12_belongs_31 : decode cX12_belongs 31 = .ok (.aload_n 0, 1) := by decide +kernel
theorem dX12_belongs_32 : decode cX12_belongs 32 = .ok (.getfield 149, 3) := by decide +kernel
theorem dX12_belongs_35 : decode cX12_belongs 35 = .ok (.iload_n 1, 1) := by decide +kernel
theorem dX12_belongs_36 : decode cX12_belongs 36 = .ok (.iaload, 1) := by decide +kernel
theorem dX12_belongs_37 : decode cX12_belongs 37 = .ok (.bipush 12, 2) := by decide +kernel
theorem dX12_belongs_39 : decode cX12_belongs 39 = .ok (.if_icmp .ne 20, 3) := by decide +kernel
theorem dX12_belongs_42 : decode cX12_belongs 42 = .ok (.goto 13, 3) := by decide +kernel
theorem dX12_belongs_45 : decode cX12_belongs 45 = .ok (.aload_n 0, 1) := by decide +kernel
theorem dX12_belongs_46 : decode cX12_belongs 46 = .ok (.getfield 149, 3) := by decide +kernel
theorem dX12_belongs_49 : decode cX12_belongs 49 = .ok (.iload_n 1, 1) := by decide +kernel
theorem dX12_belongs_50 : decode cX12_belongs 50 = .ok (.iaload, 1) := by decide +kernel
theorem dX12_belongs_51 : decode cX12_belongs 51 = .ok (.iconst 4, 1) := by decide +kernel
theorem dX12_belongs_52 : decode cX12_belongs 52 = .ok (.if_icmp .ne 7, 3) := by decide +kernel
theorem dX12_belongs_55 : decode cX12_belongs 55 = .ok (.iconst 1, 1) := by decide +kernel
theorem dX12_belongs_56 : decode cX12_belongs 56 = .ok (.goto 4, 3) := by decide +kernel
theorem dX12_belongs_59 : decode cX12_belongs 59 = .ok (.iconst 0, 1) := by decide +kernel
theorem dX12_belongs_60 : decode cX12_belongs 60 = .ok (.ireturn, 1) := by decide +kernel
theorem dX12_copies_0 : decode cX12_copies 0 = .ok (.iload_n 1, 1) := by decide +kernel
theorem dX12_copies_1 : decode cX12_copies 1 = .ok (.ifCond .eq 7, 3) := by decide +kernel
theorem dX12_copies_4 : decode cX12_copies 4 = .ok (.iload_n 2, 1) := by decide +kernel
theorem dX12_copies_5 : decode cX12_copies 5 = .ok (.ifCond .ne 5, 3) := by decide +kernel
theorem dX12_copies_8 : decode cX12_copies 8 = .ok (.iconst 1, 1) := by decide +kernel
theorem dX12_copies_9 : decode cX12_copies 9 = .ok (.ireturn, 1) := by decide +kernel
theorem dX12_copies_10 : decode cX12_copies 10 = .ok (.aload_n 0, 1) := by decide +kernel
theorem dX12_copies_11 : decode cX12_copies 11 = .ok (.getfield 149, 3) := by decide +kernel
theorem dX12_copies_14 : decode cX12_copies 14 = .ok (.iload_n 1, 1) := by decide +kernel
theorem dX12_copies_15 : decode cX12_copies 15 = .ok (.iaload, 1) := by decide +kernel
theorem dX12_copies_16 : decode cX12_copies 16 = .ok (.aload_n 0, 1) := by decide +kernel
theorem dX12_copies_17 : decode cX12_copies 17 = .ok (.getfield 149, 3) := by decide +kernel
theorem dX12_copies_20 : decode cX12_copies 20 = .ok (.iload_n 2, 1) := by decide +kernel
theorem dX12_copies_21 : decode cX12_copies 21 = .ok (.iaload, 1) := by decide +kernel
theorem dX12_copies_22 : decode cX12_copies 22 = .ok (.if_icmp .eq 25, 3) := by decide +kernel
theorem dX12_copies_25 : decode cX12_copies 25 = .ok (.aload_n 0, 1) := by decide +kernel
theorem dX12_copies_26 : decode cX12_copies 26 = .ok (.getfield 149, 3) := by decide +kernel
theorem dX12_copies_29 : decode cX12_copies 29 = .ok (.iload_n 1, 1) := by decide +kernel
theorem dX12_copies_30 : decode cX12_copies 30 = .ok (.iaload, 1) := by decide +kernel
theorem dX12_copies_31 : decode cX12_copies 31 = .ok (.bipush 8, 2) := by decide +kernel
theorem dX12_copies_33 : decode cX12_copies 33 = .ok (.if_icmp .lt 18, 3) := by decide +kernel
theorem dX12_copies_36 : decode cX12_copies 36 = .ok (.aload_n 0, 1) := by decide +kernel
theorem dX12_copies_37 : decode cX12_copies 37 = .ok (.getfield 149, 3) := by decide +kernel
theorem dX12_copies_40 : decode cX12_copies 40 = .ok (.iload_n 2, 1) := by decide +kernel
theorem dX12_copies_41 : decode cX12_copies 41 = .ok (.iaload, 1) := by decide +kernel
theorem dX12_copies_42 : decode cX12_copies 42 = .ok (.bipush 8, 2) := by decide +kernel
theorem dX12_copies_44 : decode cX12_copies 44 = .ok (.if_icmp .lt 7, 3) := by decide +kernel
theorem dX12_copies_47 : decode cX12_copies 47 = .ok (.iconst 1, 1) := by decide +kernel
theorem dX12_copies_48 : decode cX12_copies 48 = .ok (.goto 4, 3) := by decide +kernel
theorem dX12_copies_51 : decode cX12_copies 51 = .ok (.iconst 0, 1) := by decide +kernel
theorem dX12_copies_52 : decode cX12_copies 52 = .ok (.istore 6, 2) := by decide +kernel
theorem dX12_copies_54 : decode cX12_copies 54 = .ok (.aload_n 0, 1) := by decide +kernel
theorem dX12_copies_55 : decode cX12_copies 55 = .ok (.getfield 149, 3) := by decide +kernel
theorem dX12_copies_58 : decode cX12_copies 58 = .ok (.iload_n 1, 1) := by decide +kernel
theorem dX12_copies_59 : decode cX12_copies 59 = .ok (.iaload, 1) := by decide +kernel
theorem dX12_copies_60 : decode cX12_copies 60 = .ok (.invokestatic 352, 3) := by decide +kernel
theorem dX12_copies_63 : decode cX12_copies 63 = .ok (.ifCond .eq 20, 3) := by decide +kernel
theorem dX12_copies_66 : decode cX12_copies 66 = .ok (.aload_n 0, 1) := by decide +kernel
theorem dX12_copies_67 : decode cX12_copies 67 = .ok (.getfield 149, 3) := by decide +kernel
theorem dX12_copies_70 : decode cX12_copies 70 = .ok (.iload_n 2, 1) := by decide +kernel
theorem dX12_copies_71 : decode cX12_copies 71 = .ok (.iaload, 1) := by decide +kernel
theorem dX12_copies_72 : decode cX12_copies 72 = .ok (.invokestatic 352, 3) := by decide +kernel
theorem dX12_copies_75 : decode cX12_copies 75 = .ok (.ifCond .eq 8, 3) := by decide +kernel
theorem dX12_copies_78 : decode cX12_copies 78 = .ok (.iload 6, 2) := by decide +kernel
theorem dX12_copies_80 : decode cX12_copies 80 = .ok (.ifCond .ne 5, 3) := by decide +kernel
theorem dX12_copies_83 : decode cX12_copies 83 = .ok (.iconst 5, 1) := by decide +kernel
theorem dX12_copies_84 : decode cX12_copies 84 = .ok (.ireturn, 1) := by decide +kernel
theorem dX12_copies_85 : decode cX12_copies 85 = .ok (.iload_n 3, 1) := by decide +kernel
theorem dX12_copies_86 : decode cX12_copies 86 = .ok (.ifCond .lt 48, 3) := by decide +kernel
theorem dX12_copies_89 : decode cX12_copies 89 = .ok (.iload 4, 2) := by decide +kernel
theorem dX12_copies_91 : decode cX12_copies 91 = .ok (.ifCond .lt 43, 3) := by decide +kernel
theorem dX12_copies_94 : decode cX12_copies 94 = .ok (.iload 5, 2) := by decide +kernel
theorem dX12_copies_96 : decode cX12_copies 96 = .ok (.ifCond .lt 38, 3) := by decide +kernel
theorem dX12_copies_99 : decode cX12_copies 99 = .ok (.iload_n 3, 1) := by decide +kernel
theorem dX12_copies_100 : decode cX12_copies 100 = .ok (.i2l, 1) := by decide +kernel
theorem dX12_copies_101 : decode cX12_copies 101 = .ok (.iload 5, 2) := by decide +kernel
theorem dX12_copies_103 : decode cX12_copies 103 = .ok (.i2l, 1) := by decide +kernel
theorem dX12_copies_104 : decode cX12_copies 104 = .ok (.ladd, 1) := by decide +kernel
theorem dX12_copies_105 : decode cX12_copies 105 = .ok (.aload_n 0, 1) := by decide +kernel
theorem dX12_copies_106 : decode cX12_copies 106 = .ok (.getfield 155, 3) := by decide +kernel
theorem dX12_copies_109 : decode cX12_copies 109 = .ok (.iload_n 1, 1) := by decide +kernel
theorem dX12_copies_110 : decode cX12_copies 110 = .ok (.iaload, 1) := by decide +kernel
theorem dX12_copies_111 : decode cX12_copies 111 = .ok (.i2l, 1) := by decide +kernel
theorem dX12_copies_112 : decode cX12_copies 112 = .ok (.lcmp, 1) := by decide +kernel
theorem dX12_copies_113 : decode cX12_copies 113 = .ok (.ifCond .gt 21, 3) := by decide +kernel
theorem dX12_copies_116 : decode cX12_copies 116 = .ok (.iload 4, 2) := by decide +kernel
theorem dX12_copies_118 : decode cX12_copies 118 = .ok (.i2l, 1) := by decide +kernel
theorem dX12_copies_119 : decode cX12_copies 119 = .ok (.iload 5, 2) := by decide +kernel
theorem dX12_copies_121 : decode cX12_copies 121 = .ok (.i2l, 1) := by decide +kernel
theorem dX12_copies_122 : decode cX12_copies 122 = .ok (.ladd, 1) := by decide +kernel
theorem dX12_copies_123 : decode cX12_copies 123 = .ok (.aload_n 0, 1) := by decide +kernel
theorem dX12_copies_124 : decode cX12_copies 124 = .ok (.getfield 155, 3) := by decide +kernel
theorem dX12_copies_127 : decode cX12_copies 127 = .ok (.iload_n 2, 1) := by decide +kernel
theorem dX12_copies_128 : decode cX12_copies 128 = .ok (.iaload, 1) := by decide +kernel
theorem dX12_copies_129 : decode cX12_copies 129 = .ok (.i2l, 1) := by decide +kernel
theorem dX12_copies_130 : decode cX12_copies 130 = .ok (.lcmp, 1) := by decide +kernel
theorem dX12_copies_131 : decode cX12_copies 131 = .ok (.ifCond .le 5, 3) := by decide +kernel
theorem dX12_copies_134 : decode cX12_copies 134 = .ok (.iconst 3, 1) := by decide +kernel
theorem dX12_copies_135 : decode cX12_copies 135 = .ok (.ireturn, 1) := by decide +kernel
theorem dX12_copies_136 : decode cX12_copies 136 = .ok (.iload_n 1, 1) := by decide +kernel
theorem dX12_copies_137 : decode cX12_copies 137 = .ok (.iload_n 2, 1) := by decide +kernel
theorem dX12_copies_138 : decode cX12_copies 138 = .ok (.if_icmp .ne 13, 3) := by decide +kernel
theorem dX12_copies_141 : decode cX12_copies 141 = .ok (.iload_n 3, 1) := by decide +kernel
theorem dX12_copies_142 : decode cX12_copies 142 = .ok (.iload 4, 2) := by decide +kernel
theorem dX12_copies_144 : decode cX12_copies 144 = .ok (.if_icmp .ge 7, 3) := by decide +kernel
theorem dX12_copies_147 : decode cX12_copies 147 = .ok (.iconst 1, 1) := by decide +kernel
theorem dX12_copies_148 : decode cX12_copies 148 = .ok (.goto 4, 3) := by decide +kernel
theorem dX12_copies_151 : decode cX12_copies 151 = .ok (.iconst 0, 1) := by decide +kernel
theorem dX12_copies_152 : decode cX12_copies 152 = .ok (.istore 7, 2) := by decide +kernel
theorem dX12_copies_154 : decode cX12_copies 154 = .ok (.iconst 0, 1) := by decide +kernel
theorem dX12_copies_155 : decode cX12_copies 155 = .ok (.istore 8, 2) := by decide +kernel
theorem dX12_copies_157 : decode cX12_copies 157 = .ok (.iload 8, 2) := by decide +kernel
theorem dX12_copies_159 : decode cX12_copies 159 = .ok (.iload 5, 2) := by decide +kernel
theorem dX12_copies_161 : decode cX12_copies 161 = .ok (.if_icmp .ge 94, 3) := by decide +kernel
theorem dX12_copies_164 : decode cX12_copies 164 = .ok (.iload 7, 2) := by decide +kernel
theorem dX12_copies_166 : decode cX12_copies 166 = .ok (.ifCond .eq 13, 3) := by decide +kernel
theorem dX12_copies_169 : decode cX12_copies 169 = .ok (.iload 5, 2) := by decide +kernel
theorem dX12_copies_171 : decode cX12_copies 171 = .ok (.iconst 1, 1) := by decide +kernel
theorem dX12_copies_172 : decode cX12_copies 172 = .ok (.isub, 1) := by decide +kernel
theorem dX12_copies_173 : decode cX12_copies 173 = .ok (.iload 8, 2) := by decide +kernel
theorem dX12_copies_175 : decode cX12_copies 175 = .ok (.isub, 1) := by decide +kernel
theorem dX12_copies_176 : decode cX12_copies 176 = .ok (.goto 5, 3) := by decide +kernel
theorem dX12_copies_179 : decode cX12_copies 179 = .ok (.iload 8, 2) := by decide +kernel
theorem dX12_copies_181 : decode cX12_copies 181 = .ok (.istore 9, 2) := by decide +kernel
theorem dX12_copies_183 : decode cX12_copies 183 = .ok (.aload_n 0, 1) := by decide +kernel
theorem dX12_copies_184 : decode cX12_copies 184 = .ok (.getfield 168, 3) := by decide +kernel
theorem dX12_copies_187 : decode cX12_copies 187 = .ok (.aload_n 0, 1) := by decide +kernel
theorem dX12_copies_188 : decode cX12_copies 188 = .ok (.getfield 158, 3) := by decide +kernel
theorem dX12_copies_191 : decode cX12_copies 191 = .ok (.iload_n 1, 1) := by decide +kernel
theorem dX12_copies_192 : decode cX12_copies 192 = .ok (.iaload, 1) := by decide +kernel
theorem dX12_copies_193 : decode cX12_copies 193 = .ok (.iload_n 3, 1) := by decide +kernel
theorem dX12_copies_194 : decode cX12_copies 194 = .ok (.iadd, 1) := by decide +kernel
theorem dX12_copies_195 : decode cX12_copies 195 = .ok (.iload 9, 2) := by decide +kernel
theorem dX12_copies_197 : decode cX12_copies 197 = .ok (.iadd, 1) := by decide +kernel
theorem dX12_copies_198 : decode cX12_copies 198 = .ok (.laload, 1) := by decide +kernel
theorem dX12_copies_199 : decode cX12_copies 199 = .ok (.lstore 10, 2) := by decide +kernel
theorem dX12_copies_201 : decode cX12_copies 201 = .ok (.aload_n 0, 1) := by decide +kernel
theorem dX12_copies_202 : decode cX12_copies 202 = .ok (.getfield 149, 3) := by decide +kernel
theorem dX12_copies_205 : decode cX12_copies 205 = .ok (.iload_n 2, 1) := by decide +kernel
theorem dX12_copies_206 : decode cX12_copies 206 = .ok (.iaload, 1) := by decide +kernel
theorem dX12_copies_207 : decode cX12_copies 207 = .ok (.bipush 8, 2) := by decide +kernel
theorem dX12_copies_209 : decode cX12_copies 209 = .ok (.if_icmp .lt 21, 3) := by decide +kernel
theorem dX12_copies_212 : decode cX12_copies 212 = .ok (.aload_n 0, 1) := by decide +kernel
theorem dX12_copies_213 : decode cX12_copies 213 = .ok (.lload 10, 2) := by decide +kernel
theorem dX12_copies_215 : decode cX12_copies 215 = .ok (.l2i, 1) := by decide +kernel
theorem dX12_copies_216 : decode cX12_copies 216 = .ok (.aload_n 0, 1) := by decide +kernel
theorem dX12_copies_217 : decode cX12_copies 217 = .ok (.getfield 149, 3) := by decide +kernel
theorem dX12_copies_220 : decode cX12_copies 220 = .ok (.iload_n 2, 1) := by decide +kernel
theorem dX12_copies_221 : decode cX12_copies 221 = .ok (.iaload, 1) := by decide +kernel
theorem dX12_copies_222 : decode cX12_copies 222 = .ok (.invokevirtual 373, 3) := by decide +kernel
theorem dX12_copies_225 : decode cX12_copies 225 = .ok (.ifCond .ne 5, 3) := by decide +kernel
theorem dX12_copies_228 : decode cX12_copies 228 = .ok (.iconst 5, 1) := by decide +kernel
theorem dX12_copies_229 : decode cX12_copies 229 = .ok (.ireturn, 1) := by decide +kernel
theorem dX12_copies_230 : decode cX12_copies 230 = .ok (.aload_n 0, 1) := by decide +kernel
theorem dX12_copies_231 : decode cX12_copies 231 = .ok (.getfield 168, 3) := by decide +kernel
theorem dX12_copies_234 : decode cX12_copies 234 = .ok (.aload_n 0, 1) := by decide +kernel
theorem dX12_copies_235 : decode cX12_copies 235 = .ok (.getfield 158, 3) := by decide +kernel
theorem dX12_copies_238 : decode cX12_copies 238 = .ok (.iload_n 2, 1) := by decide +kernel
theorem dX12_copies_239 : decode cX12_copies 239 = .ok (.iaload, 1) := by decide +kernel
theorem dX12_copies_240 : decode cX12_copies 240 = .ok (.iload 4, 2) := by decide +kernel
theorem dX12_copies_242 : decode cX12_copies 242 = .ok (.iadd, 1) := by decide +kernel
theorem dX12_copies_243 : decode cX12_copies 243 = .ok (.iload 9, 2) := by decide +kernel
theorem dX12_copies_245 : decode cX12_copies 245 = .ok (.iadd, 1) := by decide +kernel
theorem dX12_copies_246 : decode cX12_copies 246 = .ok (.lload 10, 2) := by decide +kernel
theorem dX12_copies_248 : decode cX12_copies 248 = .ok (.lastore, 1) := by decide +kernel
theorem dX12_copies_249 : decode cX12_copies 249 = .ok (.iinc 8 1, 3) := by decide +kernel
theorem dX12_copies_252 : decode cX12_copies 252 = .ok (.goto (-95), 3) := by decide +kernel
theorem dX12_copies_255 : decode cX12_copies 255 = .ok (.iconst 0, 1) := by decide +kernel
theorem dX12_copies_256 : decode cX12_copies 256 = .ok (.ireturn, 1) := by decide +kernel
theorem dX12_loads_0 : decode cX12_loads 0 = .ok (.aload_n 0, 1) := by decide +kernel
theorem dX12_loads_1 : decode cX12_loads 1 = .ok (.iload_n 3, 1) := by decide +kernel
theorem dX12_loads_2 : decode cX12_loads 2 = .ok (.invokevirtual 349, 3) := by decide +kernel
theorem dX12_loads_5 : decode cX12_loads 5 = .ok (.istore 5, 2) := by decide +kernel
theorem dX12_loads_7 : decode cX12_loads 7 = .ok (.iload 5, 2) := by decide +kernel
theorem dX12_loads_9 : decode cX12_loads 9 = .ok (.iconst (-1), 1) := by decide +kernel
theorem dX12_loads_10 : decode cX12_loads 10 = .ok (.if_icmp .eq 24, 3) := by decide +kernel
theorem dX12_loads_13 : decode cX12_loads 13 = .ok (.iload 5, 2) := by decide +kernel
theorem dX12_loads_15 : decode cX12_loads 15 = .ok (.iload_n 1, 1) := by decide +kernel
theorem dX12_loads_16 : decode cX12_loads 16 = .ok (.if_icmp .eq 18, 3) := by decide +kernel
theorem dX12_loads_19 : decode cX12_loads 19 = .ok (.iload_n 1, 1) := by decide +kernel
theorem dX12_loads_20 : decode cX12_loads 20 = .ok (.bipush 8, 2) := by decide +kernel
theorem dX12_loads_22 : decode cX12_loads 22 = .ok (.if_icmp .ne 10, 3) := by decide +kernel
theorem dX12_loads_25 : decode cX12_loads 25 = .ok (.iload 5, 2) := by decide +kernel
theorem dX12_loads_27 : decode cX12_loads 27 = .ok (.bipush 9, 2) := by decide +kernel
theorem dX12_loads_29 : decode cX12_loads 29 = .ok (.if_icmp .eq 5, 3) := by decide +kernel
theorem dX12_loads_32 : decode cX12_loads 32 = .ok (.iconst 2, 1) := by decide +kernel
theorem dX12_loads_33 : decode cX12_loads 33 = .ok (.ireturn, 1) := by decide +kernel
theorem dX12_loads_34 : decode cX12_loads 34 = .ok (.iload 5, 2) := by decide +kernel
theorem dX12_loads_36 : decode cX12_loads 36 = .ok (.iconst (-1), 1) := by decide +kernel
theorem dX12_loads_37 : decode cX12_loads 37 = .ok (.if_icmp .ne 5, 3) := by decide +kernel
theorem dX12_loads_40 : decode cX12_loads 40 = .ok (.iconst 1, 1) := by decide +kernel
theorem dX12_loads_41 : decode cX12_loads 41 = .ok (.ireturn, 1) := by decide +kernel
theorem dX12_loads_42 : decode cX12_loads 42 = .ok (.aload_n 0, 1) := by decide +kernel
theorem dX12_loads_43 : decode cX12_loads 43 = .ok (.getfield 145, 3) := by decide +kernel
theorem dX12_loads_46 : decode cX12_loads 46 = .ok (.iload_n 3, 1) := by decide +kernel
theorem dX12_loads_47 : decode cX12_loads 47 = .ok (.bipush 15, 2) := by decide +kernel
theorem dX12_loads_49 : decode cX12_loads 49 = .ok (.iand, 1) := by decide +kernel
theorem dX12_loads_50 : decode cX12_loads 50 = .ok (.iaload, 1) := by decide +kernel
theorem dX12_loads_51 : decode cX12_loads 51 = .ok (.istore 6, 2) := by decide +kernel
theorem dX12_loads_53 : decode cX12_loads 53 = .ok (.aload_n 0, 1) := by decide +kernel
theorem dX12_loads_54 : decode cX12_loads 54 = .ok (.getfield 247, 3) := by decide +kernel
theorem dX12_loads_57 : decode cX12_loads 57 = .ok (.iload 4, 2) := by decide +kernel
theorem dX12_loads_59 : decode cX12_loads 59 = .ok (.bipush 15, 2) := by decide +kernel
theorem dX12_loads_61 : decode cX12_loads 61 = .ok (.iand, 1) := by decide +kernel
theorem dX12_loads_62 : decode cX12_loads 62 = .ok (.laload, 1) := by decide +kernel
theorem dX12_loads_63 : decode cX12_loads 63 = .ok (.l2i, 1) := by decide +kernel
theorem dX12_loads_64 : decode cX12_loads 64 = .ok (.istore 7, 2) := by decide +kernel
theorem dX12_loads_66 : decode cX12_loads 66 = .ok (.iload 7, 2) := by decide +kernel
theorem dX12_loads_68 : decode cX12_loads 68 = .ok (.ifCond .lt 15, 3) := by decide +kernel
theorem dX12_loads_71 : decode cX12_loads 71 = .ok (.iload 7, 2) := by decide +kernel
theorem dX12_loads_73 : decode cX12_loads 73 = .ok (.aload_n 0, 1) := by decide +kernel
theorem dX12_loads_74 : decode cX12_loads 74 = .ok (.getfield 155, 3) := by decide +kernel
theorem dX12_loads_77 : decode cX12_loads 77 = .ok (.iload 6, 2) := by decide +kernel
theorem dX12_loads_79 : decode cX12_loads 79 = .ok (.iaload, 1) := by decide +kernel
theorem dX12_loads_80 : decode cX12_loads 80 = .ok (.if_icmp .lt 5, 3) := by decide +kernel
theorem dX12_loads_83 : decode cX12_loads 83 = .ok (.iconst 3, 1) := by decide +kernel
theorem dX12_loads_84 : decode cX12_loads 84 = .ok (.ireturn, 1) := by decide +kernel
theorem dX12_loads_85 : decode cX12_loads 85 = .ok (.aload_n 0, 1) := by decide +kernel
theorem dX12_loads_86 : decode cX12_loads 86 = .ok (.getfield 168, 3) := by decide +kernel
theorem dX12_loads_89 : decode cX12_loads 89 = .ok (.aload_n 0, 1) := by decide +kernel
theorem dX12_loads_90 : decode cX12_loads 90 = .ok (.getfield 158, 3) := by decide +kernel
theorem dX12_loads_93 : decode cX12_loads 93 = .ok (.iload 6, 2) := by decide +kernel
theorem dX12_loads_95 : decode cX12_loads 95 = .ok (.iaload, 1) := by decide +kernel
theorem dX12_loads_96 : decode cX12_loads 96 = .ok (.iload 7, 2) := by decide +kernel
theorem dX12_loads_98 : decode cX12_loads 98 = .ok (.iadd, 1) := by decide +kernel
theorem dX12_loads_99 : decode cX12_loads 99 = .ok (.laload, 1) := by decide +kernel
theorem dX12_loads_100 : decode cX12_loads 100 = .ok (.lstore 8, 2) := by decide +kernel
theorem dX12_loads_102 : decode cX12_loads 102 = .ok (.iload_n 1, 1) := by decide +kernel
theorem dX12_loads_103 : decode cX12_loads 103 = .ok (.bipush 6, 2) := by decide +kernel
theorem dX12_loads_105 : decode cX12_loads 105 = .ok (.if_icmp .ge 14, 3) := by decide +kernel
theorem dX12_loads_108 : decode cX12_loads 108 = .ok (.aload_n 0, 1) := by decide +kernel
theorem dX12_loads_109 : decode cX12_loads 109 = .ok (.getfield 247, 3) := by decide +kernel
theorem dX12_loads_112 : decode cX12_loads 112 = .ok (.iload_n 2, 1) := by decide +kernel
theorem dX12_loads_113 : decode cX12_loads 113 = .ok (.lload 8, 2) := by decide +kernel
theorem dX12_loads_115 : decode cX12_loads 115 = .ok (.lastore, 1) := by decide +kernel
theorem dX12_loads_116 : decode cX12_loads 116 = .ok (.goto 29, 3) := by decide +kernel
theorem dX12_loads_119 : decode cX12_loads 119 = .ok (.iload_n 1, 1) := by decide +kernel
theorem dX12_loads_120 : decode cX12_loads 120 = .ok (.bipush 8, 2) := by decide +kernel
theorem dX12_loads_122 : decode cX12_loads 122 = .ok (.if_icmp .ge 14, 3) := by decide +kernel
theorem dX12_loads_125 : decode cX12_loads 125 = .ok (.aload_n 0, 1) := by decide +kernel
theorem dX12_loads_126 : decode cX12_loads 126 = .ok (.getfield 297, 3) := by decide +kernel
theorem dX12_loads_129 : decode cX12_loads 129 = .ok (.iload_n 2, 1) := by decide +kernel
theorem dX12_loads_130 : decode cX12_loads 130 = .ok (.lload 8, 2) := by decide +kernel
theorem dX12_loads_132 : decode cX12_loads 132 = .ok (.lastore, 1) := by decide +kernel
theorem dX12_loads_133 : decode cX12_loads 133 = .ok (.goto 12, 3) := by decide +kernel
theorem dX12_loads_136 : decode cX12_loads 136 = .ok (.aload_n 0, 1) := by decide +kernel
theorem dX12_loads_137 : decode cX12_loads 137 = .ok (.getfield 145, 3) := by decide +kernel
theorem dX12_loads_140 : decode cX12_loads 140 = .ok (.iload_n 2, 1) := by decide +kernel
theorem dX12_loads_141 : decode cX12_loads 141 = .ok (.lload 8, 2) := by decide +kernel
theorem dX12_loads_143 : decode cX12_loads 143 = .ok (.l2i, 1) := by decide +kernel
theorem dX12_loads_144 : decode cX12_loads 144 = .ok (.iastore, 1) := by decide +kernel
theorem dX12_loads_145 : decode cX12_loads 145 = .ok (.iconst 0, 1) := by decide +kernel
theorem dX12_loads_146 : decode cX12_loads 146 = .ok (.ireturn, 1) := by decide +kernel
theorem dX12_stores_0 : decode cX12_stores 0 = .ok (.aload_n 0, 1) := by decide +kernel
theorem dX12_stores_1 : decode cX12_stores 1 = .ok (.iload_n 2, 1) := by decide +kernel
theorem dX12_stores_2 : decode cX12_stores 2 = .ok (.invokevirtual 349, 3) := by decide +kernel
theorem dX12_stores_5 : decode cX12_stores 5 = .ok (.istore 5, 2) := by decide +kernel
theorem dX12_stores_7 : decode cX12_stores 7 = .ok (.iload_n 1, 1) := by decide +kernel
theorem dX12_stores_8 : decode cX12_stores 8 = .ok (.bipush 7, 2) := by decide +kernel
theorem dX12_stores_10 : decode cX12_stores 10 = .ok (.if_icmp .le 50, 3) := by decide +kernel
theorem dX12_stores_13 : decode cX12_stores 13 = .ok (.iload 5, 2) := by decide +kernel
theorem dX12_stores_15 : decode cX12_stores 15 = .ok (.iconst (-1), 1) := by decide +kernel
theorem dX12_stores_16 : decode cX12_stores 16 = .ok (.if_icmp .eq 44, 3) := by decide +kernel
theorem dX12_stores_19 : decode cX12_stores 19 = .ok (.iload_n 1, 1) := by decide +kernel
theorem dX12_stores_20 : decode cX12_stores 20 = .ok (.bipush 8, 2) := by decide +kernel
theorem dX12_stores_22 : decode cX12_stores 22 = .ok (.if_icmp .ne 14, 3) := by decide +kernel
theorem dX12_stores_25 : decode cX12_stores 25 = .ok (.iload 5, 2) := by decide +kernel
theorem dX12_stores_27 : decode cX12_stores 27 = .ok (.invokestatic 370, 3) := by decide +kernel
theorem dX12_stores_30 : decode cX12_stores 30 = .ok (.ifCond .ne 30, 3) := by decide +kernel
theorem dX12_stores_33 : decode cX12_stores 33 = .ok (.goto 25, 3) := by decide +kernel
theorem dX12_stores_36 : decode cX12_stores 36 = .ok (.iload_n 1, 1) := by decide +kernel
theorem dX12_stores_37 : decode cX12_stores 37 = .ok (.bipush 9, 2) := by decide +kernel
theorem dX12_stores_39 : decode cX12_stores 39 = .ok (.if_icmp .ne 13, 3) := by decide +kernel
theorem dX12_stores_42 : decode cX12_stores 42 = .ok (.iload 5, 2) := by decide +kernel
theorem dX12_stores_44 : decode cX12_stores 44 = .ok (.bipush 12, 2) := by decide +kernel
theorem dX12_stores_46 : decode cX12_stores 46 = .ok (.if_icmp .eq 14, 3) := by decide +kernel
theorem dX12_stores_49 : decode cX12_stores 49 = .ok (.goto 9, 3) := by decide +kernel
theorem dX12_stores_52 : decode cX12_stores 52 = .ok (.iload 5, 2) := by decide +kernel
theorem dX12_stores_54 : decode cX12_stores 54 = .ok (.iconst 4, 1) := by decide +kernel
theorem dX12_stores_55 : decode cX12_stores 55 = .ok (.if_icmp .eq 5, 3) := by decide +kernel
theorem dX12_stores_58 : decode cX12_stores 58 = .ok (.iconst 2, 1) := by decide +kernel
theorem dX12_stores_59 : decode cX12_stores 59 = .ok (.ireturn, 1) := by decide +kernel
theorem dX12_stores_60 : decode cX12_stores 60 = .ok (.aload_n 0, 1) := by decide +kernel
theorem dX12_stores_61 : decode cX12_stores 61 = .ok (.iload_n 3, 1) := by decide +kernel
theorem dX12_stores_62 : decode cX12_stores 62 = .ok (.invokevirtual 349, 3) := by decide +kernel
theorem dX12_stores_65 : decode cX12_stores 65 = .ok (.istore 6, 2) := by decide +kernel
theorem dX12_stores_67 : decode cX12_stores 67 = .ok (.iload 6, 2) := by decide +kernel
theorem dX12_stores_69 : decode cX12_stores 69 = .ok (.iconst (-1), 1) := by decide +kernel
theorem dX12_stores_70 : decode cX12_stores 70 = .ok (.if_icmp .eq 24, 3) := by decide +kernel
theorem dX12_stores_73 : decode cX12_stores 73 = .ok (.iload 6, 2) := by decide +kernel
theorem dX12_stores_75 : decode cX12_stores 75 = .ok (.iload_n 1, 1) := by decide +kernel
theorem dX12_stores_76 : decode cX12_stores 76 = .ok (.if_icmp .eq 18, 3) := by decide +kernel
theorem dX12_stores_79 : decode cX12_stores 79 = .ok (.iload_n 1, 1) := by decide +kernel
theorem dX12_stores_80 : decode cX12_stores 80 = .ok (.bipush 8, 2) := by decide +kernel
theorem dX12_stores_82 : decode cX12_stores 82 = .ok (.if_icmp .ne 10, 3) := by decide +kernel
theorem dX12_stores_85 : decode cX12_stores 85 = .ok (.iload 6, 2) := by decide +kernel
theorem dX12_stores_87 : decode cX12_stores 87 = .ok (.bipush 9, 2) := by decide +kernel
theorem dX12_stores_89 : decode cX12_stores 89 = .ok (.if_icmp .eq 5, 3) := by decide +kernel
theorem dX12_stores_92 : decode cX12_stores 92 = .ok (.iconst 2, 1) := by decide +kernel
theorem dX12_stores_93 : decode cX12_stores 93 = .ok (.ireturn, 1) := by decide +kernel
theorem dX12_stores_94 : decode cX12_stores 94 = .ok (.iload 6, 2) := by decide +kernel
theorem dX12_stores_96 : decode cX12_stores 96 = .ok (.iconst (-1), 1) := by decide +kernel
theorem dX12_stores_97 : decode cX12_stores 97 = .ok (.if_icmp .ne 5, 3) := by decide +kernel
theorem dX12_stores_100 : decode cX12_stores 100 = .ok (.iconst 1, 1) := by decide +kernel
theorem dX12_stores_101 : decode cX12_stores 101 = .ok (.ireturn, 1) := by decide +kernel
theorem dX12_stores_102 : decode cX12_stores 102 = .ok (.aload_n 0, 1) := by decide +kernel
theorem dX12_stores_103 : decode cX12_stores 103 = .ok (.getfield 145, 3) := by decide +kernel
theorem dX12_stores_106 : decode cX12_stores 106 = .ok (.iload_n 3, 1) := by decide +kernel
theorem dX12_stores_107 : decode cX12_stores 107 = .ok (.bipush 15, 2) := by decide +kernel
theorem dX12_stores_109 : decode cX12_stores 109 = .ok (.iand, 1) := by decide +kernel
theorem dX12_stores_110 : decode cX12_stores 110 = .ok (.iaload, 1) := by decide +kernel
theorem dX12_stores_111 : decode cX12_stores 111 = .ok (.istore 7, 2) := by decide +kernel
theorem dX12_stores_113 : decode cX12_stores 113 = .ok (.aload_n 0, 1) := by decide +kernel
theorem dX12_stores_114 : decode cX12_stores 114 = .ok (.getfield 247, 3) := by decide +kernel
theorem dX12_stores_117 : decode cX12_stores 117 = .ok (.iload 4, 2) := by decide +kernel
theorem dX12_stores_119 : decode cX12_stores 119 = .ok (.bipush 15, 2) := by decide +kernel
theorem dX12_stores_121 : decode cX12_stores 121 = .ok (.iand, 1) := by decide +kernel
theorem dX12_stores_122 : decode cX12_stores 122 = .ok (.laload, 1) := by decide +kernel
theorem dX12_stores_123 : decode cX12_stores 123 = .ok (.l2i, 1) := by decide +kernel
theorem dX12_stores_124 : decode cX12_stores 124 = .ok (.istore 8, 2) := by decide +kernel
theorem dX12_stores_126 : decode cX12_stores 126 = .ok (.iload 8, 2) := by decide +kernel
theorem dX12_stores_128 : decode cX12_stores 128 = .ok (.ifCond .lt 15, 3) := by decide +kernel
theorem dX12_stores_131 : decode cX12_stores 131 = .ok (.iload 8, 2) := by decide +kernel
theorem dX12_stores_133 : decode cX12_stores 133 = .ok (.aload_n 0, 1) := by decide +kernel
theorem dX12_stores_134 : decode cX12_stores 134 = .ok (.getfield 155, 3) := by decide +kernel
theorem dX12_stores_137 : decode cX12_stores 137 = .ok (.iload 7, 2) := by decide +kernel
theorem dX12_stores_139 : decode cX12_stores 139 = .ok (.iaload, 1) := by decide +kernel
theorem dX12_stores_140 : decode cX12_stores 140 = .ok (.if_icmp .lt 5, 3) := by decide +kernel
theorem dX12_stores_143 : decode cX12_stores 143 = .ok (.iconst 3, 1) := by decide +kernel
theorem dX12_stores_144 : decode cX12_stores 144 = .ok (.ireturn, 1) := by decide +kernel
theorem dX12_stores_145 : decode cX12_stores 145 = .ok (.iload_n 1, 1) := by decide +kernel
theorem dX12_stores_146 : decode cX12_stores 146 = .ok (.bipush 8, 2) := by decide +kernel
theorem dX12_stores_148 : decode cX12_stores 148 = .ok (.if_icmp .ne 19, 3) := by decide +kernel
theorem dX12_stores_151 : decode cX12_stores 151 = .ok (.iload 6, 2) := by decide +kernel
theorem dX12_stores_153 : decode cX12_stores 153 = .ok (.bipush 9, 2) := by decide +kernel
theorem dX12_stores_155 : decode cX12_stores 155 = .ok (.if_icmp .ne 12, 3) := by decide +kernel
theorem dX12_stores_158 : decode cX12_stores 158 = .ok (.iload 5, 2) := by decide +kernel
theorem dX12_stores_160 : decode cX12_stores 160 = .ok (.bipush 11, 2) := by decide +kernel
theorem dX12_stores_162 : decode cX12_stores 162 = .ok (.if_icmp .ne 5, 3) := by decide +kernel
theorem dX12_stores_165 : decode cX12_stores 165 = .ok (.iconst 5, 1) := by decide +kernel
theorem dX12_stores_166 : decode cX12_stores 166 = .ok (.ireturn, 1) := by decide +kernel
theorem dX12_stores_167 : decode cX12_stores 167 = .ok (.aload_n 0, 1) := by decide +kernel
theorem dX12_stores_168 : decode cX12_stores 168 = .ok (.getfield 247, 3) := by decide +kernel
theorem dX12_stores_171 : decode cX12_stores 171 = .ok (.iload_n 2, 1) := by decide +kernel
theorem dX12_stores_172 : decode cX12_stores 172 = .ok (.laload, 1) := by decide +kernel
theorem dX12_stores_173 : decode cX12_stores 173 = .ok (.lstore 9, 2) := by decide +kernel
theorem dX12_stores_175 : decode cX12_stores 175 = .ok (.aload_n 0, 1) := by decide +kernel
theorem dX12_stores_176 : decode cX12_stores 176 = .ok (.getfield 168, 3) := by decide +kernel
theorem dX12_stores_179 : decode cX12_stores 179 = .ok (.aload_n 0, 1) := by decide +kernel
theorem dX12_stores_180 : decode cX12_stores 180 = .ok (.getfield 158, 3) := by decide +kernel
theorem dX12_stores_183 : decode cX12_stores 183 = .ok (.iload 7, 2) := by decide +kernel
theorem dX12_stores_185 : decode cX12_stores 185 = .ok (.iaload, 1) := by decide +kernel
theorem dX12_stores_186 : decode cX12_stores 186 = .ok (.iload 8, 2) := by decide +kernel
theorem dX12_stores_188 : decode cX12_stores 188 = .ok (.iadd, 1) := by decide +kernel
theorem dX12_stores_189 : decode cX12_stores 189 = .ok (.iload_n 1, 1) := by decide +kernel
theorem dX12_stores_190 : decode cX12_stores 190 = .ok (.ifCond .ne 18, 3) := by decide +kernel
theorem dX12_stores_193 : decode cX12_stores 193 = .ok (.lload 9, 2) := by decide +kernel
theorem dX12_stores_195 : decode cX12_stores 195 = .ok (.lconst 0, 1) := by decide +kernel
theorem dX12_stores_196 : decode cX12_stores 196 = .ok (.lcmp, 1) := by decide +kernel
theorem dX12_stores_197 : decode cX12_stores 197 = .ok (.ifCond .eq 7, 3) := by decide +kernel
theorem dX12_stores_200 : decode cX12_stores 200 = .ok (.lconst 1, 1) := by decide +kernel
theorem dX12_stores_201 : decode cX12_stores 201 = .ok (.goto 109, 3) := by decide +kernel
theorem dX12_stores_204 : decode cX12_stores 204 = .ok (.lconst 0, 1) := by decide +kernel
theorem dX12_stores_205 : decode cX12_stores 205 = .ok (.goto 105, 3) := by decide +kernel
theorem dX12_stores_208 : decode cX12_stores 208 = .ok (.iload_n 1, 1) := by decide +kernel
theorem dX12_stores_209 : decode cX12_stores 209 = .ok (.iconst 1, 1) := by decide +kernel
theorem dX12_stores_210 : decode cX12_stores 210 = .ok (.if_icmp .ne 12, 3) := by decide +kernel
theorem dX12_stores_213 : decode cX12_stores 213 = .ok (.lload 9, 2) := by decide +kernel
theorem dX12_stores_215 : decode cX12_stores 215 = .ok (.ldc2_w 377, 3) := by decide +kernel
theorem dX12_stores_218 : decode cX12_stores 218 = .ok (.land, 1) := by decide +kernel
theorem dX12_stores_219 : decode cX12_stores 219 = .ok (.goto 91, 3) := by decide +kernel
theorem dX12_stores_222 : decode cX12_stores 222 = .ok (.iload_n 1, 1) := by decide +kernel
theorem dX12_stores_223 : decode cX12_stores 223 = .ok (.iconst 2, 1) := by decide +kernel
theorem dX12_stores_224 : decode cX12_stores 224 = .ok (.if_icmp .ne 11, 3) := by decide +kernel
theorem dX12_stores_227 : decode cX12_stores 227 = .ok (.lload 9, 2) := by decide +kernel
theorem dX12_stores_229 : decode cX12_stores 229 = .ok (.l2i, 1) := by decide +kernel
theorem dX12_stores_230 : decode cX12_stores 230 = .ok (.i2b, 1) := by decide +kernel
theorem dX12_stores_231 : decode cX12_stores 231 = .ok (.i2l, 1) := by decide +kernel
theorem dX12_stores_232 : decode cX12_stores 232 = .ok (.goto 78, 3) := by decide +kernel
theorem dX12_stores_235 : decode cX12_stores 235 = .ok (.iload_n 1, 1) := by decide +kernel
theorem dX12_stores_236 : decode cX12_stores 236 = .ok (.iconst 3, 1) := by decide +kernel
theorem dX12_stores_237 : decode cX12_stores 237 = .ok (.if_icmp .ne 11, 3) := by decide +kernel
theorem dX12_stores_240 : decode cX12_stores 240 = .ok (.lload 9, 2) := by decide +kernel
theorem dX12_stores_242 : decode cX12_stores 242 = .ok (.l2i, 1) := by decide +kernel
theorem dX12_stores_243 : decode cX12_stores 243 = .ok (.i2s, 1) := by decide +kernel
theorem dX12_stores_244 : decode cX12_stores 244 = .ok (.i2l, 1) := by decide +kernel
theorem dX12_stores_245 : decode cX12_stores 245 = .ok (.goto 65, 3) := by decide +kernel
theorem dX12_stores_248 : decode cX12_stores 248 = .ok (.iload_n 1, 1) := by decide +kernel
theorem dX12_stores_249 : decode cX12_stores 249 = .ok (.iconst 4, 1) := by decide +kernel
theorem dX12_stores_250 : decode cX12_stores 250 = .ok (.if_icmp .ne 10, 3) := by decide +kernel
theorem dX12_stores_253 : decode cX12_stores 253 = .ok (.lload 9, 2) := by decide +kernel
theorem dX12_stores_255 : decode cX12_stores 255 = .ok (.l2i, 1) := by decide +kernel
theorem dX12_stores_256 : decode cX12_stores 256 = .ok (.i2l, 1) := by decide +kernel
theorem dX12_stores_257 : decode cX12_stores 257 = .ok (.goto 53, 3) := by decide +kernel
theorem dX12_stores_260 : decode cX12_stores 260 = .ok (.iload_n 1, 1) := by decide +kernel
theorem dX12_stores_261 : decode cX12_stores 261 = .ok (.iconst 5, 1) := by decide +kernel
theorem dX12_stores_262 : decode cX12_stores 262 = .ok (.if_icmp .ne 8, 3) := by decide +kernel
theorem dX12_stores_265 : decode cX12_stores 265 = .ok (.lload 9, 2) := by decide +kernel
theorem dX12_stores_267 : decode cX12_stores 267 = .ok (.goto 43, 3) := by decide +kernel
theorem dX12_stores_270 : decode cX12_stores 270 = .ok (.iload_n 1, 1) := by decide +kernel
theorem dX12_stores_271 : decode cX12_stores 271 = .ok (.bipush 6, 2) := by decide +kernel
theorem dX12_stores_273 : decode cX12_stores 273 = .ok (.if_icmp .ne 15, 3) := by decide +kernel
theorem dX12_stores_276 : decode cX12_stores 276 = .ok (.aload_n 0, 1) := by decide +kernel
theorem dX12_stores_277 : decode cX12_stores 277 = .ok (.getfield 297, 3) := by decide +kernel
theorem dX12_stores_280 : decode cX12_stores 280 = .ok (.iload_n 2, 1) := by decide +kernel
theorem dX12_stores_281 : decode cX12_stores 281 = .ok (.laload, 1) := by decide +kernel
theorem dX12_stores_282 : decode cX12_stores 282 = .ok (.invokestatic 117, 3) := by decide +kernel
theorem dX12_stores_285 : decode cX12_stores 285 = .ok (.goto 25, 3) := by decide +kernel
theorem dX12_stores_288 : decode cX12_stores 288 = .ok (.iload_n 1, 1) := by decide +kernel
theorem dX12_stores_289 : decode cX12_stores 289 = .ok (.bipush 7, 2) := by decide +kernel
theorem dX12_stores_291 : decode cX12_stores 291 = .ok (.if_icmp .ne 12, 3) := by decide +kernel
theorem dX12_stores_294 : decode cX12_stores 294 = .ok (.aload_n 0, 1) := by decide +kernel
theorem dX12_stores_295 : decode cX12_stores 295 = .ok (.getfield 297, 3) := by decide +kernel
theorem dX12_stores_298 : decode cX12_stores 298 = .ok (.iload_n 2, 1) := by decide +kernel
theorem dX12_stores_299 : decode cX12_stores 299 = .ok (.laload, 1) := by decide +kernel
theorem dX12_stores_300 : decode cX12_stores 300 = .ok (.goto 10, 3) := by decide +kernel
theorem dX12_stores_303 : decode cX12_stores 303 = .ok (.aload_n 0, 1) := by decide +kernel
theorem dX12_stores_304 : decode cX12_stores 304 = .ok (.getfield 145, 3) := by decide +kernel
theorem dX12_stores_307 : decode cX12_stores 307 = .ok (.iload_n 2, 1) := by decide +kernel
theorem dX12_stores_308 : decode cX12_stores 308 = .ok (.iaload, 1) := by decide +kernel
theorem dX12_stores_309 : decode cX12_stores 309 = .ok (.i2l, 1) := by decide +kernel
theorem dX12_stores_310 : decode cX12_stores 310 = .ok (.lastore, 1) := by decide +kernel
theorem dX12_stores_311 : decode cX12_stores 311 = .ok (.iconst 0, 1) := by decide +kernel
theorem dX12_stores_312 : decode cX12_stores 312 = .ok (.ireturn, 1) := by decide +kernel
theorem dX12_poses_0 : decode cX12_poses 0 = .ok (.iload_n 1, 1) := by decide +kernel
theorem dX12_poses_1 : decode cX12_poses 1 = .ok (.bipush 80, 2) := by decide +kernel
theorem dX12_poses_3 : decode cX12_poses 3 = .ok (.if_icmp .ne 96, 3) := by decide +kernel
theorem dX12_poses_6 : decode cX12_poses 6 = .ok (.aload_n 0, 1) := by decide +kernel
theorem dX12_poses_7 : decode cX12_poses 7 = .ok (.lconst 1, 1) := by decide +kernel
theorem dX12_poses_8 : decode cX12_poses 8 = .ok (.invokevirtual 359, 3) := by decide +kernel
theorem dX12_poses_11 : decode cX12_poses 11 = .ok (.ifCond .ne 6, 3) := by decide +kernel
theorem dX12_poses_14 : decode cX12_poses 14 = .ok (.bipush 8, 2) := by decide +kernel
theorem dX12_poses_16 : decode cX12_poses 16 = .ok (.ireturn, 1) := by decide +kernel
theorem dX12_poses_17 : decode cX12_poses 17 = .ok (.aload_n 0, 1) := by decide +kernel
theorem dX12_poses_18 : decode cX12_poses 18 = .ok (.iload 4, 2) := by decide +kernel
theorem dX12_poses_20 : decode cX12_poses 20 = .ok (.iconst 1, 1) := by decide +kernel
theorem dX12_poses_21 : decode cX12_poses 21 = .ok (.iand, 1) := by decide +kernel
theorem dX12_poses_22 : decode cX12_poses 22 = .ok (.iconst 1, 1) := by decide +kernel
theorem dX12_poses_23 : decode cX12_poses 23 = .ok (.if_icmp .ne 8, 3) := by decide +kernel
theorem dX12_poses_26 : decode cX12_poses 26 = .ok (.bipush 12, 2) := by decide +kernel
theorem dX12_poses_28 : decode cX12_poses 28 = .ok (.goto 5, 3) := by decide +kernel
theorem dX12_poses_31 : decode cX12_poses 31 = .ok (.bipush 11, 2) := by decide +kernel
theorem dX12_poses_33 : decode cX12_poses 33 = .ok (.invokevirtual 164, 3) := by decide +kernel
theorem dX12_poses_36 : decode cX12_poses 36 = .ok (.istore 5, 2) := by decide +kernel
theorem dX12_poses_38 : decode cX12_poses 38 = .ok (.aload_n 0, 1) := by decide +kernel
theorem dX12_poses_39 : decode cX12_poses 39 = .ok (.getfield 379, 3) := by decide +kernel
theorem dX12_poses_42 : decode cX12_poses 42 = .ok (.iload 5, 2) := by decide +kernel
theorem dX12_poses_44 : decode cX12_poses 44 = .ok (.lconst 0, 1) := by decide +kernel
theorem dX12_poses_45 : decode cX12_poses 45 = .ok (.lastore, 1) := by decide +kernel
theorem dX12_poses_46 : decode cX12_poses 46 = .ok (.aload_n 0, 1) := by decide +kernel
theorem dX12_poses_47 : decode cX12_poses 47 = .ok (.getfield 382, 3) := by decide +kernel
theorem dX12_poses_50 : decode cX12_poses 50 = .ok (.iload 5, 2) := by decide +kernel
theorem dX12_poses_52 : decode cX12_poses 52 = .ok (.lconst 0, 1) := by decide +kernel
theorem dX12_poses_53 : decode cX12_poses 53 = .ok (.lastore, 1) := by decide +kernel
theorem dX12_poses_54 : decode cX12_poses 54 = .ok (.aload_n 0, 1) := by decide +kernel
theorem dX12_poses_55 : decode cX12_poses 55 = .ok (.getfield 385, 3) := by decide +kernel
theorem dX12_poses_58 : decode cX12_poses 58 = .ok (.iload 5, 2) := by decide +kernel
theorem dX12_poses_60 : decode cX12_poses 60 = .ok (.lconst 0, 1) := by decide +kernel
theorem dX12_poses_61 : decode cX12_poses 61 = .ok (.lastore, 1) := by decide +kernel
theorem dX12_poses_62 : decode cX12_poses 62 = .ok (.aload_n 0, 1) := by decide +kernel
theorem dX12_poses_63 : decode cX12_poses 63 = .ok (.getfield 388, 3) := by decide +kernel
theorem dX12_poses_66 : decode cX12_poses 66 = .ok (.iload 5, 2) := by decide +kernel
theorem dX12_poses_68 : decode cX12_poses 68 = .ok (.lconst 0, 1) := by decide +kernel
theorem dX12_poses_69 : decode cX12_poses 69 = .ok (.lastore, 1) := by decide +kernel
theorem dX12_poses_70 : decode cX12_poses 70 = .ok (.aload_n 0, 1) := by decide +kernel
theorem dX12_poses_71 : decode cX12_poses 71 = .ok (.getfield 391, 3) := by decide +kernel
theorem dX12_poses_74 : decode cX12_poses 74 = .ok (.iload 5, 2) := by decide +kernel
theorem dX12_poses_76 : decode cX12_poses 76 = .ok (.iconst 0, 1) := by decide +kernel
theorem dX12_poses_77 : decode cX12_poses 77 = .ok (.iastore, 1) := by decide +kernel
theorem dX12_poses_78 : decode cX12_poses 78 = .ok (.aload_n 0, 1) := by decide +kernel
theorem dX12_poses_79 : decode cX12_poses 79 = .ok (.getfield 394, 3) := by decide +kernel
theorem dX12_poses_82 : decode cX12_poses 82 = .ok (.iload 5, 2) := by decide +kernel
theorem dX12_poses_84 : decode cX12_poses 84 = .ok (.iconst 0, 1) := by decide +kernel
theorem dX12_poses_85 : decode cX12_poses 85 = .ok (.iastore, 1) := by decide +kernel
theorem dX12_poses_86 : decode cX12_poses 86 = .ok (.aload_n 0, 1) := by decide +kernel
theorem dX12_poses_87 : decode cX12_poses 87 = .ok (.getfield 145, 3) := by decide +kernel
theorem dX12_poses_90 : decode cX12_poses 90 = .ok (.iload_n 2, 1) := by decide +kernel
theorem dX12_poses_91 : decode cX12_poses 91 = .ok (.bipush 15, 2) := by decide +kernel
theorem dX12_poses_93 : decode cX12_poses 93 = .ok (.iand, 1) := by decide +kernel
theorem dX12_poses_94 : decode cX12_poses 94 = .ok (.iload 5, 2) := by decide +kernel
theorem dX12_poses_96 : decode cX12_poses 96 = .ok (.iastore, 1) := by decide +kernel
theorem dX12_poses_97 : decode cX12_poses 97 = .ok (.iconst 0, 1) := by decide +kernel
theorem dX12_poses_98 : decode cX12_poses 98 = .ok (.ireturn, 1) := by decide +kernel
theorem dX12_poses_99 : decode cX12_poses 99 = .ok (.iload_n 1, 1) := by decide +kernel
theorem dX12_poses_100 : decode cX12_poses 100 = .ok (.bipush 81, 2) := by decide +kernel
theorem dX12_poses_102 : decode cX12_poses 102 = .ok (.if_icmp .eq 9, 3) := by decide +kernel
theorem dX12_poses_105 : decode cX12_poses 105 = .ok (.iload_n 1, 1) := by decide +kernel
theorem dX12_poses_106 : decode cX12_poses 106 = .ok (.bipush 82, 2) := by decide +kernel
theorem dX12_poses_108 : decode cX12_poses 108 = .ok (.if_icmp .ne 29, 3) := by decide +kernel
theorem dX12_poses_111 : decode cX12_poses 111 = .ok (.aload_n 0, 1) := by decide +kernel
theorem dX12_poses_112 : decode cX12_poses 112 = .ok (.iload_n 1, 1) := by decide +kernel
theorem dX12_poses_113 : decode cX12_poses 113 = .ok (.bipush 82, 2) := by decide +kernel
theorem dX12_poses_115 : decode cX12_poses 115 = .ok (.if_icmp .ne 7, 3) := by decide +kernel
theorem dX12_poses_118 : decode cX12_poses 118 = .ok (.iconst 1, 1) := by decide +kernel
theorem dX12_poses_119 : decode cX12_poses 119 = .ok (.goto 4, 3) := by decide +kernel
theorem dX12_poses_122 : decode cX12_poses 122 = .ok (.iconst 0, 1) := by decide +kernel
theorem dX12_poses_123 : decode cX12_poses 123 = .ok (.iload_n 2, 1) := by decide +kernel
theorem dX12_poses_124 : decode cX12_poses 124 = .ok (.bipush 15, 2) := by decide +kernel
theorem dX12_poses_126 : decode cX12_poses 126 = .ok (.iand, 1) := by decide +kernel
theorem dX12_poses_127 : decode cX12_poses 127 = .ok (.iload_n 3, 1) := by decide +kernel
theorem dX12_poses_128 : decode cX12_poses 128 = .ok (.iload 4, 2) := by decide +kernel
theorem dX12_poses_130 : decode cX12_poses 130 = .ok (.bipush 7, 2) := by decide +kernel
theorem dX12_poses_132 : decode cX12_poses 132 = .ok (.iand, 1) := by decide +kernel
theorem dX12_poses_133 : decode cX12_poses 133 = .ok (.invokevirtual 397, 3) := by decide +kernel
theorem dX12_poses_136 : decode cX12_poses 136 = .ok (.ireturn, 1) := by decide +kernel
theorem dX12_poses_137 : decode cX12_poses 137 = .ok (.iload_n 1, 1) := by decide +kernel
theorem dX12_poses_138 : decode cX12_poses 138 = .ok (.bipush 83, 2) := by decide +kernel
theorem dX12_poses_140 : decode cX12_poses 140 = .ok (.if_icmp .ne 102, 3) := by decide +kernel
theorem dX12_poses_143 : decode cX12_poses 143 = .ok (.aload_n 0, 1) := by decide +kernel
theorem dX12_poses_144 : decode cX12_poses 144 = .ok (.iload_n 2, 1) := by decide +kernel
theorem dX12_poses_145 : decode cX12_poses 145 = .ok (.invokevirtual 349, 3) := by decide +kernel
theorem dX12_poses_148 : decode cX12_poses 148 = .ok (.iconst (-1), 1) := by decide +kernel
theorem dX12_poses_149 : decode cX12_poses 149 = .ok (.if_icmp .eq 16, 3) := by decide +kernel
theorem dX12_poses_152 : decode cX12_poses 152 = .ok (.aload_n 0, 1) := by decide +kernel
theorem dX12_poses_153 : decode cX12_poses 153 = .ok (.iload_n 2, 1) := by decide +kernel
theorem dX12_poses_154 : decode cX12_poses 154 = .ok (.invokevirtual 349, 3) := by decide +kernel
theorem dX12_poses_157 : decode cX12_poses 157 = .ok (.invokestatic 370, 3) := by decide +kernel
theorem dX12_poses_160 : decode cX12_poses 160 = .ok (.ifCond .ne 5, 3) := by decide +kernel
theorem dX12_poses_163 : decode cX12_poses 163 = .ok (.iconst 2, 1) := by decide +kernel
theorem dX12_poses_164 : decode cX12_poses 164 = .ok (.ireturn, 1) := by decide +kernel
theorem dX12_poses_165 : decode cX12_poses 165 = .ok (.aload_n 0, 1) := by decide +kernel
theorem dX12_poses_166 : decode cX12_poses 166 = .ok (.iload_n 2, 1) := by decide +kernel
theorem dX12_poses_167 : decode cX12_poses 167 = .ok (.invokevirtual 349, 3) := by decide +kernel
theorem dX12_poses_170 : decode cX12_poses 170 = .ok (.iconst (-1), 1) := by decide +kernel
theorem dX12_poses_171 : decode cX12_poses 171 = .ok (.if_icmp .ne 5, 3) := by decide +kernel
theorem dX12_poses_174 : decode cX12_poses 174 = .ok (.iconst 1, 1) := by decide +kernel
theorem dX12_poses_175 : decode cX12_poses 175 = .ok (.ireturn, 1) := by decide +kernel
theorem dX12_poses_176 : decode cX12_poses 176 = .ok (.aload_n 0, 1) := by decide +kernel
theorem dX12_poses_177 : decode cX12_poses 177 = .ok (.getfield 145, 3) := by decide +kernel
theorem dX12_poses_180 : decode cX12_poses 180 = .ok (.iload_n 2, 1) := by decide +kernel
theorem dX12_poses_181 : decode cX12_poses 181 = .ok (.bipush 15, 2) := by decide +kernel
theorem dX12_poses_183 : decode cX12_poses 183 = .ok (.iand, 1) := by decide +kernel
theorem dX12_poses_184 : decode cX12_poses 184 = .ok (.iaload, 1) := by decide +kernel
theorem dX12_poses_185 : decode cX12_poses 185 = .ok (.istore 5, 2) := by decide +kernel
theorem dX12_poses_187 : decode cX12_poses 187 = .ok (.aload_n 0, 1) := by decide +kernel
theorem dX12_poses_188 : decode cX12_poses 188 = .ok (.getfield 379, 3) := by decide +kernel
theorem dX12_poses_191 : decode cX12_poses 191 = .ok (.iload 5, 2) := by decide +kernel
theorem dX12_poses_193 : decode cX12_poses 193 = .ok (.aload_n 0, 1) := by decide +kernel
theorem dX12_poses_194 : decode cX12_poses 194 = .ok (.getfield 379, 3) := by decide +kernel
theorem dX12_poses_197 : decode cX12_poses 197 = .ok (.iload 5, 2) := by decide +kernel
theorem dX12_poses_199 : decode cX12_poses 199 = .ok (.laload, 1) := by decide +kernel
theorem dX12_poses_200 : decode cX12_poses 200 = .ok (.aload_n 0, 1) := by decide +kernel
theorem dX12_poses_201 : decode cX12_poses 201 = .ok (.getfield 297, 3) := by decide +kernel
theorem dX12_poses_204 : decode cX12_poses 204 = .ok (.iload_n 3, 1) := by decide +kernel
theorem dX12_poses_205 : decode cX12_poses 205 = .ok (.bipush 15, 2) := by decide +kernel
theorem dX12_poses_207 : decode cX12_poses 207 = .ok (.iand, 1) := by decide +kernel
theorem dX12_poses_208 : decode cX12_poses 208 = .ok (.laload, 1) := by decide +kernel
theorem dX12_poses_209 : decode cX12_poses 209 = .ok (.invokestatic 62, 3) := by decide +kernel
theorem dX12_poses_212 : decode cX12_poses 212 = .ok (.lastore, 1) := by decide +kernel
theorem dX12_poses_213 : decode cX12_poses 213 = .ok (.aload_n 0, 1) := by decide +kernel
theorem dX12_poses_214 : decode cX12_poses 214 = .ok (.getfield 382, 3) := by decide +kernel
theorem dX12_poses_217 : decode cX12_poses 217 = .ok (.iload 5, 2) := by decide +kernel
theorem dX12_poses_219 : decode cX12_poses 219 = .ok (.aload_n 0, 1) := by decide +kernel
theorem dX12_poses_220 : decode cX12_poses 220 = .ok (.getfield 382, 3) := by decide +kernel
theorem dX12_poses_223 : decode cX12_poses 223 = .ok (.iload 5, 2) := by decide +kernel
theorem dX12_poses_225 : decode cX12_poses 225 = .ok (.laload, 1) := by decide +kernel
theorem dX12_poses_226 : decode cX12_poses 226 = .ok (.aload_n 0, 1) := by decide +kernel
theorem dX12_poses_227 : decode cX12_poses 227 = .ok (.getfield 297, 3) := by decide +kernel
theorem dX12_poses_230 : decode cX12_poses 230 = .ok (.iload 4, 2) := by decide +kernel
theorem dX12_poses_232 : decode cX12_poses 232 = .ok (.bipush 15, 2) := by decide +kernel
theorem dX12_poses_234 : decode cX12_poses 234 = .ok (.iand, 1) := by decide +kernel
theorem dX12_poses_235 : decode cX12_poses 235 = .ok (.laload, 1) := by decide +kernel
theorem dX12_poses_236 : decode cX12_poses 236 = .ok (.invokestatic 62, 3) := by decide +kernel
theorem dX12_poses_239 : decode cX12_poses 239 = .ok (.lastore, 1) := by decide +kernel
theorem dX12_poses_240 : decode cX12_poses 240 = .ok (.iconst 0, 1) := by decide +kernel
theorem dX12_poses_241 : decode cX12_poses 241 = .ok (.ireturn, 1) := by decide +kernel
theorem dX12_poses_242 : decode cX12_poses 242 = .ok (.aload_n 0, 1) := by decide +kernel
theorem dX12_poses_243 : decode cX12_poses 243 = .ok (.iload_n 3, 1) := by decide +kernel
theorem dX12_poses_244 : decode cX12_poses 244 = .ok (.invokevirtual 349, 3) := by decide +kernel
theorem dX12_poses_247 : decode cX12_poses 247 = .ok (.iconst (-1), 1) := by decide +kernel
theorem dX12_poses_248 : decode cX12_poses 248 = .ok (.if_icmp .eq 14, 3) := by decide +kernel
theorem dX12_poses_251 : decode cX12_poses 251 = .ok (.aload_n 0, 1) := by decide +kernel
theorem dX12_poses_252 : decode cX12_poses 252 = .ok (.iload_n 3, 1) := by decide +kernel
theorem dX12_poses_253 : decode cX12_poses 253 = .ok (.invokevirtual 349, 3) := by decide +kernel
theorem dX12_poses_256 : decode cX12_poses 256 = .ok (.invokestatic 370, 3) := by decide +kernel
theorem dX12_poses_259 : decode cX12_poses 259 = .ok (.ifCond .eq 25, 3) := by decide +kernel
theorem dX12_poses_262 : decode cX12_poses 262 = .ok (.aload_n 0, 1) := by decide +kernel
theorem dX12_poses_263 : decode cX12_poses 263 = .ok (.iload 4, 2) := by decide +kernel
theorem dX12_poses_265 : decode cX12_poses 265 = .ok (.invokevirtual 349, 3) := by decide +kernel
theorem dX12_poses_268 : decode cX12_poses 268 = .ok (.iconst (-1), 1) := by decide +kernel
theorem dX12_poses_269 : decode cX12_poses 269 = .ok (.if_icmp .eq 17, 3) := by decide +kernel
theorem dX12_poses_272 : decode cX12_poses 272 = .ok (.aload_n 0, 1) := by decide +kernel
theorem dX12_poses_273 : decode cX12_poses 273 = .ok (.iload 4, 2) := by decide +kernel
theorem dX12_poses_275 : decode cX12_poses 275 = .ok (.invokevirtual 349, 3) := by decide +kernel
theorem dX12_poses_278 : decode cX12_poses 278 = .ok (.invokestatic 370, 3) := by decide +kernel
theorem dX12_poses_281 : decode cX12_poses 281 = .ok (.ifCond .ne 5, 3) := by decide +kernel
theorem dX12_poses_284 : decode cX12_poses 284 = .ok (.iconst 2, 1) := by decide +kernel
theorem dX12_poses_285 : decode cX12_poses 285 = .ok (.ireturn, 1) := by decide +kernel
theorem dX12_poses_286 : decode cX12_poses 286 = .ok (.aload_n 0, 1) := by decide +kernel
theorem dX12_poses_287 : decode cX12_poses 287 = .ok (.iload_n 3, 1) := by decide +kernel
theorem dX12_poses_288 : decode cX12_poses 288 = .ok (.invokevirtual 349, 3) := by decide +kernel
theorem dX12_poses_291 : decode cX12_poses 291 = .ok (.iconst (-1), 1) := by decide +kernel
theorem dX12_poses_292 : decode cX12_poses 292 = .ok (.if_icmp .eq 13, 3) := by decide +kernel
theorem dX12_poses_295 : decode cX12_poses 295 = .ok (.aload_n 0, 1) := by decide +kernel
theorem dX12_poses_296 : decode cX12_poses 296 = .ok (.iload 4, 2) := by decide +kernel
theorem dX12_poses_298 : decode cX12_poses 298 = .ok (.invokevirtual 349, 3) := by decide +kernel
theorem dX12_poses_301 : decode cX12_poses 301 = .ok (.iconst (-1), 1) := by decide +kernel
theorem dX12_poses_302 : decode cX12_poses 302 = .ok (.if_icmp .ne 5, 3) := by decide +kernel
theorem dX12_poses_305 : decode cX12_poses 305 = .ok (.iconst 1, 1) := by decide +kernel
theorem dX12_poses_306 : decode cX12_poses 306 = .ok (.ireturn, 1) := by decide +kernel
theorem dX12_poses_307 : decode cX12_poses 307 = .ok (.aload_n 0, 1) := by decide +kernel
theorem dX12_poses_308 : decode cX12_poses 308 = .ok (.getfield 145, 3) := by decide +kernel
theorem dX12_poses_311 : decode cX12_poses 311 = .ok (.iload_n 3, 1) := by decide +kernel
theorem dX12_poses_312 : decode cX12_poses 312 = .ok (.bipush 15, 2) := by decide +kernel
theorem dX12_poses_314 : decode cX12_poses 314 = .ok (.iand, 1) := by decide +kernel
theorem dX12_poses_315 : decode cX12_poses 315 = .ok (.iaload, 1) := by decide +kernel
theorem dX12_poses_316 : decode cX12_poses 316 = .ok (.istore 5, 2) := by decide +kernel
theorem dX12_poses_318 : decode cX12_poses 318 = .ok (.aload_n 0, 1) := by decide +kernel
theorem dX12_poses_319 : decode cX12_poses 319 = .ok (.getfield 145, 3) := by decide +kernel
theorem dX12_poses_322 : decode cX12_poses 322 = .ok (.iload 4, 2) := by decide +kernel
theorem dX12_poses_324 : decode cX12_poses 324 = .ok (.bipush 15, 2) := by decide +kernel
theorem dX12_poses_326 : decode cX12_poses 326 = .ok (.iand, 1) := by decide +kernel
theorem dX12_poses_327 : decode cX12_poses 327 = .ok (.iaload, 1) := by decide +kernel
theorem dX12_poses_328 : decode cX12_poses 328 = .ok (.istore 6, 2) := by decide +kernel
theorem dX12_poses_330 : decode cX12_poses 330 = .ok (.aload_n 0, 1) := by decide +kernel
theorem dX12_poses_331 : decode cX12_poses 331 = .ok (.getfield 379, 3) := by decide +kernel
theorem dX12_poses_334 : decode cX12_poses 334 = .ok (.iload 5, 2) := by decide +kernel
theorem dX12_poses_336 : decode cX12_poses 336 = .ok (.laload, 1) := by decide +kernel
theorem dX12_poses_337 : decode cX12_poses 337 = .ok (.aload_n 0, 1) := by decide +kernel
theorem dX12_poses_338 : decode cX12_poses 338 = .ok (.getfield 379, 3) := by decide +kernel
theorem dX12_poses_341 : decode cX12_poses 341 = .ok (.iload 6, 2) := by decide +kernel
theorem dX12_poses_343 : decode cX12_poses 343 = .ok (.laload, 1) := by decide +kernel
theorem dX12_poses_344 : decode cX12_poses 344 = .ok (.invokestatic 309, 3) := by decide +kernel
theorem dX12_poses_347 : decode cX12_poses 347 = .ok (.lstore 7, 2) := by decide +kernel
theorem dX12_poses_349 : decode cX12_poses 349 = .ok (.aload_n 0, 1) := by decide +kernel
theorem dX12_poses_350 : decode cX12_poses 350 = .ok (.getfield 382, 3) := by decide +kernel
theorem dX12_poses_353 : decode cX12_poses 353 = .ok (.iload 5, 2) := by decide +kernel
theorem dX12_poses_355 : decode cX12_poses 355 = .ok (.laload, 1) := by decide +kernel
theorem dX12_poses_356 : decode cX12_poses 356 = .ok (.aload_n 0, 1) := by decide +kernel
theorem dX12_poses_357 : decode cX12_poses 357 = .ok (.getfield 382, 3) := by decide +kernel
theorem dX12_poses_360 : decode cX12_poses 360 = .ok (.iload 6, 2) := by decide +kernel
theorem dX12_poses_362 : decode cX12_poses 362 = .ok (.laload, 1) := by decide +kernel
theorem dX12_poses_363 : decode cX12_poses 363 = .ok (.invokestatic 309, 3) := by decide +kernel
theorem dX12_poses_366 : decode cX12_poses 366 = .ok (.lstore 9, 2) := by decide +kernel
theorem dX12_poses_368 : decode cX12_poses 368 = .ok (.aload_n 0, 1) := by decide +kernel
theorem dX12_poses_369 : decode cX12_poses 369 = .ok (.getfield 297, 3) := by decide +kernel
theorem dX12_poses_372 : decode cX12_poses 372 = .ok (.iload_n 2, 1) := by decide +kernel
theorem dX12_poses_373 : decode cX12_poses 373 = .ok (.bipush 15, 2) := by decide +kernel
theorem dX12_poses_375 : decode cX12_poses 375 = .ok (.iand, 1) := by decide +kernel
theorem dX12_poses_376 : decode cX12_poses 376 = .ok (.aload_n 0, 1) := by decide +kernel
theorem dX12_poses_377 : decode cX12_poses 377 = .ok (.lload 7, 2) := by decide +kernel
theorem dX12_poses_379 : decode cX12_poses 379 = .ok (.lload 7, 2) := by decide +kernel
theorem dX12_poses_381 : decode cX12_poses 381 = .ok (.invokevirtual 120, 3) := by decide +kernel
theorem dX12_poses_384 : decode cX12_poses 384 = .ok (.aload_n 0, 1) := by decide +kernel
theorem dX12_poses_385 : decode cX12_poses 385 = .ok (.lload 9, 2) := by decide +kernel
theorem dX12_poses_387 : decode cX12_poses 387 = .ok (.lload 9, 2) := by decide +kernel
theorem dX12_poses_389 : decode cX12_poses 389 = .ok (.invokevirtual 120, 3) := by decide +kernel
theorem dX12_poses_392 : decode cX12_poses 392 = .ok (.invokestatic 62, 3) := by decide +kernel
theorem dX12_poses_395 : decode cX12_poses 395 = .ok (.invokestatic 108, 3) := by decide +kernel
theorem dX12_poses_398 : decode cX12_poses 398 = .ok (.lastore, 1) := by decide +kernel
theorem dX12_poses_399 : decode cX12_poses 399 = .ok (.iconst 0, 1) := by decide +kernel
theorem dX12_poses_400 : decode cX12_poses 400 = .ok (.ireturn, 1) := by decide +kernel
theorem dX12_looksAt_0 : decode cX12_looksAt 0 = .ok (.iload_n 1, 1) := by decide +kernel
theorem dX12_looksAt_1 : decode cX12_looksAt 1 = .ok (.ifCond .eq 31, 3) := by decide +kernel
theorem dX12_looksAt_4 : decode cX12_looksAt 4 = .ok (.iload 4, 2) := by decide +kernel
theorem dX12_looksAt_6 : decode cX12_looksAt 6 = .ok (.iconst 4, 1) := by decide +kernel
theorem dX12_looksAt_7 : decode cX12_looksAt 7 = .ok (.if_icmp .ne 25, 3) := by decide +kernel
theorem dX12_looksAt_10 : decode cX12_looksAt 10 = .ok (.aload_n 0, 1) := by decide +kernel
theorem dX12_looksAt_11 : decode cX12_looksAt 11 = .ok (.iload_n 2, 1) := by decide +kernel
theorem dX12_looksAt_12 : decode cX12_looksAt 12 = .ok (.invokevirtual 349, 3) := by decide +kernel
theorem dX12_looksAt_15 : decode cX12_looksAt 15 = .ok (.iconst (-1), 1) := by decide +kernel
theorem dX12_looksAt_16 : decode cX12_looksAt 16 = .ok (.if_icmp .eq 16, 3) := by decide +kernel
theorem dX12_looksAt_19 : decode cX12_looksAt 19 = .ok (.aload_n 0, 1) := by decide +kernel
theorem dX12_looksAt_20 : decode cX12_looksAt 20 = .ok (.iload_n 2, 1) := by decide +kernel
theorem dX12_looksAt_21 : decode cX12_looksAt 21 = .ok (.invokevirtual 349, 3) := by decide +kernel
theorem dX12_looksAt_24 : decode cX12_looksAt 24 = .ok (.invokestatic 370, 3) := by decide +kernel
theorem dX12_looksAt_27 : decode cX12_looksAt 27 = .ok (.ifCond .ne 5, 3) := by decide +kernel
theorem dX12_looksAt_30 : decode cX12_looksAt 30 = .ok (.iconst 2, 1) := by decide +kernel
theorem dX12_looksAt_31 : decode cX12_looksAt 31 = .ok (.ireturn, 1) := by decide +kernel
theorem dX12_looksAt_32 : decode cX12_looksAt 32 = .ok (.aload_n 0, 1) := by decide +kernel
theorem dX12_looksAt_33 : decode cX12_looksAt 33 = .ok (.iload_n 3, 1) := by decide +kernel
theorem dX12_looksAt_34 : decode cX12_looksAt 34 = .ok (.invokevirtual 349, 3) := by decide +kernel
theorem dX12_looksAt_37 : decode cX12_looksAt 37 = .ok (.istore 5, 2) := by decide +kernel
theorem dX12_looksAt_39 : decode cX12_looksAt 39 = .ok (.iload 5, 2) := by decide +kernel
theorem dX12_looksAt_41 : decode cX12_looksAt 41 = .ok (.iconst (-1), 1) := by decide +kernel
theorem dX12_looksAt_42 : decode cX12_looksAt 42 = .ok (.if_icmp .eq 29, 3) := by decide +kernel
theorem dX12_looksAt_45 : decode cX12_looksAt 45 = .ok (.iload 4, 2) := by decide +kernel
theorem dX12_looksAt_47 : decode cX12_looksAt 47 = .ok (.iconst 5, 1) := by decide +kernel
theorem dX12_looksAt_48 : decode cX12_looksAt 48 = .ok (.if_icmp .ne 13, 3) := by decide +kernel
theorem dX12_looksAt_51 : decode cX12_looksAt 51 = .ok (.iload 5, 2) := by decide +kernel
theorem dX12_looksAt_53 : decode cX12_looksAt 53 = .ok (.bipush 12, 2) := by decide +kernel
theorem dX12_looksAt_55 : decode cX12_looksAt 55 = .ok (.if_icmp .eq 16, 3) := by decide +kernel
theorem dX12_looksAt_58 : decode cX12_looksAt 58 = .ok (.goto 11, 3) := by decide +kernel
theorem dX12_looksAt_61 : decode cX12_looksAt 61 = .ok (.iload 5, 2) := by decide +kernel
theorem dX12_looksAt_63 : decode cX12_looksAt 63 = .ok (.invokestatic 370, 3) := by decide +kernel
theorem dX12_looksAt_66 : decode cX12_looksAt 66 = .ok (.ifCond .ne 5, 3) := by decide +kernel
theorem dX12_looksAt_69 : decode cX12_looksAt 69 = .ok (.iconst 2, 1) := by decide +kernel
theorem dX12_looksAt_70 : decode cX12_looksAt 70 = .ok (.ireturn, 1) := by decide +kernel
theorem dX12_looksAt_71 : decode cX12_looksAt 71 = .ok (.iload 5, 2) := by decide +kernel
theorem dX12_looksAt_73 : decode cX12_looksAt 73 = .ok (.iconst (-1), 1) := by decide +kernel
theorem dX12_looksAt_74 : decode cX12_looksAt 74 = .ok (.if_icmp .ne 5, 3) := by decide +kernel
theorem dX12_looksAt_77 : decode cX12_looksAt 77 = .ok (.iconst 1, 1) := by decide +kernel
theorem dX12_looksAt_78 : decode cX12_looksAt 78 = .ok (.ireturn, 1) := by decide +kernel
theorem dX12_looksAt_79 : decode cX12_looksAt 79 = .ok (.aload_n 0, 1) := by decide +kernel
theorem dX12_looksAt_80 : decode cX12_looksAt 80 = .ok (.getfield 145, 3) := by decide +kernel
theorem dX12_looksAt_83 : decode cX12_looksAt 83 = .ok (.iload_n 3, 1) := by decide +kernel
theorem dX12_looksAt_84 : decode cX12_looksAt 84 = .ok (.bipush 15, 2) := by decide +kernel
theorem dX12_looksAt_86 : decode cX12_looksAt 86 = .ok (.iand, 1) := by decide +kernel
theorem dX12_looksAt_87 : decode cX12_looksAt 87 = .ok (.iaload, 1) := by decide +kernel
theorem dX12_looksAt_88 : decode cX12_looksAt 88 = .ok (.istore 6, 2) := by decide +kernel
theorem dX12_looksAt_90 : decode cX12_looksAt 90 = .ok (.iload 4, 2) := by decide +kernel
theorem dX12_looksAt_92 : decode cX12_looksAt 92 = .ok (.iconst 3, 1) := by decide +kernel
theorem dX12_looksAt_93 : decode cX12_looksAt 93 = .ok (.if_icmp .lt 9, 3) := by decide +kernel
theorem dX12_looksAt_96 : decode cX12_looksAt 96 = .ok (.iload 4, 2) := by decide +kernel
theorem dX12_looksAt_98 : decode cX12_looksAt 98 = .ok (.iconst 5, 1) := by decide +kernel
theorem dX12_looksAt_99 : decode cX12_looksAt 99 = .ok (.if_icmp .ne 79, 3) := by decide +kernel
theorem dX12_looksAt_102 : decode cX12_looksAt 102 = .ok (.iload 4, 2) := by decide +kernel
theorem dX12_looksAt_104 : decode cX12_looksAt 104 = .ok (.ifCond .ne 10, 3) := by decide +kernel
theorem dX12_looksAt_107 : decode cX12_looksAt 107 = .ok (.aload_n 0, 1) := by decide +kernel
theorem dX12_looksAt_108 : decode cX12_looksAt 108 = .ok (.getfield 379, 3) := by decide +kernel
theorem dX12_looksAt_111 : decode cX12_looksAt 111 = .ok (.goto 33, 3) := by decide +kernel
theorem dX12_looksAt_114 : decode cX12_looksAt 114 = .ok (.iload 4, 2) := by decide +kernel
theorem dX12_looksAt_116 : decode cX12_looksAt 116 = .ok (.iconst 1, 1) := by decide +kernel
theorem dX12_looksAt_117 : decode cX12_looksAt 117 = .ok (.if_icmp .ne 10, 3) := by decide +kernel
theorem dX12_looksAt_120 : decode cX12_looksAt 120 = .ok (.aload_n 0, 1) := by decide +kernel
theorem dX12_looksAt_121 : decode cX12_looksAt 121 = .ok (.getfield 382, 3) := by decide +kernel
theorem dX12_looksAt_124 : decode cX12_looksAt 124 = .ok (.goto 20, 3) := by decide +kernel
theorem dX12_looksAt_127 : decode cX12_looksAt 127 = .ok (.iload 4, 2) := by decide +kernel
theorem dX12_looksAt_129 : decode cX12_looksAt 129 = .ok (.iconst 2, 1) := by decide +kernel
theorem dX12_looksAt_130 : decode cX12_looksAt 130 = .ok (.if_icmp .ne 10, 3) := by decide +kernel
theorem dX12_looksAt_133 : decode cX12_looksAt 133 = .ok (.aload_n 0, 1) := by decide +kernel
theorem dX12_looksAt_134 : decode cX12_looksAt 134 = .ok (.getfield 385, 3) := by decide +kernel
theorem dX12_looksAt_137 : decode cX12_looksAt 137 = .ok (.goto 7, 3) := by decide +kernel
theorem dX12_looksAt_140 : decode cX12_looksAt 140 = .ok (.aload_n 0, 1) := by decide +kernel
theorem dX12_looksAt_141 : decode cX12_looksAt 141 = .ok (.getfield 388, 3) := by decide +kernel
theorem dX12_looksAt_144 : decode cX12_looksAt 144 = .ok (.astore 7, 2) := by decide +kernel
theorem dX12_looksAt_146 : decode cX12_looksAt 146 = .ok (.iload_n 1, 1) := by decide +kernel
theorem dX12_looksAt_147 : decode cX12_looksAt 147 = .ok (.ifCond .eq 17, 3) := by decide +kernel
theorem dX12_looksAt_150 : decode cX12_looksAt 150 = .ok (.aload 7, 2) := by decide +kernel
theorem dX12_looksAt_152 : decode cX12_looksAt 152 = .ok (.iload 6, 2) := by decide +kernel
theorem dX12_looksAt_154 : decode cX12_looksAt 154 = .ok (.aload_n 0, 1) := by decide +kernel
theorem dX12_looksAt_155 : decode cX12_looksAt 155 = .ok (.getfield 297, 3) := by decide +kernel
theorem dX12_looksAt_158 : decode cX12_looksAt 158 = .ok (.iload_n 2, 1) := by decide +kernel
theorem dX12_looksAt_159 : decode cX12_looksAt 159 = .ok (.laload, 1) := by decide +kernel
theorem dX12_looksAt_160 : decode cX12_looksAt 160 = .ok (.lastore, 1) := by decide +kernel
theorem dX12_looksAt_161 : decode cX12_looksAt 161 = .ok (.goto 14, 3) := by decide +kernel
theorem dX12_looksAt_164 : decode cX12_looksAt 164 = .ok (.aload_n 0, 1) := by decide +kernel
theorem dX12_looksAt_165 : decode cX12_looksAt 165 = .ok (.getfield 297, 3) := by decide +kernel
theorem dX12_looksAt_168 : decode cX12_looksAt 168 = .ok (.iload_n 2, 1) := by decide +kernel
theorem dX12_looksAt_169 : decode cX12_looksAt 169 = .ok (.aload 7, 2) := by decide +kernel
theorem dX12_looksAt_171 : decode cX12_looksAt 171 = .ok (.iload 6, 2) := by decide +kernel
theorem dX12_looksAt_173 : decode cX12_looksAt 173 = .ok (.laload, 1) := by decide +kernel
theorem dX12_looksAt_174 : decode cX12_looksAt 174 = .ok (.lastore, 1) := by decide +kernel
theorem dX12_looksAt_175 : decode cX12_looksAt 175 = .ok (.goto 143, 3) := by decide +kernel
theorem dX12_looksAt_178 : decode cX12_looksAt 178 = .ok (.iload 4, 2) := by decide +kernel
theorem dX12_looksAt_180 : decode cX12_looksAt 180 = .ok (.iconst 3, 1) := by decide +kernel
theorem dX12_looksAt_181 : decode cX12_looksAt 181 = .ok (.if_icmp .ne 41, 3) := by decide +kernel
theorem dX12_looksAt_184 : decode cX12_looksAt 184 = .ok (.iload_n 1, 1) := by decide +kernel
theorem dX12_looksAt_185 : decode cX12_looksAt 185 = .ok (.ifCond .eq 20, 3) := by decide +kernel
theorem dX12_looksAt_188 : decode cX12_looksAt 188 = .ok (.aload_n 0, 1) := by decide +kernel
theorem dX12_looksAt_189 : decode cX12_looksAt 189 = .ok (.getfield 391, 3) := by decide +kernel
theorem dX12_looksAt_192 : decode cX12_looksAt 192 = .ok (.iload 6, 2) := by decide +kernel
theorem dX12_looksAt_194 : decode cX12_looksAt 194 = .ok (.aload_n 0, 1) := by decide +kernel
theorem dX12_looksAt_195 : decode cX12_looksAt 195 = .ok (.getfield 247, 3) := by decide +kernel
theorem dX12_looksAt_198 : decode cX12_looksAt 198 = .ok (.iload_n 2, 1) := by decide +kernel
theorem dX12_looksAt_199 : decode cX12_looksAt 199 = .ok (.laload, 1) := by decide +kernel
theorem dX12_looksAt_200 : decode cX12_looksAt 200 = .ok (.l2i, 1) := by decide +kernel
theorem dX12_looksAt_201 : decode cX12_looksAt 201 = .ok (.iastore, 1) := by decide +kernel
theorem dX12_looksAt_202 : decode cX12_looksAt 202 = .ok (.goto 116, 3) := by decide +kernel
theorem dX12_looksAt_205 : decode cX12_looksAt 205 = .ok (.aload_n 0, 1) := by decide +kernel
theorem dX12_looksAt_206 : decode cX12_looksAt 206 = .ok (.getfield 247, 3) := by decide +kernel
theorem dX12_looksAt_209 : decode cX12_looksAt 209 = .ok (.iload_n 2, 1) := by decide +kernel
theorem dX12_looksAt_210 : decode cX12_looksAt 210 = .ok (.aload_n 0, 1) := by decide +kernel
theorem dX12_looksAt_211 : decode cX12_looksAt 211 = .ok (.getfield 391, 3) := by decide +kernel
theorem dX12_looksAt_214 : decode cX12_looksAt 214 = .ok (.iload 6, 2) := by decide +kernel
theorem dX12_looksAt_216 : decode cX12_looksAt 216 = .ok (.iaload, 1) := by decide +kernel
theorem dX12_looksAt_217 : decode cX12_looksAt 217 = .ok (.i2l, 1) := by decide +kernel
theorem dX12_looksAt_218 : decode cX12_looksAt 218 = .ok (.lastore, 1) := by decide +kernel
theorem dX12_looksAt_219 : decode cX12_looksAt 219 = .ok (.goto 99, 3) := by decide +kernel
theorem dX12_looksAt_222 : decode cX12_looksAt 222 = .ok (.iload 4, 2) := by decide +kernel
theorem dX12_looksAt_224 : decode cX12_looksAt 224 = .ok (.iconst 4, 1) := by decide +kernel
theorem dX12_looksAt_225 : decode cX12_looksAt 225 = .ok (.if_icmp .ne 39, 3) := by decide +kernel
theorem dX12_looksAt_228 : decode cX12_looksAt 228 = .ok (.iload_n 1, 1) := by decide +kernel
theorem dX12_looksAt_229 : decode cX12_looksAt 229 = .ok (.ifCond .eq 19, 3) := by decide +kernel
theorem dX12_looksAt_232 : decode cX12_looksAt 232 = .ok (.aload_n 0, 1) := by decide +kernel
theorem dX12_looksAt_233 : decode cX12_looksAt 233 = .ok (.getfield 394, 3) := by decide +kernel
theorem dX12_looksAt_236 : decode cX12_looksAt 236 = .ok (.iload 6, 2) := by decide +kernel
theorem dX12_looksAt_238 : decode cX12_looksAt 238 = .ok (.aload_n 0, 1) := by decide +kernel
theorem dX12_looksAt_239 : decode cX12_looksAt 239 = .ok (.getfield 145, 3) := by decide +kernel
theorem dX12_looksAt_242 : decode cX12_looksAt 242 = .ok (.iload_n 2, 1) := by decide +kernel
theorem dX12_looksAt_243 : decode cX12_looksAt 243 = .ok (.iaload, 1) := by decide +kernel
theorem dX12_looksAt_244 : decode cX12_looksAt 244 = .ok (.iastore, 1) := by decide +kernel
theorem dX12_looksAt_245 : decode cX12_looksAt 245 = .ok (.goto 73, 3) := by decide +kernel
theorem dX12_looksAt_248 : decode cX12_looksAt 248 = .ok (.aload_n 0, 1) := by decide +kernel
theorem dX12_looksAt_249 : decode cX12_looksAt 249 = .ok (.getfield 145, 3) := by decide +kernel
theorem dX12_looksAt_252 : decode cX12_looksAt 252 = .ok (.iload_n 2, 1) := by decide +kernel
theorem dX12_looksAt_253 : decode cX12_looksAt 253 = .ok (.aload_n 0, 1) := by decide +kernel
theorem dX12_looksAt_254 : decode cX12_looksAt 254 = .ok (.getfield 394, 3) := by decide +kernel
theorem dX12_looksAt_257 : decode cX12_looksAt 257 = .ok (.iload 6, 2) := by decide +kernel
theorem dX12_looksAt_259 : decode cX12_looksAt 259 = .ok (.iaload, 1) := by decide +kernel
theorem dX12_looksAt_260 : decode cX12_looksAt 260 = .ok (.iastore, 1) := by decide +kernel
theorem dX12_looksAt_261 : decode cX12_looksAt 261 = .ok (.goto 57, 3) := by decide +kernel
theorem dX12_looksAt_264 : decode cX12_looksAt 264 = .ok (.iload 4, 2) := by decide +kernel
theorem dX12_looksAt_266 : decode cX12_looksAt 266 = .ok (.bipush 6, 2) := by decide +kernel
theorem dX12_looksAt_268 : decode cX12_looksAt 268 = .ok (.if_icmp .ne 50, 3) := by decide +kernel
theorem dX12_looksAt_271 : decode cX12_looksAt 271 = .ok (.iload_n 1, 1) := by decide +kernel
theorem dX12_looksAt_272 : decode cX12_looksAt 272 = .ok (.ifCond .ne 46, 3) := by decide +kernel
theorem dX12_looksAt_275 : decode cX12_looksAt 275 = .ok (.iconst 0, 1) := by decide +kernel
theorem dX12_looksAt_276 : decode cX12_looksAt 276 = .ok (.istore 7, 2) := by decide +kernel
theorem dX12_looksAt_278 : decode cX12_looksAt 278 = .ok (.iload 6, 2) := by decide +kernel
theorem dX12_looksAt_280 : decode cX12_looksAt 280 = .ok (.istore 8, 2) := by decide +kernel
theorem dX12_looksAt_282 : decode cX12_looksAt 282 = .ok (.iload 8, 2) := by decide +kernel
theorem dX12_looksAt_284 : decode cX12_looksAt 284 = .ok (.ifCond .eq 25, 3) := by decide +kernel
theorem dX12_looksAt_287 : decode cX12_looksAt 287 = .ok (.iload 7, 2) := by decide +kernel
theorem dX12_looksAt_289 : decode cX12_looksAt 289 = .ok (.bipush 100, 2) := by decide +kernel
theorem dX12_looksAt_291 : decode cX12_looksAt 291 = .ok (.if_icmp .ge 18, 3) := by decide +kernel
theorem dX12_looksAt_294 : decode cX12_looksAt 294 = .ok (.iinc 7 1, 3) := by decide +kernel
theorem dX12_looksAt_297 : decode cX12_looksAt 297 = .ok (.aload_n 0, 1) := by decide +kernel
theorem dX12_looksAt_298 : decode cX12_looksAt 298 = .ok (.getfield 394, 3) := by decide +kernel
theorem dX12_looksAt_301 : decode cX12_looksAt 301 = .ok (.iload 8, 2) := by decide +kernel
theorem dX12_looksAt_303 : decode cX12_looksAt 303 = .ok (.iaload, 1) := by decide +kernel
theorem dX12_looksAt_304 : decode cX12_looksAt 304 = .ok (.istore 8, 2) := by decide +kernel
theorem dX12_looksAt_306 : decode cX12_looksAt 306 = .ok (.goto (-24), 3) := by decide +kernel
theorem dX12_looksAt_309 : decode cX12_looksAt 309 = .ok (.aload_n 0, 1) := by decide +kernel
theorem dX12_looksAt_310 : decode cX12_looksAt 310 = .ok (.getfield 247, 3) := by decide +kernel
theorem dX12_looksAt_313 : decode cX12_looksAt 313 = .ok (.iload_n 2, 1) := by decide +kernel
theorem dX12_looksAt_314 : decode cX12_looksAt 314 = .ok (.iload 7, 2) := by decide +kernel
theorem dX12_looksAt_316 : decode cX12_looksAt 316 = .ok (.i2l, 1) := by decide +kernel
theorem dX12_looksAt_317 : decode cX12_looksAt 317 = .ok (.lastore, 1) := by decide +kernel
theorem dX12_looksAt_318 : decode cX12_looksAt 318 = .ok (.iconst 0, 1) := by decide +kernel
theorem dX12_looksAt_319 : decode cX12_looksAt 319 = .ok (.ireturn, 1) := by decide +kernel
theorem dX12_speedOf_0 : decode cX12_speedOf 0 = .ok (.iload_n 0, 1) := by decide +kernel
theorem dX12_speedOf_1 : decode cX12_speedOf 1 = .ok (.bipush 13, 2) := by decide +kernel
theorem dX12_speedOf_3 : decode cX12_speedOf 3 = .ok (.if_icmp .ne 8, 3) := by decide +kernel
theorem dX12_speedOf_6 : decode cX12_speedOf 6 = .ok (.bipush 10, 2) := by decide +kernel
theorem dX12_speedOf_8 : decode cX12_speedOf 8 = .ok (.goto 15, 3) := by decide +kernel
theorem dX12_speedOf_11 : decode cX12_speedOf 11 = .ok (.iload_n 0, 1) := by decide +kernel
theorem dX12_speedOf_12 : decode cX12_speedOf 12 = .ok (.bipush 16, 2) := by decide +kernel
theorem dX12_speedOf_14 : decode cX12_speedOf 14 = .ok (.if_icmp .ne 7, 3) := by decide +kernel
theorem dX12_speedOf_17 : decode cX12_speedOf 17 = .ok (.iconst 0, 1) := by decide +kernel
theorem dX12_speedOf_18 : decode cX12_speedOf 18 = .ok (.goto 5, 3) := by decide +kernel
theorem dX12_speedOf_21 : decode cX12_speedOf 21 = .ok (.bipush 40, 2) := by decide +kernel
theorem dX12_speedOf_23 : decode cX12_speedOf 23 = .ok (.ireturn, 1) := by decide +kernel
theorem dX12_spanOf_0 : decode cX12_spanOf 0 = .ok (.iload_n 0, 1) := by decide +kernel
theorem dX12_spanOf_1 : decode cX12_spanOf 1 = .ok (.bipush 13, 2) := by decide +kernel
theorem dX12_spanOf_3 : decode cX12_spanOf 3 = .ok (.if_icmp .ne 8, 3) := by decide +kernel
theorem dX12_spanOf_6 : decode cX12_spanOf 6 = .ok (.bipush 100, 2) := by decide +kernel
theorem dX12_spanOf_8 : decode cX12_spanOf 8 = .ok (.goto 28, 3) := by decide +kernel
theorem dX12_spanOf_11 : decode cX12_spanOf 11 = .ok (.iload_n 0, 1) := by decide +kernel
theorem dX12_spanOf_12 : decode cX12_spanOf 12 = .ok (.bipush 14, 2) := by decide +kernel
theorem dX12_spanOf_14 : decode cX12_spanOf 14 = .ok (.if_icmp .ne 9, 3) := by decide +kernel
theorem dX12_spanOf_17 : decode cX12_spanOf 17 = .ok (.sipush 1000, 3) := by decide +kernel
theorem dX12_spanOf_20 : decode cX12_spanOf 20 = .ok (.goto 16, 3) := by decide +kernel
theorem dX12_spanOf_23 : decode cX12_spanOf 23 = .ok (.iload_n 0, 1) := by decide +kernel
theorem dX12_spanOf_24 : decode cX12_spanOf 24 = .ok (.bipush 15, 2) := by decide +kernel
theorem dX12_spanOf_26 : decode cX12_spanOf 26 = .ok (.if_icmp .ne 9, 3) := by decide +kernel
theorem dX12_spanOf_29 : decode cX12_spanOf 29 = .ok (.sipush 360, 3) := by decide +kernel
theorem dX12_spanOf_32 : decode cX12_spanOf 32 = .ok (.goto 4, 3) := by decide +kernel
theorem dX12_spanOf_35 : decode cX12_spanOf 35 = .ok (.iconst 1, 1) := by decide +kernel
theorem dX12_spanOf_36 : decode cX12_spanOf 36 = .ok (.ireturn, 1) := by decide +kernel
theorem dX12_rankOf_0 : decode cX12_rankOf 0 = .ok (.iload_n 0, 1) := by decide +kernel
theorem dX12_rankOf_1 : decode cX12_rankOf 1 = .ok (.bipush 13, 2) := by decide +kernel
theorem dX12_rankOf_3 : decode cX12_rankOf 3 = .ok (.if_icmp .ne 7, 3) := by decide +kernel
theorem dX12_rankOf_6 : decode cX12_rankOf 6 = .ok (.iconst 3, 1) := by decide +kernel
theorem dX12_rankOf_7 : decode cX12_rankOf 7 = .ok (.goto 25, 3) := by decide +kernel
theorem dX12_rankOf_10 : decode cX12_rankOf 10 = .ok (.iload_n 0, 1) := by decide +kernel
theorem dX12_rankOf_11 : decode cX12_rankOf 11 = .ok (.bipush 14, 2) := by decide +kernel
theorem dX12_rankOf_13 : decode cX12_rankOf 13 = .ok (.if_icmp .ne 7, 3) := by decide +kernel
theorem dX12_rankOf_16 : decode cX12_rankOf 16 = .ok (.iconst 4, 1) := by decide +kernel
theorem dX12_rankOf_17 : decode cX12_rankOf 17 = .ok (.goto 15, 3) := by decide +kernel
theorem dX12_rankOf_20 : decode cX12_rankOf 20 = .ok (.iload_n 0, 1) := by decide +kernel
theorem dX12_rankOf_21 : decode cX12_rankOf 21 = .ok (.bipush 15, 2) := by decide +kernel
theorem dX12_rankOf_23 : decode cX12_rankOf 23 = .ok (.if_icmp .ne 8, 3) := by decide +kernel
theorem dX12_rankOf_26 : decode cX12_rankOf 26 = .ok (.bipush 8, 2) := by decide +kernel
theorem dX12_rankOf_28 : decode cX12_rankOf 28 = .ok (.goto 4, 3) := by decide +kernel
theorem dX12_rankOf_31 : decode cX12_rankOf 31 = .ok (.iconst 1, 1) := by decide +kernel
theorem dX12_rankOf_32 : decode cX12_rankOf 32 = .ok (.ireturn, 1) := by decide +kernel
theorem dX12_devices_0 : decode cX12_devices 0 = .ok (.iload_n 1, 1) := by decide +kernel
theorem dX12_devices_1 : decode cX12_devices 1 = .ok (.bipush 88, 2) := by decide +kernel
theorem dX12_devices_3 : decode cX12_devices 3 = .ok (.if_icmp .ne 90, 3) := by decide +kernel
theorem dX12_devices_6 : decode cX12_devices 6 = .ok (.aload_n 0, 1) := by decide +kernel
theorem dX12_devices_7 : decode cX12_devices 7 = .ok (.lconst 1, 1) := by decide +kernel
theorem dX12_devices_8 : decode cX12_devices 8 = .ok (.invokevirtual 359, 3) := by decide +kernel
theorem dX12_devices_11 : decode cX12_devices 11 = .ok (.ifCond .ne 6, 3) := by decide +kernel
theorem dX12_devices_14 : decode cX12_devices 14 = .ok (.bipush 8, 2) := by decide +kernel
theorem dX12_devices_16 : decode cX12_devices 16 = .ok (.ireturn, 1) := by decide +kernel
theorem dX12_devices_17 : decode cX12_devices 17 = .ok (.aload_n 0, 1) := by decide +kernel
theorem dX12_devices_18 : decode cX12_devices 18 = .ok (.bipush 13, 2) := by decide +kernel
theorem dX12_devices_20 : decode cX12_devices 20 = .ok (.iload 4, 2) := by decide +kernel
theorem dX12_devices_22 : decode cX12_devices 22 = .ok (.iconst 3, 1) := by decide +kernel
theorem dX12_devices_23 : decode cX12_devices 23 = .ok (.iand, 1) := by decide +kernel
theorem dX12_devices_24 : decode cX12_devices 24 = .ok (.iadd, 1) := by decide +kernel
theorem dX12_devices_25 : decode cX12_devices 25 = .ok (.invokevirtual 164, 3) := by decide +kernel
theorem dX12_devices_28 : decode cX12_devices 28 = .ok (.istore 5, 2) := by decide +kernel
theorem dX12_devices_30 : decode cX12_devices 30 = .ok (.aload_n 0, 1) := by decide +kernel
theorem dX12_devices_31 : decode cX12_devices 31 = .ok (.getfield 379, 3) := by decide +kernel
theorem dX12_devices_34 : decode cX12_devices 34 = .ok (.iload 5, 2) := by decide +kernel
theorem dX12_devices_36 : decode cX12_devices 36 = .ok (.aload_n 0, 1) := by decide +kernel
theorem dX12_devices_37 : decode cX12_devices 37 = .ok (.getfield 149, 3) := by decide +kernel
theorem dX12_devices_40 : decode cX12_devices 40 = .ok (.iload 5, 2) := by decide +kernel
theorem dX12_devices_42 : decode cX12_devices 42 = .ok (.iaload, 1) := by decide +kernel
theorem dX12_devices_43 : decode cX12_devices 43 = .ok (.bipush 16, 2) := by decide +kernel
theorem dX12_devices_45 : decode cX12_devices 45 = .ok (.if_icmp .ne 9, 3) := by decide +kernel
theorem dX12_devices_48 : decode cX12_devices 48 = .ok (.ldc2_w 15, 3) := by decide +kernel
theorem dX12_devices_51 : decode cX12_devices 51 = .ok (.goto 4, 3) := by decide +kernel
theorem dX12_devices_54 : decode cX12_devices 54 = .ok (.lconst 0, 1) := by decide +kernel
theorem dX12_devices_55 : decode cX12_devices 55 = .ok (.lastore, 1) := by decide +kernel
theorem dX12_devices_56 : decode cX12_devices 56 = .ok (.aload_n 0, 1) := by decide +kernel
theorem dX12_devices_57 : decode cX12_devices 57 = .ok (.getfield 382, 3) := by decide +kernel
theorem dX12_devices_60 : decode cX12_devices 60 = .ok (.iload 5, 2) := by decide +kernel
theorem dX12_devices_62 : decode cX12_devices 62 = .ok (.lconst 0, 1) := by decide +kernel
theorem dX12_devices_63 : decode cX12_devices 63 = .ok (.lastore, 1) := by decide +kernel
theorem dX12_devices_64 : decode cX12_devices 64 = .ok (.aload_n 0, 1) := by decide +kernel
theorem dX12_devices_65 : decode cX12_devices 65 = .ok (.getfield 401, 3) := by decide +kernel
theorem dX12_devices_68 : decode cX12_devices 68 = .ok (.iload 5, 2) := by decide +kernel
theorem dX12_devices_70 : decode cX12_devices 70 = .ok (.iconst 0, 1) := by decide +kernel
theorem dX12_devices_71 : decode cX12_devices 71 = .ok (.iastore, 1) := by decide +kernel
theorem dX12_devices_72 : decode cX12_devices 72 = .ok (.aload_n 0, 1) := by decide +kernel
theorem dX12_devices_73 : decode cX12_devices 73 = .ok (.getfield 404, 3) := by decide +kernel
theorem dX12_devices_76 : decode cX12_devices 76 = .ok (.iload 5, 2) := by decide +kernel
theorem dX12_devices_78 : decode cX12_devices 78 = .ok (.iconst 0, 1) := by decide +kernel
theorem dX12_devices_79 : decode cX12_devices 79 = .ok (.iastore, 1) := by decide +kernel
theorem dX12_devices_80 : decode cX12_devices 80 = .ok (.aload_n 0, 1) := by decide +kernel
theorem dX12_devices_81 : decode cX12_devices 81 = .ok (.getfield 145, 3) := by decide +kernel
theorem dX12_devices_84 : decode cX12_devices 84 = .ok (.iload_n 2, 1) := by decide +kernel
theorem dX12_devices_85 : decode cX12_devices 85 = .ok (.bipush 15, 2) := by decide +kernel
theorem dX12_devices_87 : decode cX12_devices 87 = .ok (.iand, 1) := by decide +kernel
theorem dX12_devices_88 : decode cX12_devices 88 = .ok (.iload 5, 2) := by decide +kernel
theorem dX12_devices_90 : decode cX12_devices 90 = .ok (.iastore, 1) := by decide +kernel
theorem dX12_devices_91 : decode cX12_devices 91 = .ok (.iconst 0, 1) := by decide +kernel
theorem dX12_devices_92 : decode cX12_devices 92 = .ok (.ireturn, 1) := by decide +kernel
theorem dX12_devices_93 : decode cX12_devices 93 = .ok (.iload_n 1, 1) := by decide +kernel
theorem dX12_devices_94 : decode cX12_devices 94 = .ok (.bipush 91, 2) := by decide +kernel
theorem dX12_devices_96 : decode cX12_devices 96 = .ok (.if_icmp .eq 9, 3) := by decide +kernel
theorem dX12_devices_99 : decode cX12_devices 99 = .ok (.iload_n 1, 1) := by decide +kernel
theorem dX12_devices_100 : decode cX12_devices 100 = .ok (.bipush 92, 2) := by decide +kernel
theorem dX12_devices_102 : decode cX12_devices 102 = .ok (.if_icmp .ne 7, 3) := by decide +kernel
theorem dX12_devices_105 : decode cX12_devices 105 = .ok (.iload_n 2, 1) := by decide +kernel
theorem dX12_devices_106 : decode cX12_devices 106 = .ok (.goto 4, 3) := by decide +kernel
theorem dX12_devices_109 : decode cX12_devices 109 = .ok (.iload_n 3, 1) := by decide +kernel
theorem dX12_devices_110 : decode cX12_devices 110 = .ok (.istore 5, 2) := by decide +kernel
theorem dX12_devices_112 : decode cX12_devices 112 = .ok (.aload_n 0, 1) := by decide +kernel
theorem dX12_devices_113 : decode cX12_devices 113 = .ok (.iload 5, 2) := by decide +kernel
theorem dX12_devices_115 : decode cX12_devices 115 = .ok (.invokevirtual 349, 3) := by decide +kernel
theorem dX12_devices_118 : decode cX12_devices 118 = .ok (.istore 6, 2) := by decide +kernel
theorem dX12_devices_120 : decode cX12_devices 120 = .ok (.iload_n 1, 1) := by decide +kernel
theorem dX12_devices_121 : decode cX12_devices 121 = .ok (.bipush 91, 2) := by decide +kernel
theorem dX12_devices_123 : decode cX12_devices 123 = .ok (.if_icmp .ne 25, 3) := by decide +kernel
theorem dX12_devices_126 : decode cX12_devices 126 = .ok (.iload 6, 2) := by decide +kernel
theorem dX12_devices_128 : decode cX12_devices 128 = .ok (.bipush 13, 2) := by decide +kernel
theorem dX12_devices_130 : decode cX12_devices 130 = .ok (.if_icmp .lt 14, 3) := by decide +kernel
theorem dX12_devices_133 : decode cX12_devices 133 = .ok (.iload 6, 2) := by decide +kernel
theorem dX12_devices_135 : decode cX12_devices 135 = .ok (.bipush 15, 2) := by decide +kernel
theorem dX12_devices_137 : decode cX12_devices 137 = .ok (.if_icmp .gt 7, 3) := by decide +kernel
theorem dX12_devices_140 : decode cX12_devices 140 = .ok (.iconst 1, 1) := by decide +kernel
theorem dX12_devices_141 : decode cX12_devices 141 = .ok (.goto 33, 3) := by decide +kernel
theorem dX12_devices_144 : decode cX12_devices 144 = .ok (.iconst 0, 1) := by decide +kernel
theorem dX12_devices_145 : decode cX12_devices 145 = .ok (.goto 29, 3) := by decide +kernel
theorem dX12_devices_148 : decode cX12_devices 148 = .ok (.iload_n 1, 1) := by decide +kernel
theorem dX12_devices_149 : decode cX12_devices 149 = .ok (.bipush 92, 2) := by decide +kernel
theorem dX12_devices_151 : decode cX12_devices 151 = .ok (.if_icmp .ne 18, 3) := by decide +kernel
theorem dX12_devices_154 : decode cX12_devices 154 = .ok (.iload 6, 2) := by decide +kernel
theorem dX12_devices_156 : decode cX12_devices 156 = .ok (.bipush 16, 2) := by decide +kernel
theorem dX12_devices_158 : decode cX12_devices 158 = .ok (.if_icmp .ne 7, 3) := by decide +kernel
theorem dX12_devices_161 : decode cX12_devices 161 = .ok (.iconst 1, 1) := by decide +kernel
theorem dX12_devices_162 : decode cX12_devices 162 = .ok (.goto 12, 3) := by decide +kernel
theorem dX12_devices_165 : decode cX12_devices 165 = .ok (.iconst 0, 1) := by decide +kernel
theorem dX12_devices_166 : decode cX12_devices 166 = .ok (.goto 8, 3) := by decide +kernel
theorem dX12_devices_169 : decode cX12_devices 169 = .ok (.iload 6, 2) := by decide +kernel
theorem dX12_devices_171 : decode cX12_devices 171 = .ok (.invokestatic 407, 3) := by decide +kernel
theorem dX12_devices_174 : decode cX12_devices 174 = .ok (.istore 7, 2) := by decide +kernel
theorem dX12_devices_176 : decode cX12_devices 176 = .ok (.iload 6, 2) := by decide +kernel
theorem dX12_devices_178 : decode cX12_devices 178 = .ok (.iconst (-1), 1) := by decide +kernel
theorem dX12_devices_179 : decode cX12_devices 179 = .ok (.if_icmp .eq 10, 3) := by decide +kernel
theorem dX12_devices_182 : decode cX12_devices 182 = .ok (.iload 7, 2) := by decide +kernel
theorem dX12_devices_184 : decode cX12_devices 184 = .ok (.ifCond .ne 5, 3) := by decide +kernel
theorem dX12_devices_187 : decode cX12_devices 187 = .ok (.iconst 2, 1) := by decide +kernel
theorem dX12_devices_188 : decode cX12_devices 188 = .ok (.ireturn, 1) := by decide +kernel
theorem dX12_devices_189 : decode cX12_devices 189 = .ok (.iload 6, 2) := by decide +kernel
theorem dX12_devices_191 : decode cX12_devices 191 = .ok (.iconst (-1), 1) := by decide +kernel
theorem dX12_devices_192 : decode cX12_devices 192 = .ok (.if_icmp .ne 5, 3) := by decide +kernel
theorem dX12_devices_195 : decode cX12_devices 195 = .ok (.iconst 1, 1) := by decide +kernel
theorem dX12_devices_196 : decode cX12_devices 196 = .ok (.ireturn, 1) := by decide +kernel
theorem dX12_devices_197 : decode cX12_devices 197 = .ok (.aload_n 0, 1) := by decide +kernel
theorem dX12_devices_198 : decode cX12_devices 198 = .ok (.getfield 145, 3) := by decide +kernel
theorem dX12_devices_201 : decode cX12_devices 201 = .ok (.iload 5, 2) := by decide +kernel
theorem dX12_devices_203 : decode cX12_devices 203 = .ok (.bipush 15, 2) := by decide +kernel
theorem dX12_devices_205 : decode cX12_devices 205 = .ok (.iand, 1) := by decide +kernel
theorem dX12_devices_206 : decode cX12_devices 206 = .ok (.iaload, 1) := by decide +kernel
theorem dX12_devices_207 : decode cX12_devices 207 = .ok (.istore 8, 2) := by decide +kernel
theorem dX12_devices_209 : decode cX12_devices 209 = .ok (.iload_n 1, 1) := by decide +kernel
theorem dX12_devices_210 : decode cX12_devices 210 = .ok (.bipush 89, 2) := by decide +kernel
theorem dX12_devices_212 : decode cX12_devices 212 = .ok (.if_icmp .ne 24, 3) := by decide +kernel
theorem dX12_devices_215 : decode cX12_devices 215 = .ok (.aload_n 0, 1) := by decide +kernel
theorem dX12_devices_216 : decode cX12_devices 216 = .ok (.iload 8, 2) := by decide +kernel
theorem dX12_devices_218 : decode cX12_devices 218 = .ok (.iload_n 2, 1) := by decide +kernel
theorem dX12_devices_219 : decode cX12_devices 219 = .ok (.bipush 15, 2) := by decide +kernel
theorem dX12_devices_221 : decode cX12_devices 221 = .ok (.iand, 1) := by decide +kernel
theorem dX12_devices_222 : decode cX12_devices 222 = .ok (.aload_n 0, 1) := by decide +kernel
theorem dX12_devices_223 : decode cX12_devices 223 = .ok (.getfield 297, 3) := by decide +kernel
theorem dX12_devices_226 : decode cX12_devices 226 = .ok (.iload 4, 2) := by decide +kernel
theorem dX12_devices_228 : decode cX12_devices 228 = .ok (.bipush 15, 2) := by decide +kernel
theorem dX12_devices_230 : decode cX12_devices 230 = .ok (.iand, 1) := by decide +kernel
theorem dX12_devices_231 : decode cX12_devices 231 = .ok (.laload, 1) := by decide +kernel
theorem dX12_devices_232 : decode cX12_devices 232 = .ok (.invokevirtual 410, 3) := by decide +kernel
theorem dX12_devices_235 : decode cX12_devices 235 = .ok (.ireturn, 1) := by decide +kernel
theorem dX12_devices_236 : decode cX12_devices 236 = .ok (.iload_n 1, 1) := by decide +kernel
theorem dX12_devices_237 : decode cX12_devices 237 = .ok (.bipush 90, 2) := by decide +kernel
theorem dX12_devices_239 : decode cX12_devices 239 = .ok (.if_icmp .ne 119, 3) := by decide +kernel
theorem dX12_devices_242 : decode cX12_devices 242 = .ok (.iload 4, 2) := by decide +kernel
theorem dX12_devices_244 : decode cX12_devices 244 = .ok (.bipush 7, 2) := by decide +kernel
theorem dX12_devices_246 : decode cX12_devices 246 = .ok (.iand, 1) := by decide +kernel
theorem dX12_devices_247 : decode cX12_devices 247 = .ok (.istore 9, 2) := by decide +kernel
theorem dX12_devices_249 : decode cX12_devices 249 = .ok (.aload_n 0, 1) := by decide +kernel
theorem dX12_devices_250 : decode cX12_devices 250 = .ok (.getfield 297, 3) := by decide +kernel
theorem dX12_devices_253 : decode cX12_devices 253 = .ok (.iload_n 2, 1) := by decide +kernel
theorem dX12_devices_254 : decode cX12_devices 254 = .ok (.bipush 15, 2) := by decide +kernel
theorem dX12_devices_256 : decode cX12_devices 256 = .ok (.iand, 1) := by decide +kernel
theorem dX12_devices_257 : decode cX12_devices 257 = .ok (.iload 9, 2) := by decide +kernel
theorem dX12_devices_259 : decode cX12_devices 259 = .ok (.ifCond .ne 13, 3) := by decide +kernel
theorem dX12_devices_262 : decode cX12_devices 262 = .ok (.aload_n 0, 1) := by decide +kernel
theorem dX12_devices_263 : decode cX12_devices 263 = .ok (.getfield 379, 3) := by decide +kernel
theorem dX12_devices_266 : decode cX12_devices 266 = .ok (.iload 8, 2) := by decide +kernel
theorem dX12_devices_268 : decode cX12_devices 268 = .ok (.laload, 1) := by decide +kernel
theorem dX12_devices_269 : decode cX12_devices 269 = .ok (.goto 85, 3) := by decide +kernel
theorem dX12_devices_272 : decode cX12_devices 272 = .ok (.iload 9, 2) := by decide +kernel
theorem dX12_devices_274 : decode cX12_devices 274 = .ok (.iconst 3, 1) := by decide +kernel
theorem dX12_devices_275 : decode cX12_devices 275 = .ok (.if_icmp .ne 13, 3) := by decide +kernel
theorem dX12_devices_278 : decode cX12_devices 278 = .ok (.aload_n 0, 1) := by decide +kernel
theorem dX12_devices_279 : decode cX12_devices 279 = .ok (.getfield 382, 3) := by decide +kernel
theorem dX12_devices_282 : decode cX12_devices 282 = .ok (.iload 8, 2) := by decide +kernel
theorem dX12_devices_284 : decode cX12_devices 284 = .ok (.laload, 1) := by decide +kernel
theorem dX12_devices_285 : decode cX12_devices 285 = .ok (.goto 69, 3) := by decide +kernel
theorem dX12_devices_288 : decode cX12_devices 288 = .ok (.iload 9, 2) := by decide +kernel
theorem dX12_devices_290 : decode cX12_devices 290 = .ok (.iconst 1, 1) := by decide +kernel
theorem dX12_devices_291 : decode cX12_devices 291 = .ok (.if_icmp .ne 12, 3) := by decide +kernel
theorem dX12_devices_294 : decode cX12_devices 294 = .ok (.iload 6, 2) := by decide +kernel
theorem dX12_devices_296 : decode cX12_devices 296 = .ok (.invokestatic 413, 3) := by decide +kernel
theorem dX12_devices_299 : decode cX12_devices 299 = .ok (.i2l, 1) := by decide +kernel
theorem dX12_devices_300 : decode cX12_devices 300 = .ok (.goto 51, 3) := by decide +kernel
theorem dX12_devices_303 : decode cX12_devices 303 = .ok (.iload 9, 2) := by decide +kernel
theorem dX12_devices_305 : decode cX12_devices 305 = .ok (.iconst 2, 1) := by decide +kernel
theorem dX12_devices_306 : decode cX12_devices 306 = .ok (.if_icmp .ne 12, 3) := by decide +kernel
theorem dX12_devices_309 : decode cX12_devices 309 = .ok (.iload 6, 2) := by decide +kernel
theorem dX12_devices_311 : decode cX12_devices 311 = .ok (.invokestatic 416, 3) := by decide +kernel
theorem dX12_devices_314 : decode cX12_devices 314 = .ok (.i2l, 1) := by decide +kernel
theorem dX12_devices_315 : decode cX12_devices 315 = .ok (.goto 36, 3) := by decide +kernel
theorem dX12_devices_318 : decode cX12_devices 318 = .ok (.iload 9, 2) := by decide +kernel
theorem dX12_devices_320 : decode cX12_devices 320 = .ok (.iconst 4, 1) := by decide +kernel
theorem dX12_devices_321 : decode cX12_devices 321 = .ok (.if_icmp .ne 14, 3) := by decide +kernel
theorem dX12_devices_324 : decode cX12_devices 324 = .ok (.aload_n 0, 1) := by decide +kernel
theorem dX12_devices_325 : decode cX12_devices 325 = .ok (.getfield 401, 3) := by decide +kernel
theorem dX12_devices_328 : decode cX12_devices 328 = .ok (.iload 8, 2) := by decide +kernel
theorem dX12_devices_330 : decode cX12_devices 330 = .ok (.iaload, 1) := by decide +kernel
theorem dX12_devices_331 : decode cX12_devices 331 = .ok (.i2l, 1) := by decide +kernel
theorem dX12_devices_332 : decode cX12_devices 332 = .ok (.goto 19, 3) := by decide +kernel
theorem dX12_devices_335 : decode cX12_devices 335 = .ok (.iload 9, 2) := by decide +kernel
theorem dX12_devices_337 : decode cX12_devices 337 = .ok (.iconst 5, 1) := by decide +kernel
theorem dX12_devices_338 : decode cX12_devices 338 = .ok (.if_icmp .ne 12, 3) := by decide +kernel
theorem dX12_devices_341 : decode cX12_devices 341 = .ok (.iload 6, 2) := by decide +kernel
theorem dX12_devices_343 : decode cX12_devices 343 = .ok (.invokestatic 419, 3) := by decide +kernel
theorem dX12_devices_346 : decode cX12_devices 346 = .ok (.i2l, 1) := by decide +kernel
theorem dX12_devices_347 : decode cX12_devices 347 = .ok (.goto 4, 3) := by decide +kernel
theorem dX12_devices_350 : decode cX12_devices 350 = .ok (.lconst 0, 1) := by decide +kernel
theorem dX12_devices_351 : decode cX12_devices 351 = .ok (.invokestatic 114, 3) := by decide +kernel
theorem dX12_devices_354 : decode cX12_devices 354 = .ok (.lastore, 1) := by decide +kernel
theorem dX12_devices_355 : decode cX12_devices 355 = .ok (.goto 71, 3) := by decide +kernel
theorem dX12_devices_358 : decode cX12_devices 358 = .ok (.iload_n 1, 1) := by decide +kernel
theorem dX12_devices_359 : decode cX12_devices 359 = .ok (.bipush 91, 2) := by decide +kernel
theorem dX12_devices_361 : decode cX12_devices 361 = .ok (.if_icmp .ne 47, 3) := by decide +kernel
theorem dX12_devices_364 : decode cX12_devices 364 = .ok (.aload_n 0, 1) := by decide +kernel
theorem dX12_devices_365 : decode cX12_devices 365 = .ok (.getfield 379, 3) := by decide +kernel
theorem dX12_devices_368 : decode cX12_devices 368 = .ok (.iload 8, 2) := by decide +kernel
theorem dX12_devices_370 : decode cX12_devices 370 = .ok (.lconst 0, 1) := by decide +kernel
theorem dX12_devices_371 : decode cX12_devices 371 = .ok (.lastore, 1) := by decide +kernel
theorem dX12_devices_372 : decode cX12_devices 372 = .ok (.iload 6, 2) := by decide +kernel
theorem dX12_devices_374 : decode cX12_devices 374 = .ok (.bipush 14, 2) := by decide +kernel
theorem dX12_devices_376 : decode cX12_devices 376 = .ok (.if_icmp .ne 14, 3) := by decide +kernel
theorem dX12_devices_379 : decode cX12_devices 379 = .ok (.aload_n 0, 1) := by decide +kernel
theorem dX12_devices_380 : decode cX12_devices 380 = .ok (.getfield 401, 3) := by decide +kernel
theorem dX12_devices_383 : decode cX12_devices 383 = .ok (.iload 8, 2) := by decide +kernel
theorem dX12_devices_385 : decode cX12_devices 385 = .ok (.dup2, 1) := by decide +kernel
theorem dX12_devices_386 : decode cX12_devices 386 = .ok (.iaload, 1) := by decide +kernel
theorem dX12_devices_387 : decode cX12_devices 387 = .ok (.iconst 1, 1) := by decide +kernel
theorem dX12_devices_388 : decode cX12_devices 388 = .ok (.iadd, 1) := by decide +kernel
theorem dX12_devices_389 : decode cX12_devices 389 = .ok (.iastore, 1) := by decide +kernel
theorem dX12_devices_390 : decode cX12_devices 390 = .ok (.iload 6, 2) := by decide +kernel
theorem dX12_devices_392 : decode cX12_devices 392 = .ok (.bipush 15, 2) := by decide +kernel
theorem dX12_devices_394 : decode cX12_devices 394 = .ok (.if_icmp .ne 32, 3) := by decide +kernel
theorem dX12_devices_397 : decode cX12_devices 397 = .ok (.aload_n 0, 1) := by decide +kernel
theorem dX12_devices_398 : decode cX12_devices 398 = .ok (.getfield 382, 3) := by decide +kernel
theorem dX12_devices_401 : decode cX12_devices 401 = .ok (.iload 8, 2) := by decide +kernel
theorem dX12_devices_403 : decode cX12_devices 403 = .ok (.lconst 0, 1) := by decide +kernel
theorem dX12_devices_404 : decode cX12_devices 404 = .ok (.lastore, 1) := by decide +kernel
theorem dX12_devices_405 : decode cX12_devices 405 = .ok (.goto 21, 3) := by decide +kernel
theorem dX12_devices_408 : decode cX12_devices 408 = .ok (.aload_n 0, 1) := by decide +kernel
theorem dX12_devices_409 : decode cX12_devices 409 = .ok (.iload 8, 2) := by decide +kernel
theorem dX12_devices_411 : decode cX12_devices 411 = .ok (.aload_n 0, 1) := by decide +kernel
theorem dX12_devices_412 : decode cX12_devices 412 = .ok (.getfield 297, 3) := by decide +kernel
theorem dX12_devices_415 : decode cX12_devices 415 = .ok (.iload_n 3, 1) := by decide +kernel
theorem dX12_devices_416 : decode cX12_devices 416 = .ok (.bipush 15, 2) := by decide +kernel
theorem dX12_devices_418 : decode cX12_devices 418 = .ok (.iand, 1) := by decide +kernel
theorem dX12_devices_419 : decode cX12_devices 419 = .ok (.laload, 1) := by decide +kernel
theorem dX12_devices_420 : decode cX12_devices 420 = .ok (.invokestatic 117, 3) := by decide +kernel
theorem dX12_devices_423 : decode cX12_devices 423 = .ok (.invokevirtual 422, 3) := by decide +kernel
theorem dX12_devices_426 : decode cX12_devices 426 = .ok (.iconst 0, 1) := by decide +kernel
theorem dX12_devices_427 : decode cX12_devices 427 = .ok (.ireturn, 1) := by decide +kernel
theorem dX12_goes_0 : decode cX12_goes 0 = .ok (.aload_n 0, 1) := by decide +kernel
theorem dX12_goes_1 : decode cX12_goes 1 = .ok (.getfield 149, 3) := by decide +kernel
theorem dX12_goes_4 : decode cX12_goes 4 = .ok (.iload_n 1, 1) := by decide +kernel
theorem dX12_goes_5 : decode cX12_goes 5 = .ok (.iaload, 1) := by decide +kernel
theorem dX12_goes_6 : decode cX12_goes 6 = .ok (.istore 5, 2) := by decide +kernel
theorem dX12_goes_8 : decode cX12_goes 8 = .ok (.lload_n 3, 1) := by decide +kernel
theorem dX12_goes_9 : decode cX12_goes 9 = .ok (.lstore 6, 2) := by decide +kernel
theorem dX12_goes_11 : decode cX12_goes 11 = .ok (.iload 5, 2) := by decide +kernel
theorem dX12_goes_13 : decode cX12_goes 13 = .ok (.bipush 15, 2) := by decide +kernel
theorem dX12_goes_15 : decode cX12_goes 15 = .ok (.if_icmp .ne 35, 3) := by decide +kernel
theorem dX12_goes_18 : decode cX12_goes 18 = .ok (.lload 6, 2) := by decide +kernel
theorem dX12_goes_20 : decode cX12_goes 20 = .ok (.aload_n 0, 1) := by decide +kernel
theorem dX12_goes_21 : decode cX12_goes 21 = .ok (.ldc2_w 426, 3) := by decide +kernel
theorem dX12_goes_24 : decode cX12_goes 24 = .ok (.invokestatic 114, 3) := by decide +kernel
theorem dX12_goes_27 : decode cX12_goes 27 = .ok (.lload 6, 2) := by decide +kernel
theorem dX12_goes_29 : decode cX12_goes 29 = .ok (.ldc2_w 426, 3) := by decide +kernel
theorem dX12_goes_32 : decode cX12_goes 32 = .ok (.invokestatic 114, 3) := by decide +kernel
theorem dX12_goes_35 : decode cX12_goes 35 = .ok (.invokestatic 306, 3) := by decide +kernel
theorem dX12_goes_38 : decode cX12_goes 38 = .ok (.iconst 1, 1) := by decide +kernel
theorem dX12_goes_39 : decode cX12_goes 39 = .ok (.invokestatic 100, 3) := by decide +kernel
theorem dX12_goes_42 : decode cX12_goes 42 = .ok (.invokevirtual 120, 3) := by decide +kernel
theorem dX12_goes_45 : decode cX12_goes 45 = .ok (.invokestatic 309, 3) := by decide +kernel
theorem dX12_goes_48 : decode cX12_goes 48 = .ok (.lstore 6, 2) := by decide +kernel
theorem dX12_goes_50 : decode cX12_goes 50 = .ok (.iload 5, 2) := by decide +kernel
theorem dX12_goes_52 : decode cX12_goes 52 = .ok (.bipush 14, 2) := by decide +kernel
theorem dX12_goes_54 : decode cX12_goes 54 = .ok (.if_icmp .eq 10, 3) := by decide +kernel
theorem dX12_goes_57 : decode cX12_goes 57 = .ok (.iload 5, 2) := by decide +kernel
theorem dX12_goes_59 : decode cX12_goes 59 = .ok (.bipush 15, 2) := by decide +kernel
theorem dX12_goes_61 : decode cX12_goes 61 = .ok (.if_icmp .ne 30, 3) := by decide +kernel
theorem dX12_goes_64 : decode cX12_goes 64 = .ok (.aload_n 0, 1) := by decide +kernel
theorem dX12_goes_65 : decode cX12_goes 65 = .ok (.ldc2_w 428, 3) := by decide +kernel
theorem dX12_goes_68 : decode cX12_goes 68 = .ok (.invokestatic 114, 3) := by decide +kernel
theorem dX12_goes_71 : decode cX12_goes 71 = .ok (.lload 6, 2) := by decide +kernel
theorem dX12_goes_73 : decode cX12_goes 73 = .ok (.invokevirtual 120, 3) := by decide +kernel
theorem dX12_goes_76 : decode cX12_goes 76 = .ok (.iconst 3, 1) := by decide +kernel
theorem dX12_goes_77 : decode cX12_goes 77 = .ok (.invokestatic 100, 3) := by decide +kernel
theorem dX12_goes_80 : decode cX12_goes 80 = .ok (.ldc2_w 428, 3) := by decide +kernel
theorem dX12_goes_83 : decode cX12_goes 83 = .ok (.invokestatic 114, 3) := by decide +kernel
theorem dX12_goes_86 : decode cX12_goes 86 = .ok (.invokestatic 306, 3) := by decide +kernel
theorem dX12_goes_89 : decode cX12_goes 89 = .ok (.lstore 6, 2) := by decide +kernel
theorem dX12_goes_91 : decode cX12_goes 91 = .ok (.lload 6, 2) := by decide +kernel
theorem dX12_goes_93 : decode cX12_goes 93 = .ok (.invokestatic 11, 3) := by decide +kernel
theorem dX12_goes_96 : decode cX12_goes 96 = .ok (.ifCond .eq 6, 3) := by decide +kernel
theorem dX12_goes_99 : decode cX12_goes 99 = .ok (.bipush 7, 2) := by decide +kernel
theorem dX12_goes_101 : decode cX12_goes 101 = .ok (.ireturn, 1) := by decide +kernel
theorem dX12_goes_102 : decode cX12_goes 102 = .ok (.iload 5, 2) := by decide +kernel
theorem dX12_goes_104 : decode cX12_goes 104 = .ok (.bipush 16, 2) := by decide +kernel
theorem dX12_goes_106 : decode cX12_goes 106 = .ok (.if_icmp .eq 23, 3) := by decide +kernel
theorem dX12_goes_109 : decode cX12_goes 109 = .ok (.iload 5, 2) := by decide +kernel
theorem dX12_goes_111 : decode cX12_goes 111 = .ok (.invokestatic 413, 3) := by decide +kernel
theorem dX12_goes_114 : decode cX12_goes 114 = .ok (.i2l, 1) := by decide +kernel
theorem dX12_goes_115 : decode cX12_goes 115 = .ok (.invokestatic 114, 3) := by decide +kernel
theorem dX12_goes_118 : decode cX12_goes 118 = .ok (.lload 6, 2) := by decide +kernel
theorem dX12_goes_120 : decode cX12_goes 120 = .ok (.invokestatic 97, 3) := by decide +kernel
theorem dX12_goes_123 : decode cX12_goes 123 = .ok (.invokestatic 430, 3) := by decide +kernel
theorem dX12_goes_126 : decode cX12_goes 126 = .ok (.ifCond .eq 6, 3) := by decide +kernel
theorem dX12_goes_129 : decode cX12_goes 129 = .ok (.bipush 8, 2) := by decide +kernel
theorem dX12_goes_131 : decode cX12_goes 131 = .ok (.ireturn, 1) := by decide +kernel
theorem dX12_goes_132 : decode cX12_goes 132 = .ok (.lload 6, 2) := by decide +kernel
theorem dX12_goes_134 : decode cX12_goes 134 = .ok (.aload_n 0, 1) := by decide +kernel
theorem dX12_goes_135 : decode cX12_goes 135 = .ok (.getfield 379, 3) := by decide +kernel
theorem dX12_goes_138 : decode cX12_goes 138 = .ok (.iload_n 1, 1) := by decide +kernel
theorem dX12_goes_139 : decode cX12_goes 139 = .ok (.laload, 1) := by decide +kernel
theorem dX12_goes_140 : decode cX12_goes 140 = .ok (.invokestatic 309, 3) := by decide +kernel
theorem dX12_goes_143 : decode cX12_goes 143 = .ok (.invokestatic 97, 3) := by decide +kernel
theorem dX12_goes_146 : decode cX12_goes 146 = .ok (.lstore 8, 2) := by decide +kernel
theorem dX12_goes_148 : decode cX12_goes 148 = .ok (.iload 5, 2) := by decide +kernel
theorem dX12_goes_150 : decode cX12_goes 150 = .ok (.invokestatic 419, 3) := by decide +kernel
theorem dX12_goes_153 : decode cX12_goes 153 = .ok (.i2l, 1) := by decide +kernel
theorem dX12_goes_154 : decode cX12_goes 154 = .ok (.invokestatic 114, 3) := by decide +kernel
theorem dX12_goes_157 : decode cX12_goes 157 = .ok (.lstore 10, 2) := by decide +kernel
theorem dX12_goes_159 : decode cX12_goes 159 = .ok (.lload 8, 2) := by decide +kernel
theorem dX12_goes_161 : decode cX12_goes 161 = .ok (.lload 10, 2) := by decide +kernel
theorem dX12_goes_163 : decode cX12_goes 163 = .ok (.ldc2_w 88, 3) := by decide +kernel
theorem dX12_goes_166 : decode cX12_goes 166 = .ok (.invokestatic 114, 3) := by decide +kernel
theorem dX12_goes_169 : decode cX12_goes 169 = .ok (.invokestatic 306, 3) := by decide +kernel
theorem dX12_goes_172 : decode cX12_goes 172 = .ok (.invokestatic 430, 3) := by decide +kernel
theorem dX12_goes_175 : decode cX12_goes 175 = .ok (.ifCond .ne 7, 3) := by decide +kernel
theorem dX12_goes_178 : decode cX12_goes 178 = .ok (.iconst 1, 1) := by decide +kernel
theorem dX12_goes_179 : decode cX12_goes 179 = .ok (.goto 4, 3) := by decide +kernel
theorem dX12_goes_182 : decode cX12_goes 182 = .ok (.iconst 0, 1) := by decide +kernel
theorem dX12_goes_183 : decode cX12_goes 183 = .ok (.istore 12, 2) := by decide +kernel
theorem dX12_goes_185 : decode cX12_goes 185 = .ok (.iload 12, 2) := by decide +kernel
theorem dX12_goes_187 : decode cX12_goes 187 = .ok (.ifCond .eq 19, 3) := by decide +kernel
theorem dX12_goes_190 : decode cX12_goes 190 = .ok (.lload 8, 2) := by decide +kernel
theorem dX12_goes_192 : decode cX12_goes 192 = .ok (.lload 10, 2) := by decide +kernel
theorem dX12_goes_194 : decode cX12_goes 194 = .ok (.invokestatic 306, 3) := by decide +kernel
theorem dX12_goes_197 : decode cX12_goes 197 = .ok (.ldc2_w 130, 3) := by decide +kernel
theorem dX12_goes_200 : decode cX12_goes 200 = .ok (.invokestatic 62, 3) := by decide +kernel
theorem dX12_goes_203 : decode cX12_goes 203 = .ok (.goto 33, 3) := by decide +kernel
theorem dX12_goes_206 : decode cX12_goes 206 = .ok (.aload_n 0, 1) := by decide +kernel
theorem dX12_goes_207 : decode cX12_goes 207 = .ok (.ldc2_w 88, 3) := by decide +kernel
theorem dX12_goes_210 : decode cX12_goes 210 = .ok (.invokestatic 114, 3) := by decide +kernel
theorem dX12_goes_213 : decode cX12_goes 213 = .ok (.lload 8, 2) := by decide +kernel
theorem dX12_goes_215 : decode cX12_goes 215 = .ok (.aload_n 0, 1) := by decide +kernel
theorem dX12_goes_216 : decode cX12_goes 216 = .ok (.ldc2_w 88, 3) := by decide +kernel
theorem dX12_goes_219 : decode cX12_goes 219 = .ok (.invokestatic 114, 3) := by decide +kernel
theorem dX12_goes_222 : decode cX12_goes 222 = .ok (.lload 10, 2) := by decide +kernel
theorem dX12_goes_224 : decode cX12_goes 224 = .ok (.invokevirtual 120, 3) := by decide +kernel
theorem dX12_goes_227 : decode cX12_goes 227 = .ok (.invokestatic 306, 3) := by decide +kernel
theorem dX12_goes_230 : decode cX12_goes 230 = .ok (.invokestatic 108, 3) := by decide +kernel
theorem dX12_goes_233 : decode cX12_goes 233 = .ok (.invokevirtual 120, 3) := by decide +kernel
theorem dX12_goes_236 : decode cX12_goes 236 = .ok (.lstore 13, 2) := by decide +kernel
theorem dX12_goes_238 : decode cX12_goes 238 = .ok (.aload_n 0, 1) := by decide +kernel
theorem dX12_goes_239 : decode cX12_goes 239 = .ok (.getfield 247, 3) := by decide +kernel
theorem dX12_goes_242 : decode cX12_goes 242 = .ok (.iload_n 2, 1) := by decide +kernel
theorem dX12_goes_243 : decode cX12_goes 243 = .ok (.aload_n 0, 1) := by decide +kernel
theorem dX12_goes_244 : decode cX12_goes 244 = .ok (.ldc2_w 434, 3) := by decide +kernel
theorem dX12_goes_247 : decode cX12_goes 247 = .ok (.invokestatic 114, 3) := by decide +kernel
theorem dX12_goes_250 : decode cX12_goes 250 = .ok (.lload 13, 2) := by decide +kernel
theorem dX12_goes_252 : decode cX12_goes 252 = .ok (.invokevirtual 120, 3) := by decide +kernel
theorem dX12_goes_255 : decode cX12_goes 255 = .ok (.iconst 2, 1) := by decide +kernel
theorem dX12_goes_256 : decode cX12_goes 256 = .ok (.invokestatic 100, 3) := by decide +kernel
theorem dX12_goes_259 : decode cX12_goes 259 = .ok (.ldc2_w 21, 3) := by decide +kernel
theorem dX12_goes_262 : decode cX12_goes 262 = .ok (.ldc2_w 7, 3) := by decide +kernel
theorem dX12_goes_265 : decode cX12_goes 265 = .ok (.invokestatic 132, 3) := by decide +kernel
theorem dX12_goes_268 : decode cX12_goes 268 = .ok (.lastore, 1) := by decide +kernel
theorem dX12_goes_269 : decode cX12_goes 269 = .ok (.aload_n 0, 1) := by decide +kernel
theorem dX12_goes_270 : decode cX12_goes 270 = .ok (.getfield 379, 3) := by decide +kernel
theorem dX12_goes_273 : decode cX12_goes 273 = .ok (.iload_n 1, 1) := by decide +kernel
theorem dX12_goes_274 : decode cX12_goes 274 = .ok (.lload 6, 2) := by decide +kernel
theorem dX12_goes_276 : decode cX12_goes 276 = .ok (.lastore, 1) := by decide +kernel
theorem dX12_goes_277 : decode cX12_goes 277 = .ok (.aload_n 0, 1) := by decide +kernel
theorem dX12_goes_278 : decode cX12_goes 278 = .ok (.getfield 382, 3) := by decide +kernel
theorem dX12_goes_281 : decode cX12_goes 281 = .ok (.iload_n 1, 1) := by decide +kernel
theorem dX12_goes_282 : decode cX12_goes 282 = .ok (.aload_n 0, 1) := by decide +kernel
theorem dX12_goes_283 : decode cX12_goes 283 = .ok (.getfield 382, 3) := by decide +kernel
theorem dX12_goes_286 : decode cX12_goes 286 = .ok (.iload_n 1, 1) := by decide +kernel
theorem dX12_goes_287 : decode cX12_goes 287 = .ok (.laload, 1) := by decide +kernel
theorem dX12_goes_288 : decode cX12_goes 288 = .ok (.lload 8, 2) := by decide +kernel
theorem dX12_goes_290 : decode cX12_goes 290 = .ok (.invokestatic 62, 3) := by decide +kernel
theorem dX12_goes_293 : decode cX12_goes 293 = .ok (.lastore, 1) := by decide +kernel
theorem dX12_goes_294 : decode cX12_goes 294 = .ok (.aload_n 0, 1) := by decide +kernel
theorem dX12_goes_295 : decode cX12_goes 295 = .ok (.getfield 401, 3) := by decide +kernel
theorem dX12_goes_298 : decode cX12_goes 298 = .ok (.iload_n 1, 1) := by decide +kernel
theorem dX12_goes_299 : decode cX12_goes 299 = .ok (.dup2, 1) := by decide +kernel
theorem dX12_goes_300 : decode cX12_goes 300 = .ok (.iaload, 1) := by decide +kernel
theorem dX12_goes_301 : decode cX12_goes 301 = .ok (.iconst 1, 1) := by decide +kernel
theorem dX12_goes_302 : decode cX12_goes 302 = .ok (.iadd, 1) := by decide +kernel
theorem dX12_goes_303 : decode cX12_goes 303 = .ok (.iastore, 1) := by decide +kernel
theorem dX12_goes_304 : decode cX12_goes 304 = .ok (.iconst 0, 1) := by decide +kernel
theorem dX12_goes_305 : decode cX12_goes 305 = .ok (.ireturn, 1) := by decide +kernel
theorem dX12_senses_0 : decode cX12_senses 0 = .ok (.iconst 5, 1) := by decide +kernel
theorem dX12_senses_1 : decode cX12_senses 1 = .ok (.iload_n 1, 1) := by decide +kernel
theorem dX12_senses_2 : decode cX12_senses 2 = .ok (.imul, 1) := by decide +kernel
theorem dX12_senses_3 : decode cX12_senses 3 = .ok (.istore 4, 2) := by decide +kernel
theorem dX12_senses_5 : decode cX12_senses 5 = .ok (.aload_n 0, 1) := by decide +kernel
theorem dX12_senses_6 : decode cX12_senses 6 = .ok (.getfield 404, 3) := by decide +kernel
theorem dX12_senses_9 : decode cX12_senses 9 = .ok (.iload_n 1, 1) := by decide +kernel
theorem dX12_senses_10 : decode cX12_senses 10 = .ok (.iaload, 1) := by decide +kernel
theorem dX12_senses_11 : decode cX12_senses 11 = .ok (.iconst 5, 1) := by decide +kernel
theorem dX12_senses_12 : decode cX12_senses 12 = .ok (.if_icmp .ne 47, 3) := by decide +kernel
theorem dX12_senses_15 : decode cX12_senses 15 = .ok (.iconst 0, 1) := by decide +kernel
theorem dX12_senses_16 : decode cX12_senses 16 = .ok (.istore 5, 2) := by decide +kernel
theorem dX12_senses_18 : decode cX12_senses 18 = .ok (.iload 5, 2) := by decide +kernel
theorem dX12_senses_20 : decode cX12_senses 20 = .ok (.iconst 4, 1) := by decide +kernel
theorem dX12_senses_21 : decode cX12_senses 21 = .ok (.if_icmp .ge 31, 3) := by decide +kernel
theorem dX12_senses_24 : decode cX12_senses 24 = .ok (.aload_n 0, 1) := by decide +kernel
theorem dX12_senses_25 : decode cX12_senses 25 = .ok (.getfield 436, 3) := by decide +kernel
theorem dX12_senses_28 : decode cX12_senses 28 = .ok (.iload 4, 2) := by decide +kernel
theorem dX12_senses_30 : decode cX12_senses 30 = .ok (.iload 5, 2) := by decide +kernel
theorem dX12_senses_32 : decode cX12_senses 32 = .ok (.iadd, 1) := by decide +kernel
theorem dX12_senses_33 : decode cX12_senses 33 = .ok (.aload_n 0, 1) := by decide +kernel
theorem dX12_senses_34 : decode cX12_senses 34 = .ok (.getfield 436, 3) := by decide +kernel
theorem dX12_senses_37 : decode cX12_senses 37 = .ok (.iload 4, 2) := by decide +kernel
theorem dX12_senses_39 : decode cX12_senses 39 = .ok (.iload 5, 2) := by decide +kernel
theorem dX12_senses_41 : decode cX12_senses 41 = .ok (.iadd, 1) := by decide +kernel
theorem dX12_senses_42 : decode cX12_senses 42 = .ok (.iconst 1, 1) := by decide +kernel
theorem dX12_senses_43 : decode cX12_senses 43 = .ok (.iadd, 1) := by decide +kernel
theorem dX12_senses_44 : decode cX12_senses 44 = .ok (.laload, 1) := by decide +kernel
theorem dX12_senses_45 : decode cX12_senses 45 = .ok (.lastore, 1) := by decide +kernel
theorem dX12_senses_46 : decode cX12_senses 46 = .ok (.iinc 5 1, 3) := by decide +kernel
theorem dX12_senses_49 : decode cX12_senses 49 = .ok (.goto (-31), 3) := by decide +kernel
theorem dX12_senses_52 : decode cX12_senses 52 = .ok (.aload_n 0, 1) := by decide +kernel
theorem dX12_senses_53 : decode cX12_senses 53 = .ok (.getfield 404, 3) := by decide +kernel
theorem dX12_senses_56 : decode cX12_senses 56 = .ok (.iload_n 1, 1) := by decide +kernel
theorem dX12_senses_57 : decode cX12_senses 57 = .ok (.iconst 4, 1) := by decide +kernel
theorem dX12_senses_58 : decode cX12_senses 58 = .ok (.iastore, 1) := by decide +kernel
theorem dX12_senses_59 : decode cX12_senses 59 = .ok (.aload_n 0, 1) := by decide +kernel
theorem dX12_senses_60 : decode cX12_senses 60 = .ok (.getfield 436, 3) := by decide +kernel
theorem dX12_senses_63 : decode cX12_senses 63 = .ok (.iload 4, 2) := by decide +kernel
theorem dX12_senses_65 : decode cX12_senses 65 = .ok (.aload_n 0, 1) := by decide +kernel
theorem dX12_senses_66 : decode cX12_senses 66 = .ok (.getfield 404, 3) := by decide +kernel
theorem dX12_senses_69 : decode cX12_senses 69 = .ok (.iload_n 1, 1) := by decide +kernel
theorem dX12_senses_70 : decode cX12_senses 70 = .ok (.iaload, 1) := by decide +kernel
theorem dX12_senses_71 : decode cX12_senses 71 = .ok (.iadd, 1) := by decide +kernel
theorem dX12_senses_72 : decode cX12_senses 72 = .ok (.lload_n 2, 1) := by decide +kernel
theorem dX12_senses_73 : decode cX12_senses 73 = .ok (.lastore, 1) := by decide +kernel
theorem dX12_senses_74 : decode cX12_senses 74 = .ok (.aload_n 0, 1) := by decide +kernel
theorem dX12_senses_75 : decode cX12_senses 75 = .ok (.getfield 404, 3) := by decide +kernel
theorem dX12_senses_78 : decode cX12_senses 78 = .ok (.iload_n 1, 1) := by decide +kernel
theorem dX12_senses_79 : decode cX12_senses 79 = .ok (.dup2, 1) := by decide +kernel
theorem dX12_senses_80 : decode cX12_senses 80 = .ok (.iaload, 1) := by decide +kernel
theorem dX12_senses_81 : decode cX12_senses 81 = .ok (.iconst 1, 1) := by decide +kernel
theorem dX12_senses_82 : decode cX12_senses 82 = .ok (.iadd, 1) := by decide +kernel
theorem dX12_senses_83 : decode cX12_senses 83 = .ok (.iastore, 1) := by decide +kernel
theorem dX12_senses_84 : decode cX12_senses 84 = .ok (.aload_n 0, 1) := by decide +kernel
theorem dX12_senses_85 : decode cX12_senses 85 = .ok (.getfield 401, 3) := by decide +kernel
theorem dX12_senses_88 : decode cX12_senses 88 = .ok (.iload_n 1, 1) := by decide +kernel
theorem dX12_senses_89 : decode cX12_senses 89 = .ok (.dup2, 1) := by decide +kernel
theorem dX12_senses_90 : decode cX12_senses 90 = .ok (.iaload, 1) := by decide +kernel
theorem dX12_senses_91 : decode cX12_senses 91 = .ok (.iconst 1, 1) := by decide +kernel
theorem dX12_senses_92 : decode cX12_senses 92 = .ok (.iadd, 1) := by decide +kernel
theorem dX12_senses_93 : decode cX12_senses 93 = .ok (.iastore, 1) := by decide +kernel
theorem dX12_senses_94 : decode cX12_senses 94 = .ok (.lconst 0, 1) := by decide +kernel
theorem dX12_senses_95 : decode cX12_senses 95 = .ok (.lstore 5, 2) := by decide +kernel
theorem dX12_senses_97 : decode cX12_senses 97 = .ok (.iconst 0, 1) := by decide +kernel
theorem dX12_senses_98 : decode cX12_senses 98 = .ok (.istore 7, 2) := by decide +kernel
theorem dX12_senses_100 : decode cX12_senses 100 = .ok (.lconst 0, 1) := by decide +kernel
theorem dX12_senses_101 : decode cX12_senses 101 = .ok (.lstore 8, 2) := by decide +kernel
theorem dX12_senses_103 : decode cX12_senses 103 = .ok (.lconst 0, 1) := by decide +kernel
theorem dX12_senses_104 : decode cX12_senses 104 = .ok (.lstore 10, 2) := by decide +kernel
theorem dX12_senses_106 : decode cX12_senses 106 = .ok (.iconst 0, 1) := by decide +kernel
theorem dX12_senses_107 : decode cX12_senses 107 = .ok (.istore 12, 2) := by decide +kernel
theorem dX12_senses_109 : decode cX12_senses 109 = .ok (.iload 12, 2) := by decide +kernel
theorem dX12_senses_111 : decode cX12_senses 111 = .ok (.aload_n 0, 1) := by decide +kernel
theorem dX12_senses_112 : decode cX12_senses 112 = .ok (.getfield 404, 3) := by decide +kernel
theorem dX12_senses_115 : decode cX12_senses 115 = .ok (.iload_n 1, 1) := by decide +kernel
theorem dX12_senses_116 : decode cX12_senses 116 = .ok (.iaload, 1) := by decide +kernel
theorem dX12_senses_117 : decode cX12_senses 117 = .ok (.if_icmp .ge 92, 3) := by decide +kernel
theorem dX12_senses_120 : decode cX12_senses 120 = .ok (.aload_n 0, 1) := by decide +kernel
theorem dX12_senses_121 : decode cX12_senses 121 = .ok (.getfield 436, 3) := by decide +kernel
theorem dX12_senses_124 : decode cX12_senses 124 = .ok (.iload 4, 2) := by decide +kernel
theorem dX12_senses_126 : decode cX12_senses 126 = .ok (.iload 12, 2) := by decide +kernel
theorem dX12_senses_128 : decode cX12_senses 128 = .ok (.iadd, 1) := by decide +kernel
theorem dX12_senses_129 : decode cX12_senses 129 = .ok (.laload, 1) := by decide +kernel
theorem dX12_senses_130 : decode cX12_senses 130 = .ok (.lstore 13, 2) := by decide +kernel
theorem dX12_senses_132 : decode cX12_senses 132 = .ok (.lload 13, 2) := by decide +kernel
theorem dX12_senses_134 : decode cX12_senses 134 = .ok (.invokestatic 11, 3) := by decide +kernel
theorem dX12_senses_137 : decode cX12_senses 137 = .ok (.ifCond .eq 6, 3) := by decide +kernel
theorem dX12_senses_140 : decode cX12_senses 140 = .ok (.goto 63, 3) := by decide +kernel
theorem dX12_senses_143 : decode cX12_senses 143 = .ok (.lload 5, 2) := by decide +kernel
theorem dX12_senses_145 : decode cX12_senses 145 = .ok (.lload 13, 2) := by decide +kernel
theorem dX12_senses_147 : decode cX12_senses 147 = .ok (.invokestatic 62, 3) := by decide +kernel
theorem dX12_senses_150 : decode cX12_senses 150 = .ok (.lstore 5, 2) := by decide +kernel
theorem dX12_senses_152 : decode cX12_senses 152 = .ok (.iload 7, 2) := by decide +kernel
theorem dX12_senses_154 : decode cX12_senses 154 = .ok (.ifCond .eq 13, 3) := by decide +kernel
theorem dX12_senses_157 : decode cX12_senses 157 = .ok (.lload 13, 2) := by decide +kernel
theorem dX12_senses_159 : decode cX12_senses 159 = .ok (.lload 8, 2) := by decide +kernel
theorem dX12_senses_161 : decode cX12_senses 161 = .ok (.invokestatic 90, 3) := by decide +kernel
theorem dX12_senses_164 : decode cX12_senses 164 = .ok (.ifCond .le 8, 3) := by decide +kernel
theorem dX12_senses_167 : decode cX12_senses 167 = .ok (.lload 13, 2) := by decide +kernel
theorem dX12_senses_169 : decode cX12_senses 169 = .ok (.goto 5, 3) := by decide +kernel
theorem dX12_senses_172 : decode cX12_senses 172 = .ok (.lload 8, 2) := by decide +kernel
theorem dX12_senses_174 : decode cX12_senses 174 = .ok (.lstore 8, 2) := by decide +kernel
theorem dX12_senses_176 : decode cX12_senses 176 = .ok (.iload 7, 2) := by decide +kernel
theorem dX12_senses_178 : decode cX12_senses 178 = .ok (.ifCond .eq 13, 3) := by decide +kernel
theorem dX12_senses_181 : decode cX12_senses 181 = .ok (.lload 13, 2) := by decide +kernel
theorem dX12_senses_183 : decode cX12_senses 183 = .ok (.lload 10, 2) := by decide +kernel
theorem dX12_senses_185 : decode cX12_senses 185 = .ok (.invokestatic 90, 3) := by decide +kernel
theorem dX12_senses_188 : decode cX12_senses 188 = .ok (.ifCond .ge 8, 3) := by decide +kernel
theorem dX12_senses_191 : decode cX12_senses 191 = .ok (.lload 13, 2) := by decide +kernel
theorem dX12_senses_193 : decode cX12_senses 193 = .ok (.goto 5, 3) := by decide +kernel
theorem dX12_senses_196 : decode cX12_senses 196 = .ok (.lload 10, 2) := by decide +kernel
theorem dX12_senses_198 : decode cX12_senses 198 = .ok (.lstore 10, 2) := by decide +kernel
theorem dX12_senses_200 : decode cX12_senses 200 = .ok (.iinc 7 1, 3) := by decide +kernel
theorem dX12_senses_203 : decode cX12_senses 203 = .ok (.iinc 12 1, 3) := by decide +kernel
theorem dX12_senses_206 : decode cX12_senses 206 = .ok (.goto (-97), 3) := by decide +kernel
theorem dX12_senses_209 : decode cX12_senses 209 = .ok (.aload_n 0, 1) := by decide +kernel
theorem dX12_senses_210 : decode cX12_senses 210 = .ok (.getfield 379, 3) := by decide +kernel
theorem dX12_senses_213 : decode cX12_senses 213 = .ok (.iload_n 1, 1) := by decide +kernel
theorem dX12_senses_214 : decode cX12_senses 214 = .ok (.iload 7, 2) := by decide +kernel
theorem dX12_senses_216 : decode cX12_senses 216 = .ok (.ifCond .ne 9, 3) := by decide +kernel
theorem dX12_senses_219 : decode cX12_senses 219 = .ok (.ldc2_w 15, 3) := by decide +kernel
theorem dX12_senses_222 : decode cX12_senses 222 = .ok (.goto 14, 3) := by decide +kernel
theorem dX12_senses_225 : decode cX12_senses 225 = .ok (.lload 5, 2) := by decide +kernel
theorem dX12_senses_227 : decode cX12_senses 227 = .ok (.iload 7, 2) := by decide +kernel
theorem dX12_senses_229 : decode cX12_senses 229 = .ok (.i2l, 1) := by decide +kernel
theorem dX12_senses_230 : decode cX12_senses 230 = .ok (.invokestatic 114, 3) := by decide +kernel
theorem dX12_senses_233 : decode cX12_senses 233 = .ok (.invokestatic 306, 3) := by decide +kernel
theorem dX12_senses_236 : decode cX12_senses 236 = .ok (.lastore, 1) := by decide +kernel
theorem dX12_senses_237 : decode cX12_senses 237 = .ok (.aload_n 0, 1) := by decide +kernel
theorem dX12_senses_238 : decode cX12_senses 238 = .ok (.getfield 382, 3) := by decide +kernel
theorem dX12_senses_241 : decode cX12_senses 241 = .ok (.iload_n 1, 1) := by decide +kernel
theorem dX12_senses_242 : decode cX12_senses 242 = .ok (.iload 7, 2) := by decide +kernel
theorem dX12_senses_244 : decode cX12_senses 244 = .ok (.ifCond .ne 7, 3) := by decide +kernel
theorem dX12_senses_247 : decode cX12_senses 247 = .ok (.lconst 0, 1) := by decide +kernel
theorem dX12_senses_248 : decode cX12_senses 248 = .ok (.goto 10, 3) := by decide +kernel
theorem dX12_senses_251 : decode cX12_senses 251 = .ok (.lload 8, 2) := by decide +kernel
theorem dX12_senses_253 : decode cX12_senses 253 = .ok (.lload 10, 2) := by decide +kernel
theorem dX12_senses_255 : decode cX12_senses 255 = .ok (.invokestatic 309, 3) := by decide +kernel
theorem dX12_senses_258 : decode cX12_senses 258 = .ok (.lastore, 1) := by decide +kernel
theorem dX12_senses_259 : decode cX12_senses 259 = .ok (.return_, 1) := by decide +kernel
theorem dX12_init_0 : decode cX12_init 0 = .ok (.aload_n 0, 1) := by decide +kernel
theorem dX12_init_1 : decode cX12_init 1 = .ok (.invokespecial 439, 3) := by decide +kernel
theorem dX12_init_4 : decode cX12_init 4 = .ok (.aload_n 0, 1) := by decide +kernel
theorem dX12_init_5 : decode cX12_init 5 = .ok (.bipush 16, 2) := by decide +kernel
theorem dX12_init_7 : decode cX12_init 7 = .ok (.newarray .long, 2) := by decide +kernel
theorem dX12_init_9 : decode cX12_init 9 = .ok (.putfield 247, 3) := by decide +kernel
theorem dX12_init_12 : decode cX12_init 12 = .ok (.aload_n 0, 1) := by decide +kernel
theorem dX12_init_13 : decode cX12_init 13 = .ok (.bipush 16, 2) := by decide +kernel
theorem dX12_init_15 : decode cX12_init 15 = .ok (.newarray .long, 2) := by decide +kernel
theorem dX12_init_17 : decode cX12_init 17 = .ok (.putfield 297, 3) := by decide +kernel
theorem dX12_init_20 : decode cX12_init 20 = .ok (.aload_n 0, 1) := by decide +kernel
theorem dX12_init_21 : decode cX12_init 21 = .ok (.bipush 16, 2) := by decide +kernel
theorem dX12_init_23 : decode cX12_init 23 = .ok (.newarray .int, 2) := by decide +kernel
theorem dX12_init_25 : decode cX12_init 25 = .ok (.putfield 145, 3) := by decide +kernel
theorem dX12_init_28 : decode cX12_init 28 = .ok (.aload_n 0, 1) := by decide +kernel
theorem dX12_init_29 : decode cX12_init 29 = .ok (.sipush 4001, 3) := by decide +kernel
theorem dX12_init_32 : decode cX12_init 32 = .ok (.newarray .int, 2) := by decide +kernel
theorem dX12_init_34 : decode cX12_init 34 = .ok (.putfield 149, 3) := by decide +kernel
theorem dX12_init_37 : decode cX12_init 37 = .ok (.aload_n 0, 1) := by decide +kernel
theorem dX12_init_38 : decode cX12_init 38 = .ok (.sipush 4001, 3) := by decide +kernel
theorem dX12_init_41 : decode cX12_init 41 = .ok (.newarray .int, 2) := by decide +kernel
theorem dX12_init_43 : decode cX12_init 43 = .ok (.putfield 155, 3) := by decide +kernel
theorem dX12_init_46 : decode cX12_init 46 = .ok (.aload_n 0, 1) := by decide +kernel
theorem dX12_init_47 : decode cX12_init 47 = .ok (.sipush 4001, 3) := by decide +kernel
theorem dX12_init_50 : decode cX12_init 50 = .ok (.newarray .int, 2) := by decide +kernel
theorem dX12_init_52 : decode cX12_init 52 = .ok (.putfield 158, 3) := by decide +kernel
theorem dX12_init_55 : decode cX12_init 55 = .ok (.aload_n 0, 1) := by decide +kernel
theorem dX12_init_56 : decode cX12_init 56 = .ok (.ldc_w 444, 3) := by decide +kernel
theorem dX12_init_59 : decode cX12_init 59 = .ok (.newarray .long, 2) := by decide +kernel
theorem dX12_init_61 : decode cX12_init 61 = .ok (.putfield 168, 3) := by decide +kernel
theorem dX12_init_64 : decode cX12_init 64 = .ok (.aload_n 0, 1) := by decide +kernel
theorem dX12_init_65 : decode cX12_init 65 = .ok (.sipush 4001, 3) := by decide +kernel
theorem dX12_init_68 : decode cX12_init 68 = .ok (.newarray .long, 2) := by decide +kernel
theorem dX12_init_70 : decode cX12_init 70 = .ok (.putfield 379, 3) := by decide +kernel
theorem dX12_init_73 : decode cX12_init 73 = .ok (.aload_n 0, 1) := by decide +kernel
theorem dX12_init_74 : decode cX12_init 74 = .ok (.sipush 4001, 3) := by decide +kernel
theorem dX12_init_77 : decode cX12_init 77 = .ok (.newarray .long, 2) := by decide +kernel
theorem dX12_init_79 : decode cX12_init 79 = .ok (.putfield 382, 3) := by decide +kernel
theorem dX12_init_82 : decode cX12_init 82 = .ok (.aload_n 0, 1) := by decide +kernel
theorem dX12_init_83 : decode cX12_init 83 = .ok (.sipush 4001, 3) := by decide +kernel
theorem dX12_init_86 : decode cX12_init 86 = .ok (.newarray .long, 2) := by decide +kernel
theorem dX12_init_88 : decode cX12_init 88 = .ok (.putfield 385, 3) := by decide +kernel
theorem dX12_init_91 : decode cX12_init 91 = .ok (.aload_n 0, 1) := by decide +kernel
theorem dX12_init_92 : decode cX12_init 92 = .ok (.sipush 4001, 3) := by decide +kernel
theorem dX12_init_95 : decode cX12_init 95 = .ok (.newarray .long, 2) := by decide +kernel
theorem dX12_init_97 : decode cX12_init 97 = .ok (.putfield 388, 3) := by decide +kernel
theorem dX12_init_100 : decode cX12_init 100 = .ok (.aload_n 0, 1) := by decide +kernel
theorem dX12_init_101 : decode cX12_init 101 = .ok (.sipush 4001, 3) := by decide +kernel
theorem dX12_init_104 : decode cX12_init 104 = .ok (.newarray .int, 2) := by decide +kernel
theorem dX12_init_106 : decode cX12_init 106 = .ok (.putfield 391, 3) := by decide +kernel
theorem dX12_init_109 : decode cX12_init 109 = .ok (.aload_n 0, 1) := by decide +kernel
theorem dX12_init_110 : decode cX12_init 110 = .ok (.sipush 4001, 3) := by decide +kernel
theorem dX12_init_113 : decode cX12_init 113 = .ok (.newarray .int, 2) := by decide +kernel
theorem dX12_init_115 : decode cX12_init 115 = .ok (.putfield 394, 3) := by decide +kernel
theorem dX12_init_118 : decode cX12_init 118 = .ok (.aload_n 0, 1) := by decide +kernel
theorem dX12_init_119 : decode cX12_init 119 = .ok (.sipush 4001, 3) := by decide +kernel
theorem dX12_init_122 : decode cX12_init 122 = .ok (.newarray .int, 2) := by decide +kernel
theorem dX12_init_124 : decode cX12_init 124 = .ok (.putfield 401, 3) := by decide +kernel
theorem dX12_init_127 : decode cX12_init 127 = .ok (.aload_n 0, 1) := by decide +kernel
theorem dX12_init_128 : decode cX12_init 128 = .ok (.sipush 20005, 3) := by decide +kernel
theorem dX12_init_131 : decode cX12_init 131 = .ok (.newarray .long, 2) := by decide +kernel
theorem dX12_init_133 : decode cX12_init 133 = .ok (.putfield 436, 3) := by decide +kernel
theorem dX12_init_136 : decode cX12_init 136 = .ok (.aload_n 0, 1) := by decide +kernel
theorem dX12_init_137 : decode cX12_init 137 = .ok (.sipush 4001, 3) := by decide +kernel
theorem dX12_init_140 : decode cX12_init 140 = .ok (.newarray .int, 2) := by decide +kernel
theorem dX12_init_142 : decode cX12_init 142 = .ok (.putfield 404, 3) := by decide +kernel
theorem dX12_init_145 : decode cX12_init 145 = .ok (.aload_n 0, 1) := by decide +kernel
theorem dX12_init_146 : decode cX12_init 146 = .ok (.sipush 400, 3) := by decide +kernel
theorem dX12_init_149 : decode cX12_init 149 = .ok (.newarray .int, 2) := by decide +kernel
theorem dX12_init_151 : decode cX12_init 151 = .ok (.putfield 220, 3) := by decide +kernel
theorem dX12_init_154 : decode cX12_init 154 = .ok (.aload_n 0, 1) := by decide +kernel
theorem dX12_init_155 : decode cX12_init 155 = .ok (.sipush 400, 3) := by decide +kernel
theorem dX12_init_158 : decode cX12_init 158 = .ok (.newarray .int, 2) := by decide +kernel
theorem dX12_init_160 : decode cX12_init 160 = .ok (.putfield 256, 3) := by decide +kernel
theorem dX12_init_163 : decode cX12_init 163 = .ok (.aload_n 0, 1) := by decide +kernel
theorem dX12_init_164 : decode cX12_init 164 = .ok (.sipush 400, 3) := by decide +kernel
theorem dX12_init_167 : decode cX12_init 167 = .ok (.newarray .int, 2) := by decide +kernel
theorem dX12_init_169 : decode cX12_init 169 = .ok (.putfield 259, 3) := by decide +kernel
theorem dX12_init_172 : decode cX12_init 172 = .ok (.aload_n 0, 1) := by decide +kernel
theorem dX12_init_173 : decode cX12_init 173 = .ok (.sipush 400, 3) := by decide +kernel
theorem dX12_init_176 : decode cX12_init 176 = .ok (.newarray .int, 2) := by decide +kernel
theorem dX12_init_178 : decode cX12_init 178 = .ok (.putfield 262, 3) := by decide +kernel
theorem dX12_init_181 : decode cX12_init 181 = .ok (.aload_n 0, 1) := by decide +kernel
theorem dX12_init_182 : decode cX12_init 182 = .ok (.sipush 200, 3) := by decide +kernel
theorem dX12_init_185 : decode cX12_init 185 = .ok (.newarray .long, 2) := by decide +kernel
theorem dX12_init_187 : decode cX12_init 187 = .ok (.putfield 303, 3) := by decide +kernel
theorem dX12_init_190 : decode cX12_init 190 = .ok (.aload_n 0, 1) := by decide +kernel
theorem dX12_init_191 : decode cX12_init 191 = .ok (.bipush 40, 2) := by decide +kernel
theorem dX12_init_193 : decode cX12_init 193 = .ok (.newarray .int, 2) := by decide +kernel
theorem dX12_init_195 : decode cX12_init 195 = .ok (.putfield 201, 3) := by decide +kernel
theorem dX12_init_198 : decode cX12_init 198 = .ok (.aload_n 0, 1) := by decide +kernel
theorem dX12_init_199 : decode cX12_init 199 = .ok (.bipush 40, 2) := by decide +kernel
theorem dX12_init_201 : decode cX12_init 201 = .ok (.newarray .int, 2) := by decide +kernel
theorem dX12_init_203 : decode cX12_init 203 = .ok (.putfield 204, 3) := by decide +kernel
theorem dX12_init_206 : decode cX12_init 206 = .ok (.aload_n 0, 1) := by decide +kernel
theorem dX12_init_207 : decode cX12_init 207 = .ok (.bipush 40, 2) := by decide +kernel
theorem dX12_init_209 : decode cX12_init 209 = .ok (.newarray .int, 2) := by decide +kernel
theorem dX12_init_211 : decode cX12_init 211 = .ok (.putfield 207, 3) := by decide +kernel
theorem dX12_init_214 : decode cX12_init 214 = .ok (.aload_n 0, 1) := by decide +kernel
theorem dX12_init_215 : decode cX12_init 215 = .ok (.bipush 40, 2) := by decide +kernel
theorem dX12_init_217 : decode cX12_init 217 = .ok (.newarray .int, 2) := by decide +kernel
theorem dX12_init_219 : decode cX12_init 219 = .ok (.putfield 250, 3) := by decide +kernel
theorem dX12_init_222 : decode cX12_init 222 = .ok (.aload_n 0, 1) := by decide +kernel
theorem dX12_init_223 : decode cX12_init 223 = .ok (.bipush 40, 2) := by decide +kernel
theorem dX12_init_225 : decode cX12_init 225 = .ok (.newarray .int, 2) := by decide +kernel
theorem dX12_init_227 : decode cX12_init 227 = .ok (.putfield 244, 3) := by decide +kernel
theorem dX12_init_230 : decode cX12_init 230 = .ok (.aload_n 0, 1) := by decide +kernel
theorem dX12_init_231 : decode cX12_init 231 = .ok (.bipush 40, 2) := by decide +kernel
theorem dX12_init_233 : decode cX12_init 233 = .ok (.newarray .int, 2) := by decide +kernel
theorem dX12_init_235 : decode cX12_init 235 = .ok (.putfield 232, 3) := by decide +kernel
theorem dX12_init_238 : decode cX12_init 238 = .ok (.aload_n 0, 1) := by decide +kernel
theorem dX12_init_239 : decode cX12_init 239 = .ok (.bipush 40, 2) := by decide +kernel
theorem dX12_init_241 : decode cX12_init 241 = .ok (.newarray .int, 2) := by decide +kernel
theorem dX12_init_243 : decode cX12_init 243 = .ok (.putfield 210, 3) := by decide +kernel
theorem dX12_init_246 : decode cX12_init 246 = .ok (.aload_n 0, 1) := by decide +kernel
theorem dX12_init_247 : decode cX12_init 247 = .ok (.bipush 40, 2) := by decide +kernel
theorem dX12_init_249 : decode cX12_init 249 = .ok (.newarray .int, 2) := by decide +kernel
theorem dX12_init_251 : decode cX12_init 251 = .ok (.putfield 235, 3) := by decide +kernel
theorem dX12_init_254 : decode cX12_init 254 = .ok (.aload_n 0, 1) := by decide +kernel
theorem dX12_init_255 : decode cX12_init 255 = .ok (.bipush 40, 2) := by decide +kernel
theorem dX12_init_257 : decode cX12_init 257 = .ok (.newarray .long, 2) := by decide +kernel
theorem dX12_init_259 : decode cX12_init 259 = .ok (.putfield 229, 3) := by decide +kernel
theorem dX12_init_262 : decode cX12_init 262 = .ok (.return_, 1) := by decide +kernel
theorem dX12_order_0 : decode cX12_order 0 = .ok (.aload_n 0, 1) := by decide +kernel
theorem dX12_order_1 : decode cX12_order 1 = .ok (.iconst 0, 1) := by decide +kernel
theorem dX12_order_2 : decode cX12_order 2 = .ok (.putfield 1, 3) := by decide +kernel
theorem dX12_order_5 : decode cX12_order 5 = .ok (.aload_n 0, 1) := by decide +kernel
theorem dX12_order_6 : decode cX12_order 6 = .ok (.getfield 213, 3) := by decide +kernel
theorem dX12_order_9 : decode cX12_order 9 = .ok (.sipush 400, 3) := by decide +kernel
theorem dX12_order_12 : decode cX12_order 12 = .ok (.if_icmp .ne 5, 3) := by decide +kernel
theorem dX12_order_15 : decode cX12_order 15 = .ok (.iconst (-1), 1) := by decide +kernel
theorem dX12_order_16 : decode cX12_order 16 = .ok (.ireturn, 1) := by decide +kernel
theorem dX12_order_17 : decode cX12_order 17 = .ok (.aload_n 0, 1) := by decide +kernel
theorem dX12_order_18 : decode cX12_order 18 = .ok (.getfield 220, 3) := by decide +kernel
theorem dX12_order_21 : decode cX12_order 21 = .ok (.aload_n 0, 1) := by decide +kernel
theorem dX12_order_22 : decode cX12_order 22 = .ok (.getfield 213, 3) := by decide +kernel
theorem dX12_order_25 : decode cX12_order 25 = .ok (.iload_n 1, 1) := by decide +kernel
theorem dX12_order_26 : decode cX12_order 26 = .ok (.iastore, 1) := by decide +kernel
theorem dX12_order_27 : decode cX12_order 27 = .ok (.aload_n 0, 1) := by decide +kernel
theorem dX12_order_28 : decode cX12_order 28 = .ok (.getfield 256, 3) := by decide +kernel
theorem dX12_order_31 : decode cX12_order 31 = .ok (.aload_n 0, 1) := by decide +kernel
theorem dX12_order_32 : decode cX12_order 32 = .ok (.getfield 213, 3) := by decide +kernel
theorem dX12_order_35 : decode cX12_order 35 = .ok (.iload_n 2, 1) := by decide +kernel
theorem dX12_order_36 : decode cX12_order 36 = .ok (.iastore, 1) := by decide +kernel
theorem dX12_order_37 : decode cX12_order 37 = .ok (.aload_n 0, 1) := by decide +kernel
theorem dX12_order_38 : decode cX12_order 38 = .ok (.getfield 259, 3) := by decide +kernel
theorem dX12_order_41 : decode cX12_order 41 = .ok (.aload_n 0, 1) := by decide +kernel
theorem dX12_order_42 : decode cX12_order 42 = .ok (.getfield 213, 3) := by decide +kernel
theorem dX12_order_45 : decode cX12_order 45 = .ok (.iload_n 3, 1) := by decide +kernel
theorem dX12_order_46 : decode cX12_order 46 = .ok (.iastore, 1) := by decide +kernel
theorem dX12_order_47 : decode cX12_order 47 = .ok (.aload_n 0, 1) := by decide +kernel
theorem dX12_order_48 : decode cX12_order 48 = .ok (.getfield 262, 3) := by decide +kernel
theorem dX12_order_51 : decode cX12_order 51 = .ok (.aload_n 0, 1) := by decide +kernel
theorem dX12_order_52 : decode cX12_order 52 = .ok (.getfield 213, 3) := by decide +kernel
theorem dX12_order_55 : decode cX12_order 55 = .ok (.iload 4, 2) := by decide +kernel
theorem dX12_order_57 : decode cX12_order 57 = .ok (.iastore, 1) := by decide +kernel
theorem dX12_order_58 : decode cX12_order 58 = .ok (.aload_n 0, 1) := by decide +kernel
theorem dX12_order_59 : decode cX12_order 59 = .ok (.dup, 1) := by decide +kernel
theorem dX12_order_60 : decode cX12_order 60 = .ok (.getfield 213, 3) := by decide +kernel
theorem dX12_order_63 : decode cX12_order 63 = .ok (.iconst 1, 1) := by decide +kernel
theorem dX12_order_64 : decode cX12_order 64 = .ok (.iadd, 1) := by decide +kernel
theorem dX12_order_65 : decode cX12_order 65 = .ok (.putfield 213, 3) := by decide +kernel
theorem dX12_order_68 : decode cX12_order 68 = .ok (.aload_n 0, 1) := by decide +kernel
theorem dX12_order_69 : decode cX12_order 69 = .ok (.getfield 213, 3) := by decide +kernel
theorem dX12_order_72 : decode cX12_order 72 = .ok (.ireturn, 1) := by decide +kernel
theorem dX12_clear_0 : decode cX12_clear 0 = .ok (.aload_n 0, 1) := by decide +kernel
theorem dX12_clear_1 : decode cX12_clear 1 = .ok (.iconst 0, 1) := by decide +kernel
theorem dX12_clear_2 : decode cX12_clear 2 = .ok (.putfield 1, 3) := by decide +kernel
theorem dX12_clear_5 : decode cX12_clear 5 = .ok (.aload_n 0, 1) := by decide +kernel
theorem dX12_clear_6 : decode cX12_clear 6 = .ok (.iconst 0, 1) := by decide +kernel
theorem dX12_clear_7 : decode cX12_clear 7 = .ok (.putfield 213, 3) := by decide +kernel
theorem dX12_clear_10 : decode cX12_clear 10 = .ok (.return_, 1) := by decide +kernel
theorem dX12_number__0 : decode cX12_number_ 0 = .ok (.aload_n 0, 1) := by decide +kernel
theorem dX12_number__1 : decode cX12_number_ 1 = .ok (.iconst 0, 1) := by decide +kernel
theorem dX12_number__2 : decode cX12_number_ 2 = .ok (.putfield 1, 3) := by decide +kernel
theorem dX12_number__5 : decode cX12_number_ 5 = .ok (.aload_n 0, 1) := by decide +kernel
theorem dX12_number__6 : decode cX12_number_ 6 = .ok (.getfield 247, 3) := by decide +kernel
theorem dX12_number__9 : decode cX12_number_ 9 = .ok (.iload_n 1, 1) := by decide +kernel
theorem dX12_number__10 : decode cX12_number_ 10 = .ok (.bipush 15, 2) := by decide +kernel
theorem dX12_number__12 : decode cX12_number_ 12 = .ok (.iand, 1) := by decide +kernel
theorem dX12_number__13 : decode cX12_number_ 13 = .ok (.iload_n 2, 1) := by decide +kernel
theorem dX12_number__14 : decode cX12_number_ 14 = .ok (.i2l, 1) := by decide +kernel
theorem dX12_number__15 : decode cX12_number_ 15 = .ok (.bipush 32, 2) := by decide +kernel
theorem dX12_number__17 : decode cX12_number_ 17 = .ok (.lshl, 1) := by decide +kernel
theorem dX12_number__18 : decode cX12_number_ 18 = .ok (.iload_n 3, 1) := by decide +kernel
theorem dX12_number__19 : decode cX12_number_ 19 = .ok (.i2l, 1) := by decide +kernel
theorem dX12_number__20 : decode cX12_number_ 20 = .ok (.ldc2_w 291, 3) := by decide +kernel
theorem dX12_number__23 : decode cX12_number_ 23 = .ok (.land, 1) := by decide +kernel
theorem dX12_number__24 : decode cX12_number_ 24 = .ok (.ladd, 1) := by decide +kernel
theorem dX12_number__25 : decode cX12_number_ 25 = .ok (.lastore, 1) := by decide +kernel
theorem dX12_number__26 : decode cX12_number_ 26 = .ok (.return_, 1) := by decide +kernel
theorem dX12_fault_0 : decode cX12_fault 0 = .ok (.aload_n 0, 1) := by decide +kernel
theorem dX12_fault_1 : decode cX12_fault 1 = .ok (.iconst 0, 1) := by decide +kernel
theorem dX12_fault_2 : decode cX12_fault 2 = .ok (.putfield 1, 3) := by decide +kernel
theorem dX12_fault_5 : decode cX12_fault 5 = .ok (.aload_n 0, 1) := by decide +kernel
theorem dX12_fault_6 : decode cX12_fault 6 = .ok (.getfield 187, 3) := by decide +kernel
theorem dX12_fault_9 : decode cX12_fault 9 = .ok (.ifCond .eq 12, 3) := by decide +kernel
theorem dX12_fault_12 : decode cX12_fault 12 = .ok (.iload_n 1, 1) := by decide +kernel
theorem dX12_fault_13 : decode cX12_fault 13 = .ok (.ifCond .lt 8, 3) := by decide +kernel
theorem dX12_fault_16 : decode cX12_fault 16 = .ok (.iload_n 1, 1) := by decide +kernel
theorem dX12_fault_17 : decode cX12_fault 17 = .ok (.iconst 1, 1) := by decide +kernel
theorem dX12_fault_18 : decode cX12_fault 18 = .ok (.if_icmp .le 7, 3) := by decide +kernel
theorem dX12_fault_21 : decode cX12_fault 21 = .ok (.iconst (-1), 1) := by decide +kernel
theorem dX12_fault_22 : decode cX12_fault 22 = .ok (.goto 18, 3) := by decide +kernel
theorem dX12_fault_25 : decode cX12_fault 25 = .ok (.iload_n 1, 1) := by decide +kernel
theorem dX12_fault_26 : decode cX12_fault 26 = .ok (.ifCond .ne 10, 3) := by decide +kernel
theorem dX12_fault_29 : decode cX12_fault 29 = .ok (.aload_n 0, 1) := by decide +kernel
theorem dX12_fault_30 : decode cX12_fault 30 = .ok (.getfield 181, 3) := by decide +kernel
theorem dX12_fault_33 : decode cX12_fault 33 = .ok (.goto 7, 3) := by decide +kernel
theorem dX12_fault_36 : decode cX12_fault 36 = .ok (.aload_n 0, 1) := by decide +kernel
theorem dX12_fault_37 : decode cX12_fault 37 = .ok (.getfield 175, 3) := by decide +kernel
theorem dX12_fault_40 : decode cX12_fault 40 = .ok (.ireturn, 1) := by decide +kernel
theorem dX12_told_0 : decode cX12_told 0 = .ok (.aload_n 0, 1) := by decide +kernel
theorem dX12_told_1 : decode cX12_told 1 = .ok (.iconst 0, 1) := by decide +kernel
theorem dX12_told_2 : decode cX12_told 2 = .ok (.putfield 1, 3) := by decide +kernel
theorem dX12_told_5 : decode cX12_told 5 = .ok (.aload_n 0, 1) := by decide +kernel
theorem dX12_told_6 : decode cX12_told 6 = .ok (.getfield 247, 3) := by decide +kernel
theorem dX12_told_9 : decode cX12_told 9 = .ok (.iload_n 1, 1) := by decide +kernel
theorem dX12_told_10 : decode cX12_told 10 = .ok (.bipush 15, 2) := by decide +kernel
theorem dX12_told_12 : decode cX12_told 12 = .ok (.iand, 1) := by decide +kernel
theorem dX12_told_13 : decode cX12_told 13 = .ok (.laload, 1) := by decide +kernel
theorem dX12_told_14 : decode cX12_told 14 = .ok (.lreturn, 1) := by decide +kernel
theorem dX12_bits_0 : decode cX12_bits 0 = .ok (.aload_n 0, 1) := by decide +kernel
theorem dX12_bits_1 : decode cX12_bits 1 = .ok (.iconst 0, 1) := by decide +kernel
theorem dX12_bits_2 : decode cX12_bits 2 = .ok (.putfield 1, 3) := by decide +kernel
theorem dX12_bits_5 : decode cX12_bits 5 = .ok (.aload_n 0, 1) := by decide +kernel
theorem dX12_bits_6 : decode cX12_bits 6 = .ok (.getfield 297, 3) := by decide +kernel
theorem dX12_bits_9 : decode cX12_bits 9 = .ok (.iload_n 1, 1) := by decide +kernel
theorem dX12_bits_10 : decode cX12_bits 10 = .ok (.bipush 15, 2) := by decide +kernel
theorem dX12_bits_12 : decode cX12_bits 12 = .ok (.iand, 1) := by decide +kernel
theorem dX12_bits_13 : decode cX12_bits 13 = .ok (.laload, 1) := by decide +kernel
theorem dX12_bits_14 : decode cX12_bits 14 = .ok (.invokestatic 37, 3) := by decide +kernel
theorem dX12_bits_17 : decode cX12_bits 17 = .ok (.lreturn, 1) := by decide +kernel
theorem dX12_slot_0 : decode cX12_slot 0 = .ok (.aload_n 0, 1) := by decide +kernel
theorem dX12_slot_1 : decode cX12_slot 1 = .ok (.iconst 0, 1) := by decide +kernel
theorem dX12_slot_2 : decode cX12_slot 2 = .ok (.putfield 1, 3) := by decide +kernel
theorem dX12_slot_5 : decode cX12_slot 5 = .ok (.aload_n 0, 1) := by decide +kernel
theorem dX12_slot_6 : decode cX12_slot 6 = .ok (.getfield 145, 3) := by decide +kernel
theorem dX12_slot_9 : decode cX12_slot 9 = .ok (.iload_n 1, 1) := by decide +kernel
theorem dX12_slot_10 : decode cX12_slot 10 = .ok (.bipush 15, 2) := by decide +kernel
theorem dX12_slot_12 : decode cX12_slot 12 = .ok (.iand, 1) := by decide +kernel
theorem dX12_slot_13 : decode cX12_slot 13 = .ok (.iaload, 1) := by decide +kernel
theorem dX12_slot_14 : decode cX12_slot 14 = .ok (.istore_n 3, 1) := by decide +kernel
theorem dX12_slot_15 : decode cX12_slot 15 = .ok (.iload_n 3, 1) := by decide +kernel
theorem dX12_slot_16 : decode cX12_slot 16 = .ok (.ifCond .eq 12, 3) := by decide +kernel
theorem dX12_slot_19 : decode cX12_slot 19 = .ok (.iload_n 2, 1) := by decide +kernel
theorem dX12_slot_20 : decode cX12_slot 20 = .ok (.ifCond .lt 8, 3) := by decide +kernel
theorem dX12_slot_23 : decode cX12_slot 23 = .ok (.iload_n 2, 1) := by decide +kernel
theorem dX12_slot_24 : decode cX12_slot 24 = .ok (.iconst 2, 1) := by decide +kernel
theorem dX12_slot_25 : decode cX12_slot 25 = .ok (.if_icmp .le 5, 3) := by decide +kernel
theorem dX12_slot_28 : decode cX12_slot 28 = .ok (.iconst (-1), 1) := by decide +kernel
theorem dX12_slot_29 : decode cX12_slot 29 = .ok (.ireturn, 1) := by decide +kernel
theorem dX12_slot_30 : decode cX12_slot 30 = .ok (.iload_n 2, 1) := by decide +kernel
theorem dX12_slot_31 : decode cX12_slot 31 = .ok (.ifCond .ne 10, 3) := by decide +kernel
theorem dX12_slot_34 : decode cX12_slot 34 = .ok (.aload_n 0, 1) := by decide +kernel
theorem dX12_slot_35 : decode cX12_slot 35 = .ok (.getfield 149, 3) := by decide +kernel
theorem dX12_slot_38 : decode cX12_slot 38 = .ok (.iload_n 3, 1) := by decide +kernel
theorem dX12_slot_39 : decode cX12_slot 39 = .ok (.iaload, 1) := by decide +kernel
theorem dX12_slot_40 : decode cX12_slot 40 = .ok (.ireturn, 1) := by decide +kernel
theorem dX12_slot_41 : decode cX12_slot 41 = .ok (.iload_n 2, 1) := by decide +kernel
theorem dX12_slot_42 : decode cX12_slot 42 = .ok (.iconst 1, 1) := by decide +kernel
theorem dX12_slot_43 : decode cX12_slot 43 = .ok (.if_icmp .ne 26, 3) := by decide +kernel
theorem dX12_slot_46 : decode cX12_slot 46 = .ok (.aload_n 0, 1) := by decide +kernel
theorem dX12_slot_47 : decode cX12_slot 47 = .ok (.getfield 149, 3) := by decide +kernel
theorem dX12_slot_50 : decode cX12_slot 50 = .ok (.iload_n 3, 1) := by decide +kernel
theorem dX12_slot_51 : decode cX12_slot 51 = .ok (.iaload, 1) := by decide +kernel
theorem dX12_slot_52 : decode cX12_slot 52 = .ok (.invokestatic 352, 3) := by decide +kernel
theorem dX12_slot_55 : decode cX12_slot 55 = .ok (.ifCond .eq 12, 3) := by decide +kernel
theorem dX12_slot_58 : decode cX12_slot 58 = .ok (.aload_n 0, 1) := by decide +kernel
theorem dX12_slot_59 : decode cX12_slot 59 = .ok (.getfield 155, 3) := by decide +kernel
theorem dX12_slot_62 : decode cX12_slot 62 = .ok (.iload_n 3, 1) := by decide +kernel
theorem dX12_slot_63 : decode cX12_slot 63 = .ok (.iaload, 1) := by decide +kernel
theorem dX12_slot_64 : decode cX12_slot 64 = .ok (.goto 4, 3) := by decide +kernel
theorem dX12_slot_67 : decode cX12_slot 67 = .ok (.iconst (-1), 1) := by decide +kernel
theorem dX12_slot_68 : decode cX12_slot 68 = .ok (.ireturn, 1) := by decide +kernel
theorem dX12_slot_69 : decode cX12_slot 69 = .ok (.iconst 0, 1) := by decide +kernel
theorem dX12_slot_70 : decode cX12_slot 70 = .ok (.istore 4, 2) := by decide +kernel
theorem dX12_slot_72 : decode cX12_slot 72 = .ok (.aload_n 0, 1) := by decide +kernel
theorem dX12_slot_73 : decode cX12_slot 73 = .ok (.getfield 145, 3) := by decide +kernel
theorem dX12_slot_76 : decode cX12_slot 76 = .ok (.iload 4, 2) := by decide +kernel
theorem dX12_slot_78 : decode cX12_slot 78 = .ok (.iaload, 1) := by decide +kernel
theorem dX12_slot_79 : decode cX12_slot 79 = .ok (.iload_n 3, 1) := by decide +kernel
theorem dX12_slot_80 : decode cX12_slot 80 = .ok (.if_icmp .eq 9, 3) := by decide +kernel
theorem dX12_slot_83 : decode cX12_slot 83 = .ok (.iinc 4 1, 3) := by decide +kernel
theorem dX12_slot_86 : decode cX12_slot 86 = .ok (.goto (-14), 3) := by decide +kernel
theorem dX12_slot_89 : decode cX12_slot 89 = .ok (.iload 4, 2) := by decide +kernel
theorem dX12_slot_91 : decode cX12_slot 91 = .ok (.ireturn, 1) := by decide +kernel
theorem dX12_place_0 : decode cX12_place 0 = .ok (.aload_n 0, 1) := by decide +kernel
theorem dX12_place_1 : decode cX12_place 1 = .ok (.getfield 145, 3) := by decide +kernel
theorem dX12_place_4 : decode cX12_place 4 = .ok (.iload_n 1, 1) := by decide +kernel
theorem dX12_place_5 : decode cX12_place 5 = .ok (.bipush 15, 2) := by decide +kernel
theorem dX12_place_7 : decode cX12_place 7 = .ok (.iand, 1) := by decide +kernel
theorem dX12_place_8 : decode cX12_place 8 = .ok (.iaload, 1) := by decide +kernel
theorem dX12_place_9 : decode cX12_place 9 = .ok (.istore_n 3, 1) := by decide +kernel
theorem dX12_place_10 : decode cX12_place 10 = .ok (.aload_n 0, 1) := by decide +kernel
theorem dX12_place_11 : decode cX12_place 11 = .ok (.iload_n 3, 1) := by decide +kernel
theorem dX12_place_12 : decode cX12_place 12 = .ok (.ifCond .eq 15, 3) := by decide +kernel
theorem dX12_place_15 : decode cX12_place 15 = .ok (.aload_n 0, 1) := by decide +kernel
theorem dX12_place_16 : decode cX12_place 16 = .ok (.getfield 149, 3) := by decide +kernel
theorem dX12_place_19 : decode cX12_place 19 = .ok (.iload_n 3, 1) := by decide +kernel
theorem dX12_place_20 : decode cX12_place 20 = .ok (.iaload, 1) := by decide +kernel
theorem dX12_place_21 : decode cX12_place 21 = .ok (.invokestatic 352, 3) := by decide +kernel
theorem dX12_place_24 : decode cX12_place 24 = .ok (.ifCond .ne 7, 3) := by decide +kernel
theorem dX12_place_27 : decode cX12_place 27 = .ok (.iconst 1, 1) := by decide +kernel
theorem dX12_place_28 : decode cX12_place 28 = .ok (.goto 22, 3) := by decide +kernel
theorem dX12_place_31 : decode cX12_place 31 = .ok (.iload_n 2, 1) := by decide +kernel
theorem dX12_place_32 : decode cX12_place 32 = .ok (.ifCond .lt 13, 3) := by decide +kernel
theorem dX12_place_35 : decode cX12_place 35 = .ok (.iload_n 2, 1) := by decide +kernel
theorem dX12_place_36 : decode cX12_place 36 = .ok (.aload_n 0, 1) := by decide +kernel
theorem dX12_place_37 : decode cX12_place 37 = .ok (.getfield 155, 3) := by decide +kernel
theorem dX12_place_40 : decode cX12_place 40 = .ok (.iload_n 3, 1) := by decide +kernel
theorem dX12_place_41 : decode cX12_place 41 = .ok (.iaload, 1) := by decide +kernel
theorem dX12_place_42 : decode cX12_place 42 = .ok (.if_icmp .lt 7, 3) := by decide +kernel
theorem dX12_place_45 : decode cX12_place 45 = .ok (.iconst 2, 1) := by decide +kernel
theorem dX12_place_46 : decode cX12_place 46 = .ok (.goto 4, 3) := by decide +kernel
theorem dX12_place_49 : decode cX12_place 49 = .ok (.iconst 0, 1) := by decide +kernel
theorem dX12_place_50 : decode cX12_place 50 = .ok (.putfield 1, 3) := by decide +kernel
theorem dX12_place_53 : decode cX12_place 53 = .ok (.aload_n 0, 1) := by decide +kernel
theorem dX12_place_54 : decode cX12_place 54 = .ok (.getfield 1, 3) := by decide +kernel
theorem dX12_place_57 : decode cX12_place 57 = .ok (.ifCond .le 5, 3) := by decide +kernel
theorem dX12_place_60 : decode cX12_place 60 = .ok (.lconst 0, 1) := by decide +kernel
theorem dX12_place_61 : decode cX12_place 61 = .ok (.lreturn, 1) := by decide +kernel
theorem dX12_place_62 : decode cX12_place 62 = .ok (.aload_n 0, 1) := by decide +kernel
theorem dX12_place_63 : decode cX12_place 63 = .ok (.getfield 168, 3) := by decide +kernel
theorem dX12_place_66 : decode cX12_place 66 = .ok (.aload_n 0, 1) := by decide +kernel
theorem dX12_place_67 : decode cX12_place 67 = .ok (.getfield 158, 3) := by decide +kernel
theorem dX12_place_70 : decode cX12_place 70 = .ok (.iload_n 3, 1) := by decide +kernel
theorem dX12_place_71 : decode cX12_place 71 = .ok (.iaload, 1) := by decide +kernel
theorem dX12_place_72 : decode cX12_place 72 = .ok (.iload_n 2, 1) := by decide +kernel
theorem dX12_place_73 : decode cX12_place 73 = .ok (.iadd, 1) := by decide +kernel
theorem dX12_place_74 : decode cX12_place 74 = .ok (.laload, 1) := by decide +kernel
theorem dX12_place_75 : decode cX12_place 75 = .ok (.lstore 4, 2) := by decide +kernel
theorem dX12_place_77 : decode cX12_place 77 = .ok (.aload_n 0, 1) := by decide +kernel
theorem dX12_place_78 : decode cX12_place 78 = .ok (.getfield 149, 3) := by decide +kernel
theorem dX12_place_81 : decode cX12_place 81 = .ok (.iload_n 3, 1) := by decide +kernel
theorem dX12_place_82 : decode cX12_place 82 = .ok (.iaload, 1) := by decide +kernel
theorem dX12_place_83 : decode cX12_place 83 = .ok (.istore 6, 2) := by decide +kernel
theorem dX12_place_85 : decode cX12_place 85 = .ok (.iload 6, 2) := by decide +kernel
theorem dX12_place_87 : decode cX12_place 87 = .ok (.bipush 6, 2) := by decide +kernel
theorem dX12_place_89 : decode cX12_place 89 = .ok (.if_icmp .ge 6, 3) := by decide +kernel
theorem dX12_place_92 : decode cX12_place 92 = .ok (.lload 4, 2) := by decide +kernel
theorem dX12_place_94 : decode cX12_place 94 = .ok (.lreturn, 1) := by decide +kernel
theorem dX12_place_95 : decode cX12_place 95 = .ok (.iload 6, 2) := by decide +kernel
theorem dX12_place_97 : decode cX12_place 97 = .ok (.bipush 8, 2) := by decide +kernel
theorem dX12_place_99 : decode cX12_place 99 = .ok (.if_icmp .ge 24, 3) := by decide +kernel
theorem dX12_place_102 : decode cX12_place 102 = .ok (.iload 6, 2) := by decide +kernel
theorem dX12_place_104 : decode cX12_place 104 = .ok (.bipush 6, 2) := by decide +kernel
theorem dX12_place_106 : decode cX12_place 106 = .ok (.if_icmp .ne 11, 3) := by decide +kernel
theorem dX12_place_109 : decode cX12_place 109 = .ok (.lload 4, 2) := by decide +kernel
theorem dX12_place_111 : decode cX12_place 111 = .ok (.invokestatic 340, 3) := by decide +kernel
theorem dX12_place_114 : decode cX12_place 114 = .ok (.goto 8, 3) := by decide +kernel
theorem dX12_place_117 : decode cX12_place 117 = .ok (.lload 4, 2) := by decide +kernel
theorem dX12_place_119 : decode cX12_place 119 = .ok (.invokestatic 37, 3) := by decide +kernel
theorem dX12_place_122 : decode cX12_place 122 = .ok (.lreturn, 1) := by decide +kernel
theorem dX12_place_123 : decode cX12_place 123 = .ok (.lload 4, 2) := by decide +kernel
theorem dX12_place_125 : decode cX12_place 125 = .ok (.lconst 0, 1) := by decide +kernel
theorem dX12_place_126 : decode cX12_place 126 = .ok (.lcmp, 1) := by decide +kernel
theorem dX12_place_127 : decode cX12_place 127 = .ok (.ifCond .ne 9, 3) := by decide +kernel
theorem dX12_place_130 : decode cX12_place 130 = .ok (.ldc2_w 445, 3) := by decide +kernel
theorem dX12_place_133 : decode cX12_place 133 = .ok (.goto 31, 3) := by decide +kernel
theorem dX12_place_136 : decode cX12_place 136 = .ok (.iload 6, 2) := by decide +kernel
theorem dX12_place_138 : decode cX12_place 138 = .ok (.bipush 10, 2) := by decide +kernel
theorem dX12_place_140 : decode cX12_place 140 = .ok (.if_icmp .ne 15, 3) := by decide +kernel
theorem dX12_place_143 : decode cX12_place 143 = .ok (.aload_n 0, 1) := by decide +kernel
theorem dX12_place_144 : decode cX12_place 144 = .ok (.getfield 155, 3) := by decide +kernel
theorem dX12_place_147 : decode cX12_place 147 = .ok (.lload 4, 2) := by decide +kernel
theorem dX12_place_149 : decode cX12_place 149 = .ok (.l2i, 1) := by decide +kernel
theorem dX12_place_150 : decode cX12_place 150 = .ok (.iaload, 1) := by decide +kernel
theorem dX12_place_151 : decode cX12_place 151 = .ok (.i2l, 1) := by decide +kernel
theorem dX12_place_152 : decode cX12_place 152 = .ok (.goto 12, 3) := by decide +kernel
theorem dX12_place_155 : decode cX12_place 155 = .ok (.aload_n 0, 1) := by decide +kernel
theorem dX12_place_156 : decode cX12_place 156 = .ok (.getfield 391, 3) := by decide +kernel
theorem dX12_place_159 : decode cX12_place 159 = .ok (.lload 4, 2) := by decide +kernel
theorem dX12_place_161 : decode cX12_place 161 = .ok (.l2i, 1) := by decide +kernel
theorem dX12_place_162 : decode cX12_place 162 = .ok (.iaload, 1) := by decide +kernel
theorem dX12_place_163 : decode cX12_place 163 = .ok (.i2l, 1) := by decide +kernel
theorem dX12_place_164 : decode cX12_place 164 = .ok (.lreturn, 1) := by decide +kernel
theorem dX12_logged_0 : decode cX12_logged 0 = .ok (.aload_n 0, 1) := by decide +kernel
theorem dX12_logged_1 : decode cX12_logged 1 = .ok (.iconst 0, 1) := by decide +kernel
theorem dX12_logged_2 : decode cX12_logged 2 = .ok (.putfield 1, 3) := by decide +kernel
theorem dX12_logged_5 : decode cX12_logged 5 = .ok (.iload_n 1, 1) := by decide +kernel
theorem dX12_logged_6 : decode cX12_logged 6 = .ok (.ifCond .lt 18, 3) := by decide +kernel
theorem dX12_logged_9 : decode cX12_logged 9 = .ok (.iload_n 1, 1) := by decide +kernel
theorem dX12_logged_10 : decode cX12_logged 10 = .ok (.aload_n 0, 1) := by decide +kernel
theorem dX12_logged_11 : decode cX12_logged 11 = .ok (.getfield 300, 3) := by decide +kernel
theorem dX12_logged_14 : decode cX12_logged 14 = .ok (.if_icmp .ge 10, 3) := by decide +kernel
theorem dX12_logged_17 : decode cX12_logged 17 = .ok (.iload_n 1, 1) := by decide +kernel
theorem dX12_logged_18 : decode cX12_logged 18 = .ok (.sipush 200, 3) := by decide +kernel
theorem dX12_logged_21 : decode cX12_logged 21 = .ok (.if_icmp .lt 7, 3) := by decide +kernel
theorem dX12_logged_24 : decode cX12_logged 24 = .ok (.lconst 0, 1) := by decide +kernel
theorem dX12_logged_25 : decode cX12_logged 25 = .ok (.goto 9, 3) := by decide +kernel
theorem dX12_logged_28 : decode cX12_logged 28 = .ok (.aload_n 0, 1) := by decide +kernel
theorem dX12_logged_29 : decode cX12_logged 29 = .ok (.getfield 303, 3) := by decide +kernel
theorem dX12_logged_32 : decode cX12_logged 32 = .ok (.iload_n 1, 1) := by decide +kernel
theorem dX12_logged_33 : decode cX12_logged 33 = .ok (.laload, 1) := by decide +kernel
theorem dX12_logged_34 : decode cX12_logged 34 = .ok (.lreturn, 1) := by decide +kernel
theorem dX12_logs_0 : decode cX12_logs 0 = .ok (.aload_n 0, 1) := by decide +kernel
theorem dX12_logs_1 : decode cX12_logs 1 = .ok (.iconst 0, 1) := by decide +kernel
theorem dX12_logs_2 : decode cX12_logs 2 = .ok (.putfield 1, 3) := by decide +kernel
theorem dX12_logs_5 : decode cX12_logs 5 = .ok (.aload_n 0, 1) := by decide +kernel
theorem dX12_logs_6 : decode cX12_logs 6 = .ok (.getfield 300, 3) := by decide +kernel
theorem dX12_logs_9 : decode cX12_logs 9 = .ok (.ireturn, 1) := by decide +kernel
theorem dX12_reset_0 : decode cX12_reset 0 = .ok (.aload_n 0, 1) := by decide +kernel
theorem dX12_reset_1 : decode cX12_reset 1 = .ok (.iconst 0, 1) := by decide +kernel
theorem dX12_reset_2 : decode cX12_reset 2 = .ok (.putfield 1, 3) := by decide +kernel
theorem dX12_reset_5 : decode cX12_reset 5 = .ok (.iconst 0, 1) := by decide +kernel
theorem dX12_reset_6 : decode cX12_reset 6 = .ok (.istore_n 1, 1) := by decide +kernel
theorem dX12_reset_7 : decode cX12_reset 7 = .ok (.iload_n 1, 1) := by decide +kernel
theorem dX12_reset_8 : decode cX12_reset 8 = .ok (.bipush 16, 2) := by decide +kernel
theorem dX12_reset_10 : decode cX12_reset 10 = .ok (.if_icmp .ge 30, 3) := by decide +kernel
theorem dX12_reset_13 : decode cX12_reset 13 = .ok (.aload_n 0, 1) := by decide +kernel
theorem dX12_reset_14 : decode cX12_reset 14 = .ok (.getfield 247, 3) := by decide +kernel
theorem dX12_reset_17 : decode cX12_reset 17 = .ok (.iload_n 1, 1) := by decide +kernel
theorem dX12_reset_18 : decode cX12_reset 18 = .ok (.lconst 0, 1) := by decide +kernel
theorem dX12_reset_19 : decode cX12_reset 19 = .ok (.lastore, 1) := by decide +kernel
theorem dX12_reset_20 : decode cX12_reset 20 = .ok (.aload_n 0, 1) := by decide +kernel
theorem dX12_reset_21 : decode cX12_reset 21 = .ok (.getfield 297, 3) := by decide +kernel
theorem dX12_reset_24 : decode cX12_reset 24 = .ok (.iload_n 1, 1) := by decide +kernel
theorem dX12_reset_25 : decode cX12_reset 25 = .ok (.lconst 0, 1) := by decide +kernel
theorem dX12_reset_26 : decode cX12_reset 26 = .ok (.lastore, 1) := by decide +kernel
theorem dX12_reset_27 : decode cX12_reset 27 = .ok (.aload_n 0, 1) := by decide +kernel
theorem dX12_reset_28 : decode cX12_reset 28 = .ok (.getfield 145, 3) := by decide +kernel
theorem dX12_reset_31 : decode cX12_reset 31 = .ok (.iload_n 1, 1) := by decide +kernel
theorem dX12_reset_32 : decode cX12_reset 32 = .ok (.iconst 0, 1) := by decide +kernel
theorem dX12_reset_33 : decode cX12_reset 33 = .ok (.iastore, 1) := by decide +kernel
theorem dX12_reset_34 : decode cX12_reset 34 = .ok (.iinc 1 1, 3) := by decide +kernel
theorem dX12_reset_37 : decode cX12_reset 37 = .ok (.goto (-30), 3) := by decide +kernel
theorem dX12_reset_40 : decode cX12_reset 40 = .ok (.aload_n 0, 1) := by decide +kernel
theorem dX12_reset_41 : decode cX12_reset 41 = .ok (.iconst 0, 1) := by decide +kernel
theorem dX12_reset_42 : decode cX12_reset 42 = .ok (.putfield 213, 3) := by decide +kernel
theorem dX12_reset_45 : decode cX12_reset 45 = .ok (.aload_n 0, 1) := by decide +kernel
theorem dX12_reset_46 : decode cX12_reset 46 = .ok (.iconst 0, 1) := by decide +kernel
theorem dX12_reset_47 : decode cX12_reset 47 = .ok (.putfield 300, 3) := by decide +kernel
theorem dX12_reset_50 : decode cX12_reset 50 = .ok (.aload_n 0, 1) := by decide +kernel
theorem dX12_reset_51 : decode cX12_reset 51 = .ok (.iconst 0, 1) := by decide +kernel
theorem dX12_reset_52 : decode cX12_reset 52 = .ok (.putfield 187, 3) := by decide +kernel
theorem dX12_reset_55 : decode cX12_reset 55 = .ok (.aload_n 0, 1) := by decide +kernel
theorem dX12_reset_56 : decode cX12_reset 56 = .ok (.iconst 0, 1) := by decide +kernel
theorem dX12_reset_57 : decode cX12_reset 57 = .ok (.putfield 175, 3) := by decide +kernel
theorem dX12_reset_60 : decode cX12_reset 60 = .ok (.aload_n 0, 1) := by decide +kernel
theorem dX12_reset_61 : decode cX12_reset 61 = .ok (.iconst (-1), 1) := by decide +kernel
theorem dX12_reset_62 : decode cX12_reset 62 = .ok (.putfield 181, 3) := by decide +kernel
theorem dX12_reset_65 : decode cX12_reset 65 = .ok (.return_, 1) := by decide +kernel
