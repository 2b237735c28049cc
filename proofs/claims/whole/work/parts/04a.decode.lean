/-! decode rows: X2 J6 J13 J9 -/
theorem dX2_isLost_0 : decode cX2_isLost 0 = .ok (.lload_n 0, 1) := by decide +kernel
theorem dX2_isLost_1 : decode cX2_isLost 1 = .ok (.ldc2_w 9, 3) := by decide +kernel
theorem dX2_isLost_4 : decode cX2_isLost 4 = .ok (.land, 1) := by decide +kernel
theorem dX2_isLost_5 : decode cX2_isLost 5 = .ok (.ldc2_w 11, 3) := by decide +kernel
theorem dX2_isLost_8 : decode cX2_isLost 8 = .ok (.lcmp, 1) := by decide +kernel
theorem dX2_isLost_9 : decode cX2_isLost 9 = .ok (.ifCond .le 7, 3) := by decide +kernel
theorem dX2_isLost_12 : decode cX2_isLost 12 = .ok (.iconst 1, 1) := by decide +kernel
theorem dX2_isLost_13 : decode cX2_isLost 13 = .ok (.goto 4, 3) := by decide +kernel
theorem dX2_isLost_16 : decode cX2_isLost 16 = .ok (.iconst 0, 1) := by decide +kernel
theorem dX2_isLost_17 : decode cX2_isLost 17 = .ok (.ireturn, 1) := by decide +kernel
theorem dX2_isInfinite_0 : decode cX2_isInfinite 0 = .ok (.lload_n 0, 1) := by decide +kernel
theorem dX2_isInfinite_1 : decode cX2_isInfinite 1 = .ok (.ldc2_w 9, 3) := by decide +kernel
theorem dX2_isInfinite_4 : decode cX2_isInfinite 4 = .ok (.land, 1) := by decide +kernel
theorem dX2_isInfinite_5 : decode cX2_isInfinite 5 = .ok (.ldc2_w 11, 3) := by decide +kernel
theorem dX2_isInfinite_8 : decode cX2_isInfinite 8 = .ok (.lcmp, 1) := by decide +kernel
theorem dX2_isInfinite_9 : decode cX2_isInfinite 9 = .ok (.ifCond .ne 7, 3) := by decide +kernel
theorem dX2_isInfinite_12 : decode cX2_isInfinite 12 = .ok (.iconst 1, 1) := by decide +kernel
theorem dX2_isInfinite_13 : decode cX2_isInfinite 13 = .ok (.goto 4, 3) := by decide +kernel
theorem dX2_isInfinite_16 : decode cX2_isInfinite 16 = .ok (.iconst 0, 1) := by decide +kernel
theorem dX2_isInfinite_17 : decode cX2_isInfinite 17 = .ok (.ireturn, 1) := by decide +kernel
theorem dX2_isZero_0 : decode cX2_isZero 0 = .ok (.lload_n 0, 1) := by decide +kernel
theorem dX2_isZero_1 : decode cX2_isZero 1 = .ok (.ldc2_w 9, 3) := by decide +kernel
theorem dX2_isZero_4 : decode cX2_isZero 4 = .ok (.land, 1) := by decide +kernel
theorem dX2_isZero_5 : decode cX2_isZero 5 = .ok (.lconst 0, 1) := by decide +kernel
theorem dX2_isZero_6 : decode cX2_isZero 6 = .ok (.lcmp, 1) := by decide +kernel
theorem dX2_isZero_7 : decode cX2_isZero 7 = .ok (.ifCond .ne 7, 3) := by decide +kernel
theorem dX2_isZero_10 : decode cX2_isZero 10 = .ok (.iconst 1, 1) := by decide +kernel
theorem dX2_isZero_11 : decode cX2_isZero 11 = .ok (.goto 4, 3) := by decide +kernel
theorem dX2_isZero_14 : decode cX2_isZero 14 = .ok (.iconst 0, 1) := by decide +kernel
theorem dX2_isZero_15 : decode cX2_isZero 15 = .ok (.ireturn, 1) := by decide +kernel
theorem dX2_magnitude_0 : decode cX2_magnitude 0 = .ok (.lload_n 0, 1) := by decide +kernel
theorem dX2_magnitude_1 : decode cX2_magnitude 1 = .ok (.ldc2_w 9, 3) := by decide +kernel
theorem dX2_magnitude_4 : decode cX2_magnitude 4 = .ok (.land, 1) := by decide +kernel
theorem dX2_magnitude_5 : decode cX2_magnitude 5 = .ok (.lreturn, 1) := by decide +kernel
theorem dX2_signBit_0 : decode cX2_signBit 0 = .ok (.lload_n 0, 1) := by decide +kernel
theorem dX2_signBit_1 : decode cX2_signBit 1 = .ok (.ldc2_w 13, 3) := by decide +kernel
theorem dX2_signBit_4 : decode cX2_signBit 4 = .ok (.land, 1) := by decide +kernel
theorem dX2_signBit_5 : decode cX2_signBit 5 = .ok (.lreturn, 1) := by decide +kernel
theorem dX2_exponent_0 : decode cX2_exponent 0 = .ok (.lload_n 0, 1) := by decide +kernel
theorem dX2_exponent_1 : decode cX2_exponent 1 = .ok (.ldc2_w 9, 3) := by decide +kernel
theorem dX2_exponent_4 : decode cX2_exponent 4 = .ok (.land, 1) := by decide +kernel
theorem dX2_exponent_5 : decode cX2_exponent 5 = .ok (.bipush 52, 2) := by decide +kernel
theorem dX2_exponent_7 : decode cX2_exponent 7 = .ok (.lushr, 1) := by decide +kernel
theorem dX2_exponent_8 : decode cX2_exponent 8 = .ok (.l2i, 1) := by decide +kernel
theorem dX2_exponent_9 : decode cX2_exponent 9 = .ok (.sipush 1023, 3) := by decide +kernel
theorem dX2_exponent_12 : decode cX2_exponent 12 = .ok (.isub, 1) := by decide +kernel
theorem dX2_exponent_13 : decode cX2_exponent 13 = .ok (.ireturn, 1) := by decide +kernel
theorem dX2_significand_0 : decode cX2_significand 0 = .ok (.lload_n 0, 1) := by decide +kernel
theorem dX2_significand_1 : decode cX2_significand 1 = .ok (.ldc2_w 15, 3) := by decide +kernel
theorem dX2_significand_4 : decode cX2_significand 4 = .ok (.land, 1) := by decide +kernel
theorem dX2_significand_5 : decode cX2_significand 5 = .ok (.lstore_n 2, 1) := by decide +kernel
theorem dX2_significand_6 : decode cX2_significand 6 = .ok (.lload_n 0, 1) := by decide +kernel
theorem dX2_significand_7 : decode cX2_significand 7 = .ok (.ldc2_w 11, 3) := by decide +kernel
theorem dX2_significand_10 : decode cX2_significand 10 = .ok (.land, 1) := by decide +kernel
theorem dX2_significand_11 : decode cX2_significand 11 = .ok (.lconst 0, 1) := by decide +kernel
theorem dX2_significand_12 : decode cX2_significand 12 = .ok (.lcmp, 1) := by decide +kernel
theorem dX2_significand_13 : decode cX2_significand 13 = .ok (.ifCond .eq 11, 3) := by decide +kernel
theorem dX2_significand_16 : decode cX2_significand 16 = .ok (.lload_n 2, 1) := by decide +kernel
theorem dX2_significand_17 : decode cX2_significand 17 = .ok (.ldc2_w 17, 3) := by decide +kernel
theorem dX2_significand_20 : decode cX2_significand 20 = .ok (.lor, 1) := by decide +kernel
theorem dX2_significand_21 : decode cX2_significand 21 = .ok (.goto 12, 3) := by decide +kernel
theorem dX2_significand_24 : decode cX2_significand 24 = .ok (.lload_n 2, 1) := by decide +kernel
theorem dX2_significand_25 : decode cX2_significand 25 = .ok (.lload_n 2, 1) := by decide +kernel
theorem dX2_significand_26 : decode cX2_significand 26 = .ok (.invokestatic 19, 3) := by decide +kernel
theorem dX2_significand_29 : decode cX2_significand 29 = .ok (.bipush 11, 2) := by decide +kernel
theorem dX2_significand_31 : decode cX2_significand 31 = .ok (.isub, 1) := by decide +kernel
theorem dX2_significand_32 : decode cX2_significand 32 = .ok (.lshl, 1) := by decide +kernel
theorem dX2_significand_33 : decode cX2_significand 33 = .ok (.lreturn, 1) := by decide +kernel
theorem dX2_scale_0 : decode cX2_scale 0 = .ok (.sipush (-1074), 3) := by decide +kernel
theorem dX2_scale_3 : decode cX2_scale 3 = .ok (.istore_n 2, 1) := by decide +kernel
theorem dX2_scale_4 : decode cX2_scale 4 = .ok (.lload_n 0, 1) := by decide +kernel
theorem dX2_scale_5 : decode cX2_scale 5 = .ok (.ldc2_w 11, 3) := by decide +kernel
theorem dX2_scale_8 : decode cX2_scale 8 = .ok (.land, 1) := by decide +kernel
theorem dX2_scale_9 : decode cX2_scale 9 = .ok (.bipush 52, 2) := by decide +kernel
theorem dX2_scale_11 : decode cX2_scale 11 = .ok (.lushr, 1) := by decide +kernel
theorem dX2_scale_12 : decode cX2_scale 12 = .ok (.l2i, 1) := by decide +kernel
theorem dX2_scale_13 : decode cX2_scale 13 = .ok (.istore_n 3, 1) := by decide +kernel
theorem dX2_scale_14 : decode cX2_scale 14 = .ok (.iload_n 3, 1) := by decide +kernel
theorem dX2_scale_15 : decode cX2_scale 15 = .ok (.ifCond .eq 11, 3) := by decide +kernel
theorem dX2_scale_18 : decode cX2_scale 18 = .ok (.iload_n 2, 1) := by decide +kernel
theorem dX2_scale_19 : decode cX2_scale 19 = .ok (.iload_n 3, 1) := by decide +kernel
theorem dX2_scale_20 : decode cX2_scale 20 = .ok (.iadd, 1) := by decide +kernel
theorem dX2_scale_21 : decode cX2_scale 21 = .ok (.iconst 1, 1) := by decide +kernel
theorem dX2_scale_22 : decode cX2_scale 22 = .ok (.isub, 1) := by decide +kernel
theorem dX2_scale_23 : decode cX2_scale 23 = .ok (.goto 16, 3) := by decide +kernel
theorem dX2_scale_26 : decode cX2_scale 26 = .ok (.iload_n 2, 1) := by decide +kernel
theorem dX2_scale_27 : decode cX2_scale 27 = .ok (.lload_n 0, 1) := by decide +kernel
theorem dX2_scale_28 : decode cX2_scale 28 = .ok (.ldc2_w 15, 3) := by decide +kernel
theorem dX2_scale_31 : decode cX2_scale 31 = .ok (.land, 1) := by decide +kernel
theorem dX2_scale_32 : decode cX2_scale 32 = .ok (.invokestatic 19, 3) := by decide +kernel
theorem dX2_scale_35 : decode cX2_scale 35 = .ok (.bipush 11, 2) := by decide +kernel
theorem dX2_scale_37 : decode cX2_scale 37 = .ok (.isub, 1) := by decide +kernel
theorem dX2_scale_38 : decode cX2_scale 38 = .ok (.isub, 1) := by decide +kernel
theorem dX2_scale_39 : decode cX2_scale 39 = .ok (.ireturn, 1) := by decide +kernel
theorem dX2_nearest_0 : decode cX2_nearest 0 = .ok (.lload_n 0, 1) := by decide +kernel
theorem dX2_nearest_1 : decode cX2_nearest 1 = .ok (.lconst 0, 1) := by decide +kernel
theorem dX2_nearest_2 : decode cX2_nearest 2 = .ok (.lcmp, 1) := by decide +kernel
theorem dX2_nearest_3 : decode cX2_nearest 3 = .ok (.ifCond .gt 5, 3) := by decide +kernel
theorem dX2_nearest_6 : decode cX2_nearest 6 = .ok (.lconst 0, 1) := by decide +kernel
theorem dX2_nearest_7 : decode cX2_nearest 7 = .ok (.lreturn, 1) := by decide +kernel
theorem dX2_nearest_8 : decode cX2_nearest 8 = .ok (.lload_n 0, 1) := by decide +kernel
theorem dX2_nearest_9 : decode cX2_nearest 9 = .ok (.invokestatic 19, 3) := by decide +kernel
theorem dX2_nearest_12 : decode cX2_nearest 12 = .ok (.iconst 1, 1) := by decide +kernel
theorem dX2_nearest_13 : decode cX2_nearest 13 = .ok (.isub, 1) := by decide +kernel
theorem dX2_nearest_14 : decode cX2_nearest 14 = .ok (.istore 5, 2) := by decide +kernel
theorem dX2_nearest_16 : decode cX2_nearest 16 = .ok (.lload_n 0, 1) := by decide +kernel
theorem dX2_nearest_17 : decode cX2_nearest 17 = .ok (.iload 5, 2) := by decide +kernel
theorem dX2_nearest_19 : decode cX2_nearest 19 = .ok (.lshl, 1) := by decide +kernel
theorem dX2_nearest_20 : decode cX2_nearest 20 = .ok (.lstore 6, 2) := by decide +kernel
theorem dX2_nearest_22 : decode cX2_nearest 22 = .ok (.iload_n 2, 1) := by decide +kernel
theorem dX2_nearest_23 : decode cX2_nearest 23 = .ok (.iload 5, 2) := by decide +kernel
theorem dX2_nearest_25 : decode cX2_nearest 25 = .ok (.isub, 1) := by decide +kernel
theorem dX2_nearest_26 : decode cX2_nearest 26 = .ok (.bipush 62, 2) := by decide +kernel
theorem dX2_nearest_28 : decode cX2_nearest 28 = .ok (.iadd, 1) := by decide +kernel
theorem dX2_nearest_29 : decode cX2_nearest 29 = .ok (.iload 4, 2) := by decide +kernel
theorem dX2_nearest_31 : decode cX2_nearest 31 = .ok (.iadd, 1) := by decide +kernel
theorem dX2_nearest_32 : decode cX2_nearest 32 = .ok (.istore 8, 2) := by decide +kernel
theorem dX2_nearest_34 : decode cX2_nearest 34 = .ok (.iconst 2, 1) := by decide +kernel
theorem dX2_nearest_35 : decode cX2_nearest 35 = .ok (.iload 4, 2) := by decide +kernel
theorem dX2_nearest_37 : decode cX2_nearest 37 = .ok (.imul, 1) := by decide +kernel
theorem dX2_nearest_38 : decode cX2_nearest 38 = .ok (.iconst 1, 1) := by decide +kernel
theorem dX2_nearest_39 : decode cX2_nearest 39 = .ok (.iadd, 1) := by decide +kernel
theorem dX2_nearest_40 : decode cX2_nearest 40 = .ok (.istore 9, 2) := by decide +kernel
theorem dX2_nearest_42 : decode cX2_nearest 42 = .ok (.iload 8, 2) := by decide +kernel
theorem dX2_nearest_44 : decode cX2_nearest 44 = .ok (.iload 9, 2) := by decide +kernel
theorem dX2_nearest_46 : decode cX2_nearest 46 = .ok (.if_icmp .lt 9, 3) := by decide +kernel
theorem dX2_nearest_49 : decode cX2_nearest 49 = .ok (.iload 9, 2) := by decide +kernel
theorem dX2_nearest_51 : decode cX2_nearest 51 = .ok (.i2l, 1) := by decide +kernel
theorem dX2_nearest_52 : decode cX2_nearest 52 = .ok (.iload_n 3, 1) := by decide +kernel
theorem dX2_nearest_53 : decode cX2_nearest 53 = .ok (.lshl, 1) := by decide +kernel
theorem dX2_nearest_54 : decode cX2_nearest 54 = .ok (.lreturn, 1) := by decide +kernel
theorem dX2_nearest_55 : decode cX2_nearest 55 = .ok (.bipush 62, 2) := by decide +kernel
theorem dX2_nearest_57 : decode cX2_nearest 57 = .ok (.iload_n 3, 1) := by decide +kernel
theorem dX2_nearest_58 : decode cX2_nearest 58 = .ok (.isub, 1) := by decide +kernel
theorem dX2_nearest_59 : decode cX2_nearest 59 = .ok (.iconst 0, 1) := by decide +kernel
theorem dX2_nearest_60 : decode cX2_nearest 60 = .ok (.iconst 1, 1) := by decide +kernel
theorem dX2_nearest_61 : decode cX2_nearest 61 = .ok (.iload 8, 2) := by decide +kernel
theorem dX2_nearest_63 : decode cX2_nearest 63 = .ok (.isub, 1) := by decide +kernel
theorem dX2_nearest_64 : decode cX2_nearest 64 = .ok (.invokestatic 25, 3) := by decide +kernel
theorem dX2_nearest_67 : decode cX2_nearest 67 = .ok (.iadd, 1) := by decide +kernel
theorem dX2_nearest_68 : decode cX2_nearest 68 = .ok (.istore 10, 2) := by decide +kernel
theorem dX2_nearest_70 : decode cX2_nearest 70 = .ok (.iload 10, 2) := by decide +kernel
theorem dX2_nearest_72 : decode cX2_nearest 72 = .ok (.bipush 63, 2) := by decide +kernel
theorem dX2_nearest_74 : decode cX2_nearest 74 = .ok (.if_icmp .le 5, 3) := by decide +kernel
theorem dX2_nearest_77 : decode cX2_nearest 77 = .ok (.lconst 0, 1) := by decide +kernel
theorem dX2_nearest_78 : decode cX2_nearest 78 = .ok (.lreturn, 1) := by decide +kernel
theorem dX2_nearest_79 : decode cX2_nearest 79 = .ok (.lload 6, 2) := by decide +kernel
theorem dX2_nearest_81 : decode cX2_nearest 81 = .ok (.iload 10, 2) := by decide +kernel
theorem dX2_nearest_83 : decode cX2_nearest 83 = .ok (.lushr, 1) := by decide +kernel
theorem dX2_nearest_84 : decode cX2_nearest 84 = .ok (.lstore 11, 2) := by decide +kernel
theorem dX2_nearest_86 : decode cX2_nearest 86 = .ok (.lload 6, 2) := by decide +kernel
theorem dX2_nearest_88 : decode cX2_nearest 88 = .ok (.lload 11, 2) := by decide +kernel
theorem dX2_nearest_90 : decode cX2_nearest 90 = .ok (.iload 10, 2) := by decide +kernel
theorem dX2_nearest_92 : decode cX2_nearest 92 = .ok (.lshl, 1) := by decide +kernel
theorem dX2_nearest_93 : decode cX2_nearest 93 = .ok (.lsub, 1) := by decide +kernel
theorem dX2_nearest_94 : decode cX2_nearest 94 = .ok (.lstore 13, 2) := by decide +kernel
theorem dX2_nearest_96 : decode cX2_nearest 96 = .ok (.lconst 1, 1) := by decide +kernel
theorem dX2_nearest_97 : decode cX2_nearest 97 = .ok (.iload 10, 2) := by decide +kernel
theorem dX2_nearest_99 : decode cX2_nearest 99 = .ok (.iconst 1, 1) := by decide +kernel
theorem dX2_nearest_100 : decode cX2_nearest 100 = .ok (.isub, 1) := by decide +kernel
theorem dX2_nearest_101 : decode cX2_nearest 101 = .ok (.lshl, 1) := by decide +kernel
theorem dX2_nearest_102 : decode cX2_nearest 102 = .ok (.lstore 15, 2) := by decide +kernel
theorem dX2_nearest_104 : decode cX2_nearest 104 = .ok (.lload 13, 2) := by decide +kernel
theorem dX2_nearest_106 : decode cX2_nearest 106 = .ok (.lload 15, 2) := by decide +kernel
theorem dX2_nearest_108 : decode cX2_nearest 108 = .ok (.lcmp, 1) := by decide +kernel
theorem dX2_nearest_109 : decode cX2_nearest 109 = .ok (.ifCond .gt 20, 3) := by decide +kernel
theorem dX2_nearest_112 : decode cX2_nearest 112 = .ok (.lload 13, 2) := by decide +kernel
theorem dX2_nearest_114 : decode cX2_nearest 114 = .ok (.lload 15, 2) := by decide +kernel
theorem dX2_nearest_116 : decode cX2_nearest 116 = .ok (.lcmp, 1) := by decide +kernel
theorem dX2_nearest_117 : decode cX2_nearest 117 = .ok (.ifCond .ne 18, 3) := by decide +kernel
theorem dX2_nearest_120 : decode cX2_nearest 120 = .ok (.lload 11, 2) := by decide +kernel
theorem dX2_nearest_122 : decode cX2_nearest 122 = .ok (.lconst 1, 1) := by decide +kernel
theorem dX2_nearest_123 : decode cX2_nearest 123 = .ok (.land, 1) := by decide +kernel
theorem dX2_nearest_124 : decode cX2_nearest 124 = .ok (.lconst 0, 1) := by decide +kernel
theorem dX2_nearest_125 : decode cX2_nearest 125 = .ok (.lcmp, 1) := by decide +kernel
theorem dX2_nearest_126 : decode cX2_nearest 126 = .ok (.ifCond .eq 9, 3) := by decide +kernel
theorem dX2_nearest_129 : decode cX2_nearest 129 = .ok (.lload 11, 2) := by decide +kernel
theorem dX2_nearest_131 : decode cX2_nearest 131 = .ok (.lconst 1, 1) := by decide +kernel
theorem dX2_nearest_132 : decode cX2_nearest 132 = .ok (.ladd, 1) := by decide +kernel
theorem dX2_nearest_133 : decode cX2_nearest 133 = .ok (.lstore 11, 2) := by decide +kernel
theorem dX2_nearest_135 : decode cX2_nearest 135 = .ok (.iconst 0, 1) := by decide +kernel
theorem dX2_nearest_136 : decode cX2_nearest 136 = .ok (.iload 8, 2) := by decide +kernel
theorem dX2_nearest_138 : decode cX2_nearest 138 = .ok (.iconst 1, 1) := by decide +kernel
theorem dX2_nearest_139 : decode cX2_nearest 139 = .ok (.isub, 1) := by decide +kernel
theorem dX2_nearest_140 : decode cX2_nearest 140 = .ok (.invokestatic 25, 3) := by decide +kernel
theorem dX2_nearest_143 : decode cX2_nearest 143 = .ok (.i2l, 1) := by decide +kernel
theorem dX2_nearest_144 : decode cX2_nearest 144 = .ok (.iload_n 3, 1) := by decide +kernel
theorem dX2_nearest_145 : decode cX2_nearest 145 = .ok (.lshl, 1) := by decide +kernel
theorem dX2_nearest_146 : decode cX2_nearest 146 = .ok (.lload 11, 2) := by decide +kernel
theorem dX2_nearest_148 : decode cX2_nearest 148 = .ok (.ladd, 1) := by decide +kernel
theorem dX2_nearest_149 : decode cX2_nearest 149 = .ok (.lreturn, 1) := by decide +kernel
theorem dX2_lowered_0 : decode cX2_lowered 0 = .ok (.iload_n 2, 1) := by decide +kernel
theorem dX2_lowered_1 : decode cX2_lowered 1 = .ok (.ifCond .gt 5, 3) := by decide +kernel
theorem dX2_lowered_4 : decode cX2_lowered 4 = .ok (.lload_n 0, 1) := by decide +kernel
theorem dX2_lowered_5 : decode cX2_lowered 5 = .ok (.lreturn, 1) := by decide +kernel
theorem dX2_lowered_6 : decode cX2_lowered 6 = .ok (.iload_n 2, 1) := by decide +kernel
theorem dX2_lowered_7 : decode cX2_lowered 7 = .ok (.bipush 62, 2) := by decide +kernel
theorem dX2_lowered_9 : decode cX2_lowered 9 = .ok (.if_icmp .le 15, 3) := by decide +kernel
theorem dX2_lowered_12 : decode cX2_lowered 12 = .ok (.lload_n 0, 1) := by decide +kernel
theorem dX2_lowered_13 : decode cX2_lowered 13 = .ok (.lconst 0, 1) := by decide +kernel
theorem dX2_lowered_14 : decode cX2_lowered 14 = .ok (.lcmp, 1) := by decide +kernel
theorem dX2_lowered_15 : decode cX2_lowered 15 = .ok (.ifCond .eq 7, 3) := by decide +kernel
theorem dX2_lowered_18 : decode cX2_lowered 18 = .ok (.lconst 1, 1) := by decide +kernel
theorem dX2_lowered_19 : decode cX2_lowered 19 = .ok (.goto 4, 3) := by decide +kernel
theorem dX2_lowered_22 : decode cX2_lowered 22 = .ok (.lconst 0, 1) := by decide +kernel
theorem dX2_lowered_23 : decode cX2_lowered 23 = .ok (.lreturn, 1) := by decide +kernel
theorem dX2_lowered_24 : decode cX2_lowered 24 = .ok (.lload_n 0, 1) := by decide +kernel
theorem dX2_lowered_25 : decode cX2_lowered 25 = .ok (.iload_n 2, 1) := by decide +kernel
theorem dX2_lowered_26 : decode cX2_lowered 26 = .ok (.lushr, 1) := by decide +kernel
theorem dX2_lowered_27 : decode cX2_lowered 27 = .ok (.lstore_n 3, 1) := by decide +kernel
theorem dX2_lowered_28 : decode cX2_lowered 28 = .ok (.lload_n 3, 1) := by decide +kernel
theorem dX2_lowered_29 : decode cX2_lowered 29 = .ok (.iload_n 2, 1) := by decide +kernel
theorem dX2_lowered_30 : decode cX2_lowered 30 = .ok (.lshl, 1) := by decide +kernel
theorem dX2_lowered_31 : decode cX2_lowered 31 = .ok (.lload_n 0, 1) := by decide +kernel
theorem dX2_lowered_32 : decode cX2_lowered 32 = .ok (.lcmp, 1) := by decide +kernel
theorem dX2_lowered_33 : decode cX2_lowered 33 = .ok (.ifCond .ne 7, 3) := by decide +kernel
theorem dX2_lowered_36 : decode cX2_lowered 36 = .ok (.lload_n 3, 1) := by decide +kernel
theorem dX2_lowered_37 : decode cX2_lowered 37 = .ok (.goto 6, 3) := by decide +kernel
theorem dX2_lowered_40 : decode cX2_lowered 40 = .ok (.lload_n 3, 1) := by decide +kernel
theorem dX2_lowered_41 : decode cX2_lowered 41 = .ok (.lconst 1, 1) := by decide +kernel
theorem dX2_lowered_42 : decode cX2_lowered 42 = .ok (.lor, 1) := by decide +kernel
theorem dX2_lowered_43 : decode cX2_lowered 43 = .ok (.lreturn, 1) := by decide +kernel
theorem dX2_ofBits_0 : decode cX2_ofBits 0 = .ok (.lload_n 0, 1) := by decide +kernel
theorem dX2_ofBits_1 : decode cX2_ofBits 1 = .ok (.invokestatic 31, 3) := by decide +kernel
theorem dX2_ofBits_4 : decode cX2_ofBits 4 = .ok (.ifCond .eq 9, 3) := by decide +kernel
theorem dX2_ofBits_7 : decode cX2_ofBits 7 = .ok (.ldc2_w 35, 3) := by decide +kernel
theorem dX2_ofBits_10 : decode cX2_ofBits 10 = .ok (.goto 4, 3) := by decide +kernel
theorem dX2_ofBits_13 : decode cX2_ofBits 13 = .ok (.lload_n 0, 1) := by decide +kernel
theorem dX2_ofBits_14 : decode cX2_ofBits 14 = .ok (.lreturn, 1) := by decide +kernel
theorem dX2_ofBits32_0 : decode cX2_ofBits32 0 = .ok (.iload_n 0, 1) := by decide +kernel
theorem dX2_ofBits32_1 : decode cX2_ofBits32 1 = .ok (.ldc 37, 2) := by decide +kernel
theorem dX2_ofBits32_3 : decode cX2_ofBits32 3 = .ok (.iand, 1) := by decide +kernel
theorem dX2_ofBits32_4 : decode cX2_ofBits32 4 = .ok (.istore_n 1, 1) := by decide +kernel
theorem dX2_ofBits32_5 : decode cX2_ofBits32 5 = .ok (.iload_n 0, 1) := by decide +kernel
theorem dX2_ofBits32_6 : decode cX2_ofBits32 6 = .ok (.ifCond .ge 9, 3) := by decide +kernel
theorem dX2_ofBits32_9 : decode cX2_ofBits32 9 = .ok (.ldc2_w 13, 3) := by decide +kernel
theorem dX2_ofBits32_12 : decode cX2_ofBits32 12 = .ok (.goto 4, 3) := by decide +kernel
theorem dX2_ofBits32_15 : decode cX2_ofBits32 15 = .ok (.lconst 0, 1) := by decide +kernel
theorem dX2_ofBits32_16 : decode cX2_ofBits32 16 = .ok (.lstore_n 2, 1) := by decide +kernel
theorem dX2_ofBits32_17 : decode cX2_ofBits32 17 = .ok (.iload_n 1, 1) := by decide +kernel
theorem dX2_ofBits32_18 : decode cX2_ofBits32 18 = .ok (.ldc 38, 2) := by decide +kernel
theorem dX2_ofBits32_20 : decode cX2_ofBits32 20 = .ok (.if_icmp .le 7, 3) := by decide +kernel
theorem dX2_ofBits32_23 : decode cX2_ofBits32 23 = .ok (.ldc2_w 35, 3) := by decide +kernel
theorem dX2_ofBits32_26 : decode cX2_ofBits32 26 = .ok (.lreturn, 1) := by decide +kernel
theorem dX2_ofBits32_27 : decode cX2_ofBits32 27 = .ok (.iload_n 1, 1) := by decide +kernel
theorem dX2_ofBits32_28 : decode cX2_ofBits32 28 = .ok (.ldc 38, 2) := by decide +kernel
theorem dX2_ofBits32_30 : decode cX2_ofBits32 30 = .ok (.if_icmp .ne 9, 3) := by decide +kernel
theorem dX2_ofBits32_33 : decode cX2_ofBits32 33 = .ok (.lload_n 2, 1) := by decide +kernel
theorem dX2_ofBits32_34 : decode cX2_ofBits32 34 = .ok (.ldc2_w 11, 3) := by decide +kernel
theorem dX2_ofBits32_37 : decode cX2_ofBits32 37 = .ok (.lor, 1) := by decide +kernel
theorem dX2_ofBits32_38 : decode cX2_ofBits32 38 = .ok (.lreturn, 1) := by decide +kernel
theorem dX2_ofBits32_39 : decode cX2_ofBits32 39 = .ok (.iload_n 1, 1) := by decide +kernel
theorem dX2_ofBits32_40 : decode cX2_ofBits32 40 = .ok (.bipush 23, 2) := by decide +kernel
theorem dX2_ofBits32_42 : decode cX2_ofBits32 42 = .ok (.iushr, 1) := by decide +kernel
theorem dX2_ofBits32_43 : decode cX2_ofBits32 43 = .ok (.istore 4, 2) := by decide +kernel
theorem dX2_ofBits32_45 : decode cX2_ofBits32 45 = .ok (.iload_n 1, 1) := by decide +kernel
theorem dX2_ofBits32_46 : decode cX2_ofBits32 46 = .ok (.ldc 39, 2) := by decide +kernel
theorem dX2_ofBits32_48 : decode cX2_ofBits32 48 = .ok (.iand, 1) := by decide +kernel
theorem dX2_ofBits32_49 : decode cX2_ofBits32 49 = .ok (.istore 5, 2) := by decide +kernel
theorem dX2_ofBits32_51 : decode cX2_ofBits32 51 = .ok (.iload 4, 2) := by decide +kernel
theorem dX2_ofBits32_53 : decode cX2_ofBits32 53 = .ok (.ifCond .eq 14, 3) := by decide +kernel
theorem dX2_ofBits32_56 : decode cX2_ofBits32 56 = .ok (.iload 5, 2) := by decide +kernel
theorem dX2_ofBits32_58 : decode cX2_ofBits32 58 = .ok (.ldc 39, 2) := by decide +kernel
theorem dX2_ofBits32_60 : decode cX2_ofBits32 60 = .ok (.iadd, 1) := by decide +kernel
theorem dX2_ofBits32_61 : decode cX2_ofBits32 61 = .ok (.iconst 1, 1) := by decide +kernel
theorem dX2_ofBits32_62 : decode cX2_ofBits32 62 = .ok (.iadd, 1) := by decide +kernel
theorem dX2_ofBits32_63 : decode cX2_ofBits32 63 = .ok (.i2l, 1) := by decide +kernel
theorem dX2_ofBits32_64 : decode cX2_ofBits32 64 = .ok (.goto 6, 3) := by decide +kernel
theorem dX2_ofBits32_67 : decode cX2_ofBits32 67 = .ok (.iload 5, 2) := by decide +kernel
theorem dX2_ofBits32_69 : decode cX2_ofBits32 69 = .ok (.i2l, 1) := by decide +kernel
theorem dX2_ofBits32_70 : decode cX2_ofBits32 70 = .ok (.lstore 6, 2) := by decide +kernel
theorem dX2_ofBits32_72 : decode cX2_ofBits32 72 = .ok (.lload_n 2, 1) := by decide +kernel
theorem dX2_ofBits32_73 : decode cX2_ofBits32 73 = .ok (.lload 6, 2) := by decide +kernel
theorem dX2_ofBits32_75 : decode cX2_ofBits32 75 = .ok (.iload 4, 2) := by decide +kernel
theorem dX2_ofBits32_77 : decode cX2_ofBits32 77 = .ok (.ifCond .eq 8, 3) := by decide +kernel
theorem dX2_ofBits32_80 : decode cX2_ofBits32 80 = .ok (.iload 4, 2) := by decide +kernel
theorem dX2_ofBits32_82 : decode cX2_ofBits32 82 = .ok (.goto 4, 3) := by decide +kernel
theorem dX2_ofBits32_85 : decode cX2_ofBits32 85 = .ok (.iconst 1, 1) := by decide +kernel
theorem dX2_ofBits32_86 : decode cX2_ofBits32 86 = .ok (.bipush 127, 2) := by decide +kernel
theorem dX2_ofBits32_88 : decode cX2_ofBits32 88 = .ok (.isub, 1) := by decide +kernel
theorem dX2_ofBits32_89 : decode cX2_ofBits32 89 = .ok (.bipush 23, 2) := by decide +kernel
theorem dX2_ofBits32_91 : decode cX2_ofBits32 91 = .ok (.isub, 1) := by decide +kernel
theorem dX2_ofBits32_92 : decode cX2_ofBits32 92 = .ok (.bipush 52, 2) := by decide +kernel
theorem dX2_ofBits32_94 : decode cX2_ofBits32 94 = .ok (.sipush 1023, 3) := by decide +kernel
theorem dX2_ofBits32_97 : decode cX2_ofBits32 97 = .ok (.invokestatic 40, 3) := by decide +kernel
theorem dX2_ofBits32_100 : decode cX2_ofBits32 100 = .ok (.lor, 1) := by decide +kernel
theorem dX2_ofBits32_101 : decode cX2_ofBits32 101 = .ok (.lreturn, 1) := by decide +kernel
theorem dX2_toBits32_0 : decode cX2_toBits32 0 = .ok (.lload_n 0, 1) := by decide +kernel
theorem dX2_toBits32_1 : decode cX2_toBits32 1 = .ok (.invokestatic 31, 3) := by decide +kernel
theorem dX2_toBits32_4 : decode cX2_toBits32 4 = .ok (.ifCond .eq 6, 3) := by decide +kernel
theorem dX2_toBits32_7 : decode cX2_toBits32 7 = .ok (.ldc 44, 2) := by decide +kernel
theorem dX2_toBits32_9 : decode cX2_toBits32 9 = .ok (.ireturn, 1) := by decide +kernel
theorem dX2_toBits32_10 : decode cX2_toBits32 10 = .ok (.lload_n 0, 1) := by decide +kernel
theorem dX2_toBits32_11 : decode cX2_toBits32 11 = .ok (.lconst 0, 1) := by decide +kernel
theorem dX2_toBits32_12 : decode cX2_toBits32 12 = .ok (.lcmp, 1) := by decide +kernel
theorem dX2_toBits32_13 : decode cX2_toBits32 13 = .ok (.ifCond .ge 8, 3) := by decide +kernel
theorem dX2_toBits32_16 : decode cX2_toBits32 16 = .ok (.ldc 45, 2) := by decide +kernel
theorem dX2_toBits32_18 : decode cX2_toBits32 18 = .ok (.goto 4, 3) := by decide +kernel
theorem dX2_toBits32_21 : decode cX2_toBits32 21 = .ok (.iconst 0, 1) := by decide +kernel
theorem dX2_toBits32_22 : decode cX2_toBits32 22 = .ok (.istore_n 2, 1) := by decide +kernel
theorem dX2_toBits32_23 : decode cX2_toBits32 23 = .ok (.lload_n 0, 1) := by decide +kernel
theorem dX2_toBits32_24 : decode cX2_toBits32 24 = .ok (.invokestatic 46, 3) := by decide +kernel
theorem dX2_toBits32_27 : decode cX2_toBits32 27 = .ok (.ifCond .eq 8, 3) := by decide +kernel
theorem dX2_toBits32_30 : decode cX2_toBits32 30 = .ok (.iload_n 2, 1) := by decide +kernel
theorem dX2_toBits32_31 : decode cX2_toBits32 31 = .ok (.ldc 38, 2) := by decide +kernel
theorem dX2_toBits32_33 : decode cX2_toBits32 33 = .ok (.ior, 1) := by decide +kernel
theorem dX2_toBits32_34 : decode cX2_toBits32 34 = .ok (.ireturn, 1) := by decide +kernel
theorem dX2_toBits32_35 : decode cX2_toBits32 35 = .ok (.iload_n 2, 1) := by decide +kernel
theorem dX2_toBits32_36 : decode cX2_toBits32 36 = .ok (.lload_n 0, 1) := by decide +kernel
theorem dX2_toBits32_37 : decode cX2_toBits32 37 = .ok (.invokestatic 49, 3) := by decide +kernel
theorem dX2_toBits32_40 : decode cX2_toBits32 40 = .ok (.lload_n 0, 1) := by decide +kernel
theorem dX2_toBits32_41 : decode cX2_toBits32 41 = .ok (.invokestatic 53, 3) := by decide +kernel
theorem dX2_toBits32_44 : decode cX2_toBits32 44 = .ok (.bipush 23, 2) := by decide +kernel
theorem dX2_toBits32_46 : decode cX2_toBits32 46 = .ok (.bipush 127, 2) := by decide +kernel
theorem dX2_toBits32_48 : decode cX2_toBits32 48 = .ok (.invokestatic 40, 3) := by decide +kernel
theorem dX2_toBits32_51 : decode cX2_toBits32 51 = .ok (.l2i, 1) := by decide +kernel
theorem dX2_toBits32_52 : decode cX2_toBits32 52 = .ok (.ior, 1) := by decide +kernel
theorem dX2_toBits32_53 : decode cX2_toBits32 53 = .ok (.ireturn, 1) := by decide +kernel
theorem dX2_ofWhole_0 : decode cX2_ofWhole 0 = .ok (.lload_n 0, 1) := by decide +kernel
theorem dX2_ofWhole_1 : decode cX2_ofWhole 1 = .ok (.lconst 0, 1) := by decide +kernel
theorem dX2_ofWhole_2 : decode cX2_ofWhole 2 = .ok (.lcmp, 1) := by decide +kernel
theorem dX2_ofWhole_3 : decode cX2_ofWhole 3 = .ok (.ifCond .ge 9, 3) := by decide +kernel
theorem dX2_ofWhole_6 : decode cX2_ofWhole 6 = .ok (.ldc2_w 13, 3) := by decide +kernel
theorem dX2_ofWhole_9 : decode cX2_ofWhole 9 = .ok (.goto 4, 3) := by decide +kernel
theorem dX2_ofWhole_12 : decode cX2_ofWhole 12 = .ok (.lconst 0, 1) := by decide +kernel
theorem dX2_ofWhole_13 : decode cX2_ofWhole 13 = .ok (.lload_n 0, 1) := by decide +kernel
theorem dX2_ofWhole_14 : decode cX2_ofWhole 14 = .ok (.bipush 52, 2) := by decide +kernel
theorem dX2_ofWhole_16 : decode cX2_ofWhole 16 = .ok (.sipush 1023, 3) := by decide +kernel
theorem dX2_ofWhole_19 : decode cX2_ofWhole 19 = .ok (.invokestatic 56, 3) := by decide +kernel
theorem dX2_ofWhole_22 : decode cX2_ofWhole 22 = .ok (.lor, 1) := by decide +kernel
theorem dX2_ofWhole_23 : decode cX2_ofWhole 23 = .ok (.lreturn, 1) := by decide +kernel
theorem dX2_wholeToBits32_0 : decode cX2_wholeToBits32 0 = .ok (.lload_n 0, 1) := by decide +kernel
theorem dX2_wholeToBits32_1 : decode cX2_wholeToBits32 1 = .ok (.lconst 0, 1) := by decide +kernel
theorem dX2_wholeToBits32_2 : decode cX2_wholeToBits32 2 = .ok (.lcmp, 1) := by decide +kernel
theorem dX2_wholeToBits32_3 : decode cX2_wholeToBits32 3 = .ok (.ifCond .ge 8, 3) := by decide +kernel
theorem dX2_wholeToBits32_6 : decode cX2_wholeToBits32 6 = .ok (.ldc 45, 2) := by decide +kernel
theorem dX2_wholeToBits32_8 : decode cX2_wholeToBits32 8 = .ok (.goto 4, 3) := by decide +kernel
theorem dX2_wholeToBits32_11 : decode cX2_wholeToBits32 11 = .ok (.iconst 0, 1) := by decide +kernel
theorem dX2_wholeToBits32_12 : decode cX2_wholeToBits32 12 = .ok (.lload_n 0, 1) := by decide +kernel
theorem dX2_wholeToBits32_13 : decode cX2_wholeToBits32 13 = .ok (.bipush 23, 2) := by decide +kernel
theorem dX2_wholeToBits32_15 : decode cX2_wholeToBits32 15 = .ok (.bipush 127, 2) := by decide +kernel
theorem dX2_wholeToBits32_17 : decode cX2_wholeToBits32 17 = .ok (.invokestatic 56, 3) := by decide +kernel
theorem dX2_wholeToBits32_20 : decode cX2_wholeToBits32 20 = .ok (.l2i, 1) := by decide +kernel
theorem dX2_wholeToBits32_21 : decode cX2_wholeToBits32 21 = .ok (.ior, 1) := by decide +kernel
theorem dX2_wholeToBits32_22 : decode cX2_wholeToBits32 22 = .ok (.ireturn, 1) := by decide +kernel
theorem dX2_nearestToWhole_0 : decode cX2_nearestToWhole 0 = .ok (.lload_n 0, 1) := by decide +kernel
theorem dX2_nearestToWhole_1 : decode cX2_nearestToWhole 1 = .ok (.ldc2_w 13, 3) := by decide +kernel
theorem dX2_nearestToWhole_4 : decode cX2_nearestToWhole 4 = .ok (.lcmp, 1) := by decide +kernel
theorem dX2_nearestToWhole_5 : decode cX2_nearestToWhole 5 = .ok (.ifCond .ne 13, 3) := by decide +kernel
theorem dX2_nearestToWhole_8 : decode cX2_nearestToWhole 8 = .ok (.ldc2_w 60, 3) := by decide +kernel
theorem dX2_nearestToWhole_11 : decode cX2_nearestToWhole 11 = .ok (.iconst 1, 1) := by decide +kernel
theorem dX2_nearestToWhole_12 : decode cX2_nearestToWhole 12 = .ok (.iload_n 2, 1) := by decide +kernel
theorem dX2_nearestToWhole_13 : decode cX2_nearestToWhole 13 = .ok (.iload_n 3, 1) := by decide +kernel
theorem dX2_nearestToWhole_14 : decode cX2_nearestToWhole 14 = .ok (.invokestatic 40, 3) := by decide +kernel
theorem dX2_nearestToWhole_17 : decode cX2_nearestToWhole 17 = .ok (.lreturn, 1) := by decide +kernel
theorem dX2_nearestToWhole_18 : decode cX2_nearestToWhole 18 = .ok (.lload_n 0, 1) := by decide +kernel
theorem dX2_nearestToWhole_19 : decode cX2_nearestToWhole 19 = .ok (.lconst 0, 1) := by decide +kernel
theorem dX2_nearestToWhole_20 : decode cX2_nearestToWhole 20 = .ok (.lcmp, 1) := by decide +kernel
theorem dX2_nearestToWhole_21 : decode cX2_nearestToWhole 21 = .ok (.ifCond .ge 8, 3) := by decide +kernel
theorem dX2_nearestToWhole_24 : decode cX2_nearestToWhole 24 = .ok (.lload_n 0, 1) := by decide +kernel
theorem dX2_nearestToWhole_25 : decode cX2_nearestToWhole 25 = .ok (.lneg, 1) := by decide +kernel
theorem dX2_nearestToWhole_26 : decode cX2_nearestToWhole 26 = .ok (.goto 4, 3) := by decide +kernel
theorem dX2_nearestToWhole_29 : decode cX2_nearestToWhole 29 = .ok (.lload_n 0, 1) := by decide +kernel
theorem dX2_nearestToWhole_30 : decode cX2_nearestToWhole 30 = .ok (.iconst 0, 1) := by decide +kernel
theorem dX2_nearestToWhole_31 : decode cX2_nearestToWhole 31 = .ok (.iload_n 2, 1) := by decide +kernel
theorem dX2_nearestToWhole_32 : decode cX2_nearestToWhole 32 = .ok (.iload_n 3, 1) := by decide +kernel
theorem dX2_nearestToWhole_33 : decode cX2_nearestToWhole 33 = .ok (.invokestatic 40, 3) := by decide +kernel
theorem dX2_nearestToWhole_36 : decode cX2_nearestToWhole 36 = .ok (.lreturn, 1) := by decide +kernel
theorem dX2_cut_0 : decode cX2_cut 0 = .ok (.lload_n 0, 1) := by decide +kernel
theorem dX2_cut_1 : decode cX2_cut 1 = .ok (.invokestatic 62, 3) := by decide +kernel
theorem dX2_cut_4 : decode cX2_cut 4 = .ok (.istore_n 2, 1) := by decide +kernel
theorem dX2_cut_5 : decode cX2_cut 5 = .ok (.iload_n 2, 1) := by decide +kernel
theorem dX2_cut_6 : decode cX2_cut 6 = .ok (.ifCond .ge 5, 3) := by decide +kernel
theorem dX2_cut_9 : decode cX2_cut 9 = .ok (.lconst 0, 1) := by decide +kernel
theorem dX2_cut_10 : decode cX2_cut 10 = .ok (.lreturn, 1) := by decide +kernel
theorem dX2_cut_11 : decode cX2_cut 11 = .ok (.iload_n 2, 1) := by decide +kernel
theorem dX2_cut_12 : decode cX2_cut 12 = .ok (.bipush 62, 2) := by decide +kernel
theorem dX2_cut_14 : decode cX2_cut 14 = .ok (.if_icmp .le 19, 3) := by decide +kernel
theorem dX2_cut_17 : decode cX2_cut 17 = .ok (.lload_n 0, 1) := by decide +kernel
theorem dX2_cut_18 : decode cX2_cut 18 = .ok (.lconst 0, 1) := by decide +kernel
theorem dX2_cut_19 : decode cX2_cut 19 = .ok (.lcmp, 1) := by decide +kernel
theorem dX2_cut_20 : decode cX2_cut 20 = .ok (.ifCond .ge 9, 3) := by decide +kernel
theorem dX2_cut_23 : decode cX2_cut 23 = .ok (.ldc2_w 13, 3) := by decide +kernel
theorem dX2_cut_26 : decode cX2_cut 26 = .ok (.goto 6, 3) := by decide +kernel
theorem dX2_cut_29 : decode cX2_cut 29 = .ok (.ldc2_w 9, 3) := by decide +kernel
theorem dX2_cut_32 : decode cX2_cut 32 = .ok (.lreturn, 1) := by decide +kernel
theorem dX2_cut_33 : decode cX2_cut 33 = .ok (.iload_n 2, 1) := by decide +kernel
theorem dX2_cut_34 : decode cX2_cut 34 = .ok (.bipush 52, 2) := by decide +kernel
theorem dX2_cut_36 : decode cX2_cut 36 = .ok (.isub, 1) := by decide +kernel
theorem dX2_cut_37 : decode cX2_cut 37 = .ok (.istore_n 3, 1) := by decide +kernel
theorem dX2_cut_38 : decode cX2_cut 38 = .ok (.iload_n 3, 1) := by decide +kernel
theorem dX2_cut_39 : decode cX2_cut 39 = .ok (.ifCond .ge 13, 3) := by decide +kernel
theorem dX2_cut_42 : decode cX2_cut 42 = .ok (.lload_n 0, 1) := by decide +kernel
theorem dX2_cut_43 : decode cX2_cut 43 = .ok (.invokestatic 49, 3) := by decide +kernel
theorem dX2_cut_46 : decode cX2_cut 46 = .ok (.iload_n 3, 1) := by decide +kernel
theorem dX2_cut_47 : decode cX2_cut 47 = .ok (.ineg, 1) := by decide +kernel
theorem dX2_cut_48 : decode cX2_cut 48 = .ok (.lushr, 1) := by decide +kernel
theorem dX2_cut_49 : decode cX2_cut 49 = .ok (.goto 9, 3) := by decide +kernel
theorem dX2_cut_52 : decode cX2_cut 52 = .ok (.lload_n 0, 1) := by decide +kernel
theorem dX2_cut_53 : decode cX2_cut 53 = .ok (.invokestatic 49, 3) := by decide +kernel
theorem dX2_cut_56 : decode cX2_cut 56 = .ok (.iload_n 3, 1) := by decide +kernel
theorem dX2_cut_57 : decode cX2_cut 57 = .ok (.lshl, 1) := by decide +kernel
theorem dX2_cut_58 : decode cX2_cut 58 = .ok (.lstore 4, 2) := by decide +kernel
theorem dX2_cut_60 : decode cX2_cut 60 = .ok (.lload_n 0, 1) := by decide +kernel
theorem dX2_cut_61 : decode cX2_cut 61 = .ok (.lconst 0, 1) := by decide +kernel
theorem dX2_cut_62 : decode cX2_cut 62 = .ok (.lcmp, 1) := by decide +kernel
theorem dX2_cut_63 : decode cX2_cut 63 = .ok (.ifCond .ge 9, 3) := by decide +kernel
theorem dX2_cut_66 : decode cX2_cut 66 = .ok (.lload 4, 2) := by decide +kernel
theorem dX2_cut_68 : decode cX2_cut 68 = .ok (.lneg, 1) := by decide +kernel
theorem dX2_cut_69 : decode cX2_cut 69 = .ok (.goto 5, 3) := by decide +kernel
theorem dX2_cut_72 : decode cX2_cut 72 = .ok (.lload 4, 2) := by decide +kernel
theorem dX2_cut_74 : decode cX2_cut 74 = .ok (.lreturn, 1) := by decide +kernel
theorem dX2_halfUp_0 : decode cX2_halfUp 0 = .ok (.lload_n 0, 1) := by decide +kernel
theorem dX2_halfUp_1 : decode cX2_halfUp 1 = .ok (.invokestatic 62, 3) := by decide +kernel
theorem dX2_halfUp_4 : decode cX2_halfUp 4 = .ok (.istore_n 2, 1) := by decide +kernel
theorem dX2_halfUp_5 : decode cX2_halfUp 5 = .ok (.iload_n 2, 1) := by decide +kernel
theorem dX2_halfUp_6 : decode cX2_halfUp 6 = .ok (.iconst (-1), 1) := by decide +kernel
theorem dX2_halfUp_7 : decode cX2_halfUp 7 = .ok (.if_icmp .ge 5, 3) := by decide +kernel
theorem dX2_halfUp_10 : decode cX2_halfUp 10 = .ok (.lconst 0, 1) := by decide +kernel
theorem dX2_halfUp_11 : decode cX2_halfUp 11 = .ok (.lreturn, 1) := by decide +kernel
theorem dX2_halfUp_12 : decode cX2_halfUp 12 = .ok (.iload_n 2, 1) := by decide +kernel
theorem dX2_halfUp_13 : decode cX2_halfUp 13 = .ok (.bipush 52, 2) := by decide +kernel
theorem dX2_halfUp_15 : decode cX2_halfUp 15 = .ok (.if_icmp .lt 8, 3) := by decide +kernel
theorem dX2_halfUp_18 : decode cX2_halfUp 18 = .ok (.lload_n 0, 1) := by decide +kernel
theorem dX2_halfUp_19 : decode cX2_halfUp 19 = .ok (.invokestatic 65, 3) := by decide +kernel
theorem dX2_halfUp_22 : decode cX2_halfUp 22 = .ok (.lreturn, 1) := by decide +kernel
theorem dX2_halfUp_23 : decode cX2_halfUp 23 = .ok (.bipush 52, 2) := by decide +kernel
theorem dX2_halfUp_25 : decode cX2_halfUp 25 = .ok (.iload_n 2, 1) := by decide +kernel
theorem dX2_halfUp_26 : decode cX2_halfUp 26 = .ok (.isub, 1) := by decide +kernel
theorem dX2_halfUp_27 : decode cX2_halfUp 27 = .ok (.istore_n 3, 1) := by decide +kernel
theorem dX2_halfUp_28 : decode cX2_halfUp 28 = .ok (.lload_n 0, 1) := by decide +kernel
theorem dX2_halfUp_29 : decode cX2_halfUp 29 = .ok (.lconst 0, 1) := by decide +kernel
theorem dX2_halfUp_30 : decode cX2_halfUp 30 = .ok (.lcmp, 1) := by decide +kernel
theorem dX2_halfUp_31 : decode cX2_halfUp 31 = .ok (.ifCond .ge 11, 3) := by decide +kernel
theorem dX2_halfUp_34 : decode cX2_halfUp 34 = .ok (.lload_n 0, 1) := by decide +kernel
theorem dX2_halfUp_35 : decode cX2_halfUp 35 = .ok (.invokestatic 49, 3) := by decide +kernel
theorem dX2_halfUp_38 : decode cX2_halfUp 38 = .ok (.lneg, 1) := by decide +kernel
theorem dX2_halfUp_39 : decode cX2_halfUp 39 = .ok (.goto 7, 3) := by decide +kernel
theorem dX2_halfUp_42 : decode cX2_halfUp 42 = .ok (.lload_n 0, 1) := by decide +kernel
theorem dX2_halfUp_43 : decode cX2_halfUp 43 = .ok (.invokestatic 49, 3) := by decide +kernel
theorem dX2_halfUp_46 : decode cX2_halfUp 46 = .ok (.lstore 4, 2) := by decide +kernel
theorem dX2_halfUp_48 : decode cX2_halfUp 48 = .ok (.lload 4, 2) := by decide +kernel
theorem dX2_halfUp_50 : decode cX2_halfUp 50 = .ok (.lconst 1, 1) := by decide +kernel
theorem dX2_halfUp_51 : decode cX2_halfUp 51 = .ok (.iload_n 3, 1) := by decide +kernel
theorem dX2_halfUp_52 : decode cX2_halfUp 52 = .ok (.iconst 1, 1) := by decide +kernel
theorem dX2_halfUp_53 : decode cX2_halfUp 53 = .ok (.isub, 1) := by decide +kernel
theorem dX2_halfUp_54 : decode cX2_halfUp 54 = .ok (.lshl, 1) := by decide +kernel
theorem dX2_halfUp_55 : decode cX2_halfUp 55 = .ok (.ladd, 1) := by decide +kernel
theorem dX2_halfUp_56 : decode cX2_halfUp 56 = .ok (.iload_n 3, 1) := by decide +kernel
theorem dX2_halfUp_57 : decode cX2_halfUp 57 = .ok (.lshr, 1) := by decide +kernel
theorem dX2_halfUp_58 : decode cX2_halfUp 58 = .ok (.lreturn, 1) := by decide +kernel
theorem dX2_opposite_0 : decode cX2_opposite 0 = .ok (.lload_n 0, 1) := by decide +kernel
theorem dX2_opposite_1 : decode cX2_opposite 1 = .ok (.invokestatic 31, 3) := by decide +kernel
theorem dX2_opposite_4 : decode cX2_opposite 4 = .ok (.ifCond .eq 9, 3) := by decide +kernel
theorem dX2_opposite_7 : decode cX2_opposite 7 = .ok (.ldc2_w 35, 3) := by decide +kernel
theorem dX2_opposite_10 : decode cX2_opposite 10 = .ok (.goto 8, 3) := by decide +kernel
theorem dX2_opposite_13 : decode cX2_opposite 13 = .ok (.lload_n 0, 1) := by decide +kernel
theorem dX2_opposite_14 : decode cX2_opposite 14 = .ok (.ldc2_w 13, 3) := by decide +kernel
theorem dX2_opposite_17 : decode cX2_opposite 17 = .ok (.lxor, 1) := by decide +kernel
theorem dX2_opposite_18 : decode cX2_opposite 18 = .ok (.lreturn, 1) := by decide +kernel
theorem dX2_signOf_0 : decode cX2_signOf 0 = .ok (.lload_n 0, 1) := by decide +kernel
theorem dX2_signOf_1 : decode cX2_signOf 1 = .ok (.invokestatic 31, 3) := by decide +kernel
theorem dX2_signOf_4 : decode cX2_signOf 4 = .ok (.ifCond .ne 10, 3) := by decide +kernel
theorem dX2_signOf_7 : decode cX2_signOf 7 = .ok (.lload_n 0, 1) := by decide +kernel
theorem dX2_signOf_8 : decode cX2_signOf 8 = .ok (.invokestatic 68, 3) := by decide +kernel
theorem dX2_signOf_11 : decode cX2_signOf 11 = .ok (.ifCond .eq 7, 3) := by decide +kernel
theorem dX2_signOf_14 : decode cX2_signOf 14 = .ok (.lload_n 0, 1) := by decide +kernel
theorem dX2_signOf_15 : decode cX2_signOf 15 = .ok (.goto 11, 3) := by decide +kernel
theorem dX2_signOf_18 : decode cX2_signOf 18 = .ok (.lload_n 0, 1) := by decide +kernel
theorem dX2_signOf_19 : decode cX2_signOf 19 = .ok (.invokestatic 71, 3) := by decide +kernel
theorem dX2_signOf_22 : decode cX2_signOf 22 = .ok (.ldc2_w 74, 3) := by decide +kernel
theorem dX2_signOf_25 : decode cX2_signOf 25 = .ok (.lor, 1) := by decide +kernel
theorem dX2_signOf_26 : decode cX2_signOf 26 = .ok (.lreturn, 1) := by decide +kernel
theorem dX2_wholeNotAbove_0 : decode cX2_wholeNotAbove 0 = .ok (.lload_n 0, 1) := by decide +kernel
theorem dX2_wholeNotAbove_1 : decode cX2_wholeNotAbove 1 = .ok (.invokestatic 76, 3) := by decide +kernel
theorem dX2_wholeNotAbove_4 : decode cX2_wholeNotAbove 4 = .ok (.lstore_n 2, 1) := by decide +kernel
theorem dX2_wholeNotAbove_5 : decode cX2_wholeNotAbove 5 = .ok (.lload_n 0, 1) := by decide +kernel
theorem dX2_wholeNotAbove_6 : decode cX2_wholeNotAbove 6 = .ok (.lconst 0, 1) := by decide +kernel
theorem dX2_wholeNotAbove_7 : decode cX2_wholeNotAbove 7 = .ok (.lcmp, 1) := by decide +kernel
theorem dX2_wholeNotAbove_8 : decode cX2_wholeNotAbove 8 = .ok (.ifCond .ge 16, 3) := by decide +kernel
theorem dX2_wholeNotAbove_11 : decode cX2_wholeNotAbove 11 = .ok (.lload_n 2, 1) := by decide +kernel
theorem dX2_wholeNotAbove_12 : decode cX2_wholeNotAbove 12 = .ok (.lload_n 0, 1) := by decide +kernel
theorem dX2_wholeNotAbove_13 : decode cX2_wholeNotAbove 13 = .ok (.lcmp, 1) := by decide +kernel
theorem dX2_wholeNotAbove_14 : decode cX2_wholeNotAbove 14 = .ok (.ifCond .eq 10, 3) := by decide +kernel
theorem dX2_wholeNotAbove_17 : decode cX2_wholeNotAbove 17 = .ok (.lload_n 0, 1) := by decide +kernel
theorem dX2_wholeNotAbove_18 : decode cX2_wholeNotAbove 18 = .ok (.invokestatic 79, 3) := by decide +kernel
theorem dX2_wholeNotAbove_21 : decode cX2_wholeNotAbove 21 = .ok (.goto 4, 3) := by decide +kernel
theorem dX2_wholeNotAbove_24 : decode cX2_wholeNotAbove 24 = .ok (.lload_n 2, 1) := by decide +kernel
theorem dX2_wholeNotAbove_25 : decode cX2_wholeNotAbove 25 = .ok (.lreturn, 1) := by decide +kernel
theorem dX2_wholeNotBelow_0 : decode cX2_wholeNotBelow 0 = .ok (.lload_n 0, 1) := by decide +kernel
theorem dX2_wholeNotBelow_1 : decode cX2_wholeNotBelow 1 = .ok (.invokestatic 76, 3) := by decide +kernel
theorem dX2_wholeNotBelow_4 : decode cX2_wholeNotBelow 4 = .ok (.lstore_n 2, 1) := by decide +kernel
theorem dX2_wholeNotBelow_5 : decode cX2_wholeNotBelow 5 = .ok (.lload_n 0, 1) := by decide +kernel
theorem dX2_wholeNotBelow_6 : decode cX2_wholeNotBelow 6 = .ok (.lconst 0, 1) := by decide +kernel
theorem dX2_wholeNotBelow_7 : decode cX2_wholeNotBelow 7 = .ok (.lcmp, 1) := by decide +kernel
theorem dX2_wholeNotBelow_8 : decode cX2_wholeNotBelow 8 = .ok (.ifCond .le 16, 3) := by decide +kernel
theorem dX2_wholeNotBelow_11 : decode cX2_wholeNotBelow 11 = .ok (.lload_n 2, 1) := by decide +kernel
theorem dX2_wholeNotBelow_12 : decode cX2_wholeNotBelow 12 = .ok (.lload_n 0, 1) := by decide +kernel
theorem dX2_wholeNotBelow_13 : decode cX2_wholeNotBelow 13 = .ok (.lcmp, 1) := by decide +kernel
theorem dX2_wholeNotBelow_14 : decode cX2_wholeNotBelow 14 = .ok (.ifCond .eq 10, 3) := by decide +kernel
theorem dX2_wholeNotBelow_17 : decode cX2_wholeNotBelow 17 = .ok (.lload_n 0, 1) := by decide +kernel
theorem dX2_wholeNotBelow_18 : decode cX2_wholeNotBelow 18 = .ok (.invokestatic 79, 3) := by decide +kernel
theorem dX2_wholeNotBelow_21 : decode cX2_wholeNotBelow 21 = .ok (.goto 4, 3) := by decide +kernel
theorem dX2_wholeNotBelow_24 : decode cX2_wholeNotBelow 24 = .ok (.lload_n 2, 1) := by decide +kernel
theorem dX2_wholeNotBelow_25 : decode cX2_wholeNotBelow 25 = .ok (.lreturn, 1) := by decide +kernel
theorem dX2_wholeToZero_0 : decode cX2_wholeToZero 0 = .ok (.lload_n 0, 1) := by decide +kernel
theorem dX2_wholeToZero_1 : decode cX2_wholeToZero 1 = .ok (.invokestatic 62, 3) := by decide +kernel
theorem dX2_wholeToZero_4 : decode cX2_wholeToZero 4 = .ok (.istore_n 2, 1) := by decide +kernel
theorem dX2_wholeToZero_5 : decode cX2_wholeToZero 5 = .ok (.iload_n 2, 1) := by decide +kernel
theorem dX2_wholeToZero_6 : decode cX2_wholeToZero 6 = .ok (.bipush 52, 2) := by decide +kernel
theorem dX2_wholeToZero_8 : decode cX2_wholeToZero 8 = .ok (.if_icmp .lt 5, 3) := by decide +kernel
theorem dX2_wholeToZero_11 : decode cX2_wholeToZero 11 = .ok (.lload_n 0, 1) := by decide +kernel
theorem dX2_wholeToZero_12 : decode cX2_wholeToZero 12 = .ok (.lreturn, 1) := by decide +kernel
theorem dX2_wholeToZero_13 : decode cX2_wholeToZero 13 = .ok (.iload_n 2, 1) := by decide +kernel
theorem dX2_wholeToZero_14 : decode cX2_wholeToZero 14 = .ok (.ifCond .ge 10, 3) := by decide +kernel
theorem dX2_wholeToZero_17 : decode cX2_wholeToZero 17 = .ok (.lload_n 0, 1) := by decide +kernel
theorem dX2_wholeToZero_18 : decode cX2_wholeToZero 18 = .ok (.invokestatic 71, 3) := by decide +kernel
theorem dX2_wholeToZero_21 : decode cX2_wholeToZero 21 = .ok (.goto 14, 3) := by decide +kernel
theorem dX2_wholeToZero_24 : decode cX2_wholeToZero 24 = .ok (.lload_n 0, 1) := by decide +kernel
theorem dX2_wholeToZero_25 : decode cX2_wholeToZero 25 = .ok (.ldc2_w 15, 3) := by decide +kernel
theorem dX2_wholeToZero_28 : decode cX2_wholeToZero 28 = .ok (.iload_n 2, 1) := by decide +kernel
theorem dX2_wholeToZero_29 : decode cX2_wholeToZero 29 = .ok (.lushr, 1) := by decide +kernel
theorem dX2_wholeToZero_30 : decode cX2_wholeToZero 30 = .ok (.ldc2_w 82, 3) := by decide +kernel
theorem dX2_wholeToZero_33 : decode cX2_wholeToZero 33 = .ok (.lxor, 1) := by decide +kernel
theorem dX2_wholeToZero_34 : decode cX2_wholeToZero 34 = .ok (.land, 1) := by decide +kernel
theorem dX2_wholeToZero_35 : decode cX2_wholeToZero 35 = .ok (.lreturn, 1) := by decide +kernel
theorem dX2_wholeAway_0 : decode cX2_wholeAway 0 = .ok (.lload_n 0, 1) := by decide +kernel
theorem dX2_wholeAway_1 : decode cX2_wholeAway 1 = .ok (.invokestatic 62, 3) := by decide +kernel
theorem dX2_wholeAway_4 : decode cX2_wholeAway 4 = .ok (.istore_n 2, 1) := by decide +kernel
theorem dX2_wholeAway_5 : decode cX2_wholeAway 5 = .ok (.iload_n 2, 1) := by decide +kernel
theorem dX2_wholeAway_6 : decode cX2_wholeAway 6 = .ok (.ifCond .ge 14, 3) := by decide +kernel
theorem dX2_wholeAway_9 : decode cX2_wholeAway 9 = .ok (.lload_n 0, 1) := by decide +kernel
theorem dX2_wholeAway_10 : decode cX2_wholeAway 10 = .ok (.invokestatic 71, 3) := by decide +kernel
theorem dX2_wholeAway_13 : decode cX2_wholeAway 13 = .ok (.ldc2_w 74, 3) := by decide +kernel
theorem dX2_wholeAway_16 : decode cX2_wholeAway 16 = .ok (.lor, 1) := by decide +kernel
theorem dX2_wholeAway_17 : decode cX2_wholeAway 17 = .ok (.goto 12, 3) := by decide +kernel
theorem dX2_wholeAway_20 : decode cX2_wholeAway 20 = .ok (.lload_n 0, 1) := by decide +kernel
theorem dX2_wholeAway_21 : decode cX2_wholeAway 21 = .ok (.ldc2_w 15, 3) := by decide +kernel
theorem dX2_wholeAway_24 : decode cX2_wholeAway 24 = .ok (.iload_n 2, 1) := by decide +kernel
theorem dX2_wholeAway_25 : decode cX2_wholeAway 25 = .ok (.lushr, 1) := by decide +kernel
theorem dX2_wholeAway_26 : decode cX2_wholeAway 26 = .ok (.lor, 1) := by decide +kernel
theorem dX2_wholeAway_27 : decode cX2_wholeAway 27 = .ok (.lconst 1, 1) := by decide +kernel
theorem dX2_wholeAway_28 : decode cX2_wholeAway 28 = .ok (.ladd, 1) := by decide +kernel
theorem dX2_wholeAway_29 : decode cX2_wholeAway 29 = .ok (.lreturn, 1) := by decide +kernel
theorem dX2_nearestWhole_0 : decode cX2_nearestWhole 0 = .ok (.lload_n 0, 1) := by decide +kernel
theorem dX2_nearestWhole_1 : decode cX2_nearestWhole 1 = .ok (.invokestatic 62, 3) := by decide +kernel
theorem dX2_nearestWhole_4 : decode cX2_nearestWhole 4 = .ok (.istore_n 2, 1) := by decide +kernel
theorem dX2_nearestWhole_5 : decode cX2_nearestWhole 5 = .ok (.iload_n 2, 1) := by decide +kernel
theorem dX2_nearestWhole_6 : decode cX2_nearestWhole 6 = .ok (.bipush 52, 2) := by decide +kernel
theorem dX2_nearestWhole_8 : decode cX2_nearestWhole 8 = .ok (.if_icmp .lt 5, 3) := by decide +kernel
theorem dX2_nearestWhole_11 : decode cX2_nearestWhole 11 = .ok (.lload_n 0, 1) := by decide +kernel
theorem dX2_nearestWhole_12 : decode cX2_nearestWhole 12 = .ok (.lreturn, 1) := by decide +kernel
theorem dX2_nearestWhole_13 : decode cX2_nearestWhole 13 = .ok (.iload_n 2, 1) := by decide +kernel
theorem dX2_nearestWhole_14 : decode cX2_nearestWhole 14 = .ok (.ifCond .ge 30, 3) := by decide +kernel
theorem dX2_nearestWhole_17 : decode cX2_nearestWhole 17 = .ok (.lload_n 0, 1) := by decide +kernel
theorem dX2_nearestWhole_18 : decode cX2_nearestWhole 18 = .ok (.invokestatic 84, 3) := by decide +kernel
theorem dX2_nearestWhole_21 : decode cX2_nearestWhole 21 = .ok (.ldc2_w 87, 3) := by decide +kernel
theorem dX2_nearestWhole_24 : decode cX2_nearestWhole 24 = .ok (.lcmp, 1) := by decide +kernel
theorem dX2_nearestWhole_25 : decode cX2_nearestWhole 25 = .ok (.ifCond .le 14, 3) := by decide +kernel
theorem dX2_nearestWhole_28 : decode cX2_nearestWhole 28 = .ok (.lload_n 0, 1) := by decide +kernel
theorem dX2_nearestWhole_29 : decode cX2_nearestWhole 29 = .ok (.invokestatic 71, 3) := by decide +kernel
theorem dX2_nearestWhole_32 : decode cX2_nearestWhole 32 = .ok (.ldc2_w 74, 3) := by decide +kernel
theorem dX2_nearestWhole_35 : decode cX2_nearestWhole 35 = .ok (.lor, 1) := by decide +kernel
theorem dX2_nearestWhole_36 : decode cX2_nearestWhole 36 = .ok (.goto 7, 3) := by decide +kernel
theorem dX2_nearestWhole_39 : decode cX2_nearestWhole 39 = .ok (.lload_n 0, 1) := by decide +kernel
theorem dX2_nearestWhole_40 : decode cX2_nearestWhole 40 = .ok (.invokestatic 71, 3) := by decide +kernel
theorem dX2_nearestWhole_43 : decode cX2_nearestWhole 43 = .ok (.lreturn, 1) := by decide +kernel
theorem dX2_nearestWhole_44 : decode cX2_nearestWhole 44 = .ok (.ldc2_w 17, 3) := by decide +kernel
theorem dX2_nearestWhole_47 : decode cX2_nearestWhole 47 = .ok (.iload_n 2, 1) := by decide +kernel
theorem dX2_nearestWhole_48 : decode cX2_nearestWhole 48 = .ok (.lushr, 1) := by decide +kernel
theorem dX2_nearestWhole_49 : decode cX2_nearestWhole 49 = .ok (.lstore_n 3, 1) := by decide +kernel
theorem dX2_nearestWhole_50 : decode cX2_nearestWhole 50 = .ok (.lload_n 0, 1) := by decide +kernel
theorem dX2_nearestWhole_51 : decode cX2_nearestWhole 51 = .ok (.lload_n 3, 1) := by decide +kernel
theorem dX2_nearestWhole_52 : decode cX2_nearestWhole 52 = .ok (.lconst 1, 1) := by decide +kernel
theorem dX2_nearestWhole_53 : decode cX2_nearestWhole 53 = .ok (.lsub, 1) := by decide +kernel
theorem dX2_nearestWhole_54 : decode cX2_nearestWhole 54 = .ok (.land, 1) := by decide +kernel
theorem dX2_nearestWhole_55 : decode cX2_nearestWhole 55 = .ok (.lstore 5, 2) := by decide +kernel
theorem dX2_nearestWhole_57 : decode cX2_nearestWhole 57 = .ok (.lload_n 3, 1) := by decide +kernel
theorem dX2_nearestWhole_58 : decode cX2_nearestWhole 58 = .ok (.iconst 1, 1) := by decide +kernel
theorem dX2_nearestWhole_59 : decode cX2_nearestWhole 59 = .ok (.lushr, 1) := by decide +kernel
theorem dX2_nearestWhole_60 : decode cX2_nearestWhole 60 = .ok (.lstore 7, 2) := by decide +kernel
theorem dX2_nearestWhole_62 : decode cX2_nearestWhole 62 = .ok (.lload 5, 2) := by decide +kernel
theorem dX2_nearestWhole_64 : decode cX2_nearestWhole 64 = .ok (.lload 7, 2) := by decide +kernel
theorem dX2_nearestWhole_66 : decode cX2_nearestWhole 66 = .ok (.lcmp, 1) := by decide +kernel
theorem dX2_nearestWhole_67 : decode cX2_nearestWhole 67 = .ok (.ifCond .gt 19, 3) := by decide +kernel
theorem dX2_nearestWhole_70 : decode cX2_nearestWhole 70 = .ok (.lload 5, 2) := by decide +kernel
theorem dX2_nearestWhole_72 : decode cX2_nearestWhole 72 = .ok (.lload 7, 2) := by decide +kernel
theorem dX2_nearestWhole_74 : decode cX2_nearestWhole 74 = .ok (.lcmp, 1) := by decide +kernel
theorem dX2_nearestWhole_75 : decode cX2_nearestWhole 75 = .ok (.ifCond .ne 15, 3) := by decide +kernel
theorem dX2_nearestWhole_78 : decode cX2_nearestWhole 78 = .ok (.lload_n 0, 1) := by decide +kernel
theorem dX2_nearestWhole_79 : decode cX2_nearestWhole 79 = .ok (.lload_n 3, 1) := by decide +kernel
theorem dX2_nearestWhole_80 : decode cX2_nearestWhole 80 = .ok (.land, 1) := by decide +kernel
theorem dX2_nearestWhole_81 : decode cX2_nearestWhole 81 = .ok (.lconst 0, 1) := by decide +kernel
theorem dX2_nearestWhole_82 : decode cX2_nearestWhole 82 = .ok (.lcmp, 1) := by decide +kernel
theorem dX2_nearestWhole_83 : decode cX2_nearestWhole 83 = .ok (.ifCond .eq 7, 3) := by decide +kernel
theorem dX2_nearestWhole_86 : decode cX2_nearestWhole 86 = .ok (.iconst 1, 1) := by decide +kernel
theorem dX2_nearestWhole_87 : decode cX2_nearestWhole 87 = .ok (.goto 4, 3) := by decide +kernel
theorem dX2_nearestWhole_90 : decode cX2_nearestWhole 90 = .ok (.iconst 0, 1) := by decide +kernel
theorem dX2_nearestWhole_91 : decode cX2_nearestWhole 91 = .ok (.istore 9, 2) := by decide +kernel
theorem dX2_nearestWhole_93 : decode cX2_nearestWhole 93 = .ok (.iload 9, 2) := by decide +kernel
theorem dX2_nearestWhole_95 : decode cX2_nearestWhole 95 = .ok (.ifCond .eq 10, 3) := by decide +kernel
theorem dX2_nearestWhole_98 : decode cX2_nearestWhole 98 = .ok (.lload_n 0, 1) := by decide +kernel
theorem dX2_nearestWhole_99 : decode cX2_nearestWhole 99 = .ok (.invokestatic 79, 3) := by decide +kernel
theorem dX2_nearestWhole_102 : decode cX2_nearestWhole 102 = .ok (.goto 7, 3) := by decide +kernel
theorem dX2_nearestWhole_105 : decode cX2_nearestWhole 105 = .ok (.lload_n 0, 1) := by decide +kernel
theorem dX2_nearestWhole_106 : decode cX2_nearestWhole 106 = .ok (.invokestatic 76, 3) := by decide +kernel
theorem dX2_nearestWhole_109 : decode cX2_nearestWhole 109 = .ok (.lreturn, 1) := by decide +kernel
theorem dX2_root_0 : decode cX2_root 0 = .ok (.lload_n 0, 1) := by decide +kernel
theorem dX2_root_1 : decode cX2_root 1 = .ok (.invokestatic 31, 3) := by decide +kernel
theorem dX2_root_4 : decode cX2_root 4 = .ok (.ifCond .ne 10, 3) := by decide +kernel
theorem dX2_root_7 : decode cX2_root 7 = .ok (.lload_n 0, 1) := by decide +kernel
theorem dX2_root_8 : decode cX2_root 8 = .ok (.invokestatic 68, 3) := by decide +kernel
theorem dX2_root_11 : decode cX2_root 11 = .ok (.ifCond .eq 5, 3) := by decide +kernel
theorem dX2_root_14 : decode cX2_root 14 = .ok (.lload_n 0, 1) := by decide +kernel
theorem dX2_root_15 : decode cX2_root 15 = .ok (.lreturn, 1) := by decide +kernel
theorem dX2_root_16 : decode cX2_root 16 = .ok (.lload_n 0, 1) := by decide +kernel
theorem dX2_root_17 : decode cX2_root 17 = .ok (.lconst 0, 1) := by decide +kernel
theorem dX2_root_18 : decode cX2_root 18 = .ok (.lcmp, 1) := by decide +kernel
theorem dX2_root_19 : decode cX2_root 19 = .ok (.ifCond .ge 7, 3) := by decide +kernel
theorem dX2_root_22 : decode cX2_root 22 = .ok (.ldc2_w 35, 3) := by decide +kernel
theorem dX2_root_25 : decode cX2_root 25 = .ok (.lreturn, 1) := by decide +kernel
theorem dX2_root_26 : decode cX2_root 26 = .ok (.lload_n 0, 1) := by decide +kernel
theorem dX2_root_27 : decode cX2_root 27 = .ok (.invokestatic 46, 3) := by decide +kernel
theorem dX2_root_30 : decode cX2_root 30 = .ok (.ifCond .eq 5, 3) := by decide +kernel
theorem dX2_root_33 : decode cX2_root 33 = .ok (.lload_n 0, 1) := by decide +kernel
theorem dX2_root_34 : decode cX2_root 34 = .ok (.lreturn, 1) := by decide +kernel
theorem dX2_root_35 : decode cX2_root 35 = .ok (.lload_n 0, 1) := by decide +kernel
theorem dX2_root_36 : decode cX2_root 36 = .ok (.invokestatic 53, 3) := by decide +kernel
theorem dX2_root_39 : decode cX2_root 39 = .ok (.iconst 1, 1) := by decide +kernel
theorem dX2_root_40 : decode cX2_root 40 = .ok (.iand, 1) := by decide +kernel
theorem dX2_root_41 : decode cX2_root 41 = .ok (.istore_n 2, 1) := by decide +kernel
theorem dX2_root_42 : decode cX2_root 42 = .ok (.lload_n 0, 1) := by decide +kernel
theorem dX2_root_43 : decode cX2_root 43 = .ok (.invokestatic 49, 3) := by decide +kernel
theorem dX2_root_46 : decode cX2_root 46 = .ok (.iload_n 2, 1) := by decide +kernel
theorem dX2_root_47 : decode cX2_root 47 = .ok (.lshl, 1) := by decide +kernel
theorem dX2_root_48 : decode cX2_root 48 = .ok (.lload_n 0, 1) := by decide +kernel
theorem dX2_root_49 : decode cX2_root 49 = .ok (.invokestatic 53, 3) := by decide +kernel
theorem dX2_root_52 : decode cX2_root 52 = .ok (.iload_n 2, 1) := by decide +kernel
theorem dX2_root_53 : decode cX2_root 53 = .ok (.isub, 1) := by decide +kernel
theorem dX2_root_54 : decode cX2_root 54 = .ok (.iconst 2, 1) := by decide +kernel
theorem dX2_root_55 : decode cX2_root 55 = .ok (.idiv, 1) := by decide +kernel
theorem dX2_root_56 : decode cX2_root 56 = .ok (.invokestatic 89, 3) := by decide +kernel
theorem dX2_root_59 : decode cX2_root 59 = .ok (.lreturn, 1) := by decide +kernel
theorem dX2_rootOf_0 : decode cX2_rootOf 0 = .ok (.lconst 0, 1) := by decide +kernel
theorem dX2_rootOf_1 : decode cX2_rootOf 1 = .ok (.lstore_n 3, 1) := by decide +kernel
theorem dX2_rootOf_2 : decode cX2_rootOf 2 = .ok (.lconst 0, 1) := by decide +kernel
theorem dX2_rootOf_3 : decode cX2_rootOf 3 = .ok (.lstore 5, 2) := by decide +kernel
theorem dX2_rootOf_5 : decode cX2_rootOf 5 = .ok (.bipush 26, 2) := by decide +kernel
theorem dX2_rootOf_7 : decode cX2_rootOf 7 = .ok (.istore 7, 2) := by decide +kernel
theorem dX2_rootOf_9 : decode cX2_rootOf 9 = .ok (.iload 7, 2) := by decide +kernel
theorem dX2_rootOf_11 : decode cX2_rootOf 11 = .ok (.bipush (-28), 2) := by decide +kernel
theorem dX2_rootOf_13 : decode cX2_rootOf 13 = .ok (.if_icmp .lt 69, 3) := by decide +kernel
theorem dX2_rootOf_16 : decode cX2_rootOf 16 = .ok (.iload 7, 2) := by decide +kernel
theorem dX2_rootOf_18 : decode cX2_rootOf 18 = .ok (.ifCond .lt 16, 3) := by decide +kernel
theorem dX2_rootOf_21 : decode cX2_rootOf 21 = .ok (.lload_n 0, 1) := by decide +kernel
theorem dX2_rootOf_22 : decode cX2_rootOf 22 = .ok (.iconst 2, 1) := by decide +kernel
theorem dX2_rootOf_23 : decode cX2_rootOf 23 = .ok (.iload 7, 2) := by decide +kernel
theorem dX2_rootOf_25 : decode cX2_rootOf 25 = .ok (.imul, 1) := by decide +kernel
theorem dX2_rootOf_26 : decode cX2_rootOf 26 = .ok (.lushr, 1) := by decide +kernel
theorem dX2_rootOf_27 : decode cX2_rootOf 27 = .ok (.ldc2_w 93, 3) := by decide +kernel
theorem dX2_rootOf_30 : decode cX2_rootOf 30 = .ok (.land, 1) := by decide +kernel
theorem dX2_rootOf_31 : decode cX2_rootOf 31 = .ok (.goto 4, 3) := by decide +kernel
theorem dX2_rootOf_34 : decode cX2_rootOf 34 = .ok (.lconst 0, 1) := by decide +kernel
theorem dX2_rootOf_35 : decode cX2_rootOf 35 = .ok (.lstore 8, 2) := by decide +kernel
theorem dX2_rootOf_37 : decode cX2_rootOf 37 = .ok (.lload 5, 2) := by decide +kernel
theorem dX2_rootOf_39 : decode cX2_rootOf 39 = .ok (.iconst 2, 1) := by decide +kernel
theorem dX2_rootOf_40 : decode cX2_rootOf 40 = .ok (.lshl, 1) := by decide +kernel
theorem dX2_rootOf_41 : decode cX2_rootOf 41 = .ok (.lload 8, 2) := by decide +kernel
theorem dX2_rootOf_43 : decode cX2_rootOf 43 = .ok (.lor, 1) := by decide +kernel
theorem dX2_rootOf_44 : decode cX2_rootOf 44 = .ok (.lstore 5, 2) := by decide +kernel
theorem dX2_rootOf_46 : decode cX2_rootOf 46 = .ok (.lload_n 3, 1) := by decide +kernel
theorem dX2_rootOf_47 : decode cX2_rootOf 47 = .ok (.iconst 2, 1) := by decide +kernel
theorem dX2_rootOf_48 : decode cX2_rootOf 48 = .ok (.lshl, 1) := by decide +kernel
theorem dX2_rootOf_49 : decode cX2_rootOf 49 = .ok (.lconst 1, 1) := by decide +kernel
theorem dX2_rootOf_50 : decode cX2_rootOf 50 = .ok (.lor, 1) := by decide +kernel
theorem dX2_rootOf_51 : decode cX2_rootOf 51 = .ok (.lstore 10, 2) := by decide +kernel
theorem dX2_rootOf_53 : decode cX2_rootOf 53 = .ok (.lload_n 3, 1) := by decide +kernel
theorem dX2_rootOf_54 : decode cX2_rootOf 54 = .ok (.iconst 1, 1) := by decide +kernel
theorem dX2_rootOf_55 : decode cX2_rootOf 55 = .ok (.lshl, 1) := by decide +kernel
theorem dX2_rootOf_56 : decode cX2_rootOf 56 = .ok (.lstore_n 3, 1) := by decide +kernel
theorem dX2_rootOf_57 : decode cX2_rootOf 57 = .ok (.lload 5, 2) := by decide +kernel
theorem dX2_rootOf_59 : decode cX2_rootOf 59 = .ok (.lload 10, 2) := by decide +kernel
theorem dX2_rootOf_61 : decode cX2_rootOf 61 = .ok (.lcmp, 1) := by decide +kernel
theorem dX2_rootOf_62 : decode cX2_rootOf 62 = .ok (.ifCond .lt 14, 3) := by decide +kernel
theorem dX2_rootOf_65 : decode cX2_rootOf 65 = .ok (.lload 5, 2) := by decide +kernel
theorem dX2_rootOf_67 : decode cX2_rootOf 67 = .ok (.lload 10, 2) := by decide +kernel
theorem dX2_rootOf_69 : decode cX2_rootOf 69 = .ok (.lsub, 1) := by decide +kernel
theorem dX2_rootOf_70 : decode cX2_rootOf 70 = .ok (.lstore 5, 2) := by decide +kernel
theorem dX2_rootOf_72 : decode cX2_rootOf 72 = .ok (.lload_n 3, 1) := by decide +kernel
theorem dX2_rootOf_73 : decode cX2_rootOf 73 = .ok (.lconst 1, 1) := by decide +kernel
theorem dX2_rootOf_74 : decode cX2_rootOf 74 = .ok (.lor, 1) := by decide +kernel
theorem dX2_rootOf_75 : decode cX2_rootOf 75 = .ok (.lstore_n 3, 1) := by decide +kernel
theorem dX2_rootOf_76 : decode cX2_rootOf 76 = .ok (.iinc 7 (-1), 3) := by decide +kernel
theorem dX2_rootOf_79 : decode cX2_rootOf 79 = .ok (.goto (-70), 3) := by decide +kernel
theorem dX2_rootOf_82 : decode cX2_rootOf 82 = .ok (.lload_n 3, 1) := by decide +kernel
theorem dX2_rootOf_83 : decode cX2_rootOf 83 = .ok (.iconst 1, 1) := by decide +kernel
theorem dX2_rootOf_84 : decode cX2_rootOf 84 = .ok (.lshl, 1) := by decide +kernel
theorem dX2_rootOf_85 : decode cX2_rootOf 85 = .ok (.lload 5, 2) := by decide +kernel
theorem dX2_rootOf_87 : decode cX2_rootOf 87 = .ok (.lconst 0, 1) := by decide +kernel
theorem dX2_rootOf_88 : decode cX2_rootOf 88 = .ok (.lcmp, 1) := by decide +kernel
theorem dX2_rootOf_89 : decode cX2_rootOf 89 = .ok (.ifCond .eq 7, 3) := by decide +kernel
theorem dX2_rootOf_92 : decode cX2_rootOf 92 = .ok (.iconst 1, 1) := by decide +kernel
theorem dX2_rootOf_93 : decode cX2_rootOf 93 = .ok (.goto 4, 3) := by decide +kernel
theorem dX2_rootOf_96 : decode cX2_rootOf 96 = .ok (.iconst 0, 1) := by decide +kernel
theorem dX2_rootOf_97 : decode cX2_rootOf 97 = .ok (.i2l, 1) := by decide +kernel
theorem dX2_rootOf_98 : decode cX2_rootOf 98 = .ok (.lor, 1) := by decide +kernel
theorem dX2_rootOf_99 : decode cX2_rootOf 99 = .ok (.iload_n 2, 1) := by decide +kernel
theorem dX2_rootOf_100 : decode cX2_rootOf 100 = .ok (.bipush 29, 2) := by decide +kernel
theorem dX2_rootOf_102 : decode cX2_rootOf 102 = .ok (.isub, 1) := by decide +kernel
theorem dX2_rootOf_103 : decode cX2_rootOf 103 = .ok (.bipush 52, 2) := by decide +kernel
theorem dX2_rootOf_105 : decode cX2_rootOf 105 = .ok (.sipush 1023, 3) := by decide +kernel
theorem dX2_rootOf_108 : decode cX2_rootOf 108 = .ok (.invokestatic 40, 3) := by decide +kernel
theorem dX2_rootOf_111 : decode cX2_rootOf 111 = .ok (.lreturn, 1) := by decide +kernel
theorem dX2_step_0 : decode cX2_step 0 = .ok (.lload_n 0, 1) := by decide +kernel
theorem dX2_step_1 : decode cX2_step 1 = .ok (.invokestatic 31, 3) := by decide +kernel
theorem dX2_step_4 : decode cX2_step 4 = .ok (.ifCond .ne 10, 3) := by decide +kernel
theorem dX2_step_7 : decode cX2_step 7 = .ok (.lload_n 0, 1) := by decide +kernel
theorem dX2_step_8 : decode cX2_step 8 = .ok (.invokestatic 46, 3) := by decide +kernel
theorem dX2_step_11 : decode cX2_step 11 = .ok (.ifCond .eq 8, 3) := by decide +kernel
theorem dX2_step_14 : decode cX2_step 14 = .ok (.lload_n 0, 1) := by decide +kernel
theorem dX2_step_15 : decode cX2_step 15 = .ok (.invokestatic 84, 3) := by decide +kernel
theorem dX2_step_18 : decode cX2_step 18 = .ok (.lreturn, 1) := by decide +kernel
theorem dX2_step_19 : decode cX2_step 19 = .ok (.lload_n 0, 1) := by decide +kernel
theorem dX2_step_20 : decode cX2_step 20 = .ok (.invokestatic 62, 3) := by decide +kernel
theorem dX2_step_23 : decode cX2_step 23 = .ok (.istore_n 2, 1) := by decide +kernel
theorem dX2_step_24 : decode cX2_step 24 = .ok (.iload_n 2, 1) := by decide +kernel
theorem dX2_step_25 : decode cX2_step 25 = .ok (.sipush (-1022), 3) := by decide +kernel
theorem dX2_step_28 : decode cX2_step 28 = .ok (.if_icmp .ge 7, 3) := by decide +kernel
theorem dX2_step_31 : decode cX2_step 31 = .ok (.lconst 1, 1) := by decide +kernel
theorem dX2_step_32 : decode cX2_step 32 = .ok (.goto 16, 3) := by decide +kernel
theorem dX2_step_35 : decode cX2_step 35 = .ok (.lconst 1, 1) := by decide +kernel
theorem dX2_step_36 : decode cX2_step 36 = .ok (.iload_n 2, 1) := by decide +kernel
theorem dX2_step_37 : decode cX2_step 37 = .ok (.bipush 52, 2) := by decide +kernel
theorem dX2_step_39 : decode cX2_step 39 = .ok (.isub, 1) := by decide +kernel
theorem dX2_step_40 : decode cX2_step 40 = .ok (.bipush 52, 2) := by decide +kernel
theorem dX2_step_42 : decode cX2_step 42 = .ok (.sipush 1023, 3) := by decide +kernel
theorem dX2_step_45 : decode cX2_step 45 = .ok (.invokestatic 40, 3) := by decide +kernel
theorem dX2_step_48 : decode cX2_step 48 = .ok (.lreturn, 1) := by decide +kernel
theorem dX2_nextAbove_0 : decode cX2_nextAbove 0 = .ok (.lload_n 0, 1) := by decide +kernel
theorem dX2_nextAbove_1 : decode cX2_nextAbove 1 = .ok (.invokestatic 31, 3) := by decide +kernel
theorem dX2_nextAbove_4 : decode cX2_nextAbove 4 = .ok (.ifCond .ne 11, 3) := by decide +kernel
theorem dX2_nextAbove_7 : decode cX2_nextAbove 7 = .ok (.lload_n 0, 1) := by decide +kernel
theorem dX2_nextAbove_8 : decode cX2_nextAbove 8 = .ok (.ldc2_w 11, 3) := by decide +kernel
theorem dX2_nextAbove_11 : decode cX2_nextAbove 11 = .ok (.lcmp, 1) := by decide +kernel
theorem dX2_nextAbove_12 : decode cX2_nextAbove 12 = .ok (.ifCond .ne 5, 3) := by decide +kernel
theorem dX2_nextAbove_15 : decode cX2_nextAbove 15 = .ok (.lload_n 0, 1) := by decide +kernel
theorem dX2_nextAbove_16 : decode cX2_nextAbove 16 = .ok (.lreturn, 1) := by decide +kernel
theorem dX2_nextAbove_17 : decode cX2_nextAbove 17 = .ok (.lload_n 0, 1) := by decide +kernel
theorem dX2_nextAbove_18 : decode cX2_nextAbove 18 = .ok (.invokestatic 68, 3) := by decide +kernel
theorem dX2_nextAbove_21 : decode cX2_nextAbove 21 = .ok (.ifCond .eq 5, 3) := by decide +kernel
theorem dX2_nextAbove_24 : decode cX2_nextAbove 24 = .ok (.lconst 1, 1) := by decide +kernel
theorem dX2_nextAbove_25 : decode cX2_nextAbove 25 = .ok (.lreturn, 1) := by decide +kernel
theorem dX2_nextAbove_26 : decode cX2_nextAbove 26 = .ok (.lload_n 0, 1) := by decide +kernel
theorem dX2_nextAbove_27 : decode cX2_nextAbove 27 = .ok (.lconst 0, 1) := by decide +kernel
theorem dX2_nextAbove_28 : decode cX2_nextAbove 28 = .ok (.lcmp, 1) := by decide +kernel
theorem dX2_nextAbove_29 : decode cX2_nextAbove 29 = .ok (.ifCond .ge 9, 3) := by decide +kernel
theorem dX2_nextAbove_32 : decode cX2_nextAbove 32 = .ok (.lload_n 0, 1) := by decide +kernel
theorem dX2_nextAbove_33 : decode cX2_nextAbove 33 = .ok (.lconst 1, 1) := by decide +kernel
theorem dX2_nextAbove_34 : decode cX2_nextAbove 34 = .ok (.lsub, 1) := by decide +kernel
theorem dX2_nextAbove_35 : decode cX2_nextAbove 35 = .ok (.goto 6, 3) := by decide +kernel
theorem dX2_nextAbove_38 : decode cX2_nextAbove 38 = .ok (.lload_n 0, 1) := by decide +kernel
theorem dX2_nextAbove_39 : decode cX2_nextAbove 39 = .ok (.lconst 1, 1) := by decide +kernel
theorem dX2_nextAbove_40 : decode cX2_nextAbove 40 = .ok (.ladd, 1) := by decide +kernel
theorem dX2_nextAbove_41 : decode cX2_nextAbove 41 = .ok (.lreturn, 1) := by decide +kernel
theorem dX2_nextBelow_0 : decode cX2_nextBelow 0 = .ok (.lload_n 0, 1) := by decide +kernel
theorem dX2_nextBelow_1 : decode cX2_nextBelow 1 = .ok (.invokestatic 95, 3) := by decide +kernel
theorem dX2_nextBelow_4 : decode cX2_nextBelow 4 = .ok (.invokestatic 98, 3) := by decide +kernel
theorem dX2_nextBelow_7 : decode cX2_nextBelow 7 = .ok (.invokestatic 95, 3) := by decide +kernel
theorem dX2_nextBelow_10 : decode cX2_nextBelow 10 = .ok (.lreturn, 1) := by decide +kernel
theorem dX2_scaled_0 : decode cX2_scaled 0 = .ok (.lload_n 0, 1) := by decide +kernel
theorem dX2_scaled_1 : decode cX2_scaled 1 = .ok (.invokestatic 31, 3) := by decide +kernel
theorem dX2_scaled_4 : decode cX2_scaled 4 = .ok (.ifCond .ne 17, 3) := by decide +kernel
theorem dX2_scaled_7 : decode cX2_scaled 7 = .ok (.lload_n 0, 1) := by decide +kernel
theorem dX2_scaled_8 : decode cX2_scaled 8 = .ok (.invokestatic 46, 3) := by decide +kernel
theorem dX2_scaled_11 : decode cX2_scaled 11 = .ok (.ifCond .ne 10, 3) := by decide +kernel
theorem dX2_scaled_14 : decode cX2_scaled 14 = .ok (.lload_n 0, 1) := by decide +kernel
theorem dX2_scaled_15 : decode cX2_scaled 15 = .ok (.invokestatic 68, 3) := by decide +kernel
theorem dX2_scaled_18 : decode cX2_scaled 18 = .ok (.ifCond .eq 5, 3) := by decide +kernel
theorem dX2_scaled_21 : decode cX2_scaled 21 = .ok (.lload_n 0, 1) := by decide +kernel
theorem dX2_scaled_22 : decode cX2_scaled 22 = .ok (.lreturn, 1) := by decide +kernel
theorem dX2_scaled_23 : decode cX2_scaled 23 = .ok (.ldc2_w 101, 3) := by decide +kernel
theorem dX2_scaled_26 : decode cX2_scaled 26 = .ok (.ldc2_w 103, 3) := by decide +kernel
theorem dX2_scaled_29 : decode cX2_scaled 29 = .ok (.lload_n 2, 1) := by decide +kernel
theorem dX2_scaled_30 : decode cX2_scaled 30 = .ok (.invokestatic 105, 3) := by decide +kernel
theorem dX2_scaled_33 : decode cX2_scaled 33 = .ok (.invokestatic 109, 3) := by decide +kernel
theorem dX2_scaled_36 : decode cX2_scaled 36 = .ok (.l2i, 1) := by decide +kernel
theorem dX2_scaled_37 : decode cX2_scaled 37 = .ok (.istore 4, 2) := by decide +kernel
theorem dX2_scaled_39 : decode cX2_scaled 39 = .ok (.lload_n 0, 1) := by decide +kernel
theorem dX2_scaled_40 : decode cX2_scaled 40 = .ok (.invokestatic 71, 3) := by decide +kernel
theorem dX2_scaled_43 : decode cX2_scaled 43 = .ok (.lload_n 0, 1) := by decide +kernel
theorem dX2_scaled_44 : decode cX2_scaled 44 = .ok (.invokestatic 49, 3) := by decide +kernel
theorem dX2_scaled_47 : decode cX2_scaled 47 = .ok (.lload_n 0, 1) := by decide +kernel
theorem dX2_scaled_48 : decode cX2_scaled 48 = .ok (.invokestatic 53, 3) := by decide +kernel
theorem dX2_scaled_51 : decode cX2_scaled 51 = .ok (.iload 4, 2) := by decide +kernel
theorem dX2_scaled_53 : decode cX2_scaled 53 = .ok (.iadd, 1) := by decide +kernel
theorem dX2_scaled_54 : decode cX2_scaled 54 = .ok (.bipush 52, 2) := by decide +kernel
theorem dX2_scaled_56 : decode cX2_scaled 56 = .ok (.sipush 1023, 3) := by decide +kernel
theorem dX2_scaled_59 : decode cX2_scaled 59 = .ok (.invokestatic 40, 3) := by decide +kernel
theorem dX2_scaled_62 : decode cX2_scaled 62 = .ok (.lor, 1) := by decide +kernel
theorem dX2_scaled_63 : decode cX2_scaled 63 = .ok (.lreturn, 1) := by decide +kernel
theorem dX2_isLike_0 : decode cX2_isLike 0 = .ok (.lload_n 0, 1) := by decide +kernel
theorem dX2_isLike_1 : decode cX2_isLike 1 = .ok (.invokestatic 31, 3) := by decide +kernel
theorem dX2_isLike_4 : decode cX2_isLike 4 = .ok (.ifCond .ne 10, 3) := by decide +kernel
theorem dX2_isLike_7 : decode cX2_isLike 7 = .ok (.lload_n 2, 1) := by decide +kernel
theorem dX2_isLike_8 : decode cX2_isLike 8 = .ok (.invokestatic 31, 3) := by decide +kernel
theorem dX2_isLike_11 : decode cX2_isLike 11 = .ok (.ifCond .eq 5, 3) := by decide +kernel
theorem dX2_isLike_14 : decode cX2_isLike 14 = .ok (.iconst 0, 1) := by decide +kernel
theorem dX2_isLike_15 : decode cX2_isLike 15 = .ok (.ireturn, 1) := by decide +kernel
theorem dX2_isLike_16 : decode cX2_isLike 16 = .ok (.lload_n 0, 1) := by decide +kernel
theorem dX2_isLike_17 : decode cX2_isLike 17 = .ok (.lload_n 2, 1) := by decide +kernel
theorem dX2_isLike_18 : decode cX2_isLike 18 = .ok (.lcmp, 1) := by decide +kernel
theorem dX2_isLike_19 : decode cX2_isLike 19 = .ok (.ifCond .eq 17, 3) := by decide +kernel
theorem dX2_isLike_22 : decode cX2_isLike 22 = .ok (.lload_n 0, 1) := by decide +kernel
theorem dX2_isLike_23 : decode cX2_isLike 23 = .ok (.invokestatic 68, 3) := by decide +kernel
theorem dX2_isLike_26 : decode cX2_isLike 26 = .ok (.ifCond .eq 14, 3) := by decide +kernel
theorem dX2_isLike_29 : decode cX2_isLike 29 = .ok (.lload_n 2, 1) := by decide +kernel
theorem dX2_isLike_30 : decode cX2_isLike 30 = .ok (.invokestatic 68, 3) := by decide +kernel
theorem dX2_isLike_33 : decode cX2_isLike 33 = .ok (.ifCond .eq 7, 3) := by decide +kernel
theorem dX2_isLike_36 : decode cX2_isLike 36 = .ok (.iconst 1, 1) := by decide +kernel
theorem dX2_isLike_37 : decode cX2_isLike 37 = .ok (.goto 4, 3) := by decide +kernel
theorem dX2_isLike_40 : decode cX2_isLike 40 = .ok (.iconst 0, 1) := by decide +kernel
theorem dX2_isLike_41 : decode cX2_isLike 41 = .ok (.ireturn, 1) := by decide +kernel
theorem dX2_isLess_0 : decode cX2_isLess 0 = .ok (.lload_n 0, 1) := by decide +kernel
theorem dX2_isLess_1 : decode cX2_isLess 1 = .ok (.invokestatic 31, 3) := by decide +kernel
theorem dX2_isLess_4 : decode cX2_isLess 4 = .ok (.ifCond .ne 18, 3) := by decide +kernel
theorem dX2_isLess_7 : decode cX2_isLess 7 = .ok (.lload_n 2, 1) := by decide +kernel
theorem dX2_isLess_8 : decode cX2_isLess 8 = .ok (.invokestatic 31, 3) := by decide +kernel
theorem dX2_isLess_11 : decode cX2_isLess 11 = .ok (.ifCond .ne 11, 3) := by decide +kernel
theorem dX2_isLess_14 : decode cX2_isLess 14 = .ok (.lload_n 0, 1) := by decide +kernel
theorem dX2_isLess_15 : decode cX2_isLess 15 = .ok (.lload_n 2, 1) := by decide +kernel
theorem dX2_isLess_16 : decode cX2_isLess 16 = .ok (.invokestatic 111, 3) := by decide +kernel
theorem dX2_isLess_19 : decode cX2_isLess 19 = .ok (.ifCond .eq 5, 3) := by decide +kernel
theorem dX2_isLess_22 : decode cX2_isLess 22 = .ok (.iconst 0, 1) := by decide +kernel
theorem dX2_isLess_23 : decode cX2_isLess 23 = .ok (.ireturn, 1) := by decide +kernel
theorem dX2_isLess_24 : decode cX2_isLess 24 = .ok (.lload_n 0, 1) := by decide +kernel
theorem dX2_isLess_25 : decode cX2_isLess 25 = .ok (.lload_n 2, 1) := by decide +kernel
theorem dX2_isLess_26 : decode cX2_isLess 26 = .ok (.invokestatic 115, 3) := by decide +kernel
theorem dX2_isLess_29 : decode cX2_isLess 29 = .ok (.ifCond .ge 7, 3) := by decide +kernel
theorem dX2_isLess_32 : decode cX2_isLess 32 = .ok (.iconst 1, 1) := by decide +kernel
theorem dX2_isLess_33 : decode cX2_isLess 33 = .ok (.goto 4, 3) := by decide +kernel
theorem dX2_isLess_36 : decode cX2_isLess 36 = .ok (.iconst 0, 1) := by decide +kernel
theorem dX2_isLess_37 : decode cX2_isLess 37 = .ok (.ireturn, 1) := by decide +kernel
theorem dX2_rankOf_0 : decode cX2_rankOf 0 = .ok (.lload_n 0, 1) := by decide +kernel
theorem dX2_rankOf_1 : decode cX2_rankOf 1 = .ok (.invokestatic 119, 3) := by decide +kernel
theorem dX2_rankOf_4 : decode cX2_rankOf 4 = .ok (.lstore 4, 2) := by decide +kernel
theorem dX2_rankOf_6 : decode cX2_rankOf 6 = .ok (.lload_n 2, 1) := by decide +kernel
theorem dX2_rankOf_7 : decode cX2_rankOf 7 = .ok (.invokestatic 119, 3) := by decide +kernel
theorem dX2_rankOf_10 : decode cX2_rankOf 10 = .ok (.lstore 6, 2) := by decide +kernel
theorem dX2_rankOf_12 : decode cX2_rankOf 12 = .ok (.lload 4, 2) := by decide +kernel
theorem dX2_rankOf_14 : decode cX2_rankOf 14 = .ok (.lload 6, 2) := by decide +kernel
theorem dX2_rankOf_16 : decode cX2_rankOf 16 = .ok (.lcmp, 1) := by decide +kernel
theorem dX2_rankOf_17 : decode cX2_rankOf 17 = .ok (.ifCond .ne 5, 3) := by decide +kernel
theorem dX2_rankOf_20 : decode cX2_rankOf 20 = .ok (.iconst 0, 1) := by decide +kernel
theorem dX2_rankOf_21 : decode cX2_rankOf 21 = .ok (.ireturn, 1) := by decide +kernel
theorem dX2_rankOf_22 : decode cX2_rankOf 22 = .ok (.lload 4, 2) := by decide +kernel
theorem dX2_rankOf_24 : decode cX2_rankOf 24 = .ok (.lload 6, 2) := by decide +kernel
theorem dX2_rankOf_26 : decode cX2_rankOf 26 = .ok (.lcmp, 1) := by decide +kernel
theorem dX2_rankOf_27 : decode cX2_rankOf 27 = .ok (.ifCond .ge 7, 3) := by decide +kernel
theorem dX2_rankOf_30 : decode cX2_rankOf 30 = .ok (.iconst (-1), 1) := by decide +kernel
theorem dX2_rankOf_31 : decode cX2_rankOf 31 = .ok (.goto 4, 3) := by decide +kernel
theorem dX2_rankOf_34 : decode cX2_rankOf 34 = .ok (.iconst 1, 1) := by decide +kernel
theorem dX2_rankOf_35 : decode cX2_rankOf 35 = .ok (.ireturn, 1) := by decide +kernel
theorem dX2_ordered_0 : decode cX2_ordered 0 = .ok (.lload_n 0, 1) := by decide +kernel
theorem dX2_ordered_1 : decode cX2_ordered 1 = .ok (.lconst 0, 1) := by decide +kernel
theorem dX2_ordered_2 : decode cX2_ordered 2 = .ok (.lcmp, 1) := by decide +kernel
theorem dX2_ordered_3 : decode cX2_ordered 3 = .ok (.ifCond .ge 11, 3) := by decide +kernel
theorem dX2_ordered_6 : decode cX2_ordered 6 = .ok (.lload_n 0, 1) := by decide +kernel
theorem dX2_ordered_7 : decode cX2_ordered 7 = .ok (.ldc2_w 9, 3) := by decide +kernel
theorem dX2_ordered_10 : decode cX2_ordered 10 = .ok (.lxor, 1) := by decide +kernel
theorem dX2_ordered_11 : decode cX2_ordered 11 = .ok (.goto 4, 3) := by decide +kernel
theorem dX2_ordered_14 : decode cX2_ordered 14 = .ok (.lload_n 0, 1) := by decide +kernel
theorem dX2_ordered_15 : decode cX2_ordered 15 = .ok (.lreturn, 1) := by decide +kernel
theorem dX2_greater_0 : decode cX2_greater 0 = .ok (.lload_n 0, 1) := by decide +kernel
theorem dX2_greater_1 : decode cX2_greater 1 = .ok (.invokestatic 31, 3) := by decide +kernel
theorem dX2_greater_4 : decode cX2_greater 4 = .ok (.ifCond .ne 10, 3) := by decide +kernel
theorem dX2_greater_7 : decode cX2_greater 7 = .ok (.lload_n 2, 1) := by decide +kernel
theorem dX2_greater_8 : decode cX2_greater 8 = .ok (.invokestatic 31, 3) := by decide +kernel
theorem dX2_greater_11 : decode cX2_greater 11 = .ok (.ifCond .eq 7, 3) := by decide +kernel
theorem dX2_greater_14 : decode cX2_greater 14 = .ok (.ldc2_w 35, 3) := by decide +kernel
theorem dX2_greater_17 : decode cX2_greater 17 = .ok (.lreturn, 1) := by decide +kernel
theorem dX2_greater_18 : decode cX2_greater 18 = .ok (.lload_n 0, 1) := by decide +kernel
theorem dX2_greater_19 : decode cX2_greater 19 = .ok (.lload_n 2, 1) := by decide +kernel
theorem dX2_greater_20 : decode cX2_greater 20 = .ok (.invokestatic 115, 3) := by decide +kernel
theorem dX2_greater_23 : decode cX2_greater 23 = .ok (.ifCond .lt 7, 3) := by decide +kernel
theorem dX2_greater_26 : decode cX2_greater 26 = .ok (.lload_n 0, 1) := by decide +kernel
theorem dX2_greater_27 : decode cX2_greater 27 = .ok (.goto 4, 3) := by decide +kernel
theorem dX2_greater_30 : decode cX2_greater 30 = .ok (.lload_n 2, 1) := by decide +kernel
theorem dX2_greater_31 : decode cX2_greater 31 = .ok (.lreturn, 1) := by decide +kernel
theorem dX2_lesser_0 : decode cX2_lesser 0 = .ok (.lload_n 0, 1) := by decide +kernel
theorem dX2_lesser_1 : decode cX2_lesser 1 = .ok (.invokestatic 31, 3) := by decide +kernel
theorem dX2_lesser_4 : decode cX2_lesser 4 = .ok (.ifCond .ne 10, 3) := by decide +kernel
theorem dX2_lesser_7 : decode cX2_lesser 7 = .ok (.lload_n 2, 1) := by decide +kernel
theorem dX2_lesser_8 : decode cX2_lesser 8 = .ok (.invokestatic 31, 3) := by decide +kernel
theorem dX2_lesser_11 : decode cX2_lesser 11 = .ok (.ifCond .eq 7, 3) := by decide +kernel
theorem dX2_lesser_14 : decode cX2_lesser 14 = .ok (.ldc2_w 35, 3) := by decide +kernel
theorem dX2_lesser_17 : decode cX2_lesser 17 = .ok (.lreturn, 1) := by decide +kernel
theorem dX2_lesser_18 : decode cX2_lesser 18 = .ok (.lload_n 0, 1) := by decide +kernel
theorem dX2_lesser_19 : decode cX2_lesser 19 = .ok (.lload_n 2, 1) := by decide +kernel
theorem dX2_lesser_20 : decode cX2_lesser 20 = .ok (.invokestatic 115, 3) := by decide +kernel
theorem dX2_lesser_23 : decode cX2_lesser 23 = .ok (.ifCond .gt 7, 3) := by decide +kernel
theorem dX2_lesser_26 : decode cX2_lesser 26 = .ok (.lload_n 0, 1) := by decide +kernel
theorem dX2_lesser_27 : decode cX2_lesser 27 = .ok (.goto 4, 3) := by decide +kernel
theorem dX2_lesser_30 : decode cX2_lesser 30 = .ok (.lload_n 2, 1) := by decide +kernel
theorem dX2_lesser_31 : decode cX2_lesser 31 = .ok (.lreturn, 1) := by decide +kernel
theorem dX2_withSign_0 : decode cX2_withSign 0 = .ok (.lload_n 0, 1) := by decide +kernel
theorem dX2_withSign_1 : decode cX2_withSign 1 = .ok (.invokestatic 31, 3) := by decide +kernel
theorem dX2_withSign_4 : decode cX2_withSign 4 = .ok (.ifCond .eq 9, 3) := by decide +kernel
theorem dX2_withSign_7 : decode cX2_withSign 7 = .ok (.ldc2_w 35, 3) := by decide +kernel
theorem dX2_withSign_10 : decode cX2_withSign 10 = .ok (.goto 12, 3) := by decide +kernel
theorem dX2_withSign_13 : decode cX2_withSign 13 = .ok (.lload_n 0, 1) := by decide +kernel
theorem dX2_withSign_14 : decode cX2_withSign 14 = .ok (.invokestatic 84, 3) := by decide +kernel
theorem dX2_withSign_17 : decode cX2_withSign 17 = .ok (.lload_n 2, 1) := by decide +kernel
theorem dX2_withSign_18 : decode cX2_withSign 18 = .ok (.invokestatic 71, 3) := by decide +kernel
theorem dX2_withSign_21 : decode cX2_withSign 21 = .ok (.lor, 1) := by decide +kernel
theorem dX2_withSign_22 : decode cX2_withSign 22 = .ok (.lreturn, 1) := by decide +kernel
theorem dX2_middle_0 : decode cX2_middle 0 = .ok (.lload_n 0, 1) := by decide +kernel
theorem dX2_middle_1 : decode cX2_middle 1 = .ok (.invokestatic 31, 3) := by decide +kernel
theorem dX2_middle_4 : decode cX2_middle 4 = .ok (.ifCond .eq 5, 3) := by decide +kernel
theorem dX2_middle_7 : decode cX2_middle 7 = .ok (.lload_n 2, 1) := by decide +kernel
theorem dX2_middle_8 : decode cX2_middle 8 = .ok (.lreturn, 1) := by decide +kernel
theorem dX2_middle_9 : decode cX2_middle 9 = .ok (.lload_n 2, 1) := by decide +kernel
theorem dX2_middle_10 : decode cX2_middle 10 = .ok (.invokestatic 31, 3) := by decide +kernel
theorem dX2_middle_13 : decode cX2_middle 13 = .ok (.ifCond .eq 7, 3) := by decide +kernel
theorem dX2_middle_16 : decode cX2_middle 16 = .ok (.lload_n 0, 1) := by decide +kernel
theorem dX2_middle_17 : decode cX2_middle 17 = .ok (.goto 14, 3) := by decide +kernel
theorem dX2_middle_20 : decode cX2_middle 20 = .ok (.lload_n 0, 1) := by decide +kernel
theorem dX2_middle_21 : decode cX2_middle 21 = .ok (.lload_n 2, 1) := by decide +kernel
theorem dX2_middle_22 : decode cX2_middle 22 = .ok (.invokestatic 122, 3) := by decide +kernel
theorem dX2_middle_25 : decode cX2_middle 25 = .ok (.ldc2_w 87, 3) := by decide +kernel
theorem dX2_middle_28 : decode cX2_middle 28 = .ok (.invokestatic 125, 3) := by decide +kernel
theorem dX2_middle_31 : decode cX2_middle 31 = .ok (.lreturn, 1) := by decide +kernel
theorem dX2_subtract_0 : decode cX2_subtract 0 = .ok (.lload_n 0, 1) := by decide +kernel
theorem dX2_subtract_1 : decode cX2_subtract 1 = .ok (.lload_n 2, 1) := by decide +kernel
theorem dX2_subtract_2 : decode cX2_subtract 2 = .ok (.invokestatic 95, 3) := by decide +kernel
theorem dX2_subtract_5 : decode cX2_subtract 5 = .ok (.invokestatic 122, 3) := by decide +kernel
theorem dX2_subtract_8 : decode cX2_subtract 8 = .ok (.lreturn, 1) := by decide +kernel
theorem dX2_add_0 : decode cX2_add 0 = .ok (.lload_n 0, 1) := by decide +kernel
theorem dX2_add_1 : decode cX2_add 1 = .ok (.invokestatic 31, 3) := by decide +kernel
theorem dX2_add_4 : decode cX2_add 4 = .ok (.ifCond .ne 10, 3) := by decide +kernel
theorem dX2_add_7 : decode cX2_add 7 = .ok (.lload_n 2, 1) := by decide +kernel
theorem dX2_add_8 : decode cX2_add 8 = .ok (.invokestatic 31, 3) := by decide +kernel
theorem dX2_add_11 : decode cX2_add 11 = .ok (.ifCond .eq 7, 3) := by decide +kernel
theorem dX2_add_14 : decode cX2_add 14 = .ok (.ldc2_w 35, 3) := by decide +kernel
theorem dX2_add_17 : decode cX2_add 17 = .ok (.lreturn, 1) := by decide +kernel
theorem dX2_add_18 : decode cX2_add 18 = .ok (.lload_n 0, 1) := by decide +kernel
theorem dX2_add_19 : decode cX2_add 19 = .ok (.invokestatic 46, 3) := by decide +kernel
theorem dX2_add_22 : decode cX2_add 22 = .ok (.ifCond .eq 24, 3) := by decide +kernel
theorem dX2_add_25 : decode cX2_add 25 = .ok (.lload_n 2, 1) := by decide +kernel
theorem dX2_add_26 : decode cX2_add 26 = .ok (.invokestatic 46, 3) := by decide +kernel
theorem dX2_add_29 : decode cX2_add 29 = .ok (.ifCond .eq 15, 3) := by decide +kernel
theorem dX2_add_32 : decode cX2_add 32 = .ok (.lload_n 0, 1) := by decide +kernel
theorem dX2_add_33 : decode cX2_add 33 = .ok (.lload_n 2, 1) := by decide +kernel
theorem dX2_add_34 : decode cX2_add 34 = .ok (.lcmp, 1) := by decide +kernel
theorem dX2_add_35 : decode cX2_add 35 = .ok (.ifCond .eq 9, 3) := by decide +kernel
theorem dX2_add_38 : decode cX2_add 38 = .ok (.ldc2_w 35, 3) := by decide +kernel
theorem dX2_add_41 : decode cX2_add 41 = .ok (.goto 4, 3) := by decide +kernel
theorem dX2_add_44 : decode cX2_add 44 = .ok (.lload_n 0, 1) := by decide +kernel
theorem dX2_add_45 : decode cX2_add 45 = .ok (.lreturn, 1) := by decide +kernel
theorem dX2_add_46 : decode cX2_add 46 = .ok (.lload_n 2, 1) := by decide +kernel
theorem dX2_add_47 : decode cX2_add 47 = .ok (.invokestatic 46, 3) := by decide +kernel
theorem dX2_add_50 : decode cX2_add 50 = .ok (.ifCond .eq 5, 3) := by decide +kernel
theorem dX2_add_53 : decode cX2_add 53 = .ok (.lload_n 2, 1) := by decide +kernel
theorem dX2_add_54 : decode cX2_add 54 = .ok (.lreturn, 1) := by decide +kernel
theorem dX2_add_55 : decode cX2_add 55 = .ok (.lload_n 0, 1) := by decide +kernel
theorem dX2_add_56 : decode cX2_add 56 = .ok (.invokestatic 68, 3) := by decide +kernel
theorem dX2_add_59 : decode cX2_add 59 = .ok (.ifCond .eq 18, 3) := by decide +kernel
theorem dX2_add_62 : decode cX2_add 62 = .ok (.lload_n 2, 1) := by decide +kernel
theorem dX2_add_63 : decode cX2_add 63 = .ok (.invokestatic 68, 3) := by decide +kernel
theorem dX2_add_66 : decode cX2_add 66 = .ok (.ifCond .eq 9, 3) := by decide +kernel
theorem dX2_add_69 : decode cX2_add 69 = .ok (.lload_n 0, 1) := by decide +kernel
theorem dX2_add_70 : decode cX2_add 70 = .ok (.lload_n 2, 1) := by decide +kernel
theorem dX2_add_71 : decode cX2_add 71 = .ok (.land, 1) := by decide +kernel
theorem dX2_add_72 : decode cX2_add 72 = .ok (.goto 4, 3) := by decide +kernel
theorem dX2_add_75 : decode cX2_add 75 = .ok (.lload_n 2, 1) := by decide +kernel
theorem dX2_add_76 : decode cX2_add 76 = .ok (.lreturn, 1) := by decide +kernel
theorem dX2_add_77 : decode cX2_add 77 = .ok (.lload_n 2, 1) := by decide +kernel
theorem dX2_add_78 : decode cX2_add 78 = .ok (.invokestatic 68, 3) := by decide +kernel
theorem dX2_add_81 : decode cX2_add 81 = .ok (.ifCond .eq 5, 3) := by decide +kernel
theorem dX2_add_84 : decode cX2_add 84 = .ok (.lload_n 0, 1) := by decide +kernel
theorem dX2_add_85 : decode cX2_add 85 = .ok (.lreturn, 1) := by decide +kernel
theorem dX2_add_86 : decode cX2_add 86 = .ok (.lload_n 0, 1) := by decide +kernel
theorem dX2_add_87 : decode cX2_add 87 = .ok (.invokestatic 84, 3) := by decide +kernel
theorem dX2_add_90 : decode cX2_add 90 = .ok (.lload_n 2, 1) := by decide +kernel
theorem dX2_add_91 : decode cX2_add 91 = .ok (.invokestatic 84, 3) := by decide +kernel
theorem dX2_add_94 : decode cX2_add 94 = .ok (.lcmp, 1) := by decide +kernel
theorem dX2_add_95 : decode cX2_add 95 = .ok (.ifCond .lt 11, 3) := by decide +kernel
theorem dX2_add_98 : decode cX2_add 98 = .ok (.lload_n 0, 1) := by decide +kernel
theorem dX2_add_99 : decode cX2_add 99 = .ok (.lload_n 2, 1) := by decide +kernel
theorem dX2_add_100 : decode cX2_add 100 = .ok (.invokestatic 128, 3) := by decide +kernel
theorem dX2_add_103 : decode cX2_add 103 = .ok (.goto 8, 3) := by decide +kernel
theorem dX2_add_106 : decode cX2_add 106 = .ok (.lload_n 2, 1) := by decide +kernel
theorem dX2_add_107 : decode cX2_add 107 = .ok (.lload_n 0, 1) := by decide +kernel
theorem dX2_add_108 : decode cX2_add 108 = .ok (.invokestatic 128, 3) := by decide +kernel
theorem dX2_add_111 : decode cX2_add 111 = .ok (.lreturn, 1) := by decide +kernel
theorem dX2_addLesser_0 : decode cX2_addLesser 0 = .ok (.bipush 9, 2) := by decide +kernel
theorem dX2_addLesser_2 : decode cX2_addLesser 2 = .ok (.istore 4, 2) := by decide +kernel
theorem dX2_addLesser_4 : decode cX2_addLesser 4 = .ok (.lload_n 0, 1) := by decide +kernel
theorem dX2_addLesser_5 : decode cX2_addLesser 5 = .ok (.invokestatic 49, 3) := by decide +kernel
theorem dX2_addLesser_8 : decode cX2_addLesser 8 = .ok (.iload 4, 2) := by decide +kernel
theorem dX2_addLesser_10 : decode cX2_addLesser 10 = .ok (.lshl, 1) := by decide +kernel
theorem dX2_addLesser_11 : decode cX2_addLesser 11 = .ok (.lstore 5, 2) := by decide +kernel
theorem dX2_addLesser_13 : decode cX2_addLesser 13 = .ok (.lload_n 2, 1) := by decide +kernel
theorem dX2_addLesser_14 : decode cX2_addLesser 14 = .ok (.invokestatic 49, 3) := by decide +kernel
theorem dX2_addLesser_17 : decode cX2_addLesser 17 = .ok (.iload 4, 2) := by decide +kernel
theorem dX2_addLesser_19 : decode cX2_addLesser 19 = .ok (.lshl, 1) := by decide +kernel
theorem dX2_addLesser_20 : decode cX2_addLesser 20 = .ok (.lload_n 0, 1) := by decide +kernel
theorem dX2_addLesser_21 : decode cX2_addLesser 21 = .ok (.invokestatic 53, 3) := by decide +kernel
theorem dX2_addLesser_24 : decode cX2_addLesser 24 = .ok (.lload_n 2, 1) := by decide +kernel
theorem dX2_addLesser_25 : decode cX2_addLesser 25 = .ok (.invokestatic 53, 3) := by decide +kernel
theorem dX2_addLesser_28 : decode cX2_addLesser 28 = .ok (.isub, 1) := by decide +kernel
theorem dX2_addLesser_29 : decode cX2_addLesser 29 = .ok (.invokestatic 131, 3) := by decide +kernel
theorem dX2_addLesser_32 : decode cX2_addLesser 32 = .ok (.lstore 7, 2) := by decide +kernel
theorem dX2_addLesser_34 : decode cX2_addLesser 34 = .ok (.lload_n 0, 1) := by decide +kernel
theorem dX2_addLesser_35 : decode cX2_addLesser 35 = .ok (.invokestatic 71, 3) := by decide +kernel
theorem dX2_addLesser_38 : decode cX2_addLesser 38 = .ok (.lload_n 2, 1) := by decide +kernel
theorem dX2_addLesser_39 : decode cX2_addLesser 39 = .ok (.invokestatic 71, 3) := by decide +kernel
theorem dX2_addLesser_42 : decode cX2_addLesser 42 = .ok (.lcmp, 1) := by decide +kernel
theorem dX2_addLesser_43 : decode cX2_addLesser 43 = .ok (.ifCond .ne 11, 3) := by decide +kernel
theorem dX2_addLesser_46 : decode cX2_addLesser 46 = .ok (.lload 5, 2) := by decide +kernel
theorem dX2_addLesser_48 : decode cX2_addLesser 48 = .ok (.lload 7, 2) := by decide +kernel
theorem dX2_addLesser_50 : decode cX2_addLesser 50 = .ok (.ladd, 1) := by decide +kernel
theorem dX2_addLesser_51 : decode cX2_addLesser 51 = .ok (.goto 8, 3) := by decide +kernel
theorem dX2_addLesser_54 : decode cX2_addLesser 54 = .ok (.lload 5, 2) := by decide +kernel
theorem dX2_addLesser_56 : decode cX2_addLesser 56 = .ok (.lload 7, 2) := by decide +kernel
theorem dX2_addLesser_58 : decode cX2_addLesser 58 = .ok (.lsub, 1) := by decide +kernel
theorem dX2_addLesser_59 : decode cX2_addLesser 59 = .ok (.lstore 9, 2) := by decide +kernel
theorem dX2_addLesser_61 : decode cX2_addLesser 61 = .ok (.lload 9, 2) := by decide +kernel
theorem dX2_addLesser_63 : decode cX2_addLesser 63 = .ok (.lconst 0, 1) := by decide +kernel
theorem dX2_addLesser_64 : decode cX2_addLesser 64 = .ok (.lcmp, 1) := by decide +kernel
theorem dX2_addLesser_65 : decode cX2_addLesser 65 = .ok (.ifCond .ne 7, 3) := by decide +kernel
theorem dX2_addLesser_68 : decode cX2_addLesser 68 = .ok (.lconst 0, 1) := by decide +kernel
theorem dX2_addLesser_69 : decode cX2_addLesser 69 = .ok (.goto 25, 3) := by decide +kernel
theorem dX2_addLesser_72 : decode cX2_addLesser 72 = .ok (.lload_n 0, 1) := by decide +kernel
theorem dX2_addLesser_73 : decode cX2_addLesser 73 = .ok (.invokestatic 71, 3) := by decide +kernel
theorem dX2_addLesser_76 : decode cX2_addLesser 76 = .ok (.lload 9, 2) := by decide +kernel
theorem dX2_addLesser_78 : decode cX2_addLesser 78 = .ok (.lload_n 0, 1) := by decide +kernel
theorem dX2_addLesser_79 : decode cX2_addLesser 79 = .ok (.invokestatic 53, 3) := by decide +kernel
theorem dX2_addLesser_82 : decode cX2_addLesser 82 = .ok (.iload 4, 2) := by decide +kernel
theorem dX2_addLesser_84 : decode cX2_addLesser 84 = .ok (.isub, 1) := by decide +kernel
theorem dX2_addLesser_85 : decode cX2_addLesser 85 = .ok (.bipush 52, 2) := by decide +kernel
theorem dX2_addLesser_87 : decode cX2_addLesser 87 = .ok (.sipush 1023, 3) := by decide +kernel
theorem dX2_addLesser_90 : decode cX2_addLesser 90 = .ok (.invokestatic 40, 3) := by decide +kernel
theorem dX2_addLesser_93 : decode cX2_addLesser 93 = .ok (.lor, 1) := by decide +kernel
theorem dX2_addLesser_94 : decode cX2_addLesser 94 = .ok (.lreturn, 1) := by decide +kernel
theorem dX2_multiply_0 : decode cX2_multiply 0 = .ok (.lload_n 0, 1) := by decide +kernel
theorem dX2_multiply_1 : decode cX2_multiply 1 = .ok (.invokestatic 31, 3) := by decide +kernel
theorem dX2_multiply_4 : decode cX2_multiply 4 = .ok (.ifCond .ne 10, 3) := by decide +kernel
theorem dX2_multiply_7 : decode cX2_multiply 7 = .ok (.lload_n 2, 1) := by decide +kernel
theorem dX2_multiply_8 : decode cX2_multiply 8 = .ok (.invokestatic 31, 3) := by decide +kernel
theorem dX2_multiply_11 : decode cX2_multiply 11 = .ok (.ifCond .eq 7, 3) := by decide +kernel
theorem dX2_multiply_14 : decode cX2_multiply 14 = .ok (.ldc2_w 35, 3) := by decide +kernel
theorem dX2_multiply_17 : decode cX2_multiply 17 = .ok (.lreturn, 1) := by decide +kernel
theorem dX2_multiply_18 : decode cX2_multiply 18 = .ok (.lload_n 0, 1) := by decide +kernel
theorem dX2_multiply_19 : decode cX2_multiply 19 = .ok (.lload_n 2, 1) := by decide +kernel
theorem dX2_multiply_20 : decode cX2_multiply 20 = .ok (.lxor, 1) := by decide +kernel
theorem dX2_multiply_21 : decode cX2_multiply 21 = .ok (.invokestatic 71, 3) := by decide +kernel
theorem dX2_multiply_24 : decode cX2_multiply 24 = .ok (.lstore 4, 2) := by decide +kernel
theorem dX2_multiply_26 : decode cX2_multiply 26 = .ok (.lload_n 0, 1) := by decide +kernel
theorem dX2_multiply_27 : decode cX2_multiply 27 = .ok (.invokestatic 46, 3) := by decide +kernel
theorem dX2_multiply_30 : decode cX2_multiply 30 = .ok (.ifCond .ne 10, 3) := by decide +kernel
theorem dX2_multiply_33 : decode cX2_multiply 33 = .ok (.lload_n 2, 1) := by decide +kernel
theorem dX2_multiply_34 : decode cX2_multiply 34 = .ok (.invokestatic 46, 3) := by decide +kernel
theorem dX2_multiply_37 : decode cX2_multiply 37 = .ok (.ifCond .eq 30, 3) := by decide +kernel
theorem dX2_multiply_40 : decode cX2_multiply 40 = .ok (.lload_n 0, 1) := by decide +kernel
theorem dX2_multiply_41 : decode cX2_multiply 41 = .ok (.invokestatic 68, 3) := by decide +kernel
theorem dX2_multiply_44 : decode cX2_multiply 44 = .ok (.ifCond .ne 10, 3) := by decide +kernel
theorem dX2_multiply_47 : decode cX2_multiply 47 = .ok (.lload_n 2, 1) := by decide +kernel
theorem dX2_multiply_48 : decode cX2_multiply 48 = .ok (.invokestatic 68, 3) := by decide +kernel
theorem dX2_multiply_51 : decode cX2_multiply 51 = .ok (.ifCond .eq 9, 3) := by decide +kernel
theorem dX2_multiply_54 : decode cX2_multiply 54 = .ok (.ldc2_w 35, 3) := by decide +kernel
theorem dX2_multiply_57 : decode cX2_multiply 57 = .ok (.goto 9, 3) := by decide +kernel
theorem dX2_multiply_60 : decode cX2_multiply 60 = .ok (.lload 4, 2) := by decide +kernel
theorem dX2_multiply_62 : decode cX2_multiply 62 = .ok (.ldc2_w 11, 3) := by decide +kernel
theorem dX2_multiply_65 : decode cX2_multiply 65 = .ok (.lor, 1) := by decide +kernel
theorem dX2_multiply_66 : decode cX2_multiply 66 = .ok (.lreturn, 1) := by decide +kernel
theorem dX2_multiply_67 : decode cX2_multiply 67 = .ok (.lload_n 0, 1) := by decide +kernel
theorem dX2_multiply_68 : decode cX2_multiply 68 = .ok (.invokestatic 68, 3) := by decide +kernel
theorem dX2_multiply_71 : decode cX2_multiply 71 = .ok (.ifCond .ne 10, 3) := by decide +kernel
theorem dX2_multiply_74 : decode cX2_multiply 74 = .ok (.lload_n 2, 1) := by decide +kernel
theorem dX2_multiply_75 : decode cX2_multiply 75 = .ok (.invokestatic 68, 3) := by decide +kernel
theorem dX2_multiply_78 : decode cX2_multiply 78 = .ok (.ifCond .eq 6, 3) := by decide +kernel
theorem dX2_multiply_81 : decode cX2_multiply 81 = .ok (.lload 4, 2) := by decide +kernel
theorem dX2_multiply_83 : decode cX2_multiply 83 = .ok (.lreturn, 1) := by decide +kernel
theorem dX2_multiply_84 : decode cX2_multiply 84 = .ok (.bipush 44, 2) := by decide +kernel
theorem dX2_multiply_86 : decode cX2_multiply 86 = .ok (.istore 6, 2) := by decide +kernel
theorem dX2_multiply_88 : decode cX2_multiply 88 = .ok (.lload_n 0, 1) := by decide +kernel
theorem dX2_multiply_89 : decode cX2_multiply 89 = .ok (.invokestatic 49, 3) := by decide +kernel
theorem dX2_multiply_92 : decode cX2_multiply 92 = .ok (.lload_n 2, 1) := by decide +kernel
theorem dX2_multiply_93 : decode cX2_multiply 93 = .ok (.invokestatic 49, 3) := by decide +kernel
theorem dX2_multiply_96 : decode cX2_multiply 96 = .ok (.iload 6, 2) := by decide +kernel
theorem dX2_multiply_98 : decode cX2_multiply 98 = .ok (.invokestatic 134, 3) := by decide +kernel
theorem dX2_multiply_101 : decode cX2_multiply 101 = .ok (.lstore 7, 2) := by decide +kernel
theorem dX2_multiply_103 : decode cX2_multiply 103 = .ok (.lload 4, 2) := by decide +kernel
theorem dX2_multiply_105 : decode cX2_multiply 105 = .ok (.lload 7, 2) := by decide +kernel
theorem dX2_multiply_107 : decode cX2_multiply 107 = .ok (.lload_n 0, 1) := by decide +kernel
theorem dX2_multiply_108 : decode cX2_multiply 108 = .ok (.invokestatic 53, 3) := by decide +kernel
theorem dX2_multiply_111 : decode cX2_multiply 111 = .ok (.lload_n 2, 1) := by decide +kernel
theorem dX2_multiply_112 : decode cX2_multiply 112 = .ok (.invokestatic 53, 3) := by decide +kernel
theorem dX2_multiply_115 : decode cX2_multiply 115 = .ok (.iadd, 1) := by decide +kernel
theorem dX2_multiply_116 : decode cX2_multiply 116 = .ok (.iload 6, 2) := by decide +kernel
theorem dX2_multiply_118 : decode cX2_multiply 118 = .ok (.iadd, 1) := by decide +kernel
theorem dX2_multiply_119 : decode cX2_multiply 119 = .ok (.bipush 52, 2) := by decide +kernel
theorem dX2_multiply_121 : decode cX2_multiply 121 = .ok (.sipush 1023, 3) := by decide +kernel
theorem dX2_multiply_124 : decode cX2_multiply 124 = .ok (.invokestatic 40, 3) := by decide +kernel
theorem dX2_multiply_127 : decode cX2_multiply 127 = .ok (.lor, 1) := by decide +kernel
theorem dX2_multiply_128 : decode cX2_multiply 128 = .ok (.lreturn, 1) := by decide +kernel
theorem dX2_productAbove_0 : decode cX2_productAbove 0 = .ok (.bipush 27, 2) := by decide +kernel
theorem dX2_productAbove_2 : decode cX2_productAbove 2 = .ok (.istore 5, 2) := by decide +kernel
theorem dX2_productAbove_4 : decode cX2_productAbove 4 = .ok (.lconst 1, 1) := by decide +kernel
theorem dX2_productAbove_5 : decode cX2_productAbove 5 = .ok (.iload 5, 2) := by decide +kernel
theorem dX2_productAbove_7 : decode cX2_productAbove 7 = .ok (.lshl, 1) := by decide +kernel
theorem dX2_productAbove_8 : decode cX2_productAbove 8 = .ok (.lconst 1, 1) := by decide +kernel
theorem dX2_productAbove_9 : decode cX2_productAbove 9 = .ok (.lsub, 1) := by decide +kernel
theorem dX2_productAbove_10 : decode cX2_productAbove 10 = .ok (.lstore 6, 2) := by decide +kernel
theorem dX2_productAbove_12 : decode cX2_productAbove 12 = .ok (.lload_n 0, 1) := by decide +kernel
theorem dX2_productAbove_13 : decode cX2_productAbove 13 = .ok (.lload 6, 2) := by decide +kernel
theorem dX2_productAbove_15 : decode cX2_productAbove 15 = .ok (.land, 1) := by decide +kernel
theorem dX2_productAbove_16 : decode cX2_productAbove 16 = .ok (.lload_n 2, 1) := by decide +kernel
theorem dX2_productAbove_17 : decode cX2_productAbove 17 = .ok (.lload 6, 2) := by decide +kernel
theorem dX2_productAbove_19 : decode cX2_productAbove 19 = .ok (.land, 1) := by decide +kernel
theorem dX2_productAbove_20 : decode cX2_productAbove 20 = .ok (.lmul, 1) := by decide +kernel
theorem dX2_productAbove_21 : decode cX2_productAbove 21 = .ok (.lstore 8, 2) := by decide +kernel
theorem dX2_productAbove_23 : decode cX2_productAbove 23 = .ok (.lload_n 0, 1) := by decide +kernel
theorem dX2_productAbove_24 : decode cX2_productAbove 24 = .ok (.iload 5, 2) := by decide +kernel
theorem dX2_productAbove_26 : decode cX2_productAbove 26 = .ok (.lushr, 1) := by decide +kernel
theorem dX2_productAbove_27 : decode cX2_productAbove 27 = .ok (.lload_n 2, 1) := by decide +kernel
theorem dX2_productAbove_28 : decode cX2_productAbove 28 = .ok (.lload 6, 2) := by decide +kernel
theorem dX2_productAbove_30 : decode cX2_productAbove 30 = .ok (.land, 1) := by decide +kernel
theorem dX2_productAbove_31 : decode cX2_productAbove 31 = .ok (.lmul, 1) := by decide +kernel
theorem dX2_productAbove_32 : decode cX2_productAbove 32 = .ok (.lload_n 0, 1) := by decide +kernel
theorem dX2_productAbove_33 : decode cX2_productAbove 33 = .ok (.lload 6, 2) := by decide +kernel
theorem dX2_productAbove_35 : decode cX2_productAbove 35 = .ok (.land, 1) := by decide +kernel
theorem dX2_productAbove_36 : decode cX2_productAbove 36 = .ok (.lload_n 2, 1) := by decide +kernel
theorem dX2_productAbove_37 : decode cX2_productAbove 37 = .ok (.iload 5, 2) := by decide +kernel
theorem dX2_productAbove_39 : decode cX2_productAbove 39 = .ok (.lushr, 1) := by decide +kernel
theorem dX2_productAbove_40 : decode cX2_productAbove 40 = .ok (.lmul, 1) := by decide +kernel
theorem dX2_productAbove_41 : decode cX2_productAbove 41 = .ok (.ladd, 1) := by decide +kernel
theorem dX2_productAbove_42 : decode cX2_productAbove 42 = .ok (.lload 8, 2) := by decide +kernel
theorem dX2_productAbove_44 : decode cX2_productAbove 44 = .ok (.iload 5, 2) := by decide +kernel
theorem dX2_productAbove_46 : decode cX2_productAbove 46 = .ok (.lushr, 1) := by decide +kernel
theorem dX2_productAbove_47 : decode cX2_productAbove 47 = .ok (.ladd, 1) := by decide +kernel
theorem dX2_productAbove_48 : decode cX2_productAbove 48 = .ok (.lstore 10, 2) := by decide +kernel
theorem dX2_productAbove_50 : decode cX2_productAbove 50 = .ok (.lload_n 0, 1) := by decide +kernel
theorem dX2_productAbove_51 : decode cX2_productAbove 51 = .ok (.iload 5, 2) := by decide +kernel
theorem dX2_productAbove_53 : decode cX2_productAbove 53 = .ok (.lushr, 1) := by decide +kernel
theorem dX2_productAbove_54 : decode cX2_productAbove 54 = .ok (.lload_n 2, 1) := by decide +kernel
theorem dX2_productAbove_55 : decode cX2_productAbove 55 = .ok (.iload 5, 2) := by decide +kernel
theorem dX2_productAbove_57 : decode cX2_productAbove 57 = .ok (.lushr, 1) := by decide +kernel
theorem dX2_productAbove_58 : decode cX2_productAbove 58 = .ok (.lmul, 1) := by decide +kernel
theorem dX2_productAbove_59 : decode cX2_productAbove 59 = .ok (.lload 10, 2) := by decide +kernel
theorem dX2_productAbove_61 : decode cX2_productAbove 61 = .ok (.iload 5, 2) := by decide +kernel
theorem dX2_productAbove_63 : decode cX2_productAbove 63 = .ok (.lushr, 1) := by decide +kernel
theorem dX2_productAbove_64 : decode cX2_productAbove 64 = .ok (.ladd, 1) := by decide +kernel
theorem dX2_productAbove_65 : decode cX2_productAbove 65 = .ok (.lstore 12, 2) := by decide +kernel
theorem dX2_productAbove_67 : decode cX2_productAbove 67 = .ok (.lload 10, 2) := by decide +kernel
theorem dX2_productAbove_69 : decode cX2_productAbove 69 = .ok (.lload 6, 2) := by decide +kernel
theorem dX2_productAbove_71 : decode cX2_productAbove 71 = .ok (.land, 1) := by decide +kernel
theorem dX2_productAbove_72 : decode cX2_productAbove 72 = .ok (.iload 5, 2) := by decide +kernel
theorem dX2_productAbove_74 : decode cX2_productAbove 74 = .ok (.lshl, 1) := by decide +kernel
theorem dX2_productAbove_75 : decode cX2_productAbove 75 = .ok (.lload 8, 2) := by decide +kernel
theorem dX2_productAbove_77 : decode cX2_productAbove 77 = .ok (.lload 6, 2) := by decide +kernel
theorem dX2_productAbove_79 : decode cX2_productAbove 79 = .ok (.land, 1) := by decide +kernel
theorem dX2_productAbove_80 : decode cX2_productAbove 80 = .ok (.lor, 1) := by decide +kernel
theorem dX2_productAbove_81 : decode cX2_productAbove 81 = .ok (.lstore 14, 2) := by decide +kernel
theorem dX2_productAbove_83 : decode cX2_productAbove 83 = .ok (.lload 12, 2) := by decide +kernel
theorem dX2_productAbove_85 : decode cX2_productAbove 85 = .ok (.iconst 2, 1) := by decide +kernel
theorem dX2_productAbove_86 : decode cX2_productAbove 86 = .ok (.iload 5, 2) := by decide +kernel
theorem dX2_productAbove_88 : decode cX2_productAbove 88 = .ok (.imul, 1) := by decide +kernel
theorem dX2_productAbove_89 : decode cX2_productAbove 89 = .ok (.iload 4, 2) := by decide +kernel
theorem dX2_productAbove_91 : decode cX2_productAbove 91 = .ok (.isub, 1) := by decide +kernel
theorem dX2_productAbove_92 : decode cX2_productAbove 92 = .ok (.lshl, 1) := by decide +kernel
theorem dX2_productAbove_93 : decode cX2_productAbove 93 = .ok (.lload 14, 2) := by decide +kernel
theorem dX2_productAbove_95 : decode cX2_productAbove 95 = .ok (.iload 4, 2) := by decide +kernel
theorem dX2_productAbove_97 : decode cX2_productAbove 97 = .ok (.invokestatic 131, 3) := by decide +kernel
theorem dX2_productAbove_100 : decode cX2_productAbove 100 = .ok (.lor, 1) := by decide +kernel
theorem dX2_productAbove_101 : decode cX2_productAbove 101 = .ok (.lreturn, 1) := by decide +kernel
theorem dX2_divide_0 : decode cX2_divide 0 = .ok (.lload_n 0, 1) := by decide +kernel
theorem dX2_divide_1 : decode cX2_divide 1 = .ok (.invokestatic 31, 3) := by decide +kernel
theorem dX2_divide_4 : decode cX2_divide 4 = .ok (.ifCond .ne 10, 3) := by decide +kernel
theorem dX2_divide_7 : decode cX2_divide 7 = .ok (.lload_n 2, 1) := by decide +kernel
theorem dX2_divide_8 : decode cX2_divide 8 = .ok (.invokestatic 31, 3) := by decide +kernel
theorem dX2_divide_11 : decode cX2_divide 11 = .ok (.ifCond .eq 7, 3) := by decide +kernel
theorem dX2_divide_14 : decode cX2_divide 14 = .ok (.ldc2_w 35, 3) := by decide +kernel
theorem dX2_divide_17 : decode cX2_divide 17 = .ok (.lreturn, 1) := by decide +kernel
theorem dX2_divide_18 : decode cX2_divide 18 = .ok (.lload_n 0, 1) := by decide +kernel
theorem dX2_divide_19 : decode cX2_divide 19 = .ok (.lload_n 2, 1) := by decide +kernel
theorem dX2_divide_20 : decode cX2_divide 20 = .ok (.lxor, 1) := by decide +kernel
theorem dX2_divide_21 : decode cX2_divide 21 = .ok (.invokestatic 71, 3) := by decide +kernel
theorem dX2_divide_24 : decode cX2_divide 24 = .ok (.lstore 4, 2) := by decide +kernel
theorem dX2_divide_26 : decode cX2_divide 26 = .ok (.lload_n 0, 1) := by decide +kernel
theorem dX2_divide_27 : decode cX2_divide 27 = .ok (.invokestatic 46, 3) := by decide +kernel
theorem dX2_divide_30 : decode cX2_divide 30 = .ok (.ifCond .eq 23, 3) := by decide +kernel
theorem dX2_divide_33 : decode cX2_divide 33 = .ok (.lload_n 2, 1) := by decide +kernel
theorem dX2_divide_34 : decode cX2_divide 34 = .ok (.invokestatic 46, 3) := by decide +kernel
theorem dX2_divide_37 : decode cX2_divide 37 = .ok (.ifCond .eq 9, 3) := by decide +kernel
theorem dX2_divide_40 : decode cX2_divide 40 = .ok (.ldc2_w 35, 3) := by decide +kernel
theorem dX2_divide_43 : decode cX2_divide 43 = .ok (.goto 9, 3) := by decide +kernel
theorem dX2_divide_46 : decode cX2_divide 46 = .ok (.lload 4, 2) := by decide +kernel
theorem dX2_divide_48 : decode cX2_divide 48 = .ok (.ldc2_w 11, 3) := by decide +kernel
theorem dX2_divide_51 : decode cX2_divide 51 = .ok (.lor, 1) := by decide +kernel
theorem dX2_divide_52 : decode cX2_divide 52 = .ok (.lreturn, 1) := by decide +kernel
theorem dX2_divide_53 : decode cX2_divide 53 = .ok (.lload_n 2, 1) := by decide +kernel
theorem dX2_divide_54 : decode cX2_divide 54 = .ok (.invokestatic 68, 3) := by decide +kernel
theorem dX2_divide_57 : decode cX2_divide 57 = .ok (.ifCond .eq 23, 3) := by decide +kernel
theorem dX2_divide_60 : decode cX2_divide 60 = .ok (.lload_n 0, 1) := by decide +kernel
theorem dX2_divide_61 : decode cX2_divide 61 = .ok (.invokestatic 68, 3) := by decide +kernel
theorem dX2_divide_64 : decode cX2_divide 64 = .ok (.ifCond .eq 9, 3) := by decide +kernel
theorem dX2_divide_67 : decode cX2_divide 67 = .ok (.ldc2_w 35, 3) := by decide +kernel
theorem dX2_divide_70 : decode cX2_divide 70 = .ok (.goto 9, 3) := by decide +kernel
theorem dX2_divide_73 : decode cX2_divide 73 = .ok (.lload 4, 2) := by decide +kernel
theorem dX2_divide_75 : decode cX2_divide 75 = .ok (.ldc2_w 11, 3) := by decide +kernel
theorem dX2_divide_78 : decode cX2_divide 78 = .ok (.lor, 1) := by decide +kernel
theorem dX2_divide_79 : decode cX2_divide 79 = .ok (.lreturn, 1) := by decide +kernel
theorem dX2_divide_80 : decode cX2_divide 80 = .ok (.lload_n 0, 1) := by decide +kernel
theorem dX2_divide_81 : decode cX2_divide 81 = .ok (.invokestatic 68, 3) := by decide +kernel
theorem dX2_divide_84 : decode cX2_divide 84 = .ok (.ifCond .ne 10, 3) := by decide +kernel
theorem dX2_divide_87 : decode cX2_divide 87 = .ok (.lload_n 2, 1) := by decide +kernel
theorem dX2_divide_88 : decode cX2_divide 88 = .ok (.invokestatic 46, 3) := by decide +kernel
theorem dX2_divide_91 : decode cX2_divide 91 = .ok (.ifCond .eq 6, 3) := by decide +kernel
theorem dX2_divide_94 : decode cX2_divide 94 = .ok (.lload 4, 2) := by decide +kernel
theorem dX2_divide_96 : decode cX2_divide 96 = .ok (.lreturn, 1) := by decide +kernel
theorem dX2_divide_97 : decode cX2_divide 97 = .ok (.lload_n 0, 1) := by decide +kernel
theorem dX2_divide_98 : decode cX2_divide 98 = .ok (.invokestatic 49, 3) := by decide +kernel
theorem dX2_divide_101 : decode cX2_divide 101 = .ok (.lload_n 2, 1) := by decide +kernel
theorem dX2_divide_102 : decode cX2_divide 102 = .ok (.invokestatic 49, 3) := by decide +kernel
theorem dX2_divide_105 : decode cX2_divide 105 = .ok (.invokestatic 138, 3) := by decide +kernel
theorem dX2_divide_108 : decode cX2_divide 108 = .ok (.lstore 6, 2) := by decide +kernel
theorem dX2_divide_110 : decode cX2_divide 110 = .ok (.lload 4, 2) := by decide +kernel
theorem dX2_divide_112 : decode cX2_divide 112 = .ok (.lload 6, 2) := by decide +kernel
theorem dX2_divide_114 : decode cX2_divide 114 = .ok (.lload_n 0, 1) := by decide +kernel
theorem dX2_divide_115 : decode cX2_divide 115 = .ok (.invokestatic 53, 3) := by decide +kernel
theorem dX2_divide_118 : decode cX2_divide 118 = .ok (.lload_n 2, 1) := by decide +kernel
theorem dX2_divide_119 : decode cX2_divide 119 = .ok (.invokestatic 53, 3) := by decide +kernel
theorem dX2_divide_122 : decode cX2_divide 122 = .ok (.isub, 1) := by decide +kernel
theorem dX2_divide_123 : decode cX2_divide 123 = .ok (.bipush 60, 2) := by decide +kernel
theorem dX2_divide_125 : decode cX2_divide 125 = .ok (.isub, 1) := by decide +kernel
theorem dX2_divide_126 : decode cX2_divide 126 = .ok (.bipush 52, 2) := by decide +kernel
theorem dX2_divide_128 : decode cX2_divide 128 = .ok (.sipush 1023, 3) := by decide +kernel
theorem dX2_divide_131 : decode cX2_divide 131 = .ok (.invokestatic 40, 3) := by decide +kernel
theorem dX2_divide_134 : decode cX2_divide 134 = .ok (.lor, 1) := by decide +kernel
theorem dX2_divide_135 : decode cX2_divide 135 = .ok (.lreturn, 1) := by decide +kernel
theorem dX2_quotientOf_0 : decode cX2_quotientOf 0 = .ok (.lload_n 2, 1) := by decide +kernel
theorem dX2_quotientOf_1 : decode cX2_quotientOf 1 = .ok (.lconst 0, 1) := by decide +kernel
theorem dX2_quotientOf_2 : decode cX2_quotientOf 2 = .ok (.lcmp, 1) := by decide +kernel
theorem dX2_quotientOf_3 : decode cX2_quotientOf 3 = .ok (.ifCond .gt 5, 3) := by decide +kernel
theorem dX2_quotientOf_6 : decode cX2_quotientOf 6 = .ok (.lconst 0, 1) := by decide +kernel
theorem dX2_quotientOf_7 : decode cX2_quotientOf 7 = .ok (.lreturn, 1) := by decide +kernel
theorem dX2_quotientOf_8 : decode cX2_quotientOf 8 = .ok (.lload_n 0, 1) := by decide +kernel
theorem dX2_quotientOf_9 : decode cX2_quotientOf 9 = .ok (.lload_n 2, 1) := by decide +kernel
theorem dX2_quotientOf_10 : decode cX2_quotientOf 10 = .ok (.ldiv, 1) := by decide +kernel
theorem dX2_quotientOf_11 : decode cX2_quotientOf 11 = .ok (.lstore 4, 2) := by decide +kernel
theorem dX2_quotientOf_13 : decode cX2_quotientOf 13 = .ok (.lload_n 0, 1) := by decide +kernel
theorem dX2_quotientOf_14 : decode cX2_quotientOf 14 = .ok (.lload_n 2, 1) := by decide +kernel
theorem dX2_quotientOf_15 : decode cX2_quotientOf 15 = .ok (.lrem, 1) := by decide +kernel
theorem dX2_quotientOf_16 : decode cX2_quotientOf 16 = .ok (.lstore 6, 2) := by decide +kernel
theorem dX2_quotientOf_18 : decode cX2_quotientOf 18 = .ok (.iconst 0, 1) := by decide +kernel
theorem dX2_quotientOf_19 : decode cX2_quotientOf 19 = .ok (.istore 8, 2) := by decide +kernel
theorem dX2_quotientOf_21 : decode cX2_quotientOf 21 = .ok (.iload 8, 2) := by decide +kernel
theorem dX2_quotientOf_23 : decode cX2_quotientOf 23 = .ok (.bipush 6, 2) := by decide +kernel
theorem dX2_quotientOf_25 : decode cX2_quotientOf 25 = .ok (.if_icmp .ge 34, 3) := by decide +kernel
theorem dX2_quotientOf_28 : decode cX2_quotientOf 28 = .ok (.lload 6, 2) := by decide +kernel
theorem dX2_quotientOf_30 : decode cX2_quotientOf 30 = .ok (.bipush 10, 2) := by decide +kernel
theorem dX2_quotientOf_32 : decode cX2_quotientOf 32 = .ok (.lshl, 1) := by decide +kernel
theorem dX2_quotientOf_33 : decode cX2_quotientOf 33 = .ok (.lstore 6, 2) := by decide +kernel
theorem dX2_quotientOf_35 : decode cX2_quotientOf 35 = .ok (.lload 4, 2) := by decide +kernel
theorem dX2_quotientOf_37 : decode cX2_quotientOf 37 = .ok (.bipush 10, 2) := by decide +kernel
theorem dX2_quotientOf_39 : decode cX2_quotientOf 39 = .ok (.lshl, 1) := by decide +kernel
theorem dX2_quotientOf_40 : decode cX2_quotientOf 40 = .ok (.lload 6, 2) := by decide +kernel
theorem dX2_quotientOf_42 : decode cX2_quotientOf 42 = .ok (.lload_n 2, 1) := by decide +kernel
theorem dX2_quotientOf_43 : decode cX2_quotientOf 43 = .ok (.ldiv, 1) := by decide +kernel
theorem dX2_quotientOf_44 : decode cX2_quotientOf 44 = .ok (.ladd, 1) := by decide +kernel
theorem dX2_quotientOf_45 : decode cX2_quotientOf 45 = .ok (.lstore 4, 2) := by decide +kernel
theorem dX2_quotientOf_47 : decode cX2_quotientOf 47 = .ok (.lload 6, 2) := by decide +kernel
theorem dX2_quotientOf_49 : decode cX2_quotientOf 49 = .ok (.lload_n 2, 1) := by decide +kernel
theorem dX2_quotientOf_50 : decode cX2_quotientOf 50 = .ok (.lrem, 1) := by decide +kernel
theorem dX2_quotientOf_51 : decode cX2_quotientOf 51 = .ok (.lstore 6, 2) := by decide +kernel
theorem dX2_quotientOf_53 : decode cX2_quotientOf 53 = .ok (.iinc 8 1, 3) := by decide +kernel
theorem dX2_quotientOf_56 : decode cX2_quotientOf 56 = .ok (.goto (-35), 3) := by decide +kernel
theorem dX2_quotientOf_59 : decode cX2_quotientOf 59 = .ok (.lload 6, 2) := by decide +kernel
theorem dX2_quotientOf_61 : decode cX2_quotientOf 61 = .ok (.lconst 0, 1) := by decide +kernel
theorem dX2_quotientOf_62 : decode cX2_quotientOf 62 = .ok (.lcmp, 1) := by decide +kernel
theorem dX2_quotientOf_63 : decode cX2_quotientOf 63 = .ok (.ifCond .eq 10, 3) := by decide +kernel
theorem dX2_quotientOf_66 : decode cX2_quotientOf 66 = .ok (.lload 4, 2) := by decide +kernel
theorem dX2_quotientOf_68 : decode cX2_quotientOf 68 = .ok (.lconst 1, 1) := by decide +kernel
theorem dX2_quotientOf_69 : decode cX2_quotientOf 69 = .ok (.lor, 1) := by decide +kernel
theorem dX2_quotientOf_70 : decode cX2_quotientOf 70 = .ok (.goto 5, 3) := by decide +kernel
theorem dX2_quotientOf_73 : decode cX2_quotientOf 73 = .ok (.lload 4, 2) := by decide +kernel
theorem dX2_quotientOf_75 : decode cX2_quotientOf 75 = .ok (.lreturn, 1) := by decide +kernel
theorem dX2_remainder_0 : decode cX2_remainder 0 = .ok (.lload_n 0, 1) := by decide +kernel
theorem dX2_remainder_1 : decode cX2_remainder 1 = .ok (.invokestatic 31, 3) := by decide +kernel
theorem dX2_remainder_4 : decode cX2_remainder 4 = .ok (.ifCond .ne 24, 3) := by decide +kernel
theorem dX2_remainder_7 : decode cX2_remainder 7 = .ok (.lload_n 2, 1) := by decide +kernel
theorem dX2_remainder_8 : decode cX2_remainder 8 = .ok (.invokestatic 31, 3) := by decide +kernel
theorem dX2_remainder_11 : decode cX2_remainder 11 = .ok (.ifCond .ne 17, 3) := by decide +kernel
theorem dX2_remainder_14 : decode cX2_remainder 14 = .ok (.lload_n 0, 1) := by decide +kernel
theorem dX2_remainder_15 : decode cX2_remainder 15 = .ok (.invokestatic 46, 3) := by decide +kernel
theorem dX2_remainder_18 : decode cX2_remainder 18 = .ok (.ifCond .ne 10, 3) := by decide +kernel
theorem dX2_remainder_21 : decode cX2_remainder 21 = .ok (.lload_n 2, 1) := by decide +kernel
theorem dX2_remainder_22 : decode cX2_remainder 22 = .ok (.invokestatic 68, 3) := by decide +kernel
theorem dX2_remainder_25 : decode cX2_remainder 25 = .ok (.ifCond .eq 7, 3) := by decide +kernel
theorem dX2_remainder_28 : decode cX2_remainder 28 = .ok (.ldc2_w 35, 3) := by decide +kernel
theorem dX2_remainder_31 : decode cX2_remainder 31 = .ok (.lreturn, 1) := by decide +kernel
theorem dX2_remainder_32 : decode cX2_remainder 32 = .ok (.lload_n 0, 1) := by decide +kernel
theorem dX2_remainder_33 : decode cX2_remainder 33 = .ok (.invokestatic 84, 3) := by decide +kernel
theorem dX2_remainder_36 : decode cX2_remainder 36 = .ok (.lload_n 2, 1) := by decide +kernel
theorem dX2_remainder_37 : decode cX2_remainder 37 = .ok (.invokestatic 84, 3) := by decide +kernel
theorem dX2_remainder_40 : decode cX2_remainder 40 = .ok (.lcmp, 1) := by decide +kernel
theorem dX2_remainder_41 : decode cX2_remainder 41 = .ok (.ifCond .ge 5, 3) := by decide +kernel
theorem dX2_remainder_44 : decode cX2_remainder 44 = .ok (.lload_n 0, 1) := by decide +kernel
theorem dX2_remainder_45 : decode cX2_remainder 45 = .ok (.lreturn, 1) := by decide +kernel
theorem dX2_remainder_46 : decode cX2_remainder 46 = .ok (.lload_n 0, 1) := by decide +kernel
theorem dX2_remainder_47 : decode cX2_remainder 47 = .ok (.invokestatic 49, 3) := by decide +kernel
theorem dX2_remainder_50 : decode cX2_remainder 50 = .ok (.lload_n 2, 1) := by decide +kernel
theorem dX2_remainder_51 : decode cX2_remainder 51 = .ok (.invokestatic 49, 3) := by decide +kernel
theorem dX2_remainder_54 : decode cX2_remainder 54 = .ok (.lload_n 0, 1) := by decide +kernel
theorem dX2_remainder_55 : decode cX2_remainder 55 = .ok (.invokestatic 53, 3) := by decide +kernel
theorem dX2_remainder_58 : decode cX2_remainder 58 = .ok (.lload_n 2, 1) := by decide +kernel
theorem dX2_remainder_59 : decode cX2_remainder 59 = .ok (.invokestatic 53, 3) := by decide +kernel
theorem dX2_remainder_62 : decode cX2_remainder 62 = .ok (.isub, 1) := by decide +kernel
theorem dX2_remainder_63 : decode cX2_remainder 63 = .ok (.invokestatic 141, 3) := by decide +kernel
theorem dX2_remainder_66 : decode cX2_remainder 66 = .ok (.lstore 4, 2) := by decide +kernel
theorem dX2_remainder_68 : decode cX2_remainder 68 = .ok (.lload_n 0, 1) := by decide +kernel
theorem dX2_remainder_69 : decode cX2_remainder 69 = .ok (.invokestatic 71, 3) := by decide +kernel
theorem dX2_remainder_72 : decode cX2_remainder 72 = .ok (.lload 4, 2) := by decide +kernel
theorem dX2_remainder_74 : decode cX2_remainder 74 = .ok (.lload_n 2, 1) := by decide +kernel
theorem dX2_remainder_75 : decode cX2_remainder 75 = .ok (.invokestatic 53, 3) := by decide +kernel
theorem dX2_remainder_78 : decode cX2_remainder 78 = .ok (.bipush 52, 2) := by decide +kernel
theorem dX2_remainder_80 : decode cX2_remainder 80 = .ok (.sipush 1023, 3) := by decide +kernel
theorem dX2_remainder_83 : decode cX2_remainder 83 = .ok (.invokestatic 40, 3) := by decide +kernel
theorem dX2_remainder_86 : decode cX2_remainder 86 = .ok (.lor, 1) := by decide +kernel
theorem dX2_remainder_87 : decode cX2_remainder 87 = .ok (.lreturn, 1) := by decide +kernel
theorem dX2_restOf_0 : decode cX2_restOf 0 = .ok (.lload_n 2, 1) := by decide +kernel
theorem dX2_restOf_1 : decode cX2_restOf 1 = .ok (.lconst 0, 1) := by decide +kernel
theorem dX2_restOf_2 : decode cX2_restOf 2 = .ok (.lcmp, 1) := by decide +kernel
theorem dX2_restOf_3 : decode cX2_restOf 3 = .ok (.ifCond .gt 5, 3) := by decide +kernel
theorem dX2_restOf_6 : decode cX2_restOf 6 = .ok (.lconst 0, 1) := by decide +kernel
theorem dX2_restOf_7 : decode cX2_restOf 7 = .ok (.lreturn, 1) := by decide +kernel
theorem dX2_restOf_8 : decode cX2_restOf 8 = .ok (.lload_n 0, 1) := by decide +kernel
theorem dX2_restOf_9 : decode cX2_restOf 9 = .ok (.lload_n 2, 1) := by decide +kernel
theorem dX2_restOf_10 : decode cX2_restOf 10 = .ok (.lrem, 1) := by decide +kernel
theorem dX2_restOf_11 : decode cX2_restOf 11 = .ok (.lstore 5, 2) := by decide +kernel
theorem dX2_restOf_13 : decode cX2_restOf 13 = .ok (.iload 4, 2) := by decide +kernel
theorem dX2_restOf_15 : decode cX2_restOf 15 = .ok (.istore 7, 2) := by decide +kernel
theorem dX2_restOf_17 : decode cX2_restOf 17 = .ok (.iload 7, 2) := by decide +kernel
theorem dX2_restOf_19 : decode cX2_restOf 19 = .ok (.ifCond .le 23, 3) := by decide +kernel
theorem dX2_restOf_22 : decode cX2_restOf 22 = .ok (.lload 5, 2) := by decide +kernel
theorem dX2_restOf_24 : decode cX2_restOf 24 = .ok (.iload 7, 2) := by decide +kernel
theorem dX2_restOf_26 : decode cX2_restOf 26 = .ok (.bipush 10, 2) := by decide +kernel
theorem dX2_restOf_28 : decode cX2_restOf 28 = .ok (.invokestatic 144, 3) := by decide +kernel
theorem dX2_restOf_31 : decode cX2_restOf 31 = .ok (.lshl, 1) := by decide +kernel
theorem dX2_restOf_32 : decode cX2_restOf 32 = .ok (.lload_n 2, 1) := by decide +kernel
theorem dX2_restOf_33 : decode cX2_restOf 33 = .ok (.lrem, 1) := by decide +kernel
theorem dX2_restOf_34 : decode cX2_restOf 34 = .ok (.lstore 5, 2) := by decide +kernel
theorem dX2_restOf_36 : decode cX2_restOf 36 = .ok (.iinc 7 (-10), 3) := by decide +kernel
theorem dX2_restOf_39 : decode cX2_restOf 39 = .ok (.goto (-22), 3) := by decide +kernel
theorem dX2_restOf_42 : decode cX2_restOf 42 = .ok (.lload 5, 2) := by decide +kernel
theorem dX2_restOf_44 : decode cX2_restOf 44 = .ok (.lreturn, 1) := by decide +kernel
theorem dJ6_numberOfLeadingZeros_0f7a4_0 : decode cJ6_numberOfLeadingZeros_0f7a4 0 = .ok (.iload_n 0, 1) := by decide +kernel
theorem dJ6_numberOfLeadingZeros_0f7a4_1 : decode cJ6_numberOfLeadingZeros_0f7a4 1 = .ok (.ifCond .gt 14, 3) := by decide +kernel
theorem dJ6_numberOfLeadingZeros_0f7a4_4 : decode cJ6_numberOfLeadingZeros_0f7a4 4 = .ok (.iload_n 0, 1) := by decide +kernel
theorem dJ6_numberOfLeadingZeros_0f7a4_5 : decode cJ6_numberOfLeadingZeros_0f7a4 5 = .ok (.ifCond .ne 8, 3) := by decide +kernel
theorem dJ6_numberOfLeadingZeros_0f7a4_8 : decode cJ6_numberOfLeadingZeros_0f7a4 8 = .ok (.bipush 32, 2) := by decide +kernel
theorem dJ6_numberOfLeadingZeros_0f7a4_10 : decode cJ6_numberOfLeadingZeros_0f7a4 10 = .ok (.goto 4, 3) := by decide +kernel
theorem dJ6_numberOfLeadingZeros_0f7a4_13 : decode cJ6_numberOfLeadingZeros_0f7a4 13 = .ok (.iconst 0, 1) := by decide +kernel
theorem dJ6_numberOfLeadingZeros_0f7a4_14 : decode cJ6_numberOfLeadingZeros_0f7a4 14 = .ok (.ireturn, 1) := by decide +kernel
theorem dJ6_numberOfLeadingZeros_0f7a4_15 : decode cJ6_numberOfLeadingZeros_0f7a4 15 = .ok (.bipush 31, 2) := by decide +kernel
theorem dJ6_numberOfLeadingZeros_0f7a4_17 : decode cJ6_numberOfLeadingZeros_0f7a4 17 = .ok (.istore_n 1, 1) := by decide +kernel
theorem dJ6_numberOfLeadingZeros_0f7a4_18 : decode cJ6_numberOfLeadingZeros_0f7a4 18 = .ok (.iload_n 0, 1) := by decide +kernel
theorem dJ6_numberOfLeadingZeros_0f7a4_19 : decode cJ6_numberOfLeadingZeros_0f7a4 19 = .ok (.ldc_w 264, 3) := by decide +kernel
theorem dJ6_numberOfLeadingZeros_0f7a4_22 : decode cJ6_numberOfLeadingZeros_0f7a4 22 = .ok (.if_icmp .lt 11, 3) := by decide +kernel
theorem dJ6_numberOfLeadingZeros_0f7a4_25 : decode cJ6_numberOfLeadingZeros_0f7a4 25 = .ok (.iinc 1 (-16), 3) := by decide +kernel
theorem dJ6_numberOfLeadingZeros_0f7a4_28 : decode cJ6_numberOfLeadingZeros_0f7a4 28 = .ok (.iload_n 0, 1) := by decide +kernel
theorem dJ6_numberOfLeadingZeros_0f7a4_29 : decode cJ6_numberOfLeadingZeros_0f7a4 29 = .ok (.bipush 16, 2) := by decide +kernel
theorem dJ6_numberOfLeadingZeros_0f7a4_31 : decode cJ6_numberOfLeadingZeros_0f7a4 31 = .ok (.iushr, 1) := by decide +kernel
theorem dJ6_numberOfLeadingZeros_0f7a4_32 : decode cJ6_numberOfLeadingZeros_0f7a4 32 = .ok (.istore_n 0, 1) := by decide +kernel
theorem dJ6_numberOfLeadingZeros_0f7a4_33 : decode cJ6_numberOfLeadingZeros_0f7a4 33 = .ok (.iload_n 0, 1) := by decide +kernel
theorem dJ6_numberOfLeadingZeros_0f7a4_34 : decode cJ6_numberOfLeadingZeros_0f7a4 34 = .ok (.sipush 256, 3) := by decide +kernel
theorem dJ6_numberOfLeadingZeros_0f7a4_37 : decode cJ6_numberOfLeadingZeros_0f7a4 37 = .ok (.if_icmp .lt 11, 3) := by decide +kernel
theorem dJ6_numberOfLeadingZeros_0f7a4_40 : decode cJ6_numberOfLeadingZeros_0f7a4 40 = .ok (.iinc 1 (-8), 3) := by decide +kernel
theorem dJ6_numberOfLeadingZeros_0f7a4_43 : decode cJ6_numberOfLeadingZeros_0f7a4 43 = .ok (.iload_n 0, 1) := by decide +kernel
theorem dJ6_numberOfLeadingZeros_0f7a4_44 : decode cJ6_numberOfLeadingZeros_0f7a4 44 = .ok (.bipush 8, 2) := by decide +kernel
theorem dJ6_numberOfLeadingZeros_0f7a4_46 : decode cJ6_numberOfLeadingZeros_0f7a4 46 = .ok (.iushr, 1) := by decide +kernel
theorem dJ6_numberOfLeadingZeros_0f7a4_47 : decode cJ6_numberOfLeadingZeros_0f7a4 47 = .ok (.istore_n 0, 1) := by decide +kernel
theorem dJ6_numberOfLeadingZeros_0f7a4_48 : decode cJ6_numberOfLeadingZeros_0f7a4 48 = .ok (.iload_n 0, 1) := by decide +kernel
theorem dJ6_numberOfLeadingZeros_0f7a4_49 : decode cJ6_numberOfLeadingZeros_0f7a4 49 = .ok (.bipush 16, 2) := by decide +kernel
theorem dJ6_numberOfLeadingZeros_0f7a4_51 : decode cJ6_numberOfLeadingZeros_0f7a4 51 = .ok (.if_icmp .lt 10, 3) := by decide +kernel
theorem dJ6_numberOfLeadingZeros_0f7a4_54 : decode cJ6_numberOfLeadingZeros_0f7a4 54 = .ok (.iinc 1 (-4), 3) := by decide +kernel
theorem dJ6_numberOfLeadingZeros_0f7a4_57 : decode cJ6_numberOfLeadingZeros_0f7a4 57 = .ok (.iload_n 0, 1) := by decide +kernel
theorem dJ6_numberOfLeadingZeros_0f7a4_58 : decode cJ6_numberOfLeadingZeros_0f7a4 58 = .ok (.iconst 4, 1) := by decide +kernel
theorem dJ6_numberOfLeadingZeros_0f7a4_59 : decode cJ6_numberOfLeadingZeros_0f7a4 59 = .ok (.iushr, 1) := by decide +kernel
theorem dJ6_numberOfLeadingZeros_0f7a4_60 : decode cJ6_numberOfLeadingZeros_0f7a4 60 = .ok (.istore_n 0, 1) := by decide +kernel
theorem dJ6_numberOfLeadingZeros_0f7a4_61 : decode cJ6_numberOfLeadingZeros_0f7a4 61 = .ok (.iload_n 0, 1) := by decide +kernel
theorem dJ6_numberOfLeadingZeros_0f7a4_62 : decode cJ6_numberOfLeadingZeros_0f7a4 62 = .ok (.iconst 4, 1) := by decide +kernel
theorem dJ6_numberOfLeadingZeros_0f7a4_63 : decode cJ6_numberOfLeadingZeros_0f7a4 63 = .ok (.if_icmp .lt 10, 3) := by decide +kernel
theorem dJ6_numberOfLeadingZeros_0f7a4_66 : decode cJ6_numberOfLeadingZeros_0f7a4 66 = .ok (.iinc 1 (-2), 3) := by decide +kernel
theorem dJ6_numberOfLeadingZeros_0f7a4_69 : decode cJ6_numberOfLeadingZeros_0f7a4 69 = .ok (.iload_n 0, 1) := by decide +kernel
theorem dJ6_numberOfLeadingZeros_0f7a4_70 : decode cJ6_numberOfLeadingZeros_0f7a4 70 = .ok (.iconst 2, 1) := by decide +kernel
theorem dJ6_numberOfLeadingZeros_0f7a4_71 : decode cJ6_numberOfLeadingZeros_0f7a4 71 = .ok (.iushr, 1) := by decide +kernel
theorem dJ6_numberOfLeadingZeros_0f7a4_72 : decode cJ6_numberOfLeadingZeros_0f7a4 72 = .ok (.istore_n 0, 1) := by decide +kernel
theorem dJ6_numberOfLeadingZeros_0f7a4_73 : decode cJ6_numberOfLeadingZeros_0f7a4 73 = .ok (.iload_n 1, 1) := by decide +kernel
theorem dJ6_numberOfLeadingZeros_0f7a4_74 : decode cJ6_numberOfLeadingZeros_0f7a4 74 = .ok (.iload_n 0, 1) := by decide +kernel
theorem dJ6_numberOfLeadingZeros_0f7a4_75 : decode cJ6_numberOfLeadingZeros_0f7a4 75 = .ok (.iconst 1, 1) := by decide +kernel
theorem dJ6_numberOfLeadingZeros_0f7a4_76 : decode cJ6_numberOfLeadingZeros_0f7a4 76 = .ok (.iushr, 1) := by decide +kernel
theorem dJ6_numberOfLeadingZeros_0f7a4_77 : decode cJ6_numberOfLeadingZeros_0f7a4 77 = .ok (.isub, 1) := by decide +kernel
theorem dJ6_numberOfLeadingZeros_0f7a4_78 : decode cJ6_numberOfLeadingZeros_0f7a4 78 = .ok (.ireturn, 1) := by decide +kernel
theorem dJ13_numberOfLeadingZeros_95d88_0 : decode cJ13_numberOfLeadingZeros_95d88 0 = .ok (.lload_n 0, 1) := by decide +kernel
theorem dJ13_numberOfLeadingZeros_95d88_1 : decode cJ13_numberOfLeadingZeros_95d88 1 = .ok (.bipush 32, 2) := by decide +kernel
theorem dJ13_numberOfLeadingZeros_95d88_3 : decode cJ13_numberOfLeadingZeros_95d88 3 = .ok (.lushr, 1) := by decide +kernel
theorem dJ13_numberOfLeadingZeros_95d88_4 : decode cJ13_numberOfLeadingZeros_95d88 4 = .ok (.l2i, 1) := by decide +kernel
theorem dJ13_numberOfLeadingZeros_95d88_5 : decode cJ13_numberOfLeadingZeros_95d88 5 = .ok (.istore_n 2, 1) := by decide +kernel
theorem dJ13_numberOfLeadingZeros_95d88_6 : decode cJ13_numberOfLeadingZeros_95d88 6 = .ok (.iload_n 2, 1) := by decide +kernel
theorem dJ13_numberOfLeadingZeros_95d88_7 : decode cJ13_numberOfLeadingZeros_95d88 7 = .ok (.ifCond .ne 14, 3) := by decide +kernel
theorem dJ13_numberOfLeadingZeros_95d88_10 : decode cJ13_numberOfLeadingZeros_95d88 10 = .ok (.bipush 32, 2) := by decide +kernel
theorem dJ13_numberOfLeadingZeros_95d88_12 : decode cJ13_numberOfLeadingZeros_95d88 12 = .ok (.lload_n 0, 1) := by decide +kernel
theorem dJ13_numberOfLeadingZeros_95d88_13 : decode cJ13_numberOfLeadingZeros_95d88 13 = .ok (.l2i, 1) := by decide +kernel
theorem dJ13_numberOfLeadingZeros_95d88_14 : decode cJ13_numberOfLeadingZeros_95d88 14 = .ok (.invokestatic 308, 3) := by decide +kernel
theorem dJ13_numberOfLeadingZeros_95d88_17 : decode cJ13_numberOfLeadingZeros_95d88 17 = .ok (.iadd, 1) := by decide +kernel
theorem dJ13_numberOfLeadingZeros_95d88_18 : decode cJ13_numberOfLeadingZeros_95d88 18 = .ok (.goto 7, 3) := by decide +kernel
theorem dJ13_numberOfLeadingZeros_95d88_21 : decode cJ13_numberOfLeadingZeros_95d88 21 = .ok (.iload_n 2, 1) := by decide +kernel
theorem dJ13_numberOfLeadingZeros_95d88_22 : decode cJ13_numberOfLeadingZeros_95d88 22 = .ok (.invokestatic 308, 3) := by decide +kernel
theorem dJ13_numberOfLeadingZeros_95d88_25 : decode cJ13_numberOfLeadingZeros_95d88 25 = .ok (.ireturn, 1) := by decide +kernel
theorem dJ9_max_7cf53_0 : decode cJ9_max_7cf53 0 = .ok (.iload_n 0, 1) := by decide +kernel
theorem dJ9_max_7cf53_1 : decode cJ9_max_7cf53 1 = .ok (.iload_n 1, 1) := by decide +kernel
theorem dJ9_max_7cf53_2 : decode cJ9_max_7cf53 2 = .ok (.if_icmp .lt 7, 3) := by decide +kernel
theorem dJ9_max_7cf53_5 : decode cJ9_max_7cf53 5 = .ok (.iload_n 0, 1) := by decide +kernel
theorem dJ9_max_7cf53_6 : decode cJ9_max_7cf53 6 = .ok (.goto 4, 3) := by decide +kernel
theorem dJ9_max_7cf53_9 : decode cJ9_max_7cf53 9 = .ok (.iload_n 1, 1) := by decide +kernel
theorem dJ9_max_7cf53_10 : decode cJ9_max_7cf53 10 = .ok (.ireturn, 1) := by decide +kernel
theorem dJ9_max_f86c9_0 : decode cJ9_max_f86c9 0 = .ok (.lload_n 0, 1) := by decide +kernel
theorem dJ9_max_f86c9_1 : decode cJ9_max_f86c9 1 = .ok (.lload_n 2, 1) := by decide +kernel
theorem dJ9_max_f86c9_2 : decode cJ9_max_f86c9 2 = .ok (.lcmp, 1) := by decide +kernel
theorem dJ9_max_f86c9_3 : decode cJ9_max_f86c9 3 = .ok (.ifCond .lt 7, 3) := by decide +kernel
theorem dJ9_max_f86c9_6 : decode cJ9_max_f86c9 6 = .ok (.lload_n 0, 1) := by decide +kernel
theorem dJ9_max_f86c9_7 : decode cJ9_max_f86c9 7 = .ok (.goto 4, 3) := by decide +kernel
theorem dJ9_max_f86c9_10 : decode cJ9_max_f86c9 10 = .ok (.lload_n 2, 1) := by decide +kernel
theorem dJ9_max_f86c9_11 : decode cJ9_max_f86c9 11 = .ok (.lreturn, 1) := by decide +kernel
theorem dJ9_min_7cf53_0 : decode cJ9_min_7cf53 0 = .ok (.iload_n 0, 1) := by decide +kernel
theorem dJ9_min_7cf53_1 : decode cJ9_min_7cf53 1 = .ok (.iload_n 1, 1) := by decide +kernel
theorem dJ9_min_7cf53_2 : decode cJ9_min_7cf53 2 = .ok (.if_icmp .gt 7, 3) := by decide +kernel
theorem dJ9_min_7cf53_5 : decode cJ9_min_7cf53 5 = .ok (.iload_n 0, 1) := by decide +kernel
theorem dJ9_min_7cf53_6 : decode cJ9_min_7cf53 6 = .ok (.goto 4, 3) := by decide +kernel
theorem dJ9_min_7cf53_9 : decode cJ9_min_7cf53 9 = .ok (.iload_n 1, 1) := by decide +kernel
theorem dJ9_min_7cf53_10 : decode cJ9_min_7cf53 10 = .ok (.ireturn, 1) := by decide +kernel
theorem dJ9_min_f86c9_0 : decode cJ9_min_f86c9 0 = .ok (.lload_n 0, 1) := by decide +kernel
theorem dJ9_min_f86c9_1 : decode cJ9_min_f86c9 1 = .ok (.lload_n 2, 1) := by decide +kernel
theorem dJ9_min_f86c9_2 : decode cJ9_min_f86c9 2 = .ok (.lcmp, 1) := by decide +kernel
theorem dJ9_min_f86c9_3 : decode cJ9_min_f86c9 3 = .ok (.ifCond .gt 7, 3) := by decide +kernel
theorem dJ9_min_f86c9_6 : decode cJ9_min_f86c9 6 = .ok (.lload_n 0, 1) := by decide +kernel
theorem dJ9_min_f86c9_7 : decode cJ9_min_f86c9 7 = .ok (.goto 4, 3) := by decide +kernel
theorem dJ9_min_f86c9_10 : decode cJ9_min_f86c9 10 = .ok (.lload_n 2, 1) := by decide +kernel
theorem dJ9_min_f86c9_11 : decode cJ9_min_f86c9 11 = .ok (.lreturn, 1) := by decide +kernel
