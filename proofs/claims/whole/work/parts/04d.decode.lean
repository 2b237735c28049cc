/-! decode rows: X0 X1 X3 X4 X5 X6 X7 X8 X9 X10 J7 J0 J10 L -/
theorem dX0_init_0 : decode cX0_init 0 = .ok (.aload_n 0, 1) := by decide +kernel
theorem dX0_init_1 : decode cX0_init 1 = .ok (.invokespecial 3, 3) := by decide +kernel
theorem dX0_init_4 : decode cX0_init 4 = .ok (.aload_n 0, 1) := by decide +kernel
theorem dX0_init_5 : decode cX0_init 5 = .ok (.lconst 0, 1) := by decide +kernel
theorem dX0_init_6 : decode cX0_init 6 = .ok (.putfield 9, 3) := by decide +kernel
theorem dX0_init_9 : decode cX0_init 9 = .ok (.aload_n 0, 1) := by decide +kernel
theorem dX0_init_10 : decode cX0_init 10 = .ok (.lconst 0, 1) := by decide +kernel
theorem dX0_init_11 : decode cX0_init 11 = .ok (.putfield 15, 3) := by decide +kernel
theorem dX0_init_14 : decode cX0_init 14 = .ok (.aload_n 0, 1) := by decide +kernel
theorem dX0_init_15 : decode cX0_init 15 = .ok (.lconst 0, 1) := by decide +kernel
theorem dX0_init_16 : decode cX0_init 16 = .ok (.putfield 18, 3) := by decide +kernel
theorem dX0_init_19 : decode cX0_init 19 = .ok (.return_, 1) := by decide +kernel
theorem dX0_kind_0 : decode cX0_kind 0 = .ok (.bipush 13, 2) := by decide +kernel
theorem dX0_kind_2 : decode cX0_kind 2 = .ok (.ireturn, 1) := by decide +kernel
theorem dX0_at_0 : decode cX0_at 0 = .ok (.aload_n 0, 1) := by decide +kernel
theorem dX0_at_1 : decode cX0_at 1 = .ok (.getfield 9, 3) := by decide +kernel
theorem dX0_at_4 : decode cX0_at 4 = .ok (.lreturn, 1) := by decide +kernel
theorem dX0_span_0 : decode cX0_span 0 = .ok (.bipush 100, 2) := by decide +kernel
theorem dX0_span_2 : decode cX0_span 2 = .ok (.ireturn, 1) := by decide +kernel
theorem dX0_rank_0 : decode cX0_rank 0 = .ok (.iconst 3, 1) := by decide +kernel
theorem dX0_rank_1 : decode cX0_rank 1 = .ok (.ireturn, 1) := by decide +kernel
theorem dX0_speed_0 : decode cX0_speed 0 = .ok (.bipush 10, 2) := by decide +kernel
theorem dX0_speed_2 : decode cX0_speed 2 = .ok (.ireturn, 1) := by decide +kernel
theorem dX0_travelled_0 : decode cX0_travelled 0 = .ok (.aload_n 0, 1) := by decide +kernel
theorem dX0_travelled_1 : decode cX0_travelled 1 = .ok (.getfield 15, 3) := by decide +kernel
theorem dX0_travelled_4 : decode cX0_travelled 4 = .ok (.lreturn, 1) := by decide +kernel
theorem dX0_moves_0 : decode cX0_moves 0 = .ok (.aload_n 0, 1) := by decide +kernel
theorem dX0_moves_1 : decode cX0_moves 1 = .ok (.getfield 18, 3) := by decide +kernel
theorem dX0_moves_4 : decode cX0_moves 4 = .ok (.lreturn, 1) := by decide +kernel
theorem dX0_goTo_0 : decode cX0_goTo 0 = .ok (.aload_n 0, 1) := by decide +kernel
theorem dX0_goTo_1 : decode cX0_goTo 1 = .ok (.aload_n 0, 1) := by decide +kernel
theorem dX0_goTo_2 : decode cX0_goTo 2 = .ok (.lload_n 1, 1) := by decide +kernel
theorem dX0_goTo_3 : decode cX0_goTo 3 = .ok (.invokevirtual 21, 3) := by decide +kernel
theorem dX0_goTo_6 : decode cX0_goTo 6 = .ok (.invokevirtual 25, 3) := by decide +kernel
theorem dX0_goTo_9 : decode cX0_goTo 9 = .ok (.lstore_n 3, 1) := by decide +kernel
theorem dX0_goTo_10 : decode cX0_goTo 10 = .ok (.lload_n 3, 1) := by decide +kernel
theorem dX0_goTo_11 : decode cX0_goTo 11 = .ok (.invokestatic 28, 3) := by decide +kernel
theorem dX0_goTo_14 : decode cX0_goTo 14 = .ok (.ifCond .eq 7, 3) := by decide +kernel
theorem dX0_goTo_17 : decode cX0_goTo 17 = .ok (.ldc2_w 34, 3) := by decide +kernel
theorem dX0_goTo_20 : decode cX0_goTo 20 = .ok (.lreturn, 1) := by decide +kernel
theorem dX0_goTo_21 : decode cX0_goTo 21 = .ok (.aload_n 0, 1) := by decide +kernel
theorem dX0_goTo_22 : decode cX0_goTo 22 = .ok (.invokevirtual 36, 3) := by decide +kernel
theorem dX0_goTo_25 : decode cX0_goTo 25 = .ok (.i2l, 1) := by decide +kernel
theorem dX0_goTo_26 : decode cX0_goTo 26 = .ok (.invokestatic 40, 3) := by decide +kernel
theorem dX0_goTo_29 : decode cX0_goTo 29 = .ok (.lload_n 3, 1) := by decide +kernel
theorem dX0_goTo_30 : decode cX0_goTo 30 = .ok (.invokestatic 43, 3) := by decide +kernel
theorem dX0_goTo_33 : decode cX0_goTo 33 = .ok (.invokestatic 46, 3) := by decide +kernel
theorem dX0_goTo_36 : decode cX0_goTo 36 = .ok (.ifCond .eq 7, 3) := by decide +kernel
theorem dX0_goTo_39 : decode cX0_goTo 39 = .ok (.ldc2_w 50, 3) := by decide +kernel
theorem dX0_goTo_42 : decode cX0_goTo 42 = .ok (.lreturn, 1) := by decide +kernel
theorem dX0_goTo_43 : decode cX0_goTo 43 = .ok (.lload_n 3, 1) := by decide +kernel
theorem dX0_goTo_44 : decode cX0_goTo 44 = .ok (.aload_n 0, 1) := by decide +kernel
theorem dX0_goTo_45 : decode cX0_goTo 45 = .ok (.getfield 9, 3) := by decide +kernel
theorem dX0_goTo_48 : decode cX0_goTo 48 = .ok (.invokestatic 52, 3) := by decide +kernel
theorem dX0_goTo_51 : decode cX0_goTo 51 = .ok (.invokestatic 43, 3) := by decide +kernel
theorem dX0_goTo_54 : decode cX0_goTo 54 = .ok (.lstore 5, 2) := by decide +kernel
theorem dX0_goTo_56 : decode cX0_goTo 56 = .ok (.aload_n 0, 1) := by decide +kernel
theorem dX0_goTo_57 : decode cX0_goTo 57 = .ok (.lload_n 3, 1) := by decide +kernel
theorem dX0_goTo_58 : decode cX0_goTo 58 = .ok (.putfield 9, 3) := by decide +kernel
theorem dX0_goTo_61 : decode cX0_goTo 61 = .ok (.aload_n 0, 1) := by decide +kernel
theorem dX0_goTo_62 : decode cX0_goTo 62 = .ok (.aload_n 0, 1) := by decide +kernel
theorem dX0_goTo_63 : decode cX0_goTo 63 = .ok (.getfield 15, 3) := by decide +kernel
theorem dX0_goTo_66 : decode cX0_goTo 66 = .ok (.lload 5, 2) := by decide +kernel
theorem dX0_goTo_68 : decode cX0_goTo 68 = .ok (.invokestatic 56, 3) := by decide +kernel
theorem dX0_goTo_71 : decode cX0_goTo 71 = .ok (.putfield 15, 3) := by decide +kernel
theorem dX0_goTo_74 : decode cX0_goTo 74 = .ok (.aload_n 0, 1) := by decide +kernel
theorem dX0_goTo_75 : decode cX0_goTo 75 = .ok (.dup, 1) := by decide +kernel
theorem dX0_goTo_76 : decode cX0_goTo 76 = .ok (.getfield 18, 3) := by decide +kernel
theorem dX0_goTo_79 : decode cX0_goTo 79 = .ok (.lconst 1, 1) := by decide +kernel
theorem dX0_goTo_80 : decode cX0_goTo 80 = .ok (.ladd, 1) := by decide +kernel
theorem dX0_goTo_81 : decode cX0_goTo 81 = .ok (.putfield 18, 3) := by decide +kernel
theorem dX0_goTo_84 : decode cX0_goTo 84 = .ok (.aload_n 0, 1) := by decide +kernel
theorem dX0_goTo_85 : decode cX0_goTo 85 = .ok (.lload 5, 2) := by decide +kernel
theorem dX0_goTo_87 : decode cX0_goTo 87 = .ok (.invokevirtual 59, 3) := by decide +kernel
theorem dX0_goTo_90 : decode cX0_goTo 90 = .ok (.lreturn, 1) := by decide +kernel
theorem dX0_withinTurn_0 : decode cX0_withinTurn 0 = .ok (.lload_n 1, 1) := by decide +kernel
theorem dX0_withinTurn_1 : decode cX0_withinTurn 1 = .ok (.lreturn, 1) := by decide +kernel
theorem dX0_onGrid_0 : decode cX0_onGrid 0 = .ok (.lload_n 1, 1) := by decide +kernel
theorem dX0_onGrid_1 : decode cX0_onGrid 1 = .ok (.lreturn, 1) := by decide +kernel
theorem dX0_ticksFor_0 : decode cX0_ticksFor 0 = .ok (.ldc2_w 62, 3) := by decide +kernel
theorem dX0_ticksFor_3 : decode cX0_ticksFor 3 = .ok (.invokestatic 40, 3) := by decide +kernel
theorem dX0_ticksFor_6 : decode cX0_ticksFor 6 = .ok (.lstore_n 3, 1) := by decide +kernel
theorem dX0_ticksFor_7 : decode cX0_ticksFor 7 = .ok (.aload_n 0, 1) := by decide +kernel
theorem dX0_ticksFor_8 : decode cX0_ticksFor 8 = .ok (.invokevirtual 64, 3) := by decide +kernel
theorem dX0_ticksFor_11 : decode cX0_ticksFor 11 = .ok (.i2l, 1) := by decide +kernel
theorem dX0_ticksFor_12 : decode cX0_ticksFor 12 = .ok (.invokestatic 40, 3) := by decide +kernel
theorem dX0_ticksFor_15 : decode cX0_ticksFor 15 = .ok (.lstore 5, 2) := by decide +kernel
theorem dX0_ticksFor_17 : decode cX0_ticksFor 17 = .ok (.lload_n 1, 1) := by decide +kernel
theorem dX0_ticksFor_18 : decode cX0_ticksFor 18 = .ok (.lload 5, 2) := by decide +kernel
theorem dX0_ticksFor_20 : decode cX0_ticksFor 20 = .ok (.lload_n 3, 1) := by decide +kernel
theorem dX0_ticksFor_21 : decode cX0_ticksFor 21 = .ok (.invokestatic 67, 3) := by decide +kernel
theorem dX0_ticksFor_24 : decode cX0_ticksFor 24 = .ok (.invokestatic 46, 3) := by decide +kernel
theorem dX0_ticksFor_27 : decode cX0_ticksFor 27 = .ok (.ifCond .eq 29, 3) := by decide +kernel
theorem dX0_ticksFor_30 : decode cX0_ticksFor 30 = .ok (.lload_n 1, 1) := by decide +kernel
theorem dX0_ticksFor_31 : decode cX0_ticksFor 31 = .ok (.lload_n 3, 1) := by decide +kernel
theorem dX0_ticksFor_32 : decode cX0_ticksFor 32 = .ok (.lload 5, 2) := by decide +kernel
theorem dX0_ticksFor_34 : decode cX0_ticksFor 34 = .ok (.invokestatic 70, 3) := by decide +kernel
theorem dX0_ticksFor_37 : decode cX0_ticksFor 37 = .ok (.invokestatic 67, 3) := by decide +kernel
theorem dX0_ticksFor_40 : decode cX0_ticksFor 40 = .ok (.lstore 9, 2) := by decide +kernel
theorem dX0_ticksFor_42 : decode cX0_ticksFor 42 = .ok (.lload_n 3, 1) := by decide +kernel
theorem dX0_ticksFor_43 : decode cX0_ticksFor 43 = .ok (.lload 9, 2) := by decide +kernel
theorem dX0_ticksFor_45 : decode cX0_ticksFor 45 = .ok (.invokestatic 73, 3) := by decide +kernel
theorem dX0_ticksFor_48 : decode cX0_ticksFor 48 = .ok (.invokestatic 70, 3) := by decide +kernel
theorem dX0_ticksFor_51 : decode cX0_ticksFor 51 = .ok (.lstore 7, 2) := by decide +kernel
theorem dX0_ticksFor_53 : decode cX0_ticksFor 53 = .ok (.goto 17, 3) := by decide +kernel
theorem dX0_ticksFor_56 : decode cX0_ticksFor 56 = .ok (.lload_n 1, 1) := by decide +kernel
theorem dX0_ticksFor_57 : decode cX0_ticksFor 57 = .ok (.lload 5, 2) := by decide +kernel
theorem dX0_ticksFor_59 : decode cX0_ticksFor 59 = .ok (.invokestatic 67, 3) := by decide +kernel
theorem dX0_ticksFor_62 : decode cX0_ticksFor 62 = .ok (.ldc2_w 76, 3) := by decide +kernel
theorem dX0_ticksFor_65 : decode cX0_ticksFor 65 = .ok (.invokestatic 56, 3) := by decide +kernel
theorem dX0_ticksFor_68 : decode cX0_ticksFor 68 = .ok (.lstore 7, 2) := by decide +kernel
theorem dX0_ticksFor_70 : decode cX0_ticksFor 70 = .ok (.ldc2_w 78, 3) := by decide +kernel
theorem dX0_ticksFor_73 : decode cX0_ticksFor 73 = .ok (.invokestatic 40, 3) := by decide +kernel
theorem dX0_ticksFor_76 : decode cX0_ticksFor 76 = .ok (.lload 7, 2) := by decide +kernel
theorem dX0_ticksFor_78 : decode cX0_ticksFor 78 = .ok (.invokestatic 70, 3) := by decide +kernel
theorem dX0_ticksFor_81 : decode cX0_ticksFor 81 = .ok (.invokestatic 80, 3) := by decide +kernel
theorem dX0_ticksFor_84 : decode cX0_ticksFor 84 = .ok (.invokestatic 83, 3) := by decide +kernel
theorem dX0_ticksFor_87 : decode cX0_ticksFor 87 = .ok (.lreturn, 1) := by decide +kernel
theorem dX0_comeToRest_0 : decode cX0_comeToRest 0 = .ok (.aload_n 0, 1) := by decide +kernel
theorem dX0_comeToRest_1 : decode cX0_comeToRest 1 = .ok (.invokevirtual 86, 3) := by decide +kernel
theorem dX0_comeToRest_4 : decode cX0_comeToRest 4 = .ok (.return_, 1) := by decide +kernel
theorem dX0_goHome_0 : decode cX0_goHome 0 = .ok (.aload_n 0, 1) := by decide +kernel
theorem dX0_goHome_1 : decode cX0_goHome 1 = .ok (.lconst 0, 1) := by decide +kernel
theorem dX0_goHome_2 : decode cX0_goHome 2 = .ok (.putfield 9, 3) := by decide +kernel
theorem dX0_goHome_5 : decode cX0_goHome 5 = .ok (.return_, 1) := by decide +kernel
theorem dX0_countMove_0 : decode cX0_countMove 0 = .ok (.aload_n 0, 1) := by decide +kernel
theorem dX0_countMove_1 : decode cX0_countMove 1 = .ok (.dup, 1) := by decide +kernel
theorem dX0_countMove_2 : decode cX0_countMove 2 = .ok (.getfield 18, 3) := by decide +kernel
theorem dX0_countMove_5 : decode cX0_countMove 5 = .ok (.lconst 1, 1) := by decide +kernel
theorem dX0_countMove_6 : decode cX0_countMove 6 = .ok (.ladd, 1) := by decide +kernel
theorem dX0_countMove_7 : decode cX0_countMove 7 = .ok (.putfield 18, 3) := by decide +kernel
theorem dX0_countMove_10 : decode cX0_countMove 10 = .ok (.return_, 1) := by decide +kernel
theorem dX0_forgetTravel_0 : decode cX0_forgetTravel 0 = .ok (.aload_n 0, 1) := by decide +kernel
theorem dX0_forgetTravel_1 : decode cX0_forgetTravel 1 = .ok (.lconst 0, 1) := by decide +kernel
theorem dX0_forgetTravel_2 : decode cX0_forgetTravel 2 = .ok (.putfield 15, 3) := by decide +kernel
theorem dX0_forgetTravel_5 : decode cX0_forgetTravel 5 = .ok (.return_, 1) := by decide +kernel
theorem dX1_init_0 : decode cX1_init 0 = .ok (.aload_n 0, 1) := by decide +kernel
theorem dX1_init_1 : decode cX1_init 1 = .ok (.invokespecial 1, 3) := by decide +kernel
theorem dX1_init_4 : decode cX1_init 4 = .ok (.return_, 1) := by decide +kernel
theorem dX3_init_0 : decode cX3_init 0 = .ok (.aload_n 0, 1) := by decide +kernel
theorem dX3_init_1 : decode cX3_init 1 = .ok (.invokespecial 3, 3) := by decide +kernel
theorem dX3_init_4 : decode cX3_init 4 = .ok (.aload_n 0, 1) := by decide +kernel
theorem dX3_init_5 : decode cX3_init 5 = .ok (.lconst 0, 1) := by decide +kernel
theorem dX3_init_6 : decode cX3_init 6 = .ok (.putfield 9, 3) := by decide +kernel
theorem dX3_init_9 : decode cX3_init 9 = .ok (.return_, 1) := by decide +kernel
theorem dX3_kind_0 : decode cX3_kind 0 = .ok (.bipush 12, 2) := by decide +kernel
theorem dX3_kind_2 : decode cX3_kind 2 = .ok (.ireturn, 1) := by decide +kernel
theorem dX4_init_0 : decode cX4_init 0 = .ok (.aload_n 0, 1) := by decide +kernel
theorem dX4_init_1 : decode cX4_init 1 = .ok (.invokespecial 3, 3) := by decide +kernel
theorem dX4_init_4 : decode cX4_init 4 = .ok (.aload_n 0, 1) := by decide +kernel
theorem dX4_init_5 : decode cX4_init 5 = .ok (.lconst 0, 1) := by decide +kernel
theorem dX4_init_6 : decode cX4_init 6 = .ok (.putfield 9, 3) := by decide +kernel
theorem dX4_init_9 : decode cX4_init 9 = .ok (.aload_n 0, 1) := by decide +kernel
theorem dX4_init_10 : decode cX4_init 10 = .ok (.lconst 0, 1) := by decide +kernel
theorem dX4_init_11 : decode cX4_init 11 = .ok (.putfield 15, 3) := by decide +kernel
theorem dX4_init_14 : decode cX4_init 14 = .ok (.aload_n 0, 1) := by decide +kernel
theorem dX4_init_15 : decode cX4_init 15 = .ok (.lconst 0, 1) := by decide +kernel
theorem dX4_init_16 : decode cX4_init 16 = .ok (.putfield 18, 3) := by decide +kernel
theorem dX4_init_19 : decode cX4_init 19 = .ok (.aload_n 0, 1) := by decide +kernel
theorem dX4_init_20 : decode cX4_init 20 = .ok (.iconst 0, 1) := by decide +kernel
theorem dX4_init_21 : decode cX4_init 21 = .ok (.putfield 21, 3) := by decide +kernel
theorem dX4_init_24 : decode cX4_init 24 = .ok (.aload_n 0, 1) := by decide +kernel
theorem dX4_init_25 : decode cX4_init 25 = .ok (.aconst_null, 1) := by decide +kernel
theorem dX4_init_26 : decode cX4_init 26 = .ok (.putfield 25, 3) := by decide +kernel
theorem dX4_init_29 : decode cX4_init 29 = .ok (.return_, 1) := by decide +kernel
theorem dX4_kind_0 : decode cX4_kind 0 = .ok (.bipush 11, 2) := by decide +kernel
theorem dX4_kind_2 : decode cX4_kind 2 = .ok (.ireturn, 1) := by decide +kernel
theorem dX4_chainLength_0 : decode cX4_chainLength 0 = .ok (.iconst 0, 1) := by decide +kernel
theorem dX4_chainLength_1 : decode cX4_chainLength 1 = .ok (.istore_n 1, 1) := by decide +kernel
theorem dX4_chainLength_2 : decode cX4_chainLength 2 = .ok (.aload_n 0, 1) := by decide +kernel
theorem dX4_chainLength_3 : decode cX4_chainLength 3 = .ok (.astore_n 2, 1) := by decide +kernel
theorem dX4_chainLength_4 : decode cX4_chainLength 4 = .ok (.aload_n 2, 1) := by decide +kernel
theorem dX4_chainLength_5 : decode cX4_chainLength 5 = .ok (.ifnull 20, 3) := by decide +kernel
theorem dX4_chainLength_8 : decode cX4_chainLength 8 = .ok (.iload_n 1, 1) := by decide +kernel
theorem dX4_chainLength_9 : decode cX4_chainLength 9 = .ok (.bipush 100, 2) := by decide +kernel
theorem dX4_chainLength_11 : decode cX4_chainLength 11 = .ok (.if_icmp .ge 14, 3) := by decide +kernel
theorem dX4_chainLength_14 : decode cX4_chainLength 14 = .ok (.iinc 1 1, 3) := by decide +kernel
theorem dX4_chainLength_17 : decode cX4_chainLength 17 = .ok (.aload_n 2, 1) := by decide +kernel
theorem dX4_chainLength_18 : decode cX4_chainLength 18 = .ok (.getfield 25, 3) := by decide +kernel
theorem dX4_chainLength_21 : decode cX4_chainLength 21 = .ok (.astore_n 2, 1) := by decide +kernel
theorem dX4_chainLength_22 : decode cX4_chainLength 22 = .ok (.goto (-18), 3) := by decide +kernel
theorem dX4_chainLength_25 : decode cX4_chainLength 25 = .ok (.iload_n 1, 1) := by decide +kernel
theorem dX4_chainLength_26 : decode cX4_chainLength 26 = .ok (.ireturn, 1) := by decide +kernel
theorem dX4_apartFrom_0 : decode cX4_apartFrom 0 = .ok (.aload_n 0, 1) := by decide +kernel
theorem dX4_apartFrom_1 : decode cX4_apartFrom 1 = .ok (.getfield 9, 3) := by decide +kernel
theorem dX4_apartFrom_4 : decode cX4_apartFrom 4 = .ok (.aload_n 1, 1) := by decide +kernel
theorem dX4_apartFrom_5 : decode cX4_apartFrom 5 = .ok (.getfield 9, 3) := by decide +kernel
theorem dX4_apartFrom_8 : decode cX4_apartFrom 8 = .ok (.invokestatic 29, 3) := by decide +kernel
theorem dX4_apartFrom_11 : decode cX4_apartFrom 11 = .ok (.lstore_n 2, 1) := by decide +kernel
theorem dX4_apartFrom_12 : decode cX4_apartFrom 12 = .ok (.aload_n 0, 1) := by decide +kernel
theorem dX4_apartFrom_13 : decode cX4_apartFrom 13 = .ok (.getfield 15, 3) := by decide +kernel
theorem dX4_apartFrom_16 : decode cX4_apartFrom 16 = .ok (.aload_n 1, 1) := by decide +kernel
theorem dX4_apartFrom_17 : decode cX4_apartFrom 17 = .ok (.getfield 15, 3) := by decide +kernel
theorem dX4_apartFrom_20 : decode cX4_apartFrom 20 = .ok (.invokestatic 29, 3) := by decide +kernel
theorem dX4_apartFrom_23 : decode cX4_apartFrom 23 = .ok (.lstore 4, 2) := by decide +kernel
theorem dX4_apartFrom_25 : decode cX4_apartFrom 25 = .ok (.lload_n 2, 1) := by decide +kernel
theorem dX4_apartFrom_26 : decode cX4_apartFrom 26 = .ok (.lload_n 2, 1) := by decide +kernel
theorem dX4_apartFrom_27 : decode cX4_apartFrom 27 = .ok (.invokestatic 35, 3) := by decide +kernel
theorem dX4_apartFrom_30 : decode cX4_apartFrom 30 = .ok (.lload 4, 2) := by decide +kernel
theorem dX4_apartFrom_32 : decode cX4_apartFrom 32 = .ok (.lload 4, 2) := by decide +kernel
theorem dX4_apartFrom_34 : decode cX4_apartFrom 34 = .ok (.invokestatic 35, 3) := by decide +kernel
theorem dX4_apartFrom_37 : decode cX4_apartFrom 37 = .ok (.invokestatic 38, 3) := by decide +kernel
theorem dX4_apartFrom_40 : decode cX4_apartFrom 40 = .ok (.invokestatic 41, 3) := by decide +kernel
theorem dX4_apartFrom_43 : decode cX4_apartFrom 43 = .ok (.lreturn, 1) := by decide +kernel
theorem dX5_init_0 : decode cX5_init 0 = .ok (.aload_n 0, 1) := by decide +kernel
theorem dX5_init_1 : decode cX5_init 1 = .ok (.invokespecial 3, 3) := by decide +kernel
theorem dX5_init_4 : decode cX5_init 4 = .ok (.aload_n 0, 1) := by decide +kernel
theorem dX5_init_5 : decode cX5_init 5 = .ok (.iconst 5, 1) := by decide +kernel
theorem dX5_init_6 : decode cX5_init 6 = .ok (.newarray .int, 2) := by decide +kernel
theorem dX5_init_8 : decode cX5_init 8 = .ok (.putfield 11, 3) := by decide +kernel
theorem dX5_init_11 : decode cX5_init 11 = .ok (.aload_n 0, 1) := by decide +kernel
theorem dX5_init_12 : decode cX5_init 12 = .ok (.lconst 0, 1) := by decide +kernel
theorem dX5_init_13 : decode cX5_init 13 = .ok (.putfield 15, 3) := by decide +kernel
theorem dX5_init_16 : decode cX5_init 16 = .ok (.return_, 1) := by decide +kernel
theorem dX5_kind_0 : decode cX5_kind 0 = .ok (.bipush 16, 2) := by decide +kernel
theorem dX5_kind_2 : decode cX5_kind 2 = .ok (.ireturn, 1) := by decide +kernel
theorem dX5_span_0 : decode cX5_span 0 = .ok (.iconst 1, 1) := by decide +kernel
theorem dX5_span_1 : decode cX5_span 1 = .ok (.ireturn, 1) := by decide +kernel
theorem dX5_rank_0 : decode cX5_rank 0 = .ok (.iconst 1, 1) := by decide +kernel
theorem dX5_rank_1 : decode cX5_rank 1 = .ok (.ireturn, 1) := by decide +kernel
theorem dX5_speed_0 : decode cX5_speed 0 = .ok (.iconst 0, 1) := by decide +kernel
theorem dX5_speed_1 : decode cX5_speed 1 = .ok (.ireturn, 1) := by decide +kernel
theorem dX5_moves_0 : decode cX5_moves 0 = .ok (.aload_n 0, 1) := by decide +kernel
theorem dX5_moves_1 : decode cX5_moves 1 = .ok (.getfield 15, 3) := by decide +kernel
theorem dX5_moves_4 : decode cX5_moves 4 = .ok (.lreturn, 1) := by decide +kernel
theorem dX5_goTo_0 : decode cX5_goTo 0 = .ok (.lload_n 1, 1) := by decide +kernel
theorem dX5_goTo_1 : decode cX5_goTo 1 = .ok (.invokestatic 19, 3) := by decide +kernel
theorem dX5_goTo_4 : decode cX5_goTo 4 = .ok (.ifCond .eq 9, 3) := by decide +kernel
theorem dX5_goTo_7 : decode cX5_goTo 7 = .ok (.ldc2_w 25, 3) := by decide +kernel
theorem dX5_goTo_10 : decode cX5_goTo 10 = .ok (.goto 6, 3) := by decide +kernel
theorem dX5_goTo_13 : decode cX5_goTo 13 = .ok (.ldc2_w 27, 3) := by decide +kernel
theorem dX5_goTo_16 : decode cX5_goTo 16 = .ok (.lreturn, 1) := by decide +kernel
theorem dX5_keep_0 : decode cX5_keep 0 = .ok (.aload_n 0, 1) := by decide +kernel
theorem dX5_keep_1 : decode cX5_keep 1 = .ok (.getfield 15, 3) := by decide +kernel
theorem dX5_keep_4 : decode cX5_keep 4 = .ok (.ldc2_w 29, 3) := by decide +kernel
theorem dX5_keep_7 : decode cX5_keep 7 = .ok (.lcmp, 1) := by decide +kernel
theorem dX5_keep_8 : decode cX5_keep 8 = .ok (.ifCond .lt 17, 3) := by decide +kernel
theorem dX5_keep_11 : decode cX5_keep 11 = .ok (.aload_n 0, 1) := by decide +kernel
theorem dX5_keep_12 : decode cX5_keep 12 = .ok (.getfield 11, 3) := by decide +kernel
theorem dX5_keep_15 : decode cX5_keep 15 = .ok (.iconst 1, 1) := by decide +kernel
theorem dX5_keep_16 : decode cX5_keep 16 = .ok (.aload_n 0, 1) := by decide +kernel
theorem dX5_keep_17 : decode cX5_keep 17 = .ok (.getfield 11, 3) := by decide +kernel
theorem dX5_keep_20 : decode cX5_keep 20 = .ok (.iconst 0, 1) := by decide +kernel
theorem dX5_keep_21 : decode cX5_keep 21 = .ok (.iconst 4, 1) := by decide +kernel
theorem dX5_keep_22 : decode cX5_keep 22 = .ok (.invokestatic 31, 3) := by decide +kernel
theorem dX5_keep_25 : decode cX5_keep 25 = .ok (.aload_n 0, 1) := by decide +kernel
theorem dX5_keep_26 : decode cX5_keep 26 = .ok (.getfield 11, 3) := by decide +kernel
theorem dX5_keep_29 : decode cX5_keep 29 = .ok (.aload_n 0, 1) := by decide +kernel
theorem dX5_keep_30 : decode cX5_keep 30 = .ok (.invokevirtual 37, 3) := by decide +kernel
theorem dX5_keep_33 : decode cX5_keep 33 = .ok (.iconst 5, 1) := by decide +kernel
theorem dX5_keep_34 : decode cX5_keep 34 = .ok (.if_icmp .ge 10, 3) := by decide +kernel
theorem dX5_keep_37 : decode cX5_keep 37 = .ok (.aload_n 0, 1) := by decide +kernel
theorem dX5_keep_38 : decode cX5_keep 38 = .ok (.invokevirtual 37, 3) := by decide +kernel
theorem dX5_keep_41 : decode cX5_keep 41 = .ok (.goto 4, 3) := by decide +kernel
theorem dX5_keep_44 : decode cX5_keep 44 = .ok (.iconst 4, 1) := by decide +kernel
theorem dX5_keep_45 : decode cX5_keep 45 = .ok (.lload_n 1, 1) := by decide +kernel
theorem dX5_keep_46 : decode cX5_keep 46 = .ok (.invokestatic 41, 3) := by decide +kernel
theorem dX5_keep_49 : decode cX5_keep 49 = .ok (.iastore, 1) := by decide +kernel
theorem dX5_keep_50 : decode cX5_keep 50 = .ok (.aload_n 0, 1) := by decide +kernel
theorem dX5_keep_51 : decode cX5_keep 51 = .ok (.dup, 1) := by decide +kernel
theorem dX5_keep_52 : decode cX5_keep 52 = .ok (.getfield 15, 3) := by decide +kernel
theorem dX5_keep_55 : decode cX5_keep 55 = .ok (.lconst 1, 1) := by decide +kernel
theorem dX5_keep_56 : decode cX5_keep 56 = .ok (.ladd, 1) := by decide +kernel
theorem dX5_keep_57 : decode cX5_keep 57 = .ok (.putfield 15, 3) := by decide +kernel
theorem dX5_keep_60 : decode cX5_keep 60 = .ok (.return_, 1) := by decide +kernel
theorem dX5_keptCount_0 : decode cX5_keptCount 0 = .ok (.aload_n 0, 1) := by decide +kernel
theorem dX5_keptCount_1 : decode cX5_keptCount 1 = .ok (.getfield 15, 3) := by decide +kernel
theorem dX5_keptCount_4 : decode cX5_keptCount 4 = .ok (.ldc2_w 29, 3) := by decide +kernel
theorem dX5_keptCount_7 : decode cX5_keptCount 7 = .ok (.lcmp, 1) := by decide +kernel
theorem dX5_keptCount_8 : decode cX5_keptCount 8 = .ok (.ifCond .ge 11, 3) := by decide +kernel
theorem dX5_keptCount_11 : decode cX5_keptCount 11 = .ok (.aload_n 0, 1) := by decide +kernel
theorem dX5_keptCount_12 : decode cX5_keptCount 12 = .ok (.getfield 15, 3) := by decide +kernel
theorem dX5_keptCount_15 : decode cX5_keptCount 15 = .ok (.l2i, 1) := by decide +kernel
theorem dX5_keptCount_16 : decode cX5_keptCount 16 = .ok (.goto 4, 3) := by decide +kernel
theorem dX5_keptCount_19 : decode cX5_keptCount 19 = .ok (.iconst 5, 1) := by decide +kernel
theorem dX5_keptCount_20 : decode cX5_keptCount 20 = .ok (.ireturn, 1) := by decide +kernel
theorem dX5_at_0 : decode cX5_at 0 = .ok (.lconst 0, 1) := by decide +kernel
theorem dX5_at_1 : decode cX5_at 1 = .ok (.lstore_n 1, 1) := by decide +kernel
theorem dX5_at_2 : decode cX5_at 2 = .ok (.iconst 0, 1) := by decide +kernel
theorem dX5_at_3 : decode cX5_at 3 = .ok (.istore_n 3, 1) := by decide +kernel
theorem dX5_at_4 : decode cX5_at 4 = .ok (.iconst 0, 1) := by decide +kernel
theorem dX5_at_5 : decode cX5_at 5 = .ok (.istore 4, 2) := by decide +kernel
theorem dX5_at_7 : decode cX5_at 7 = .ok (.iload 4, 2) := by decide +kernel
theorem dX5_at_9 : decode cX5_at 9 = .ok (.aload_n 0, 1) := by decide +kernel
theorem dX5_at_10 : decode cX5_at 10 = .ok (.invokevirtual 37, 3) := by decide +kernel
theorem dX5_at_13 : decode cX5_at 13 = .ok (.if_icmp .ge 39, 3) := by decide +kernel
theorem dX5_at_16 : decode cX5_at 16 = .ok (.aload_n 0, 1) := by decide +kernel
theorem dX5_at_17 : decode cX5_at 17 = .ok (.getfield 11, 3) := by decide +kernel
theorem dX5_at_20 : decode cX5_at 20 = .ok (.iload 4, 2) := by decide +kernel
theorem dX5_at_22 : decode cX5_at 22 = .ok (.iaload, 1) := by decide +kernel
theorem dX5_at_23 : decode cX5_at 23 = .ok (.invokestatic 45, 3) := by decide +kernel
theorem dX5_at_26 : decode cX5_at 26 = .ok (.lstore 5, 2) := by decide +kernel
theorem dX5_at_28 : decode cX5_at 28 = .ok (.lload 5, 2) := by decide +kernel
theorem dX5_at_30 : decode cX5_at 30 = .ok (.invokestatic 19, 3) := by decide +kernel
theorem dX5_at_33 : decode cX5_at 33 = .ok (.ifCond .ne 13, 3) := by decide +kernel
theorem dX5_at_36 : decode cX5_at 36 = .ok (.lload_n 1, 1) := by decide +kernel
theorem dX5_at_37 : decode cX5_at 37 = .ok (.lload 5, 2) := by decide +kernel
theorem dX5_at_39 : decode cX5_at 39 = .ok (.invokestatic 49, 3) := by decide +kernel
theorem dX5_at_42 : decode cX5_at 42 = .ok (.lstore_n 1, 1) := by decide +kernel
theorem dX5_at_43 : decode cX5_at 43 = .ok (.iinc 3 1, 3) := by decide +kernel
theorem dX5_at_46 : decode cX5_at 46 = .ok (.iinc 4 1, 3) := by decide +kernel
theorem dX5_at_49 : decode cX5_at 49 = .ok (.goto (-42), 3) := by decide +kernel
theorem dX5_at_52 : decode cX5_at 52 = .ok (.iload_n 3, 1) := by decide +kernel
theorem dX5_at_53 : decode cX5_at 53 = .ok (.ifCond .ne 9, 3) := by decide +kernel
theorem dX5_at_56 : decode cX5_at 56 = .ok (.ldc2_w 53, 3) := by decide +kernel
theorem dX5_at_59 : decode cX5_at 59 = .ok (.goto 12, 3) := by decide +kernel
theorem dX5_at_62 : decode cX5_at 62 = .ok (.lload_n 1, 1) := by decide +kernel
theorem dX5_at_63 : decode cX5_at 63 = .ok (.iload_n 3, 1) := by decide +kernel
theorem dX5_at_64 : decode cX5_at 64 = .ok (.i2l, 1) := by decide +kernel
theorem dX5_at_65 : decode cX5_at 65 = .ok (.invokestatic 55, 3) := by decide +kernel
theorem dX5_at_68 : decode cX5_at 68 = .ok (.invokestatic 59, 3) := by decide +kernel
theorem dX5_at_71 : decode cX5_at 71 = .ok (.lreturn, 1) := by decide +kernel
theorem dX5_travelled_0 : decode cX5_travelled 0 = .ok (.ldc2_w 53, 3) := by decide +kernel
theorem dX5_travelled_3 : decode cX5_travelled 3 = .ok (.lstore_n 1, 1) := by decide +kernel
theorem dX5_travelled_4 : decode cX5_travelled 4 = .ok (.ldc2_w 53, 3) := by decide +kernel
theorem dX5_travelled_7 : decode cX5_travelled 7 = .ok (.lstore_n 3, 1) := by decide +kernel
theorem dX5_travelled_8 : decode cX5_travelled 8 = .ok (.iconst 0, 1) := by decide +kernel
theorem dX5_travelled_9 : decode cX5_travelled 9 = .ok (.istore 5, 2) := by decide +kernel
theorem dX5_travelled_11 : decode cX5_travelled 11 = .ok (.iload 5, 2) := by decide +kernel
theorem dX5_travelled_13 : decode cX5_travelled 13 = .ok (.aload_n 0, 1) := by decide +kernel
theorem dX5_travelled_14 : decode cX5_travelled 14 = .ok (.invokevirtual 37, 3) := by decide +kernel
theorem dX5_travelled_17 : decode cX5_travelled 17 = .ok (.if_icmp .ge 67, 3) := by decide +kernel
theorem dX5_travelled_20 : decode cX5_travelled 20 = .ok (.aload_n 0, 1) := by decide +kernel
theorem dX5_travelled_21 : decode cX5_travelled 21 = .ok (.getfield 11, 3) := by decide +kernel
theorem dX5_travelled_24 : decode cX5_travelled 24 = .ok (.iload 5, 2) := by decide +kernel
theorem dX5_travelled_26 : decode cX5_travelled 26 = .ok (.iaload, 1) := by decide +kernel
theorem dX5_travelled_27 : decode cX5_travelled 27 = .ok (.invokestatic 45, 3) := by decide +kernel
theorem dX5_travelled_30 : decode cX5_travelled 30 = .ok (.lstore 6, 2) := by decide +kernel
theorem dX5_travelled_32 : decode cX5_travelled 32 = .ok (.lload 6, 2) := by decide +kernel
theorem dX5_travelled_34 : decode cX5_travelled 34 = .ok (.invokestatic 19, 3) := by decide +kernel
theorem dX5_travelled_37 : decode cX5_travelled 37 = .ok (.ifCond .ne 41, 3) := by decide +kernel
theorem dX5_travelled_40 : decode cX5_travelled 40 = .ok (.lload_n 1, 1) := by decide +kernel
theorem dX5_travelled_41 : decode cX5_travelled 41 = .ok (.invokestatic 19, 3) := by decide +kernel
theorem dX5_travelled_44 : decode cX5_travelled 44 = .ok (.ifCond .eq 8, 3) := by decide +kernel
theorem dX5_travelled_47 : decode cX5_travelled 47 = .ok (.lload 6, 2) := by decide +kernel
theorem dX5_travelled_49 : decode cX5_travelled 49 = .ok (.goto 9, 3) := by decide +kernel
theorem dX5_travelled_52 : decode cX5_travelled 52 = .ok (.lload_n 1, 1) := by decide +kernel
theorem dX5_travelled_53 : decode cX5_travelled 53 = .ok (.lload 6, 2) := by decide +kernel
theorem dX5_travelled_55 : decode cX5_travelled 55 = .ok (.invokestatic 62, 3) := by decide +kernel
theorem dX5_travelled_58 : decode cX5_travelled 58 = .ok (.lstore_n 1, 1) := by decide +kernel
theorem dX5_travelled_59 : decode cX5_travelled 59 = .ok (.lload_n 3, 1) := by decide +kernel
theorem dX5_travelled_60 : decode cX5_travelled 60 = .ok (.invokestatic 19, 3) := by decide +kernel
theorem dX5_travelled_63 : decode cX5_travelled 63 = .ok (.ifCond .eq 8, 3) := by decide +kernel
theorem dX5_travelled_66 : decode cX5_travelled 66 = .ok (.lload 6, 2) := by decide +kernel
theorem dX5_travelled_68 : decode cX5_travelled 68 = .ok (.goto 9, 3) := by decide +kernel
theorem dX5_travelled_71 : decode cX5_travelled 71 = .ok (.lload_n 3, 1) := by decide +kernel
theorem dX5_travelled_72 : decode cX5_travelled 72 = .ok (.lload 6, 2) := by decide +kernel
theorem dX5_travelled_74 : decode cX5_travelled 74 = .ok (.invokestatic 65, 3) := by decide +kernel
theorem dX5_travelled_77 : decode cX5_travelled 77 = .ok (.lstore_n 3, 1) := by decide +kernel
theorem dX5_travelled_78 : decode cX5_travelled 78 = .ok (.iinc 5 1, 3) := by decide +kernel
theorem dX5_travelled_81 : decode cX5_travelled 81 = .ok (.goto (-70), 3) := by decide +kernel
theorem dX5_travelled_84 : decode cX5_travelled 84 = .ok (.lload_n 1, 1) := by decide +kernel
theorem dX5_travelled_85 : decode cX5_travelled 85 = .ok (.invokestatic 19, 3) := by decide +kernel
theorem dX5_travelled_88 : decode cX5_travelled 88 = .ok (.ifCond .eq 7, 3) := by decide +kernel
theorem dX5_travelled_91 : decode cX5_travelled 91 = .ok (.lconst 0, 1) := by decide +kernel
theorem dX5_travelled_92 : decode cX5_travelled 92 = .ok (.goto 11, 3) := by decide +kernel
theorem dX5_travelled_95 : decode cX5_travelled 95 = .ok (.lload_n 1, 1) := by decide +kernel
theorem dX5_travelled_96 : decode cX5_travelled 96 = .ok (.lload_n 3, 1) := by decide +kernel
theorem dX5_travelled_97 : decode cX5_travelled 97 = .ok (.invokestatic 68, 3) := by decide +kernel
theorem dX5_travelled_100 : decode cX5_travelled 100 = .ok (.invokestatic 49, 3) := by decide +kernel
theorem dX5_travelled_103 : decode cX5_travelled 103 = .ok (.lreturn, 1) := by decide +kernel
theorem dX6_init_0 : decode cX6_init 0 = .ok (.aload_n 0, 1) := by decide +kernel
theorem dX6_init_1 : decode cX6_init 1 = .ok (.invokespecial 3, 3) := by decide +kernel
theorem dX6_init_4 : decode cX6_init 4 = .ok (.return_, 1) := by decide +kernel
theorem dX6_kind_0 : decode cX6_kind 0 = .ok (.bipush 14, 2) := by decide +kernel
theorem dX6_kind_2 : decode cX6_kind 2 = .ok (.ireturn, 1) := by decide +kernel
theorem dX6_span_0 : decode cX6_span 0 = .ok (.bipush 10, 2) := by decide +kernel
theorem dX6_span_2 : decode cX6_span 2 = .ok (.aload_n 0, 1) := by decide +kernel
theorem dX6_span_3 : decode cX6_span 3 = .ok (.invokespecial 9, 3) := by decide +kernel
theorem dX6_span_6 : decode cX6_span 6 = .ok (.imul, 1) := by decide +kernel
theorem dX6_span_7 : decode cX6_span 7 = .ok (.ireturn, 1) := by decide +kernel
theorem dX6_rank_0 : decode cX6_rank 0 = .ok (.aload_n 0, 1) := by decide +kernel
theorem dX6_rank_1 : decode cX6_rank 1 = .ok (.invokespecial 13, 3) := by decide +kernel
theorem dX6_rank_4 : decode cX6_rank 4 = .ok (.iconst 1, 1) := by decide +kernel
theorem dX6_rank_5 : decode cX6_rank 5 = .ok (.iadd, 1) := by decide +kernel
theorem dX6_rank_6 : decode cX6_rank 6 = .ok (.ireturn, 1) := by decide +kernel
theorem dX6_speed_0 : decode cX6_speed 0 = .ok (.bipush 40, 2) := by decide +kernel
theorem dX6_speed_2 : decode cX6_speed 2 = .ok (.ireturn, 1) := by decide +kernel
theorem dX6_onGrid_0 : decode cX6_onGrid 0 = .ok (.ldc2_w 16, 3) := by decide +kernel
theorem dX6_onGrid_3 : decode cX6_onGrid 3 = .ok (.invokestatic 18, 3) := by decide +kernel
theorem dX6_onGrid_6 : decode cX6_onGrid 6 = .ok (.lstore_n 3, 1) := by decide +kernel
theorem dX6_onGrid_7 : decode cX6_onGrid 7 = .ok (.lload_n 3, 1) := by decide +kernel
theorem dX6_onGrid_8 : decode cX6_onGrid 8 = .ok (.lload_n 1, 1) := by decide +kernel
theorem dX6_onGrid_9 : decode cX6_onGrid 9 = .ok (.invokestatic 24, 3) := by decide +kernel
theorem dX6_onGrid_12 : decode cX6_onGrid 12 = .ok (.invokestatic 28, 3) := by decide +kernel
theorem dX6_onGrid_15 : decode cX6_onGrid 15 = .ok (.lload_n 3, 1) := by decide +kernel
theorem dX6_onGrid_16 : decode cX6_onGrid 16 = .ok (.invokestatic 31, 3) := by decide +kernel
theorem dX6_onGrid_19 : decode cX6_onGrid 19 = .ok (.lreturn, 1) := by decide +kernel
theorem dX6_comeToRest_0 : decode cX6_comeToRest 0 = .ok (.aload_n 0, 1) := by decide +kernel
theorem dX6_comeToRest_1 : decode cX6_comeToRest 1 = .ok (.invokespecial 34, 3) := by decide +kernel
theorem dX6_comeToRest_4 : decode cX6_comeToRest 4 = .ok (.aload_n 0, 1) := by decide +kernel
theorem dX6_comeToRest_5 : decode cX6_comeToRest 5 = .ok (.invokevirtual 37, 3) := by decide +kernel
theorem dX6_comeToRest_8 : decode cX6_comeToRest 8 = .ok (.return_, 1) := by decide +kernel
theorem dX7_init_0 : decode cX7_init 0 = .ok (.aload_n 0, 1) := by decide +kernel
theorem dX7_init_1 : decode cX7_init 1 = .ok (.invokespecial 3, 3) := by decide +kernel
theorem dX7_init_4 : decode cX7_init 4 = .ok (.aload_n 0, 1) := by decide +kernel
theorem dX7_init_5 : decode cX7_init 5 = .ok (.bipush 16, 2) := by decide +kernel
theorem dX7_init_7 : decode cX7_init 7 = .ok (.newarray .long, 2) := by decide +kernel
theorem dX7_init_9 : decode cX7_init 9 = .ok (.putfield 11, 3) := by decide +kernel
theorem dX7_init_12 : decode cX7_init 12 = .ok (.aload_n 0, 1) := by decide +kernel
theorem dX7_init_13 : decode cX7_init 13 = .ok (.bipush 16, 2) := by decide +kernel
theorem dX7_init_15 : decode cX7_init 15 = .ok (.newarray .long, 2) := by decide +kernel
theorem dX7_init_17 : decode cX7_init 17 = .ok (.putfield 15, 3) := by decide +kernel
theorem dX7_init_20 : decode cX7_init 20 = .ok (.aload_n 0, 1) := by decide +kernel
theorem dX7_init_21 : decode cX7_init 21 = .ok (.bipush 16, 2) := by decide +kernel
theorem dX7_init_23 : decode cX7_init 23 = .ok (.anewarray 18, 3) := by decide +kernel
theorem dX7_init_26 : decode cX7_init 26 = .ok (.putfield 20, 3) := by decide +kernel
theorem dX7_init_29 : decode cX7_init 29 = .ok (.return_, 1) := by decide +kernel
theorem dX7_numberAt_0 : decode cX7_numberAt 0 = .ok (.aload_n 0, 1) := by decide +kernel
theorem dX7_numberAt_1 : decode cX7_numberAt 1 = .ok (.getfield 11, 3) := by decide +kernel
theorem dX7_numberAt_4 : decode cX7_numberAt 4 = .ok (.iload_n 1, 1) := by decide +kernel
theorem dX7_numberAt_5 : decode cX7_numberAt 5 = .ok (.bipush 15, 2) := by decide +kernel
theorem dX7_numberAt_7 : decode cX7_numberAt 7 = .ok (.iand, 1) := by decide +kernel
theorem dX7_numberAt_8 : decode cX7_numberAt 8 = .ok (.laload, 1) := by decide +kernel
theorem dX7_numberAt_9 : decode cX7_numberAt 9 = .ok (.lreturn, 1) := by decide +kernel
theorem dX7_setNumber_0 : decode cX7_setNumber 0 = .ok (.aload_n 0, 1) := by decide +kernel
theorem dX7_setNumber_1 : decode cX7_setNumber 1 = .ok (.getfield 11, 3) := by decide +kernel
theorem dX7_setNumber_4 : decode cX7_setNumber 4 = .ok (.iload_n 1, 1) := by decide +kernel
theorem dX7_setNumber_5 : decode cX7_setNumber 5 = .ok (.bipush 15, 2) := by decide +kernel
theorem dX7_setNumber_7 : decode cX7_setNumber 7 = .ok (.iand, 1) := by decide +kernel
theorem dX7_setNumber_8 : decode cX7_setNumber 8 = .ok (.lload_n 2, 1) := by decide +kernel
theorem dX7_setNumber_9 : decode cX7_setNumber 9 = .ok (.lastore, 1) := by decide +kernel
theorem dX7_setNumber_10 : decode cX7_setNumber 10 = .ok (.return_, 1) := by decide +kernel
theorem dX7_measureAt_0 : decode cX7_measureAt 0 = .ok (.aload_n 0, 1) := by decide +kernel
theorem dX7_measureAt_1 : decode cX7_measureAt 1 = .ok (.getfield 15, 3) := by decide +kernel
theorem dX7_measureAt_4 : decode cX7_measureAt 4 = .ok (.iload_n 1, 1) := by decide +kernel
theorem dX7_measureAt_5 : decode cX7_measureAt 5 = .ok (.bipush 15, 2) := by decide +kernel
theorem dX7_measureAt_7 : decode cX7_measureAt 7 = .ok (.iand, 1) := by decide +kernel
theorem dX7_measureAt_8 : decode cX7_measureAt 8 = .ok (.laload, 1) := by decide +kernel
theorem dX7_measureAt_9 : decode cX7_measureAt 9 = .ok (.lreturn, 1) := by decide +kernel
theorem dX7_setMeasure_0 : decode cX7_setMeasure 0 = .ok (.aload_n 0, 1) := by decide +kernel
theorem dX7_setMeasure_1 : decode cX7_setMeasure 1 = .ok (.getfield 15, 3) := by decide +kernel
theorem dX7_setMeasure_4 : decode cX7_setMeasure 4 = .ok (.iload_n 1, 1) := by decide +kernel
theorem dX7_setMeasure_5 : decode cX7_setMeasure 5 = .ok (.bipush 15, 2) := by decide +kernel
theorem dX7_setMeasure_7 : decode cX7_setMeasure 7 = .ok (.iand, 1) := by decide +kernel
theorem dX7_setMeasure_8 : decode cX7_setMeasure 8 = .ok (.lload_n 2, 1) := by decide +kernel
theorem dX7_setMeasure_9 : decode cX7_setMeasure 9 = .ok (.lastore, 1) := by decide +kernel
theorem dX7_setMeasure_10 : decode cX7_setMeasure 10 = .ok (.return_, 1) := by decide +kernel
theorem dX7_thingAt_0 : decode cX7_thingAt 0 = .ok (.aload_n 0, 1) := by decide +kernel
theorem dX7_thingAt_1 : decode cX7_thingAt 1 = .ok (.getfield 20, 3) := by decide +kernel
theorem dX7_thingAt_4 : decode cX7_thingAt 4 = .ok (.iload_n 1, 1) := by decide +kernel
theorem dX7_thingAt_5 : decode cX7_thingAt 5 = .ok (.bipush 15, 2) := by decide +kernel
theorem dX7_thingAt_7 : decode cX7_thingAt 7 = .ok (.iand, 1) := by decide +kernel
theorem dX7_thingAt_8 : decode cX7_thingAt 8 = .ok (.aaload, 1) := by decide +kernel
theorem dX7_thingAt_9 : decode cX7_thingAt 9 = .ok (.areturn, 1) := by decide +kernel
theorem dX7_setThing_0 : decode cX7_setThing 0 = .ok (.aload_n 0, 1) := by decide +kernel
theorem dX7_setThing_1 : decode cX7_setThing 1 = .ok (.getfield 20, 3) := by decide +kernel
theorem dX7_setThing_4 : decode cX7_setThing 4 = .ok (.iload_n 1, 1) := by decide +kernel
theorem dX7_setThing_5 : decode cX7_setThing 5 = .ok (.bipush 15, 2) := by decide +kernel
theorem dX7_setThing_7 : decode cX7_setThing 7 = .ok (.iand, 1) := by decide +kernel
theorem dX7_setThing_8 : decode cX7_setThing 8 = .ok (.aload_n 2, 1) := by decide +kernel
theorem dX7_setThing_9 : decode cX7_setThing 9 = .ok (.aastore, 1) := by decide +kernel
theorem dX7_setThing_10 : decode cX7_setThing 10 = .ok (.return_, 1) := by decide +kernel
theorem dX7_firstWith_0 : decode cX7_firstWith 0 = .ok (.iconst 0, 1) := by decide +kernel
theorem dX7_firstWith_1 : decode cX7_firstWith 1 = .ok (.istore_n 2, 1) := by decide +kernel
theorem dX7_firstWith_2 : decode cX7_firstWith 2 = .ok (.iload_n 2, 1) := by decide +kernel
theorem dX7_firstWith_3 : decode cX7_firstWith 3 = .ok (.bipush 16, 2) := by decide +kernel
theorem dX7_firstWith_5 : decode cX7_firstWith 5 = .ok (.if_icmp .ge 21, 3) := by decide +kernel
theorem dX7_firstWith_8 : decode cX7_firstWith 8 = .ok (.aload_n 0, 1) := by decide +kernel
theorem dX7_firstWith_9 : decode cX7_firstWith 9 = .ok (.getfield 20, 3) := by decide +kernel
theorem dX7_firstWith_12 : decode cX7_firstWith 12 = .ok (.iload_n 2, 1) := by decide +kernel
theorem dX7_firstWith_13 : decode cX7_firstWith 13 = .ok (.aaload, 1) := by decide +kernel
theorem dX7_firstWith_14 : decode cX7_firstWith 14 = .ok (.aload_n 1, 1) := by decide +kernel
theorem dX7_firstWith_15 : decode cX7_firstWith 15 = .ok (.if_acmp .ne 5, 3) := by decide +kernel
theorem dX7_firstWith_18 : decode cX7_firstWith 18 = .ok (.iload_n 2, 1) := by decide +kernel
theorem dX7_firstWith_19 : decode cX7_firstWith 19 = .ok (.ireturn, 1) := by decide +kernel
theorem dX7_firstWith_20 : decode cX7_firstWith 20 = .ok (.iinc 2 1, 3) := by decide +kernel
theorem dX7_firstWith_23 : decode cX7_firstWith 23 = .ok (.goto (-21), 3) := by decide +kernel
theorem dX7_firstWith_26 : decode cX7_firstWith 26 = .ok (.iconst (-1), 1) := by decide +kernel
theorem dX7_firstWith_27 : decode cX7_firstWith 27 = .ok (.ireturn, 1) := by decide +kernel
theorem dX7_empty_0 : decode cX7_empty 0 = .ok (.aload_n 0, 1) := by decide +kernel
theorem dX7_empty_1 : decode cX7_empty 1 = .ok (.getfield 11, 3) := by decide +kernel
theorem dX7_empty_4 : decode cX7_empty 4 = .ok (.lconst 0, 1) := by decide +kernel
theorem dX7_empty_5 : decode cX7_empty 5 = .ok (.invokestatic 24, 3) := by decide +kernel
theorem dX7_empty_8 : decode cX7_empty 8 = .ok (.aload_n 0, 1) := by decide +kernel
theorem dX7_empty_9 : decode cX7_empty 9 = .ok (.getfield 15, 3) := by decide +kernel
theorem dX7_empty_12 : decode cX7_empty 12 = .ok (.lconst 0, 1) := by decide +kernel
theorem dX7_empty_13 : decode cX7_empty 13 = .ok (.invokestatic 24, 3) := by decide +kernel
theorem dX7_empty_16 : decode cX7_empty 16 = .ok (.iconst 0, 1) := by decide +kernel
theorem dX7_empty_17 : decode cX7_empty 17 = .ok (.istore_n 1, 1) := by decide +kernel
theorem dX7_empty_18 : decode cX7_empty 18 = .ok (.iload_n 1, 1) := by decide +kernel
theorem dX7_empty_19 : decode cX7_empty 19 = .ok (.bipush 16, 2) := by decide +kernel
theorem dX7_empty_21 : decode cX7_empty 21 = .ok (.if_icmp .ge 16, 3) := by decide +kernel
theorem dX7_empty_24 : decode cX7_empty 24 = .ok (.aload_n 0, 1) := by decide +kernel
theorem dX7_empty_25 : decode cX7_empty 25 = .ok (.getfield 20, 3) := by decide +kernel
theorem dX7_empty_28 : decode cX7_empty 28 = .ok (.iload_n 1, 1) := by decide +kernel
theorem dX7_empty_29 : decode cX7_empty 29 = .ok (.aconst_null, 1) := by decide +kernel
theorem dX7_empty_30 : decode cX7_empty 30 = .ok (.aastore, 1) := by decide +kernel
theorem dX7_empty_31 : decode cX7_empty 31 = .ok (.iinc 1 1, 3) := by decide +kernel
theorem dX7_empty_34 : decode cX7_empty 34 = .ok (.goto (-16), 3) := by decide +kernel
theorem dX7_empty_37 : decode cX7_empty 37 = .ok (.return_, 1) := by decide +kernel
theorem dX8_init_0 : decode cX8_init 0 = .ok (.aload_n 0, 1) := by decide +kernel
theorem dX8_init_1 : decode cX8_init 1 = .ok (.invokespecial 3, 3) := by decide +kernel
theorem dX8_init_4 : decode cX8_init 4 = .ok (.aload_n 0, 1) := by decide +kernel
theorem dX8_init_5 : decode cX8_init 5 = .ok (.iload_n 1, 1) := by decide +kernel
theorem dX8_init_6 : decode cX8_init 6 = .ok (.putfield 9, 3) := by decide +kernel
theorem dX8_init_9 : decode cX8_init 9 = .ok (.aload_n 0, 1) := by decide +kernel
theorem dX8_init_10 : decode cX8_init 10 = .ok (.iload_n 2, 1) := by decide +kernel
theorem dX8_init_11 : decode cX8_init 11 = .ok (.ifCond .ge 7, 3) := by decide +kernel
theorem dX8_init_14 : decode cX8_init 14 = .ok (.iconst 0, 1) := by decide +kernel
theorem dX8_init_15 : decode cX8_init 15 = .ok (.goto 4, 3) := by decide +kernel
theorem dX8_init_18 : decode cX8_init 18 = .ok (.iload_n 2, 1) := by decide +kernel
theorem dX8_init_19 : decode cX8_init 19 = .ok (.putfield 15, 3) := by decide +kernel
theorem dX8_init_22 : decode cX8_init 22 = .ok (.iload_n 1, 1) := by decide +kernel
theorem dX8_init_23 : decode cX8_init 23 = .ok (.bipush 8, 2) := by decide +kernel
theorem dX8_init_25 : decode cX8_init 25 = .ok (.if_icmp .lt 7, 3) := by decide +kernel
theorem dX8_init_28 : decode cX8_init 28 = .ok (.iconst 1, 1) := by decide +kernel
theorem dX8_init_29 : decode cX8_init 29 = .ok (.goto 4, 3) := by decide +kernel
theorem dX8_init_32 : decode cX8_init 32 = .ok (.iconst 0, 1) := by decide +kernel
theorem dX8_init_33 : decode cX8_init 33 = .ok (.istore_n 3, 1) := by decide +kernel
theorem dX8_init_34 : decode cX8_init 34 = .ok (.aload_n 0, 1) := by decide +kernel
theorem dX8_init_35 : decode cX8_init 35 = .ok (.iload_n 3, 1) := by decide +kernel
theorem dX8_init_36 : decode cX8_init 36 = .ok (.ifCond .eq 7, 3) := by decide +kernel
theorem dX8_init_39 : decode cX8_init 39 = .ok (.iconst 0, 1) := by decide +kernel
theorem dX8_init_40 : decode cX8_init 40 = .ok (.goto 7, 3) := by decide +kernel
theorem dX8_init_43 : decode cX8_init 43 = .ok (.aload_n 0, 1) := by decide +kernel
theorem dX8_init_44 : decode cX8_init 44 = .ok (.getfield 15, 3) := by decide +kernel
theorem dX8_init_47 : decode cX8_init 47 = .ok (.newarray .long, 2) := by decide +kernel
theorem dX8_init_49 : decode cX8_init 49 = .ok (.putfield 18, 3) := by decide +kernel
theorem dX8_init_52 : decode cX8_init 52 = .ok (.aload_n 0, 1) := by decide +kernel
theorem dX8_init_53 : decode cX8_init 53 = .ok (.iload_n 3, 1) := by decide +kernel
theorem dX8_init_54 : decode cX8_init 54 = .ok (.ifCond .eq 10, 3) := by decide +kernel
theorem dX8_init_57 : decode cX8_init 57 = .ok (.aload_n 0, 1) := by decide +kernel
theorem dX8_init_58 : decode cX8_init 58 = .ok (.getfield 15, 3) := by decide +kernel
theorem dX8_init_61 : decode cX8_init 61 = .ok (.goto 4, 3) := by decide +kernel
theorem dX8_init_64 : decode cX8_init 64 = .ok (.iconst 0, 1) := by decide +kernel
theorem dX8_init_65 : decode cX8_init 65 = .ok (.anewarray 4, 3) := by decide +kernel
theorem dX8_init_68 : decode cX8_init 68 = .ok (.putfield 22, 3) := by decide +kernel
theorem dX8_init_71 : decode cX8_init 71 = .ok (.return_, 1) := by decide +kernel
theorem dX8_kind_0 : decode cX8_kind 0 = .ok (.aload_n 0, 1) := by decide +kernel
theorem dX8_kind_1 : decode cX8_kind 1 = .ok (.getfield 9, 3) := by decide +kernel
theorem dX8_kind_4 : decode cX8_kind 4 = .ok (.ireturn, 1) := by decide +kernel
theorem dX8_length_0 : decode cX8_length 0 = .ok (.aload_n 0, 1) := by decide +kernel
theorem dX8_length_1 : decode cX8_length 1 = .ok (.getfield 15, 3) := by decide +kernel
theorem dX8_length_4 : decode cX8_length 4 = .ok (.ireturn, 1) := by decide +kernel
theorem dX8_holdsThings_0 : decode cX8_holdsThings 0 = .ok (.aload_n 0, 1) := by decide +kernel
theorem dX8_holdsThings_1 : decode cX8_holdsThings 1 = .ok (.getfield 9, 3) := by decide +kernel
theorem dX8_holdsThings_4 : decode cX8_holdsThings 4 = .ok (.bipush 8, 2) := by decide +kernel
theorem dX8_holdsThings_6 : decode cX8_holdsThings 6 = .ok (.if_icmp .lt 7, 3) := by decide +kernel
theorem dX8_holdsThings_9 : decode cX8_holdsThings 9 = .ok (.iconst 1, 1) := by decide +kernel
theorem dX8_holdsThings_10 : decode cX8_holdsThings 10 = .ok (.goto 4, 3) := by decide +kernel
theorem dX8_holdsThings_13 : decode cX8_holdsThings 13 = .ok (.iconst 0, 1) := by decide +kernel
theorem dX8_holdsThings_14 : decode cX8_holdsThings 14 = .ok (.ireturn, 1) := by decide +kernel
theorem dX8_has_0 : decode cX8_has 0 = .ok (.iload_n 1, 1) := by decide +kernel
theorem dX8_has_1 : decode cX8_has 1 = .ok (.ifCond .lt 15, 3) := by decide +kernel
theorem dX8_has_4 : decode cX8_has 4 = .ok (.iload_n 1, 1) := by decide +kernel
theorem dX8_has_5 : decode cX8_has 5 = .ok (.aload_n 0, 1) := by decide +kernel
theorem dX8_has_6 : decode cX8_has 6 = .ok (.getfield 15, 3) := by decide +kernel
theorem dX8_has_9 : decode cX8_has 9 = .ok (.if_icmp .ge 7, 3) := by decide +kernel
theorem dX8_has_12 : decode cX8_has 12 = .ok (.iconst 1, 1) := by decide +kernel
theorem dX8_has_13 : decode cX8_has 13 = .ok (.goto 4, 3) := by decide +kernel
theorem dX8_has_16 : decode cX8_has 16 = .ok (.iconst 0, 1) := by decide +kernel
theorem dX8_has_17 : decode cX8_has 17 = .ok (.ireturn, 1) := by decide +kernel
theorem dX8_hasRange_0 : decode cX8_hasRange 0 = .ok (.iload_n 1, 1) := by decide +kernel
theorem dX8_hasRange_1 : decode cX8_hasRange 1 = .ok (.ifCond .lt 25, 3) := by decide +kernel
theorem dX8_hasRange_4 : decode cX8_hasRange 4 = .ok (.iload_n 2, 1) := by decide +kernel
theorem dX8_hasRange_5 : decode cX8_hasRange 5 = .ok (.ifCond .lt 21, 3) := by decide +kernel
theorem dX8_hasRange_8 : decode cX8_hasRange 8 = .ok (.iload_n 1, 1) := by decide +kernel
theorem dX8_hasRange_9 : decode cX8_hasRange 9 = .ok (.i2l, 1) := by decide +kernel
theorem dX8_hasRange_10 : decode cX8_hasRange 10 = .ok (.iload_n 2, 1) := by decide +kernel
theorem dX8_hasRange_11 : decode cX8_hasRange 11 = .ok (.i2l, 1) := by decide +kernel
theorem dX8_hasRange_12 : decode cX8_hasRange 12 = .ok (.ladd, 1) := by decide +kernel
theorem dX8_hasRange_13 : decode cX8_hasRange 13 = .ok (.aload_n 0, 1) := by decide +kernel
theorem dX8_hasRange_14 : decode cX8_hasRange 14 = .ok (.getfield 15, 3) := by decide +kernel
theorem dX8_hasRange_17 : decode cX8_hasRange 17 = .ok (.i2l, 1) := by decide +kernel
theorem dX8_hasRange_18 : decode cX8_hasRange 18 = .ok (.lcmp, 1) := by decide +kernel
theorem dX8_hasRange_19 : decode cX8_hasRange 19 = .ok (.ifCond .gt 7, 3) := by decide +kernel
theorem dX8_hasRange_22 : decode cX8_hasRange 22 = .ok (.iconst 1, 1) := by decide +kernel
theorem dX8_hasRange_23 : decode cX8_hasRange 23 = .ok (.goto 4, 3) := by decide +kernel
theorem dX8_hasRange_26 : decode cX8_hasRange 26 = .ok (.iconst 0, 1) := by decide +kernel
theorem dX8_hasRange_27 : decode cX8_hasRange 27 = .ok (.ireturn, 1) := by decide +kernel
theorem dX8_passesFor_0 : decode cX8_passesFor 0 = .ok (.aload_n 0, 1) := by decide +kernel
theorem dX8_passesFor_1 : decode cX8_passesFor 1 = .ok (.getfield 9, 3) := by decide +kernel
theorem dX8_passesFor_4 : decode cX8_passesFor 4 = .ok (.iload_n 1, 1) := by decide +kernel
theorem dX8_passesFor_5 : decode cX8_passesFor 5 = .ok (.if_icmp .eq 18, 3) := by decide +kernel
theorem dX8_passesFor_8 : decode cX8_passesFor 8 = .ok (.iload_n 1, 1) := by decide +kernel
theorem dX8_passesFor_9 : decode cX8_passesFor 9 = .ok (.bipush 8, 2) := by decide +kernel
theorem dX8_passesFor_11 : decode cX8_passesFor 11 = .ok (.if_icmp .ne 16, 3) := by decide +kernel
theorem dX8_passesFor_14 : decode cX8_passesFor 14 = .ok (.aload_n 0, 1) := by decide +kernel
theorem dX8_passesFor_15 : decode cX8_passesFor 15 = .ok (.getfield 9, 3) := by decide +kernel
theorem dX8_passesFor_18 : decode cX8_passesFor 18 = .ok (.bipush 9, 2) := by decide +kernel
theorem dX8_passesFor_20 : decode cX8_passesFor 20 = .ok (.if_icmp .ne 7, 3) := by decide +kernel
theorem dX8_passesFor_23 : decode cX8_passesFor 23 = .ok (.iconst 1, 1) := by decide +kernel
theorem dX8_passesFor_24 : decode cX8_passesFor 24 = .ok (.goto 4, 3) := by decide +kernel
theorem dX8_passesFor_27 : decode cX8_passesFor 27 = .ok (.iconst 0, 1) := by decide +kernel
theorem dX8_passesFor_28 : decode cX8_passesFor 28 = .ok (.ireturn, 1) := by decide +kernel
theorem dX8_isAlike_0 : decode cX8_isAlike 0 = .ok (.aload_n 0, 1) := by decide +kernel
theorem dX8_isAlike_1 : decode cX8_isAlike 1 = .ok (.getfield 9, 3) := by decide +kernel
theorem dX8_isAlike_4 : decode cX8_isAlike 4 = .ok (.aload_n 1, 1) := by decide +kernel
theorem dX8_isAlike_5 : decode cX8_isAlike 5 = .ok (.getfield 9, 3) := by decide +kernel
theorem dX8_isAlike_8 : decode cX8_isAlike 8 = .ok (.if_icmp .eq 17, 3) := by decide +kernel
theorem dX8_isAlike_11 : decode cX8_isAlike 11 = .ok (.aload_n 0, 1) := by decide +kernel
theorem dX8_isAlike_12 : decode cX8_isAlike 12 = .ok (.invokevirtual 26, 3) := by decide +kernel
theorem dX8_isAlike_15 : decode cX8_isAlike 15 = .ok (.ifCond .eq 14, 3) := by decide +kernel
theorem dX8_isAlike_18 : decode cX8_isAlike 18 = .ok (.aload_n 1, 1) := by decide +kernel
theorem dX8_isAlike_19 : decode cX8_isAlike 19 = .ok (.invokevirtual 26, 3) := by decide +kernel
theorem dX8_isAlike_22 : decode cX8_isAlike 22 = .ok (.ifCond .eq 7, 3) := by decide +kernel
theorem dX8_isAlike_25 : decode cX8_isAlike 25 = .ok (.iconst 1, 1) := by decide +kernel
theorem dX8_isAlike_26 : decode cX8_isAlike 26 = .ok (.goto 4, 3) := by decide +kernel
theorem dX8_isAlike_29 : decode cX8_isAlike 29 = .ok (.iconst 0, 1) := by decide +kernel
theorem dX8_isAlike_30 : decode cX8_isAlike 30 = .ok (.ireturn, 1) := by decide +kernel
theorem dX8_valueAt_0 : decode cX8_valueAt 0 = .ok (.iload_n 1, 1) := by decide +kernel
theorem dX8_valueAt_1 : decode cX8_valueAt 1 = .ok (.ifCond .lt 21, 3) := by decide +kernel
theorem dX8_valueAt_4 : decode cX8_valueAt 4 = .ok (.iload_n 1, 1) := by decide +kernel
theorem dX8_valueAt_5 : decode cX8_valueAt 5 = .ok (.aload_n 0, 1) := by decide +kernel
theorem dX8_valueAt_6 : decode cX8_valueAt 6 = .ok (.getfield 18, 3) := by decide +kernel
theorem dX8_valueAt_9 : decode cX8_valueAt 9 = .ok (.arraylength, 1) := by decide +kernel
theorem dX8_valueAt_10 : decode cX8_valueAt 10 = .ok (.if_icmp .ge 12, 3) := by decide +kernel
theorem dX8_valueAt_13 : decode cX8_valueAt 13 = .ok (.aload_n 0, 1) := by decide +kernel
theorem dX8_valueAt_14 : decode cX8_valueAt 14 = .ok (.getfield 18, 3) := by decide +kernel
theorem dX8_valueAt_17 : decode cX8_valueAt 17 = .ok (.iload_n 1, 1) := by decide +kernel
theorem dX8_valueAt_18 : decode cX8_valueAt 18 = .ok (.laload, 1) := by decide +kernel
theorem dX8_valueAt_19 : decode cX8_valueAt 19 = .ok (.goto 4, 3) := by decide +kernel
theorem dX8_valueAt_22 : decode cX8_valueAt 22 = .ok (.lconst 0, 1) := by decide +kernel
theorem dX8_valueAt_23 : decode cX8_valueAt 23 = .ok (.lreturn, 1) := by decide +kernel
theorem dX8_setValue_0 : decode cX8_setValue 0 = .ok (.iload_n 1, 1) := by decide +kernel
theorem dX8_setValue_1 : decode cX8_setValue 1 = .ok (.ifCond .lt 23, 3) := by decide +kernel
theorem dX8_setValue_4 : decode cX8_setValue 4 = .ok (.iload_n 1, 1) := by decide +kernel
theorem dX8_setValue_5 : decode cX8_setValue 5 = .ok (.aload_n 0, 1) := by decide +kernel
theorem dX8_setValue_6 : decode cX8_setValue 6 = .ok (.getfield 18, 3) := by decide +kernel
theorem dX8_setValue_9 : decode cX8_setValue 9 = .ok (.arraylength, 1) := by decide +kernel
theorem dX8_setValue_10 : decode cX8_setValue 10 = .ok (.if_icmp .ge 14, 3) := by decide +kernel
theorem dX8_setValue_13 : decode cX8_setValue 13 = .ok (.aload_n 0, 1) := by decide +kernel
theorem dX8_setValue_14 : decode cX8_setValue 14 = .ok (.getfield 18, 3) := by decide +kernel
theorem dX8_setValue_17 : decode cX8_setValue 17 = .ok (.iload_n 1, 1) := by decide +kernel
theorem dX8_setValue_18 : decode cX8_setValue 18 = .ok (.aload_n 0, 1) := by decide +kernel
theorem dX8_setValue_19 : decode cX8_setValue 19 = .ok (.lload_n 2, 1) := by decide +kernel
theorem dX8_setValue_20 : decode cX8_setValue 20 = .ok (.invokevirtual 30, 3) := by decide +kernel
theorem dX8_setValue_23 : decode cX8_setValue 23 = .ok (.lastore, 1) := by decide +kernel
theorem dX8_setValue_24 : decode cX8_setValue 24 = .ok (.return_, 1) := by decide +kernel
theorem dX8_narrowed_0 : decode cX8_narrowed 0 = .ok (.aload_n 0, 1) := by decide +kernel
theorem dX8_narrowed_1 : decode cX8_narrowed 1 = .ok (.getfield 9, 3) := by decide +kernel
theorem dX8_narrowed_4 : decode cX8_narrowed 4 = .ok (.tableswitch 81 0 6 #[44, 56, 61, 66, 71, 81, 75], 44) := by decide +kernel
theorem dX8_narrowed_48 : decode cX8_narrowed 48 = .ok (.lload_n 1, 1) := by decide +kernel
theorem dX8_narrowed_49 : decode cX8_narrowed 49 = .ok (.lconst 0, 1) := by decide +kernel
theorem dX8_narrowed_50 : decode cX8_narrowed 50 = .ok (.lcmp, 1) := by decide +kernel
theorem dX8_narrowed_51 : decode cX8_narrowed 51 = .ok (.ifCond .eq 7, 3) := by decide +kernel
theorem dX8_narrowed_54 : decode cX8_narrowed 54 = .ok (.lconst 1, 1) := by decide +kernel
theorem dX8_narrowed_55 : decode cX8_narrowed 55 = .ok (.goto 4, 3) := by decide +kernel
theorem dX8_narrowed_58 : decode cX8_narrowed 58 = .ok (.lconst 0, 1) := by decide +kernel
theorem dX8_narrowed_59 : decode cX8_narrowed 59 = .ok (.lreturn, 1) := by decide +kernel
theorem dX8_narrowed_60 : decode cX8_narrowed 60 = .ok (.lload_n 1, 1) := by decide +kernel
theorem dX8_narrowed_61 : decode cX8_narrowed 61 = .ok (.l2i, 1) := by decide +kernel
theorem dX8_narrowed_62 : decode cX8_narrowed 62 = .ok (.i2c, 1) := by decide +kernel
theorem dX8_narrowed_63 : decode cX8_narrowed 63 = .ok (.i2l, 1) := by decide +kernel
theorem dX8_narrowed_64 : decode cX8_narrowed 64 = .ok (.lreturn, 1) := by decide +kernel
theorem dX8_narrowed_65 : decode cX8_narrowed 65 = .ok (.lload_n 1, 1) := by decide +kernel
theorem dX8_narrowed_66 : decode cX8_narrowed 66 = .ok (.l2i, 1) := by decide +kernel
theorem dX8_narrowed_67 : decode cX8_narrowed 67 = .ok (.i2b, 1) := by decide +kernel
theorem dX8_narrowed_68 : decode cX8_narrowed 68 = .ok (.i2l, 1) := by decide +kernel
theorem dX8_narrowed_69 : decode cX8_narrowed 69 = .ok (.lreturn, 1) := by decide +kernel
theorem dX8_narrowed_70 : decode cX8_narrowed 70 = .ok (.lload_n 1, 1) := by decide +kernel
theorem dX8_narrowed_71 : decode cX8_narrowed 71 = .ok (.l2i, 1) := by decide +kernel
theorem dX8_narrowed_72 : decode cX8_narrowed 72 = .ok (.i2s, 1) := by decide +kernel
theorem dX8_narrowed_73 : decode cX8_narrowed 73 = .ok (.i2l, 1) := by decide +kernel
theorem dX8_narrowed_74 : decode cX8_narrowed 74 = .ok (.lreturn, 1) := by decide +kernel
theorem dX8_narrowed_75 : decode cX8_narrowed 75 = .ok (.lload_n 1, 1) := by decide +kernel
theorem dX8_narrowed_76 : decode cX8_narrowed 76 = .ok (.l2i, 1) := by decide +kernel
theorem dX8_narrowed_77 : decode cX8_narrowed 77 = .ok (.i2l, 1) := by decide +kernel
theorem dX8_narrowed_78 : decode cX8_narrowed 78 = .ok (.lreturn, 1) := by decide +kernel
theorem dX8_narrowed_79 : decode cX8_narrowed 79 = .ok (.lload_n 1, 1) := by decide +kernel
theorem dX8_narrowed_80 : decode cX8_narrowed 80 = .ok (.invokestatic 34, 3) := by decide +kernel
theorem dX8_narrowed_83 : decode cX8_narrowed 83 = .ok (.i2l, 1) := by decide +kernel
theorem dX8_narrowed_84 : decode cX8_narrowed 84 = .ok (.lreturn, 1) := by decide +kernel
theorem dX8_narrowed_85 : decode cX8_narrowed 85 = .ok (.lload_n 1, 1) := by decide +kernel
theorem dX8_narrowed_86 : decode cX8_narrowed 86 = .ok (.lreturn, 1) := by decide +kernel
theorem dX8_partAt_0 : decode cX8_partAt 0 = .ok (.iload_n 1, 1) := by decide +kernel
theorem dX8_partAt_1 : decode cX8_partAt 1 = .ok (.ifCond .lt 21, 3) := by decide +kernel
theorem dX8_partAt_4 : decode cX8_partAt 4 = .ok (.iload_n 1, 1) := by decide +kernel
theorem dX8_partAt_5 : decode cX8_partAt 5 = .ok (.aload_n 0, 1) := by decide +kernel
theorem dX8_partAt_6 : decode cX8_partAt 6 = .ok (.getfield 22, 3) := by decide +kernel
theorem dX8_partAt_9 : decode cX8_partAt 9 = .ok (.arraylength, 1) := by decide +kernel
theorem dX8_partAt_10 : decode cX8_partAt 10 = .ok (.if_icmp .ge 12, 3) := by decide +kernel
theorem dX8_partAt_13 : decode cX8_partAt 13 = .ok (.aload_n 0, 1) := by decide +kernel
theorem dX8_partAt_14 : decode cX8_partAt 14 = .ok (.getfield 22, 3) := by decide +kernel
theorem dX8_partAt_17 : decode cX8_partAt 17 = .ok (.iload_n 1, 1) := by decide +kernel
theorem dX8_partAt_18 : decode cX8_partAt 18 = .ok (.aaload, 1) := by decide +kernel
theorem dX8_partAt_19 : decode cX8_partAt 19 = .ok (.goto 4, 3) := by decide +kernel
theorem dX8_partAt_22 : decode cX8_partAt 22 = .ok (.aconst_null, 1) := by decide +kernel
theorem dX8_partAt_23 : decode cX8_partAt 23 = .ok (.areturn, 1) := by decide +kernel
theorem dX8_setPart_0 : decode cX8_setPart 0 = .ok (.iload_n 1, 1) := by decide +kernel
theorem dX8_setPart_1 : decode cX8_setPart 1 = .ok (.ifCond .lt 27, 3) := by decide +kernel
theorem dX8_setPart_4 : decode cX8_setPart 4 = .ok (.iload_n 1, 1) := by decide +kernel
theorem dX8_setPart_5 : decode cX8_setPart 5 = .ok (.aload_n 0, 1) := by decide +kernel
theorem dX8_setPart_6 : decode cX8_setPart 6 = .ok (.getfield 22, 3) := by decide +kernel
theorem dX8_setPart_9 : decode cX8_setPart 9 = .ok (.arraylength, 1) := by decide +kernel
theorem dX8_setPart_10 : decode cX8_setPart 10 = .ok (.if_icmp .ge 18, 3) := by decide +kernel
theorem dX8_setPart_13 : decode cX8_setPart 13 = .ok (.aload_n 2, 1) := by decide +kernel
theorem dX8_setPart_14 : decode cX8_setPart 14 = .ok (.ifnull 16, 3) := by decide +kernel
theorem dX8_setPart_17 : decode cX8_setPart 17 = .ok (.aload_n 0, 1) := by decide +kernel
theorem dX8_setPart_18 : decode cX8_setPart 18 = .ok (.getfield 9, 3) := by decide +kernel
theorem dX8_setPart_21 : decode cX8_setPart 21 = .ok (.aload_n 2, 1) := by decide +kernel
theorem dX8_setPart_22 : decode cX8_setPart 22 = .ok (.invokestatic 40, 3) := by decide +kernel
theorem dX8_setPart_25 : decode cX8_setPart 25 = .ok (.ifCond .ne 5, 3) := by decide +kernel
theorem dX8_setPart_28 : decode cX8_setPart 28 = .ok (.iconst 0, 1) := by decide +kernel
theorem dX8_setPart_29 : decode cX8_setPart 29 = .ok (.ireturn, 1) := by decide +kernel
theorem dX8_setPart_30 : decode cX8_setPart 30 = .ok (.aload_n 0, 1) := by decide +kernel
theorem dX8_setPart_31 : decode cX8_setPart 31 = .ok (.getfield 22, 3) := by decide +kernel
theorem dX8_setPart_34 : decode cX8_setPart 34 = .ok (.iload_n 1, 1) := by decide +kernel
theorem dX8_setPart_35 : decode cX8_setPart 35 = .ok (.aload_n 2, 1) := by decide +kernel
theorem dX8_setPart_36 : decode cX8_setPart 36 = .ok (.aastore, 1) := by decide +kernel
theorem dX8_setPart_37 : decode cX8_setPart 37 = .ok (.iconst 1, 1) := by decide +kernel
theorem dX8_setPart_38 : decode cX8_setPart 38 = .ok (.ireturn, 1) := by decide +kernel
theorem dX8_mayHold_0 : decode cX8_mayHold 0 = .ok (.iload_n 0, 1) := by decide +kernel
theorem dX8_mayHold_1 : decode cX8_mayHold 1 = .ok (.tableswitch 63 8 10 #[27, 32, 37], 27) := by decide +kernel
theorem dX8_mayHold_28 : decode cX8_mayHold 28 = .ok (.aload_n 1, 1) := by decide +kernel
theorem dX8_mayHold_29 : decode cX8_mayHold 29 = .ok (.instanceof 44, 3) := by decide +kernel
theorem dX8_mayHold_32 : decode cX8_mayHold 32 = .ok (.ireturn, 1) := by decide +kernel
theorem dX8_mayHold_33 : decode cX8_mayHold 33 = .ok (.aload_n 1, 1) := by decide +kernel
theorem dX8_mayHold_34 : decode cX8_mayHold 34 = .ok (.instanceof 46, 3) := by decide +kernel
theorem dX8_mayHold_37 : decode cX8_mayHold 37 = .ok (.ireturn, 1) := by decide +kernel
theorem dX8_mayHold_38 : decode cX8_mayHold 38 = .ok (.aload_n 1, 1) := by decide +kernel
theorem dX8_mayHold_39 : decode cX8_mayHold 39 = .ok (.instanceof 10, 3) := by decide +kernel
theorem dX8_mayHold_42 : decode cX8_mayHold 42 = .ok (.ifCond .eq 20, 3) := by decide +kernel
theorem dX8_mayHold_45 : decode cX8_mayHold 45 = .ok (.aload_n 1, 1) := by decide +kernel
theorem dX8_mayHold_46 : decode cX8_mayHold 46 = .ok (.checkcast 10, 3) := by decide +kernel
theorem dX8_mayHold_49 : decode cX8_mayHold 49 = .ok (.astore_n 2, 1) := by decide +kernel
theorem dX8_mayHold_50 : decode cX8_mayHold 50 = .ok (.aload_n 2, 1) := by decide +kernel
theorem dX8_mayHold_51 : decode cX8_mayHold 51 = .ok (.getfield 9, 3) := by decide +kernel
theorem dX8_mayHold_54 : decode cX8_mayHold 54 = .ok (.iconst 4, 1) := by decide +kernel
theorem dX8_mayHold_55 : decode cX8_mayHold 55 = .ok (.if_icmp .ne 7, 3) := by decide +kernel
theorem dX8_mayHold_58 : decode cX8_mayHold 58 = .ok (.iconst 1, 1) := by decide +kernel
theorem dX8_mayHold_59 : decode cX8_mayHold 59 = .ok (.goto 4, 3) := by decide +kernel
theorem dX8_mayHold_62 : decode cX8_mayHold 62 = .ok (.iconst 0, 1) := by decide +kernel
theorem dX8_mayHold_63 : decode cX8_mayHold 63 = .ok (.ireturn, 1) := by decide +kernel
theorem dX8_mayHold_64 : decode cX8_mayHold 64 = .ok (.iconst 0, 1) := by decide +kernel
theorem dX8_mayHold_65 : decode cX8_mayHold 65 = .ok (.ireturn, 1) := by decide +kernel
theorem dX8_takeFrom_0 : decode cX8_takeFrom 0 = .ok (.aload_n 1, 1) := by decide +kernel
theorem dX8_takeFrom_1 : decode cX8_takeFrom 1 = .ok (.iload_n 2, 1) := by decide +kernel
theorem dX8_takeFrom_2 : decode cX8_takeFrom 2 = .ok (.iload 4, 2) := by decide +kernel
theorem dX8_takeFrom_4 : decode cX8_takeFrom 4 = .ok (.invokevirtual 48, 3) := by decide +kernel
theorem dX8_takeFrom_7 : decode cX8_takeFrom 7 = .ok (.ifCond .eq 21, 3) := by decide +kernel
theorem dX8_takeFrom_10 : decode cX8_takeFrom 10 = .ok (.aload_n 0, 1) := by decide +kernel
theorem dX8_takeFrom_11 : decode cX8_takeFrom 11 = .ok (.iload_n 3, 1) := by decide +kernel
theorem dX8_takeFrom_12 : decode cX8_takeFrom 12 = .ok (.iload 4, 2) := by decide +kernel
theorem dX8_takeFrom_14 : decode cX8_takeFrom 14 = .ok (.invokevirtual 48, 3) := by decide +kernel
theorem dX8_takeFrom_17 : decode cX8_takeFrom 17 = .ok (.ifCond .eq 11, 3) := by decide +kernel
theorem dX8_takeFrom_20 : decode cX8_takeFrom 20 = .ok (.aload_n 0, 1) := by decide +kernel
theorem dX8_takeFrom_21 : decode cX8_takeFrom 21 = .ok (.aload_n 1, 1) := by decide +kernel
theorem dX8_takeFrom_22 : decode cX8_takeFrom 22 = .ok (.invokevirtual 52, 3) := by decide +kernel
theorem dX8_takeFrom_25 : decode cX8_takeFrom 25 = .ok (.ifCond .ne 5, 3) := by decide +kernel
theorem dX8_takeFrom_28 : decode cX8_takeFrom 28 = .ok (.iconst 0, 1) := by decide +kernel
theorem dX8_takeFrom_29 : decode cX8_takeFrom 29 = .ok (.ireturn, 1) := by decide +kernel
theorem dX8_takeFrom_30 : decode cX8_takeFrom 30 = .ok (.aload_n 0, 1) := by decide +kernel
theorem dX8_takeFrom_31 : decode cX8_takeFrom 31 = .ok (.invokevirtual 26, 3) := by decide +kernel
theorem dX8_takeFrom_34 : decode cX8_takeFrom 34 = .ok (.ifCond .ne 20, 3) := by decide +kernel
theorem dX8_takeFrom_37 : decode cX8_takeFrom 37 = .ok (.aload_n 1, 1) := by decide +kernel
theorem dX8_takeFrom_38 : decode cX8_takeFrom 38 = .ok (.getfield 18, 3) := by decide +kernel
theorem dX8_takeFrom_41 : decode cX8_takeFrom 41 = .ok (.iload_n 2, 1) := by decide +kernel
theorem dX8_takeFrom_42 : decode cX8_takeFrom 42 = .ok (.aload_n 0, 1) := by decide +kernel
theorem dX8_takeFrom_43 : decode cX8_takeFrom 43 = .ok (.getfield 18, 3) := by decide +kernel
theorem dX8_takeFrom_46 : decode cX8_takeFrom 46 = .ok (.iload_n 3, 1) := by decide +kernel
theorem dX8_takeFrom_47 : decode cX8_takeFrom 47 = .ok (.iload 4, 2) := by decide +kernel
theorem dX8_takeFrom_49 : decode cX8_takeFrom 49 = .ok (.invokestatic 56, 3) := by decide +kernel
theorem dX8_takeFrom_52 : decode cX8_takeFrom 52 = .ok (.iconst 1, 1) := by decide +kernel
theorem dX8_takeFrom_53 : decode cX8_takeFrom 53 = .ok (.ireturn, 1) := by decide +kernel
theorem dX8_takeFrom_54 : decode cX8_takeFrom 54 = .ok (.aload_n 1, 1) := by decide +kernel
theorem dX8_takeFrom_55 : decode cX8_takeFrom 55 = .ok (.aload_n 0, 1) := by decide +kernel
theorem dX8_takeFrom_56 : decode cX8_takeFrom 56 = .ok (.if_acmp .ne 12, 3) := by decide +kernel
theorem dX8_takeFrom_59 : decode cX8_takeFrom 59 = .ok (.iload_n 3, 1) := by decide +kernel
theorem dX8_takeFrom_60 : decode cX8_takeFrom 60 = .ok (.iload_n 2, 1) := by decide +kernel
theorem dX8_takeFrom_61 : decode cX8_takeFrom 61 = .ok (.if_icmp .le 7, 3) := by decide +kernel
theorem dX8_takeFrom_64 : decode cX8_takeFrom 64 = .ok (.iconst 1, 1) := by decide +kernel
theorem dX8_takeFrom_65 : decode cX8_takeFrom 65 = .ok (.goto 4, 3) := by decide +kernel
theorem dX8_takeFrom_68 : decode cX8_takeFrom 68 = .ok (.iconst 0, 1) := by decide +kernel
theorem dX8_takeFrom_69 : decode cX8_takeFrom 69 = .ok (.istore 5, 2) := by decide +kernel
theorem dX8_takeFrom_71 : decode cX8_takeFrom 71 = .ok (.iconst 0, 1) := by decide +kernel
theorem dX8_takeFrom_72 : decode cX8_takeFrom 72 = .ok (.istore 6, 2) := by decide +kernel
theorem dX8_takeFrom_74 : decode cX8_takeFrom 74 = .ok (.iload 6, 2) := by decide +kernel
theorem dX8_takeFrom_76 : decode cX8_takeFrom 76 = .ok (.iload 4, 2) := by decide +kernel
theorem dX8_takeFrom_78 : decode cX8_takeFrom 78 = .ok (.if_icmp .ge 49, 3) := by decide +kernel
theorem dX8_takeFrom_81 : decode cX8_takeFrom 81 = .ok (.iload 5, 2) := by decide +kernel
theorem dX8_takeFrom_83 : decode cX8_takeFrom 83 = .ok (.ifCond .eq 13, 3) := by decide +kernel
theorem dX8_takeFrom_86 : decode cX8_takeFrom 86 = .ok (.iload 4, 2) := by decide +kernel
theorem dX8_takeFrom_88 : decode cX8_takeFrom 88 = .ok (.iconst 1, 1) := by decide +kernel
theorem dX8_takeFrom_89 : decode cX8_takeFrom 89 = .ok (.isub, 1) := by decide +kernel
theorem dX8_takeFrom_90 : decode cX8_takeFrom 90 = .ok (.iload 6, 2) := by decide +kernel
theorem dX8_takeFrom_92 : decode cX8_takeFrom 92 = .ok (.isub, 1) := by decide +kernel
theorem dX8_takeFrom_93 : decode cX8_takeFrom 93 = .ok (.goto 5, 3) := by decide +kernel
theorem dX8_takeFrom_96 : decode cX8_takeFrom 96 = .ok (.iload 6, 2) := by decide +kernel
theorem dX8_takeFrom_98 : decode cX8_takeFrom 98 = .ok (.istore 7, 2) := by decide +kernel
theorem dX8_takeFrom_100 : decode cX8_takeFrom 100 = .ok (.aload_n 0, 1) := by decide +kernel
theorem dX8_takeFrom_101 : decode cX8_takeFrom 101 = .ok (.iload_n 3, 1) := by decide +kernel
theorem dX8_takeFrom_102 : decode cX8_takeFrom 102 = .ok (.iload 7, 2) := by decide +kernel
theorem dX8_takeFrom_104 : decode cX8_takeFrom 104 = .ok (.iadd, 1) := by decide +kernel
theorem dX8_takeFrom_105 : decode cX8_takeFrom 105 = .ok (.aload_n 1, 1) := by decide +kernel
theorem dX8_takeFrom_106 : decode cX8_takeFrom 106 = .ok (.iload_n 2, 1) := by decide +kernel
theorem dX8_takeFrom_107 : decode cX8_takeFrom 107 = .ok (.iload 7, 2) := by decide +kernel
theorem dX8_takeFrom_109 : decode cX8_takeFrom 109 = .ok (.iadd, 1) := by decide +kernel
theorem dX8_takeFrom_110 : decode cX8_takeFrom 110 = .ok (.invokevirtual 62, 3) := by decide +kernel
theorem dX8_takeFrom_113 : decode cX8_takeFrom 113 = .ok (.invokevirtual 66, 3) := by decide +kernel
theorem dX8_takeFrom_116 : decode cX8_takeFrom 116 = .ok (.ifCond .ne 5, 3) := by decide +kernel
theorem dX8_takeFrom_119 : decode cX8_takeFrom 119 = .ok (.iconst 0, 1) := by decide +kernel
theorem dX8_takeFrom_120 : decode cX8_takeFrom 120 = .ok (.ireturn, 1) := by decide +kernel
theorem dX8_takeFrom_121 : decode cX8_takeFrom 121 = .ok (.iinc 6 1, 3) := by decide +kernel
theorem dX8_takeFrom_124 : decode cX8_takeFrom 124 = .ok (.goto (-50), 3) := by decide +kernel
theorem dX8_takeFrom_127 : decode cX8_takeFrom 127 = .ok (.iconst 1, 1) := by decide +kernel
theorem dX8_takeFrom_128 : decode cX8_takeFrom 128 = .ok (.ireturn, 1) := by decide +kernel
theorem dX9_init_0 : decode cX9_init 0 = .ok (.aload_n 0, 1) := by decide +kernel
theorem dX9_init_1 : decode cX9_init 1 = .ok (.invokespecial 1, 3) := by decide +kernel
theorem dX9_init_4 : decode cX9_init 4 = .ok (.return_, 1) := by decide +kernel
theorem dX10_init_0 : decode cX10_init 0 = .ok (.aload_n 0, 1) := by decide +kernel
theorem dX10_init_1 : decode cX10_init 1 = .ok (.invokespecial 3, 3) := by decide +kernel
theorem dX10_init_4 : decode cX10_init 4 = .ok (.return_, 1) := by decide +kernel
theorem dX10_kind_0 : decode cX10_kind 0 = .ok (.bipush 15, 2) := by decide +kernel
theorem dX10_kind_2 : decode cX10_kind 2 = .ok (.ireturn, 1) := by decide +kernel
theorem dX10_span_0 : decode cX10_span 0 = .ok (.sipush 360, 3) := by decide +kernel
theorem dX10_span_3 : decode cX10_span 3 = .ok (.ireturn, 1) := by decide +kernel
theorem dX10_rank_0 : decode cX10_rank 0 = .ok (.iconst 2, 1) := by decide +kernel
theorem dX10_rank_1 : decode cX10_rank 1 = .ok (.aload_n 0, 1) := by decide +kernel
theorem dX10_rank_2 : decode cX10_rank 2 = .ok (.invokespecial 9, 3) := by decide +kernel
theorem dX10_rank_5 : decode cX10_rank 5 = .ok (.imul, 1) := by decide +kernel
theorem dX10_rank_6 : decode cX10_rank 6 = .ok (.ireturn, 1) := by decide +kernel
theorem dX10_withinTurn_0 : decode cX10_withinTurn 0 = .ok (.ldc2_w 13, 3) := by decide +kernel
theorem dX10_withinTurn_3 : decode cX10_withinTurn 3 = .ok (.invokestatic 15, 3) := by decide +kernel
theorem dX10_withinTurn_6 : decode cX10_withinTurn 6 = .ok (.lstore_n 3, 1) := by decide +kernel
theorem dX10_withinTurn_7 : decode cX10_withinTurn 7 = .ok (.lload_n 1, 1) := by decide +kernel
theorem dX10_withinTurn_8 : decode cX10_withinTurn 8 = .ok (.lload_n 3, 1) := by decide +kernel
theorem dX10_withinTurn_9 : decode cX10_withinTurn 9 = .ok (.invokestatic 21, 3) := by decide +kernel
theorem dX10_withinTurn_12 : decode cX10_withinTurn 12 = .ok (.invokestatic 25, 3) := by decide +kernel
theorem dX10_withinTurn_15 : decode cX10_withinTurn 15 = .ok (.lstore 5, 2) := by decide +kernel
theorem dX10_withinTurn_17 : decode cX10_withinTurn 17 = .ok (.lload_n 1, 1) := by decide +kernel
theorem dX10_withinTurn_18 : decode cX10_withinTurn 18 = .ok (.lload_n 3, 1) := by decide +kernel
theorem dX10_withinTurn_19 : decode cX10_withinTurn 19 = .ok (.lload 5, 2) := by decide +kernel
theorem dX10_withinTurn_21 : decode cX10_withinTurn 21 = .ok (.invokestatic 28, 3) := by decide +kernel
theorem dX10_withinTurn_24 : decode cX10_withinTurn 24 = .ok (.invokestatic 31, 3) := by decide +kernel
theorem dX10_withinTurn_27 : decode cX10_withinTurn 27 = .ok (.invokestatic 34, 3) := by decide +kernel
theorem dX10_withinTurn_30 : decode cX10_withinTurn 30 = .ok (.lreturn, 1) := by decide +kernel
theorem dX10_comeToRest_0 : decode cX10_comeToRest 0 = .ok (.aload_n 0, 1) := by decide +kernel
theorem dX10_comeToRest_1 : decode cX10_comeToRest 1 = .ok (.invokevirtual 37, 3) := by decide +kernel
theorem dX10_comeToRest_4 : decode cX10_comeToRest 4 = .ok (.aload_n 0, 1) := by decide +kernel
theorem dX10_comeToRest_5 : decode cX10_comeToRest 5 = .ok (.invokevirtual 42, 3) := by decide +kernel
theorem dX10_comeToRest_8 : decode cX10_comeToRest 8 = .ok (.return_, 1) := by decide +kernel
theorem dJ7_fill_d0a16_0 : decode cJ7_fill_d0a16 0 = .ok (.iconst 0, 1) := by decide +kernel
theorem dJ7_fill_d0a16_1 : decode cJ7_fill_d0a16 1 = .ok (.istore_n 3, 1) := by decide +kernel
theorem dJ7_fill_d0a16_2 : decode cJ7_fill_d0a16 2 = .ok (.aload_n 0, 1) := by decide +kernel
theorem dJ7_fill_d0a16_3 : decode cJ7_fill_d0a16 3 = .ok (.arraylength, 1) := by decide +kernel
theorem dJ7_fill_d0a16_4 : decode cJ7_fill_d0a16 4 = .ok (.istore 4, 2) := by decide +kernel
theorem dJ7_fill_d0a16_6 : decode cJ7_fill_d0a16 6 = .ok (.iload_n 3, 1) := by decide +kernel
theorem dJ7_fill_d0a16_7 : decode cJ7_fill_d0a16 7 = .ok (.iload 4, 2) := by decide +kernel
theorem dJ7_fill_d0a16_9 : decode cJ7_fill_d0a16 9 = .ok (.if_icmp .ge 13, 3) := by decide +kernel
theorem dJ7_fill_d0a16_12 : decode cJ7_fill_d0a16 12 = .ok (.aload_n 0, 1) := by decide +kernel
theorem dJ7_fill_d0a16_13 : decode cJ7_fill_d0a16 13 = .ok (.iload_n 3, 1) := by decide +kernel
theorem dJ7_fill_d0a16_14 : decode cJ7_fill_d0a16 14 = .ok (.lload_n 1, 1) := by decide +kernel
theorem dJ7_fill_d0a16_15 : decode cJ7_fill_d0a16 15 = .ok (.lastore, 1) := by decide +kernel
theorem dJ7_fill_d0a16_16 : decode cJ7_fill_d0a16 16 = .ok (.iinc 3 1, 3) := by decide +kernel
theorem dJ7_fill_d0a16_19 : decode cJ7_fill_d0a16 19 = .ok (.goto (-13), 3) := by decide +kernel
theorem dJ7_fill_d0a16_22 : decode cJ7_fill_d0a16 22 = .ok (.return_, 1) := by decide +kernel
theorem dL_place_0 : decode cL_place 0 = .ok (.aload_n 3, 1) := by decide +kernel
theorem dL_place_1 : decode cL_place 1 = .ok (.iconst 0, 1) := by decide +kernel
theorem dL_place_2 : decode cL_place 2 = .ok (.aload_n 0, 1) := by decide +kernel
theorem dL_place_3 : decode cL_place 3 = .ok (.iload_n 1, 1) := by decide +kernel
theorem dL_place_4 : decode cL_place 4 = .ok (.iload_n 2, 1) := by decide +kernel
theorem dL_place_5 : decode cL_place 5 = .ok (.invokevirtual 7, 3) := by decide +kernel
theorem dL_place_8 : decode cL_place 8 = .ok (.lastore, 1) := by decide +kernel
theorem dL_place_9 : decode cL_place 9 = .ok (.goto 11, 3) := by decide +kernel
theorem dL_place_12 : decode cL_place 12 = .ok (.astore 4, 2) := by decide +kernel
theorem dL_place_14 : decode cL_place 14 = .ok (.iconst 1, 1) := by decide +kernel
theorem dL_place_15 : decode cL_place 15 = .ok (.ireturn, 1) := by decide +kernel
theorem dL_place_16 : decode cL_place 16 = .ok (.astore 4, 2) := by decide +kernel
theorem dL_place_18 : decode cL_place 18 = .ok (.iconst 2, 1) := by decide +kernel
theorem dL_place_19 : decode cL_place 19 = .ok (.ireturn, 1) := by decide +kernel
theorem dL_place_20 : decode cL_place 20 = .ok (.iconst 0, 1) := by decide +kernel
theorem dL_place_21 : decode cL_place 21 = .ok (.ireturn, 1) := by decide +kernel
theorem dL_law_0 : decode cL_law 0 = .ok (.new 8, 3) := by decide +kernel
theorem dL_law_3 : decode cL_law 3 = .ok (.dup, 1) := by decide +kernel
theorem dL_law_4 : decode cL_law 4 = .ok (.invokespecial 17, 3) := by decide +kernel
theorem dL_law_7 : decode cL_law 7 = .ok (.astore_n 1, 1) := by decide +kernel
theorem dL_law_8 : decode cL_law 8 = .ok (.new 18, 3) := by decide +kernel
theorem dL_law_11 : decode cL_law 11 = .ok (.dup, 1) := by decide +kernel
theorem dL_law_12 : decode cL_law 12 = .ok (.invokespecial 20, 3) := by decide +kernel
theorem dL_law_15 : decode cL_law 15 = .ok (.astore_n 2, 1) := by decide +kernel
theorem dL_law_16 : decode cL_law 16 = .ok (.iconst 1, 1) := by decide +kernel
theorem dL_law_17 : decode cL_law 17 = .ok (.newarray .long, 2) := by decide +kernel
theorem dL_law_19 : decode cL_law 19 = .ok (.astore_n 3, 1) := by decide +kernel
theorem dL_law_20 : decode cL_law 20 = .ok (.iconst 0, 1) := by decide +kernel
theorem dL_law_21 : decode cL_law 21 = .ok (.istore 4, 2) := by decide +kernel
theorem dL_law_23 : decode cL_law 23 = .ok (.iload 4, 2) := by decide +kernel
theorem dL_law_25 : decode cL_law 25 = .ok (.aload_n 0, 1) := by decide +kernel
theorem dL_law_26 : decode cL_law 26 = .ok (.arraylength, 1) := by decide +kernel
theorem dL_law_27 : decode cL_law 27 = .ok (.iconst 5, 1) := by decide +kernel
theorem dL_law_28 : decode cL_law 28 = .ok (.isub, 1) := by decide +kernel
theorem dL_law_29 : decode cL_law 29 = .ok (.if_icmp .gt 452, 3) := by decide +kernel
theorem dL_law_32 : decode cL_law 32 = .ok (.aload_n 0, 1) := by decide +kernel
theorem dL_law_33 : decode cL_law 33 = .ok (.iload 4, 2) := by decide +kernel
theorem dL_law_35 : decode cL_law 35 = .ok (.iaload, 1) := by decide +kernel
theorem dL_law_36 : decode cL_law 36 = .ok (.bipush 15, 2) := by decide +kernel
theorem dL_law_38 : decode cL_law 38 = .ok (.iand, 1) := by decide +kernel
theorem dL_law_39 : decode cL_law 39 = .ok (.tableswitch 436 0 11 #[61, 122, 133, 180, 205, 230, 256, 282, 319, 386, 412, 425], 61) := by decide +kernel
theorem dL_law_100 : decode cL_law 100 = .ok (.aload_n 1, 1) := by decide +kernel
theorem dL_law_101 : decode cL_law 101 = .ok (.aload_n 0, 1) := by decide +kernel
theorem dL_law_102 : decode cL_law 102 = .ok (.iload 4, 2) := by decide +kernel
theorem dL_law_104 : decode cL_law 104 = .ok (.iconst 1, 1) := by decide +kernel
theorem dL_law_105 : decode cL_law 105 = .ok (.iadd, 1) := by decide +kernel
theorem dL_law_106 : decode cL_law 106 = .ok (.iaload, 1) := by decide +kernel
theorem dL_law_107 : decode cL_law 107 = .ok (.aload_n 0, 1) := by decide +kernel
theorem dL_law_108 : decode cL_law 108 = .ok (.iload 4, 2) := by decide +kernel
theorem dL_law_110 : decode cL_law 110 = .ok (.iconst 2, 1) := by decide +kernel
theorem dL_law_111 : decode cL_law 111 = .ok (.iadd, 1) := by decide +kernel
theorem dL_law_112 : decode cL_law 112 = .ok (.iaload, 1) := by decide +kernel
theorem dL_law_113 : decode cL_law 113 = .ok (.aload_n 0, 1) := by decide +kernel
theorem dL_law_114 : decode cL_law 114 = .ok (.iload 4, 2) := by decide +kernel
theorem dL_law_116 : decode cL_law 116 = .ok (.iconst 3, 1) := by decide +kernel
theorem dL_law_117 : decode cL_law 117 = .ok (.iadd, 1) := by decide +kernel
theorem dL_law_118 : decode cL_law 118 = .ok (.iaload, 1) := by decide +kernel
theorem dL_law_119 : decode cL_law 119 = .ok (.aload_n 0, 1) := by decide +kernel
theorem dL_law_120 : decode cL_law 120 = .ok (.iload 4, 2) := by decide +kernel
theorem dL_law_122 : decode cL_law 122 = .ok (.iconst 4, 1) := by decide +kernel
theorem dL_law_123 : decode cL_law 123 = .ok (.iadd, 1) := by decide +kernel
theorem dL_law_124 : decode cL_law 124 = .ok (.iaload, 1) := by decide +kernel
theorem dL_law_125 : decode cL_law 125 = .ok (.invokevirtual 21, 3) := by decide +kernel
theorem dL_law_128 : decode cL_law 128 = .ok (.aload_n 2, 1) := by decide +kernel
theorem dL_law_129 : decode cL_law 129 = .ok (.aload_n 0, 1) := by decide +kernel
theorem dL_law_130 : decode cL_law 130 = .ok (.iload 4, 2) := by decide +kernel
theorem dL_law_132 : decode cL_law 132 = .ok (.iconst 1, 1) := by decide +kernel
theorem dL_law_133 : decode cL_law 133 = .ok (.iadd, 1) := by decide +kernel
theorem dL_law_134 : decode cL_law 134 = .ok (.iaload, 1) := by decide +kernel
theorem dL_law_135 : decode cL_law 135 = .ok (.aload_n 0, 1) := by decide +kernel
theorem dL_law_136 : decode cL_law 136 = .ok (.iload 4, 2) := by decide +kernel
theorem dL_law_138 : decode cL_law 138 = .ok (.iconst 2, 1) := by decide +kernel
theorem dL_law_139 : decode cL_law 139 = .ok (.iadd, 1) := by decide +kernel
theorem dL_law_140 : decode cL_law 140 = .ok (.iaload, 1) := by decide +kernel
theorem dL_law_141 : decode cL_law 141 = .ok (.aload_n 0, 1) := by decide +kernel
theorem dL_law_142 : decode cL_law 142 = .ok (.iload 4, 2) := by decide +kernel
theorem dL_law_144 : decode cL_law 144 = .ok (.iconst 3, 1) := by decide +kernel
theorem dL_law_145 : decode cL_law 145 = .ok (.iadd, 1) := by decide +kernel
theorem dL_law_146 : decode cL_law 146 = .ok (.iaload, 1) := by decide +kernel
theorem dL_law_147 : decode cL_law 147 = .ok (.aload_n 0, 1) := by decide +kernel
theorem dL_law_148 : decode cL_law 148 = .ok (.iload 4, 2) := by decide +kernel
theorem dL_law_150 : decode cL_law 150 = .ok (.iconst 4, 1) := by decide +kernel
theorem dL_law_151 : decode cL_law 151 = .ok (.iadd, 1) := by decide +kernel
theorem dL_law_152 : decode cL_law 152 = .ok (.iaload, 1) := by decide +kernel
theorem dL_law_153 : decode cL_law 153 = .ok (.invokevirtual 25, 3) := by decide +kernel
theorem dL_law_156 : decode cL_law 156 = .ok (.if_icmp .eq 319, 3) := by decide +kernel
theorem dL_law_159 : decode cL_law 159 = .ok (.iconst 0, 1) := by decide +kernel
theorem dL_law_160 : decode cL_law 160 = .ok (.ireturn, 1) := by decide +kernel
theorem dL_law_161 : decode cL_law 161 = .ok (.aload_n 1, 1) := by decide +kernel
theorem dL_law_162 : decode cL_law 162 = .ok (.invokevirtual 26, 3) := by decide +kernel
theorem dL_law_165 : decode cL_law 165 = .ok (.aload_n 2, 1) := by decide +kernel
theorem dL_law_166 : decode cL_law 166 = .ok (.invokevirtual 29, 3) := by decide +kernel
theorem dL_law_169 : decode cL_law 169 = .ok (.goto 306, 3) := by decide +kernel
theorem dL_law_172 : decode cL_law 172 = .ok (.aload_n 1, 1) := by decide +kernel
theorem dL_law_173 : decode cL_law 173 = .ok (.aload_n 0, 1) := by decide +kernel
theorem dL_law_174 : decode cL_law 174 = .ok (.iload 4, 2) := by decide +kernel
theorem dL_law_176 : decode cL_law 176 = .ok (.iconst 1, 1) := by decide +kernel
theorem dL_law_177 : decode cL_law 177 = .ok (.iadd, 1) := by decide +kernel
theorem dL_law_178 : decode cL_law 178 = .ok (.iaload, 1) := by decide +kernel
theorem dL_law_179 : decode cL_law 179 = .ok (.aload_n 0, 1) := by decide +kernel
theorem dL_law_180 : decode cL_law 180 = .ok (.iload 4, 2) := by decide +kernel
theorem dL_law_182 : decode cL_law 182 = .ok (.iconst 2, 1) := by decide +kernel
theorem dL_law_183 : decode cL_law 183 = .ok (.iadd, 1) := by decide +kernel
theorem dL_law_184 : decode cL_law 184 = .ok (.iaload, 1) := by decide +kernel
theorem dL_law_185 : decode cL_law 185 = .ok (.aload_n 0, 1) := by decide +kernel
theorem dL_law_186 : decode cL_law 186 = .ok (.iload 4, 2) := by decide +kernel
theorem dL_law_188 : decode cL_law 188 = .ok (.iconst 3, 1) := by decide +kernel
theorem dL_law_189 : decode cL_law 189 = .ok (.iadd, 1) := by decide +kernel
theorem dL_law_190 : decode cL_law 190 = .ok (.iaload, 1) := by decide +kernel
theorem dL_law_191 : decode cL_law 191 = .ok (.invokevirtual 30, 3) := by decide +kernel
theorem dL_law_194 : decode cL_law 194 = .ok (.aload_n 2, 1) := by decide +kernel
theorem dL_law_195 : decode cL_law 195 = .ok (.aload_n 0, 1) := by decide +kernel
theorem dL_law_196 : decode cL_law 196 = .ok (.iload 4, 2) := by decide +kernel
theorem dL_law_198 : decode cL_law 198 = .ok (.iconst 1, 1) := by decide +kernel
theorem dL_law_199 : decode cL_law 199 = .ok (.iadd, 1) := by decide +kernel
theorem dL_law_200 : decode cL_law 200 = .ok (.iaload, 1) := by decide +kernel
theorem dL_law_201 : decode cL_law 201 = .ok (.aload_n 0, 1) := by decide +kernel
theorem dL_law_202 : decode cL_law 202 = .ok (.iload 4, 2) := by decide +kernel
theorem dL_law_204 : decode cL_law 204 = .ok (.iconst 2, 1) := by decide +kernel
theorem dL_law_205 : decode cL_law 205 = .ok (.iadd, 1) := by decide +kernel
theorem dL_law_206 : decode cL_law 206 = .ok (.iaload, 1) := by decide +kernel
theorem dL_law_207 : decode cL_law 207 = .ok (.aload_n 0, 1) := by decide +kernel
theorem dL_law_208 : decode cL_law 208 = .ok (.iload 4, 2) := by decide +kernel
theorem dL_law_210 : decode cL_law 210 = .ok (.iconst 3, 1) := by decide +kernel
theorem dL_law_211 : decode cL_law 211 = .ok (.iadd, 1) := by decide +kernel
theorem dL_law_212 : decode cL_law 212 = .ok (.iaload, 1) := by decide +kernel
theorem dL_law_213 : decode cL_law 213 = .ok (.invokevirtual 34, 3) := by decide +kernel
theorem dL_law_216 : decode cL_law 216 = .ok (.goto 259, 3) := by decide +kernel
theorem dL_law_219 : decode cL_law 219 = .ok (.aload_n 1, 1) := by decide +kernel
theorem dL_law_220 : decode cL_law 220 = .ok (.aload_n 0, 1) := by decide +kernel
theorem dL_law_221 : decode cL_law 221 = .ok (.iload 4, 2) := by decide +kernel
theorem dL_law_223 : decode cL_law 223 = .ok (.iconst 1, 1) := by decide +kernel
theorem dL_law_224 : decode cL_law 224 = .ok (.iadd, 1) := by decide +kernel
theorem dL_law_225 : decode cL_law 225 = .ok (.iaload, 1) := by decide +kernel
theorem dL_law_226 : decode cL_law 226 = .ok (.invokevirtual 35, 3) := by decide +kernel
theorem dL_law_229 : decode cL_law 229 = .ok (.aload_n 2, 1) := by decide +kernel
theorem dL_law_230 : decode cL_law 230 = .ok (.aload_n 0, 1) := by decide +kernel
theorem dL_law_231 : decode cL_law 231 = .ok (.iload 4, 2) := by decide +kernel
theorem dL_law_233 : decode cL_law 233 = .ok (.iconst 1, 1) := by decide +kernel
theorem dL_law_234 : decode cL_law 234 = .ok (.iadd, 1) := by decide +kernel
theorem dL_law_235 : decode cL_law 235 = .ok (.iaload, 1) := by decide +kernel
theorem dL_law_236 : decode cL_law 236 = .ok (.invokevirtual 39, 3) := by decide +kernel
theorem dL_law_239 : decode cL_law 239 = .ok (.if_icmp .eq 236, 3) := by decide +kernel
theorem dL_law_242 : decode cL_law 242 = .ok (.iconst 0, 1) := by decide +kernel
theorem dL_law_243 : decode cL_law 243 = .ok (.ireturn, 1) := by decide +kernel
theorem dL_law_244 : decode cL_law 244 = .ok (.aload_n 1, 1) := by decide +kernel
theorem dL_law_245 : decode cL_law 245 = .ok (.aload_n 0, 1) := by decide +kernel
theorem dL_law_246 : decode cL_law 246 = .ok (.iload 4, 2) := by decide +kernel
theorem dL_law_248 : decode cL_law 248 = .ok (.iconst 1, 1) := by decide +kernel
theorem dL_law_249 : decode cL_law 249 = .ok (.iadd, 1) := by decide +kernel
theorem dL_law_250 : decode cL_law 250 = .ok (.iaload, 1) := by decide +kernel
theorem dL_law_251 : decode cL_law 251 = .ok (.invokevirtual 40, 3) := by decide +kernel
theorem dL_law_254 : decode cL_law 254 = .ok (.aload_n 2, 1) := by decide +kernel
theorem dL_law_255 : decode cL_law 255 = .ok (.aload_n 0, 1) := by decide +kernel
theorem dL_law_256 : decode cL_law 256 = .ok (.iload 4, 2) := by decide +kernel
theorem dL_law_258 : decode cL_law 258 = .ok (.iconst 1, 1) := by decide +kernel
theorem dL_law_259 : decode cL_law 259 = .ok (.iadd, 1) := by decide +kernel
theorem dL_law_260 : decode cL_law 260 = .ok (.iaload, 1) := by decide +kernel
theorem dL_law_261 : decode cL_law 261 = .ok (.invokevirtual 43, 3) := by decide +kernel
theorem dL_law_264 : decode cL_law 264 = .ok (.if_icmp .eq 211, 3) := by decide +kernel
theorem dL_law_267 : decode cL_law 267 = .ok (.iconst 0, 1) := by decide +kernel
theorem dL_law_268 : decode cL_law 268 = .ok (.ireturn, 1) := by decide +kernel
theorem dL_law_269 : decode cL_law 269 = .ok (.aload_n 1, 1) := by decide +kernel
theorem dL_law_270 : decode cL_law 270 = .ok (.aload_n 0, 1) := by decide +kernel
theorem dL_law_271 : decode cL_law 271 = .ok (.iload 4, 2) := by decide +kernel
theorem dL_law_273 : decode cL_law 273 = .ok (.iconst 1, 1) := by decide +kernel
theorem dL_law_274 : decode cL_law 274 = .ok (.iadd, 1) := by decide +kernel
theorem dL_law_275 : decode cL_law 275 = .ok (.iaload, 1) := by decide +kernel
theorem dL_law_276 : decode cL_law 276 = .ok (.invokevirtual 44, 3) := by decide +kernel
theorem dL_law_279 : decode cL_law 279 = .ok (.aload_n 2, 1) := by decide +kernel
theorem dL_law_280 : decode cL_law 280 = .ok (.aload_n 0, 1) := by decide +kernel
theorem dL_law_281 : decode cL_law 281 = .ok (.iload 4, 2) := by decide +kernel
theorem dL_law_283 : decode cL_law 283 = .ok (.iconst 1, 1) := by decide +kernel
theorem dL_law_284 : decode cL_law 284 = .ok (.iadd, 1) := by decide +kernel
theorem dL_law_285 : decode cL_law 285 = .ok (.iaload, 1) := by decide +kernel
theorem dL_law_286 : decode cL_law 286 = .ok (.invokevirtual 48, 3) := by decide +kernel
theorem dL_law_289 : decode cL_law 289 = .ok (.lcmp, 1) := by decide +kernel
theorem dL_law_290 : decode cL_law 290 = .ok (.ifCond .eq 185, 3) := by decide +kernel
theorem dL_law_293 : decode cL_law 293 = .ok (.iconst 0, 1) := by decide +kernel
theorem dL_law_294 : decode cL_law 294 = .ok (.ireturn, 1) := by decide +kernel
theorem dL_law_295 : decode cL_law 295 = .ok (.aload_n 1, 1) := by decide +kernel
theorem dL_law_296 : decode cL_law 296 = .ok (.aload_n 0, 1) := by decide +kernel
theorem dL_law_297 : decode cL_law 297 = .ok (.iload 4, 2) := by decide +kernel
theorem dL_law_299 : decode cL_law 299 = .ok (.iconst 1, 1) := by decide +kernel
theorem dL_law_300 : decode cL_law 300 = .ok (.iadd, 1) := by decide +kernel
theorem dL_law_301 : decode cL_law 301 = .ok (.iaload, 1) := by decide +kernel
theorem dL_law_302 : decode cL_law 302 = .ok (.invokevirtual 49, 3) := by decide +kernel
theorem dL_law_305 : decode cL_law 305 = .ok (.aload_n 2, 1) := by decide +kernel
theorem dL_law_306 : decode cL_law 306 = .ok (.aload_n 0, 1) := by decide +kernel
theorem dL_law_307 : decode cL_law 307 = .ok (.iload 4, 2) := by decide +kernel
theorem dL_law_309 : decode cL_law 309 = .ok (.iconst 1, 1) := by decide +kernel
theorem dL_law_310 : decode cL_law 310 = .ok (.iadd, 1) := by decide +kernel
theorem dL_law_311 : decode cL_law 311 = .ok (.iaload, 1) := by decide +kernel
theorem dL_law_312 : decode cL_law 312 = .ok (.invokevirtual 52, 3) := by decide +kernel
theorem dL_law_315 : decode cL_law 315 = .ok (.lcmp, 1) := by decide +kernel
theorem dL_law_316 : decode cL_law 316 = .ok (.ifCond .eq 159, 3) := by decide +kernel
theorem dL_law_319 : decode cL_law 319 = .ok (.iconst 0, 1) := by decide +kernel
theorem dL_law_320 : decode cL_law 320 = .ok (.ireturn, 1) := by decide +kernel
theorem dL_law_321 : decode cL_law 321 = .ok (.aload_n 1, 1) := by decide +kernel
theorem dL_law_322 : decode cL_law 322 = .ok (.aload_n 0, 1) := by decide +kernel
theorem dL_law_323 : decode cL_law 323 = .ok (.iload 4, 2) := by decide +kernel
theorem dL_law_325 : decode cL_law 325 = .ok (.iconst 1, 1) := by decide +kernel
theorem dL_law_326 : decode cL_law 326 = .ok (.iadd, 1) := by decide +kernel
theorem dL_law_327 : decode cL_law 327 = .ok (.iaload, 1) := by decide +kernel
theorem dL_law_328 : decode cL_law 328 = .ok (.aload_n 0, 1) := by decide +kernel
theorem dL_law_329 : decode cL_law 329 = .ok (.iload 4, 2) := by decide +kernel
theorem dL_law_331 : decode cL_law 331 = .ok (.iconst 2, 1) := by decide +kernel
theorem dL_law_332 : decode cL_law 332 = .ok (.iadd, 1) := by decide +kernel
theorem dL_law_333 : decode cL_law 333 = .ok (.iaload, 1) := by decide +kernel
theorem dL_law_334 : decode cL_law 334 = .ok (.invokevirtual 53, 3) := by decide +kernel
theorem dL_law_337 : decode cL_law 337 = .ok (.aload_n 2, 1) := by decide +kernel
theorem dL_law_338 : decode cL_law 338 = .ok (.aload_n 0, 1) := by decide +kernel
theorem dL_law_339 : decode cL_law 339 = .ok (.iload 4, 2) := by decide +kernel
theorem dL_law_341 : decode cL_law 341 = .ok (.iconst 1, 1) := by decide +kernel
theorem dL_law_342 : decode cL_law 342 = .ok (.iadd, 1) := by decide +kernel
theorem dL_law_343 : decode cL_law 343 = .ok (.iaload, 1) := by decide +kernel
theorem dL_law_344 : decode cL_law 344 = .ok (.aload_n 0, 1) := by decide +kernel
theorem dL_law_345 : decode cL_law 345 = .ok (.iload 4, 2) := by decide +kernel
theorem dL_law_347 : decode cL_law 347 = .ok (.iconst 2, 1) := by decide +kernel
theorem dL_law_348 : decode cL_law 348 = .ok (.iadd, 1) := by decide +kernel
theorem dL_law_349 : decode cL_law 349 = .ok (.iaload, 1) := by decide +kernel
theorem dL_law_350 : decode cL_law 350 = .ok (.invokevirtual 57, 3) := by decide +kernel
theorem dL_law_353 : decode cL_law 353 = .ok (.if_icmp .eq 122, 3) := by decide +kernel
theorem dL_law_356 : decode cL_law 356 = .ok (.iconst 0, 1) := by decide +kernel
theorem dL_law_357 : decode cL_law 357 = .ok (.ireturn, 1) := by decide +kernel
theorem dL_law_358 : decode cL_law 358 = .ok (.aload_n 1, 1) := by decide +kernel
theorem dL_law_359 : decode cL_law 359 = .ok (.aload_n 0, 1) := by decide +kernel
theorem dL_law_360 : decode cL_law 360 = .ok (.iload 4, 2) := by decide +kernel
theorem dL_law_362 : decode cL_law 362 = .ok (.iconst 1, 1) := by decide +kernel
theorem dL_law_363 : decode cL_law 363 = .ok (.iadd, 1) := by decide +kernel
theorem dL_law_364 : decode cL_law 364 = .ok (.iaload, 1) := by decide +kernel
theorem dL_law_365 : decode cL_law 365 = .ok (.aload_n 0, 1) := by decide +kernel
theorem dL_law_366 : decode cL_law 366 = .ok (.iload 4, 2) := by decide +kernel
theorem dL_law_368 : decode cL_law 368 = .ok (.iconst 2, 1) := by decide +kernel
theorem dL_law_369 : decode cL_law 369 = .ok (.iadd, 1) := by decide +kernel
theorem dL_law_370 : decode cL_law 370 = .ok (.iaload, 1) := by decide +kernel
theorem dL_law_371 : decode cL_law 371 = .ok (.aload_n 3, 1) := by decide +kernel
theorem dL_law_372 : decode cL_law 372 = .ok (.invokestatic 58, 3) := by decide +kernel
theorem dL_law_375 : decode cL_law 375 = .ok (.istore 5, 2) := by decide +kernel
theorem dL_law_377 : decode cL_law 377 = .ok (.aload_n 2, 1) := by decide +kernel
theorem dL_law_378 : decode cL_law 378 = .ok (.aload_n 0, 1) := by decide +kernel
theorem dL_law_379 : decode cL_law 379 = .ok (.iload 4, 2) := by decide +kernel
theorem dL_law_381 : decode cL_law 381 = .ok (.iconst 1, 1) := by decide +kernel
theorem dL_law_382 : decode cL_law 382 = .ok (.iadd, 1) := by decide +kernel
theorem dL_law_383 : decode cL_law 383 = .ok (.iaload, 1) := by decide +kernel
theorem dL_law_384 : decode cL_law 384 = .ok (.aload_n 0, 1) := by decide +kernel
theorem dL_law_385 : decode cL_law 385 = .ok (.iload 4, 2) := by decide +kernel
theorem dL_law_387 : decode cL_law 387 = .ok (.iconst 2, 1) := by decide +kernel
theorem dL_law_388 : decode cL_law 388 = .ok (.iadd, 1) := by decide +kernel
theorem dL_law_389 : decode cL_law 389 = .ok (.iaload, 1) := by decide +kernel
theorem dL_law_390 : decode cL_law 390 = .ok (.invokevirtual 63, 3) := by decide +kernel
theorem dL_law_393 : decode cL_law 393 = .ok (.lstore 6, 2) := by decide +kernel
theorem dL_law_395 : decode cL_law 395 = .ok (.aload_n 2, 1) := by decide +kernel
theorem dL_law_396 : decode cL_law 396 = .ok (.invokevirtual 64, 3) := by decide +kernel
theorem dL_law_399 : decode cL_law 399 = .ok (.iload 5, 2) := by decide +kernel
theorem dL_law_401 : decode cL_law 401 = .ok (.if_icmp .eq 5, 3) := by decide +kernel
theorem dL_law_404 : decode cL_law 404 = .ok (.iconst 0, 1) := by decide +kernel
theorem dL_law_405 : decode cL_law 405 = .ok (.ireturn, 1) := by decide +kernel
theorem dL_law_406 : decode cL_law 406 = .ok (.iload 5, 2) := by decide +kernel
theorem dL_law_408 : decode cL_law 408 = .ok (.ifCond .ne 14, 3) := by decide +kernel
theorem dL_law_411 : decode cL_law 411 = .ok (.aload_n 3, 1) := by decide +kernel
theorem dL_law_412 : decode cL_law 412 = .ok (.iconst 0, 1) := by decide +kernel
theorem dL_law_413 : decode cL_law 413 = .ok (.laload, 1) := by decide +kernel
theorem dL_law_414 : decode cL_law 414 = .ok (.lload 6, 2) := by decide +kernel
theorem dL_law_416 : decode cL_law 416 = .ok (.lcmp, 1) := by decide +kernel
theorem dL_law_417 : decode cL_law 417 = .ok (.ifCond .eq 5, 3) := by decide +kernel
theorem dL_law_420 : decode cL_law 420 = .ok (.iconst 0, 1) := by decide +kernel
theorem dL_law_421 : decode cL_law 421 = .ok (.ireturn, 1) := by decide +kernel
theorem dL_law_422 : decode cL_law 422 = .ok (.goto 53, 3) := by decide +kernel
theorem dL_law_425 : decode cL_law 425 = .ok (.aload_n 1, 1) := by decide +kernel
theorem dL_law_426 : decode cL_law 426 = .ok (.aload_n 0, 1) := by decide +kernel
theorem dL_law_427 : decode cL_law 427 = .ok (.iload 4, 2) := by decide +kernel
theorem dL_law_429 : decode cL_law 429 = .ok (.iconst 1, 1) := by decide +kernel
theorem dL_law_430 : decode cL_law 430 = .ok (.iadd, 1) := by decide +kernel
theorem dL_law_431 : decode cL_law 431 = .ok (.iaload, 1) := by decide +kernel
theorem dL_law_432 : decode cL_law 432 = .ok (.invokevirtual 68, 3) := by decide +kernel
theorem dL_law_435 : decode cL_law 435 = .ok (.aload_n 2, 1) := by decide +kernel
theorem dL_law_436 : decode cL_law 436 = .ok (.aload_n 0, 1) := by decide +kernel
theorem dL_law_437 : decode cL_law 437 = .ok (.iload 4, 2) := by decide +kernel
theorem dL_law_439 : decode cL_law 439 = .ok (.iconst 1, 1) := by decide +kernel
theorem dL_law_440 : decode cL_law 440 = .ok (.iadd, 1) := by decide +kernel
theorem dL_law_441 : decode cL_law 441 = .ok (.iaload, 1) := by decide +kernel
theorem dL_law_442 : decode cL_law 442 = .ok (.invokevirtual 71, 3) := by decide +kernel
theorem dL_law_445 : decode cL_law 445 = .ok (.lcmp, 1) := by decide +kernel
theorem dL_law_446 : decode cL_law 446 = .ok (.ifCond .eq 29, 3) := by decide +kernel
theorem dL_law_449 : decode cL_law 449 = .ok (.iconst 0, 1) := by decide +kernel
theorem dL_law_450 : decode cL_law 450 = .ok (.ireturn, 1) := by decide +kernel
theorem dL_law_451 : decode cL_law 451 = .ok (.aload_n 1, 1) := by decide +kernel
theorem dL_law_452 : decode cL_law 452 = .ok (.invokevirtual 72, 3) := by decide +kernel
theorem dL_law_455 : decode cL_law 455 = .ok (.aload_n 2, 1) := by decide +kernel
theorem dL_law_456 : decode cL_law 456 = .ok (.invokevirtual 75, 3) := by decide +kernel
theorem dL_law_459 : decode cL_law 459 = .ok (.if_icmp .eq 16, 3) := by decide +kernel
theorem dL_law_462 : decode cL_law 462 = .ok (.iconst 0, 1) := by decide +kernel
theorem dL_law_463 : decode cL_law 463 = .ok (.ireturn, 1) := by decide +kernel
theorem dL_law_464 : decode cL_law 464 = .ok (.aload_n 1, 1) := by decide +kernel
theorem dL_law_465 : decode cL_law 465 = .ok (.invokevirtual 76, 3) := by decide +kernel
theorem dL_law_468 : decode cL_law 468 = .ok (.aload_n 2, 1) := by decide +kernel
theorem dL_law_469 : decode cL_law 469 = .ok (.invokevirtual 79, 3) := by decide +kernel
theorem dL_law_472 : decode cL_law 472 = .ok (.goto 3, 3) := by decide +kernel
theorem dL_law_475 : decode cL_law 475 = .ok (.iinc 4 5, 3) := by decide +kernel
theorem dL_law_478 : decode cL_law 478 = .ok (.goto (-455), 3) := by decide +kernel
theorem dL_law_481 : decode cL_law 481 = .ok (.iconst 1, 1) := by decide +kernel
theorem dL_law_482 : decode cL_law 482 = .ok (.ireturn, 1) := by decide +kernel
