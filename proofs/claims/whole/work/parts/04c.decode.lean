/-! decode rows: X11 -/
theorem dX11_init_0 : decode cX11_init 0 = .ok (.aload_n 0, 1) := by decide +kernel
theorem dX11_init_1 : decode cX11_init 1 = .ok (.invokespecial 1, 3) := by decide +kernel
theorem dX11_init_4 : decode cX11_init 4 = .ok (.aload_n 0, 1) := by decide +kernel
theorem dX11_init_5 : decode cX11_init 5 = .ok (.sipush 400, 3) := by decide +kernel
theorem dX11_init_8 : decode cX11_init 8 = .ok (.newarray .int, 2) := by decide +kernel
theorem dX11_init_10 : decode cX11_init 10 = .ok (.putfield 9, 3) := by decide +kernel
theorem dX11_init_13 : decode cX11_init 13 = .ok (.aload_n 0, 1) := by decide +kernel
theorem dX11_init_14 : decode cX11_init 14 = .ok (.sipush 400, 3) := by decide +kernel
theorem dX11_init_17 : decode cX11_init 17 = .ok (.newarray .int, 2) := by decide +kernel
theorem dX11_init_19 : decode cX11_init 19 = .ok (.putfield 13, 3) := by decide +kernel
theorem dX11_init_22 : decode cX11_init 22 = .ok (.aload_n 0, 1) := by decide +kernel
theorem dX11_init_23 : decode cX11_init 23 = .ok (.sipush 400, 3) := by decide +kernel
theorem dX11_init_26 : decode cX11_init 26 = .ok (.newarray .int, 2) := by decide +kernel
theorem dX11_init_28 : decode cX11_init 28 = .ok (.putfield 16, 3) := by decide +kernel
theorem dX11_init_31 : decode cX11_init 31 = .ok (.aload_n 0, 1) := by decide +kernel
theorem dX11_init_32 : decode cX11_init 32 = .ok (.sipush 400, 3) := by decide +kernel
theorem dX11_init_35 : decode cX11_init 35 = .ok (.newarray .int, 2) := by decide +kernel
theorem dX11_init_37 : decode cX11_init 37 = .ok (.putfield 19, 3) := by decide +kernel
theorem dX11_init_40 : decode cX11_init 40 = .ok (.aload_n 0, 1) := by decide +kernel
theorem dX11_init_41 : decode cX11_init 41 = .ok (.iconst 0, 1) := by decide +kernel
theorem dX11_init_42 : decode cX11_init 42 = .ok (.putfield 22, 3) := by decide +kernel
theorem dX11_init_45 : decode cX11_init 45 = .ok (.aload_n 0, 1) := by decide +kernel
theorem dX11_init_46 : decode cX11_init 46 = .ok (.new 26, 3) := by decide +kernel
theorem dX11_init_49 : decode cX11_init 49 = .ok (.dup, 1) := by decide +kernel
theorem dX11_init_50 : decode cX11_init 50 = .ok (.invokespecial 28, 3) := by decide +kernel
theorem dX11_init_53 : decode cX11_init 53 = .ok (.putfield 29, 3) := by decide +kernel
theorem dX11_init_56 : decode cX11_init 56 = .ok (.aload_n 0, 1) := by decide +kernel
theorem dX11_init_57 : decode cX11_init 57 = .ok (.sipush 200, 3) := by decide +kernel
theorem dX11_init_60 : decode cX11_init 60 = .ok (.newarray .long, 2) := by decide +kernel
theorem dX11_init_62 : decode cX11_init 62 = .ok (.putfield 33, 3) := by decide +kernel
theorem dX11_init_65 : decode cX11_init 65 = .ok (.aload_n 0, 1) := by decide +kernel
theorem dX11_init_66 : decode cX11_init 66 = .ok (.iconst 0, 1) := by decide +kernel
theorem dX11_init_67 : decode cX11_init 67 = .ok (.putfield 37, 3) := by decide +kernel
theorem dX11_init_70 : decode cX11_init 70 = .ok (.aload_n 0, 1) := by decide +kernel
theorem dX11_init_71 : decode cX11_init 71 = .ok (.iconst 0, 1) := by decide +kernel
theorem dX11_init_72 : decode cX11_init 72 = .ok (.putfield 40, 3) := by decide +kernel
theorem dX11_init_75 : decode cX11_init 75 = .ok (.aload_n 0, 1) := by decide +kernel
theorem dX11_init_76 : decode cX11_init 76 = .ok (.iconst 0, 1) := by decide +kernel
theorem dX11_init_77 : decode cX11_init 77 = .ok (.putfield 43, 3) := by decide +kernel
theorem dX11_init_80 : decode cX11_init 80 = .ok (.aload_n 0, 1) := by decide +kernel
theorem dX11_init_81 : decode cX11_init 81 = .ok (.iconst 0, 1) := by decide +kernel
theorem dX11_init_82 : decode cX11_init 82 = .ok (.putfield 46, 3) := by decide +kernel
theorem dX11_init_85 : decode cX11_init 85 = .ok (.aload_n 0, 1) := by decide +kernel
theorem dX11_init_86 : decode cX11_init 86 = .ok (.iconst 0, 1) := by decide +kernel
theorem dX11_init_87 : decode cX11_init 87 = .ok (.putfield 49, 3) := by decide +kernel
theorem dX11_init_90 : decode cX11_init 90 = .ok (.aload_n 0, 1) := by decide +kernel
theorem dX11_init_91 : decode cX11_init 91 = .ok (.iconst (-1), 1) := by decide +kernel
theorem dX11_init_92 : decode cX11_init 92 = .ok (.putfield 52, 3) := by decide +kernel
theorem dX11_init_95 : decode cX11_init 95 = .ok (.aload_n 0, 1) := by decide +kernel
theorem dX11_init_96 : decode cX11_init 96 = .ok (.iconst 0, 1) := by decide +kernel
theorem dX11_init_97 : decode cX11_init 97 = .ok (.putfield 55, 3) := by decide +kernel
theorem dX11_init_100 : decode cX11_init 100 = .ok (.aload_n 0, 1) := by decide +kernel
theorem dX11_init_101 : decode cX11_init 101 = .ok (.iconst (-1), 1) := by decide +kernel
theorem dX11_init_102 : decode cX11_init 102 = .ok (.putfield 58, 3) := by decide +kernel
theorem dX11_init_105 : decode cX11_init 105 = .ok (.aload_n 0, 1) := by decide +kernel
theorem dX11_init_106 : decode cX11_init 106 = .ok (.iconst (-1), 1) := by decide +kernel
theorem dX11_init_107 : decode cX11_init 107 = .ok (.putfield 61, 3) := by decide +kernel
theorem dX11_init_110 : decode cX11_init 110 = .ok (.return_, 1) := by decide +kernel
theorem dX11_order_0 : decode cX11_order 0 = .ok (.aload_n 0, 1) := by decide +kernel
theorem dX11_order_1 : decode cX11_order 1 = .ok (.getfield 22, 3) := by decide +kernel
theorem dX11_order_4 : decode cX11_order 4 = .ok (.sipush 400, 3) := by decide +kernel
theorem dX11_order_7 : decode cX11_order 7 = .ok (.if_icmp .lt 5, 3) := by decide +kernel
theorem dX11_order_10 : decode cX11_order 10 = .ok (.iconst (-1), 1) := by decide +kernel
theorem dX11_order_11 : decode cX11_order 11 = .ok (.ireturn, 1) := by decide +kernel
theorem dX11_order_12 : decode cX11_order 12 = .ok (.aload_n 0, 1) := by decide +kernel
theorem dX11_order_13 : decode cX11_order 13 = .ok (.getfield 9, 3) := by decide +kernel
theorem dX11_order_16 : decode cX11_order 16 = .ok (.aload_n 0, 1) := by decide +kernel
theorem dX11_order_17 : decode cX11_order 17 = .ok (.getfield 22, 3) := by decide +kernel
theorem dX11_order_20 : decode cX11_order 20 = .ok (.iload_n 1, 1) := by decide +kernel
theorem dX11_order_21 : decode cX11_order 21 = .ok (.iastore, 1) := by decide +kernel
theorem dX11_order_22 : decode cX11_order 22 = .ok (.aload_n 0, 1) := by decide +kernel
theorem dX11_order_23 : decode cX11_order 23 = .ok (.getfield 13, 3) := by decide +kernel
theorem dX11_order_26 : decode cX11_order 26 = .ok (.aload_n 0, 1) := by decide +kernel
theorem dX11_order_27 : decode cX11_order 27 = .ok (.getfield 22, 3) := by decide +kernel
theorem dX11_order_30 : decode cX11_order 30 = .ok (.iload_n 2, 1) := by decide +kernel
theorem dX11_order_31 : decode cX11_order 31 = .ok (.iastore, 1) := by decide +kernel
theorem dX11_order_32 : decode cX11_order 32 = .ok (.aload_n 0, 1) := by decide +kernel
theorem dX11_order_33 : decode cX11_order 33 = .ok (.getfield 16, 3) := by decide +kernel
theorem dX11_order_36 : decode cX11_order 36 = .ok (.aload_n 0, 1) := by decide +kernel
theorem dX11_order_37 : decode cX11_order 37 = .ok (.getfield 22, 3) := by decide +kernel
theorem dX11_order_40 : decode cX11_order 40 = .ok (.iload_n 3, 1) := by decide +kernel
theorem dX11_order_41 : decode cX11_order 41 = .ok (.iastore, 1) := by decide +kernel
theorem dX11_order_42 : decode cX11_order 42 = .ok (.aload_n 0, 1) := by decide +kernel
theorem dX11_order_43 : decode cX11_order 43 = .ok (.getfield 19, 3) := by decide +kernel
theorem dX11_order_46 : decode cX11_order 46 = .ok (.aload_n 0, 1) := by decide +kernel
theorem dX11_order_47 : decode cX11_order 47 = .ok (.getfield 22, 3) := by decide +kernel
theorem dX11_order_50 : decode cX11_order 50 = .ok (.iload 4, 2) := by decide +kernel
theorem dX11_order_52 : decode cX11_order 52 = .ok (.iastore, 1) := by decide +kernel
theorem dX11_order_53 : decode cX11_order 53 = .ok (.aload_n 0, 1) := by decide +kernel
theorem dX11_order_54 : decode cX11_order 54 = .ok (.dup, 1) := by decide +kernel
theorem dX11_order_55 : decode cX11_order 55 = .ok (.getfield 22, 3) := by decide +kernel
theorem dX11_order_58 : decode cX11_order 58 = .ok (.iconst 1, 1) := by decide +kernel
theorem dX11_order_59 : decode cX11_order 59 = .ok (.iadd, 1) := by decide +kernel
theorem dX11_order_60 : decode cX11_order 60 = .ok (.putfield 22, 3) := by decide +kernel
theorem dX11_order_63 : decode cX11_order 63 = .ok (.aload_n 0, 1) := by decide +kernel
theorem dX11_order_64 : decode cX11_order 64 = .ok (.getfield 22, 3) := by decide +kernel
theorem dX11_order_67 : decode cX11_order 67 = .ok (.ireturn, 1) := by decide +kernel
theorem dX11_clear_0 : decode cX11_clear 0 = .ok (.aload_n 0, 1) := by decide +kernel
theorem dX11_clear_1 : decode cX11_clear 1 = .ok (.iconst 0, 1) := by decide +kernel
theorem dX11_clear_2 : decode cX11_clear 2 = .ok (.putfield 22, 3) := by decide +kernel
theorem dX11_clear_5 : decode cX11_clear 5 = .ok (.return_, 1) := by decide +kernel
theorem dX11_number_0 : decode cX11_number 0 = .ok (.aload_n 0, 1) := by decide +kernel
theorem dX11_number_1 : decode cX11_number 1 = .ok (.getfield 29, 3) := by decide +kernel
theorem dX11_number_4 : decode cX11_number 4 = .ok (.iload_n 1, 1) := by decide +kernel
theorem dX11_number_5 : decode cX11_number 5 = .ok (.iload_n 2, 1) := by decide +kernel
theorem dX11_number_6 : decode cX11_number 6 = .ok (.iload_n 3, 1) := by decide +kernel
theorem dX11_number_7 : decode cX11_number 7 = .ok (.invokestatic 64, 3) := by decide +kernel
theorem dX11_number_10 : decode cX11_number 10 = .ok (.invokevirtual 68, 3) := by decide +kernel
theorem dX11_number_13 : decode cX11_number 13 = .ok (.return_, 1) := by decide +kernel
theorem dX11_run_0 : decode cX11_run 0 = .ok (.iload_n 1, 1) := by decide +kernel
theorem dX11_run_1 : decode cX11_run 1 = .ok (.ifCond .lt 10, 3) := by decide +kernel
theorem dX11_run_4 : decode cX11_run 4 = .ok (.iload_n 1, 1) := by decide +kernel
theorem dX11_run_5 : decode cX11_run 5 = .ok (.sipush 20000, 3) := by decide +kernel
theorem dX11_run_8 : decode cX11_run 8 = .ok (.if_icmp .le 5, 3) := by decide +kernel
theorem dX11_run_11 : decode cX11_run 11 = .ok (.iconst (-1), 1) := by decide +kernel
theorem dX11_run_12 : decode cX11_run 12 = .ok (.ireturn, 1) := by decide +kernel
theorem dX11_run_13 : decode cX11_run 13 = .ok (.aload_n 0, 1) := by decide +kernel
theorem dX11_run_14 : decode cX11_run 14 = .ok (.iload_n 1, 1) := by decide +kernel
theorem dX11_run_15 : decode cX11_run 15 = .ok (.putfield 46, 3) := by decide +kernel
theorem dX11_run_18 : decode cX11_run 18 = .ok (.aload_n 0, 1) := by decide +kernel
theorem dX11_run_19 : decode cX11_run 19 = .ok (.iconst 0, 1) := by decide +kernel
theorem dX11_run_20 : decode cX11_run 20 = .ok (.putfield 49, 3) := by decide +kernel
theorem dX11_run_23 : decode cX11_run 23 = .ok (.aload_n 0, 1) := by decide +kernel
theorem dX11_run_24 : decode cX11_run 24 = .ok (.iconst (-1), 1) := by decide +kernel
theorem dX11_run_25 : decode cX11_run 25 = .ok (.putfield 52, 3) := by decide +kernel
theorem dX11_run_28 : decode cX11_run 28 = .ok (.aload_n 0, 1) := by decide +kernel
theorem dX11_run_29 : decode cX11_run 29 = .ok (.iconst 0, 1) := by decide +kernel
theorem dX11_run_30 : decode cX11_run 30 = .ok (.putfield 55, 3) := by decide +kernel
theorem dX11_run_33 : decode cX11_run 33 = .ok (.aload_n 0, 1) := by decide +kernel
theorem dX11_run_34 : decode cX11_run 34 = .ok (.iconst (-1), 1) := by decide +kernel
theorem dX11_run_35 : decode cX11_run 35 = .ok (.putfield 58, 3) := by decide +kernel
theorem dX11_run_38 : decode cX11_run 38 = .ok (.aload_n 0, 1) := by decide +kernel
theorem dX11_run_39 : decode cX11_run 39 = .ok (.aload_n 0, 1) := by decide +kernel
theorem dX11_run_40 : decode cX11_run 40 = .ok (.iconst 0, 1) := by decide +kernel
theorem dX11_run_41 : decode cX11_run 41 = .ok (.iconst 1, 1) := by decide +kernel
theorem dX11_run_42 : decode cX11_run 42 = .ok (.invokevirtual 72, 3) := by decide +kernel
theorem dX11_run_45 : decode cX11_run 45 = .ok (.putfield 61, 3) := by decide +kernel
theorem dX11_run_48 : decode cX11_run 48 = .ok (.aload_n 0, 1) := by decide +kernel
theorem dX11_run_49 : decode cX11_run 49 = .ok (.getfield 61, 3) := by decide +kernel
theorem dX11_run_52 : decode cX11_run 52 = .ok (.ireturn, 1) := by decide +kernel
theorem dX11_fault_0 : decode cX11_fault 0 = .ok (.aload_n 0, 1) := by decide +kernel
theorem dX11_fault_1 : decode cX11_fault 1 = .ok (.getfield 61, 3) := by decide +kernel
theorem dX11_fault_4 : decode cX11_fault 4 = .ok (.iconst (-1), 1) := by decide +kernel
theorem dX11_fault_5 : decode cX11_fault 5 = .ok (.if_icmp .ne 5, 3) := by decide +kernel
theorem dX11_fault_8 : decode cX11_fault 8 = .ok (.iconst (-1), 1) := by decide +kernel
theorem dX11_fault_9 : decode cX11_fault 9 = .ok (.ireturn, 1) := by decide +kernel
theorem dX11_fault_10 : decode cX11_fault 10 = .ok (.iload_n 1, 1) := by decide +kernel
theorem dX11_fault_11 : decode cX11_fault 11 = .ok (.ifCond .ne 22, 3) := by decide +kernel
theorem dX11_fault_14 : decode cX11_fault 14 = .ok (.aload_n 0, 1) := by decide +kernel
theorem dX11_fault_15 : decode cX11_fault 15 = .ok (.getfield 61, 3) := by decide +kernel
theorem dX11_fault_18 : decode cX11_fault 18 = .ok (.invokestatic 76, 3) := by decide +kernel
theorem dX11_fault_21 : decode cX11_fault 21 = .ok (.ifCond .eq 10, 3) := by decide +kernel
theorem dX11_fault_24 : decode cX11_fault 24 = .ok (.aload_n 0, 1) := by decide +kernel
theorem dX11_fault_25 : decode cX11_fault 25 = .ok (.getfield 52, 3) := by decide +kernel
theorem dX11_fault_28 : decode cX11_fault 28 = .ok (.goto 4, 3) := by decide +kernel
theorem dX11_fault_31 : decode cX11_fault 31 = .ok (.iconst (-1), 1) := by decide +kernel
theorem dX11_fault_32 : decode cX11_fault 32 = .ok (.ireturn, 1) := by decide +kernel
theorem dX11_fault_33 : decode cX11_fault 33 = .ok (.iload_n 1, 1) := by decide +kernel
theorem dX11_fault_34 : decode cX11_fault 34 = .ok (.iconst 1, 1) := by decide +kernel
theorem dX11_fault_35 : decode cX11_fault 35 = .ok (.if_icmp .ne 10, 3) := by decide +kernel
theorem dX11_fault_38 : decode cX11_fault 38 = .ok (.aload_n 0, 1) := by decide +kernel
theorem dX11_fault_39 : decode cX11_fault 39 = .ok (.getfield 49, 3) := by decide +kernel
theorem dX11_fault_42 : decode cX11_fault 42 = .ok (.goto 4, 3) := by decide +kernel
theorem dX11_fault_45 : decode cX11_fault 45 = .ok (.iconst (-1), 1) := by decide +kernel
theorem dX11_fault_46 : decode cX11_fault 46 = .ok (.ireturn, 1) := by decide +kernel
theorem dX11_told_0 : decode cX11_told 0 = .ok (.aload_n 0, 1) := by decide +kernel
theorem dX11_told_1 : decode cX11_told 1 = .ok (.getfield 29, 3) := by decide +kernel
theorem dX11_told_4 : decode cX11_told 4 = .ok (.iload_n 1, 1) := by decide +kernel
theorem dX11_told_5 : decode cX11_told 5 = .ok (.invokevirtual 80, 3) := by decide +kernel
theorem dX11_told_8 : decode cX11_told 8 = .ok (.lreturn, 1) := by decide +kernel
theorem dX11_bits_0 : decode cX11_bits 0 = .ok (.aload_n 0, 1) := by decide +kernel
theorem dX11_bits_1 : decode cX11_bits 1 = .ok (.getfield 29, 3) := by decide +kernel
theorem dX11_bits_4 : decode cX11_bits 4 = .ok (.iload_n 1, 1) := by decide +kernel
theorem dX11_bits_5 : decode cX11_bits 5 = .ok (.invokevirtual 84, 3) := by decide +kernel
theorem dX11_bits_8 : decode cX11_bits 8 = .ok (.lreturn, 1) := by decide +kernel
theorem dX11_slot_0 : decode cX11_slot 0 = .ok (.aload_n 0, 1) := by decide +kernel
theorem dX11_slot_1 : decode cX11_slot 1 = .ok (.getfield 29, 3) := by decide +kernel
theorem dX11_slot_4 : decode cX11_slot 4 = .ok (.iload_n 1, 1) := by decide +kernel
theorem dX11_slot_5 : decode cX11_slot 5 = .ok (.invokevirtual 87, 3) := by decide +kernel
theorem dX11_slot_8 : decode cX11_slot 8 = .ok (.astore_n 3, 1) := by decide +kernel
theorem dX11_slot_9 : decode cX11_slot 9 = .ok (.aload_n 3, 1) := by decide +kernel
theorem dX11_slot_10 : decode cX11_slot 10 = .ok (.ifnonnull 5, 3) := by decide +kernel
theorem dX11_slot_13 : decode cX11_slot 13 = .ok (.iconst (-1), 1) := by decide +kernel
theorem dX11_slot_14 : decode cX11_slot 14 = .ok (.ireturn, 1) := by decide +kernel
theorem dX11_slot_15 : decode cX11_slot 15 = .ok (.iload_n 2, 1) := by decide +kernel
theorem dX11_slot_16 : decode cX11_slot 16 = .ok (.tableswitch 65 0 2 #[28, 33, 56], 28) := by decide +kernel
theorem dX11_slot_44 : decode cX11_slot 44 = .ok (.aload_n 3, 1) := by decide +kernel
theorem dX11_slot_45 : decode cX11_slot 45 = .ok (.invokevirtual 91, 3) := by decide +kernel
theorem dX11_slot_48 : decode cX11_slot 48 = .ok (.ireturn, 1) := by decide +kernel
theorem dX11_slot_49 : decode cX11_slot 49 = .ok (.aload_n 3, 1) := by decide +kernel
theorem dX11_slot_50 : decode cX11_slot 50 = .ok (.instanceof 97, 3) := by decide +kernel
theorem dX11_slot_53 : decode cX11_slot 53 = .ok (.ifCond .eq 17, 3) := by decide +kernel
theorem dX11_slot_56 : decode cX11_slot 56 = .ok (.aload_n 3, 1) := by decide +kernel
theorem dX11_slot_57 : decode cX11_slot 57 = .ok (.checkcast 97, 3) := by decide +kernel
theorem dX11_slot_60 : decode cX11_slot 60 = .ok (.astore 4, 2) := by decide +kernel
theorem dX11_slot_62 : decode cX11_slot 62 = .ok (.aload 4, 2) := by decide +kernel
theorem dX11_slot_64 : decode cX11_slot 64 = .ok (.invokevirtual 99, 3) := by decide +kernel
theorem dX11_slot_67 : decode cX11_slot 67 = .ok (.goto 4, 3) := by decide +kernel
theorem dX11_slot_70 : decode cX11_slot 70 = .ok (.iconst (-1), 1) := by decide +kernel
theorem dX11_slot_71 : decode cX11_slot 71 = .ok (.ireturn, 1) := by decide +kernel
theorem dX11_slot_72 : decode cX11_slot 72 = .ok (.aload_n 0, 1) := by decide +kernel
theorem dX11_slot_73 : decode cX11_slot 73 = .ok (.getfield 29, 3) := by decide +kernel
theorem dX11_slot_76 : decode cX11_slot 76 = .ok (.aload_n 3, 1) := by decide +kernel
theorem dX11_slot_77 : decode cX11_slot 77 = .ok (.invokevirtual 102, 3) := by decide +kernel
theorem dX11_slot_80 : decode cX11_slot 80 = .ok (.ireturn, 1) := by decide +kernel
theorem dX11_slot_81 : decode cX11_slot 81 = .ok (.iconst (-1), 1) := by decide +kernel
theorem dX11_slot_82 : decode cX11_slot 82 = .ok (.ireturn, 1) := by decide +kernel
theorem dX11_place_0 : decode cX11_place 0 = .ok (.aload_n 0, 1) := by decide +kernel
theorem dX11_place_1 : decode cX11_place 1 = .ok (.getfield 29, 3) := by decide +kernel
theorem dX11_place_4 : decode cX11_place 4 = .ok (.iload_n 1, 1) := by decide +kernel
theorem dX11_place_5 : decode cX11_place 5 = .ok (.invokevirtual 87, 3) := by decide +kernel
theorem dX11_place_8 : decode cX11_place 8 = .ok (.astore 4, 2) := by decide +kernel
theorem dX11_place_10 : decode cX11_place 10 = .ok (.aload 4, 2) := by decide +kernel
theorem dX11_place_12 : decode cX11_place 12 = .ok (.instanceof 97, 3) := by decide +kernel
theorem dX11_place_15 : decode cX11_place 15 = .ok (.ifCond .eq 12, 3) := by decide +kernel
theorem dX11_place_18 : decode cX11_place 18 = .ok (.aload 4, 2) := by decide +kernel
theorem dX11_place_20 : decode cX11_place 20 = .ok (.checkcast 97, 3) := by decide +kernel
theorem dX11_place_23 : decode cX11_place 23 = .ok (.astore_n 3, 1) := by decide +kernel
theorem dX11_place_24 : decode cX11_place 24 = .ok (.goto 13, 3) := by decide +kernel
theorem dX11_place_27 : decode cX11_place 27 = .ok (.new 106, 3) := by decide +kernel
theorem dX11_place_30 : decode cX11_place 30 = .ok (.dup, 1) := by decide +kernel
theorem dX11_place_31 : decode cX11_place 31 = .ok (.ldc 108, 2) := by decide +kernel
theorem dX11_place_33 : decode cX11_place 33 = .ok (.invokespecial 110, 3) := by decide +kernel
theorem dX11_place_36 : decode cX11_place 36 = .ok (.athrow, 1) := by decide +kernel
theorem dX11_place_37 : decode cX11_place 37 = .ok (.aload_n 3, 1) := by decide +kernel
theorem dX11_place_38 : decode cX11_place 38 = .ok (.iload_n 2, 1) := by decide +kernel
theorem dX11_place_39 : decode cX11_place 39 = .ok (.invokevirtual 113, 3) := by decide +kernel
theorem dX11_place_42 : decode cX11_place 42 = .ok (.ifCond .ne 13, 3) := by decide +kernel
theorem dX11_place_45 : decode cX11_place 45 = .ok (.new 116, 3) := by decide +kernel
theorem dX11_place_48 : decode cX11_place 48 = .ok (.dup, 1) := by decide +kernel
theorem dX11_place_49 : decode cX11_place 49 = .ok (.ldc 118, 2) := by decide +kernel
theorem dX11_place_51 : decode cX11_place 51 = .ok (.invokespecial 120, 3) := by decide +kernel
theorem dX11_place_54 : decode cX11_place 54 = .ok (.athrow, 1) := by decide +kernel
theorem dX11_place_55 : decode cX11_place 55 = .ok (.aload_n 3, 1) := by decide +kernel
theorem dX11_place_56 : decode cX11_place 56 = .ok (.invokevirtual 121, 3) := by decide +kernel
theorem dX11_place_59 : decode cX11_place 59 = .ok (.ifCond .eq 14, 3) := by decide +kernel
theorem dX11_place_62 : decode cX11_place 62 = .ok (.aload_n 3, 1) := by decide +kernel
theorem dX11_place_63 : decode cX11_place 63 = .ok (.iload_n 2, 1) := by decide +kernel
theorem dX11_place_64 : decode cX11_place 64 = .ok (.invokevirtual 125, 3) := by decide +kernel
theorem dX11_place_67 : decode cX11_place 67 = .ok (.invokestatic 128, 3) := by decide +kernel
theorem dX11_place_70 : decode cX11_place 70 = .ok (.goto 8, 3) := by decide +kernel
theorem dX11_place_73 : decode cX11_place 73 = .ok (.aload_n 3, 1) := by decide +kernel
theorem dX11_place_74 : decode cX11_place 74 = .ok (.iload_n 2, 1) := by decide +kernel
theorem dX11_place_75 : decode cX11_place 75 = .ok (.invokevirtual 132, 3) := by decide +kernel
theorem dX11_place_78 : decode cX11_place 78 = .ok (.lreturn, 1) := by decide +kernel
theorem dX11_logged_0 : decode cX11_logged 0 = .ok (.iload_n 1, 1) := by decide +kernel
theorem dX11_logged_1 : decode cX11_logged 1 = .ok (.ifCond .lt 27, 3) := by decide +kernel
theorem dX11_logged_4 : decode cX11_logged 4 = .ok (.iload_n 1, 1) := by decide +kernel
theorem dX11_logged_5 : decode cX11_logged 5 = .ok (.aload_n 0, 1) := by decide +kernel
theorem dX11_logged_6 : decode cX11_logged 6 = .ok (.getfield 37, 3) := by decide +kernel
theorem dX11_logged_9 : decode cX11_logged 9 = .ok (.if_icmp .ge 19, 3) := by decide +kernel
theorem dX11_logged_12 : decode cX11_logged 12 = .ok (.iload_n 1, 1) := by decide +kernel
theorem dX11_logged_13 : decode cX11_logged 13 = .ok (.sipush 200, 3) := by decide +kernel
theorem dX11_logged_16 : decode cX11_logged 16 = .ok (.if_icmp .ge 12, 3) := by decide +kernel
theorem dX11_logged_19 : decode cX11_logged 19 = .ok (.aload_n 0, 1) := by decide +kernel
theorem dX11_logged_20 : decode cX11_logged 20 = .ok (.getfield 33, 3) := by decide +kernel
theorem dX11_logged_23 : decode cX11_logged 23 = .ok (.iload_n 1, 1) := by decide +kernel
theorem dX11_logged_24 : decode cX11_logged 24 = .ok (.laload, 1) := by decide +kernel
theorem dX11_logged_25 : decode cX11_logged 25 = .ok (.goto 4, 3) := by decide +kernel
theorem dX11_logged_28 : decode cX11_logged 28 = .ok (.lconst 0, 1) := by decide +kernel
theorem dX11_logged_29 : decode cX11_logged 29 = .ok (.lreturn, 1) := by decide +kernel
theorem dX11_logs_0 : decode cX11_logs 0 = .ok (.aload_n 0, 1) := by decide +kernel
theorem dX11_logs_1 : decode cX11_logs 1 = .ok (.getfield 37, 3) := by decide +kernel
theorem dX11_logs_4 : decode cX11_logs 4 = .ok (.ireturn, 1) := by decide +kernel
theorem dX11_reset_0 : decode cX11_reset 0 = .ok (.aload_n 0, 1) := by decide +kernel
theorem dX11_reset_1 : decode cX11_reset 1 = .ok (.iconst 0, 1) := by decide +kernel
theorem dX11_reset_2 : decode cX11_reset 2 = .ok (.putfield 22, 3) := by decide +kernel
theorem dX11_reset_5 : decode cX11_reset 5 = .ok (.aload_n 0, 1) := by decide +kernel
theorem dX11_reset_6 : decode cX11_reset 6 = .ok (.getfield 29, 3) := by decide +kernel
theorem dX11_reset_9 : decode cX11_reset 9 = .ok (.invokevirtual 135, 3) := by decide +kernel
theorem dX11_reset_12 : decode cX11_reset 12 = .ok (.aload_n 0, 1) := by decide +kernel
theorem dX11_reset_13 : decode cX11_reset 13 = .ok (.iconst 0, 1) := by decide +kernel
theorem dX11_reset_14 : decode cX11_reset 14 = .ok (.putfield 37, 3) := by decide +kernel
theorem dX11_reset_17 : decode cX11_reset 17 = .ok (.aload_n 0, 1) := by decide +kernel
theorem dX11_reset_18 : decode cX11_reset 18 = .ok (.iconst 0, 1) := by decide +kernel
theorem dX11_reset_19 : decode cX11_reset 19 = .ok (.putfield 49, 3) := by decide +kernel
theorem dX11_reset_22 : decode cX11_reset 22 = .ok (.aload_n 0, 1) := by decide +kernel
theorem dX11_reset_23 : decode cX11_reset 23 = .ok (.iconst (-1), 1) := by decide +kernel
theorem dX11_reset_24 : decode cX11_reset 24 = .ok (.putfield 52, 3) := by decide +kernel
theorem dX11_reset_27 : decode cX11_reset 27 = .ok (.aload_n 0, 1) := by decide +kernel
theorem dX11_reset_28 : decode cX11_reset 28 = .ok (.iconst (-1), 1) := by decide +kernel
theorem dX11_reset_29 : decode cX11_reset 29 = .ok (.putfield 61, 3) := by decide +kernel
theorem dX11_reset_32 : decode cX11_reset 32 = .ok (.return_, 1) := by decide +kernel
theorem dX11_doBlock_0 : decode cX11_doBlock 0 = .ok (.iload_n 1, 1) := by decide +kernel
theorem dX11_doBlock_1 : decode cX11_doBlock 1 = .ok (.istore_n 3, 1) := by decide +kernel
theorem dX11_doBlock_2 : decode cX11_doBlock 2 = .ok (.iload_n 3, 1) := by decide +kernel
theorem dX11_doBlock_3 : decode cX11_doBlock 3 = .ok (.ifCond .lt 86, 3) := by decide +kernel
theorem dX11_doBlock_6 : decode cX11_doBlock 6 = .ok (.iload_n 3, 1) := by decide +kernel
theorem dX11_doBlock_7 : decode cX11_doBlock 7 = .ok (.aload_n 0, 1) := by decide +kernel
theorem dX11_doBlock_8 : decode cX11_doBlock 8 = .ok (.getfield 22, 3) := by decide +kernel
theorem dX11_doBlock_11 : decode cX11_doBlock 11 = .ok (.if_icmp .ge 78, 3) := by decide +kernel
theorem dX11_doBlock_14 : decode cX11_doBlock 14 = .ok (.aload_n 0, 1) := by decide +kernel
theorem dX11_doBlock_15 : decode cX11_doBlock 15 = .ok (.invokevirtual 138, 3) := by decide +kernel
theorem dX11_doBlock_18 : decode cX11_doBlock 18 = .ok (.ifCond .ne 6, 3) := by decide +kernel
theorem dX11_doBlock_21 : decode cX11_doBlock 21 = .ok (.bipush 10, 2) := by decide +kernel
theorem dX11_doBlock_23 : decode cX11_doBlock 23 = .ok (.ireturn, 1) := by decide +kernel
theorem dX11_doBlock_24 : decode cX11_doBlock 24 = .ok (.aload_n 0, 1) := by decide +kernel
theorem dX11_doBlock_25 : decode cX11_doBlock 25 = .ok (.dup, 1) := by decide +kernel
theorem dX11_doBlock_26 : decode cX11_doBlock 26 = .ok (.getfield 49, 3) := by decide +kernel
theorem dX11_doBlock_29 : decode cX11_doBlock 29 = .ok (.iconst 1, 1) := by decide +kernel
theorem dX11_doBlock_30 : decode cX11_doBlock 30 = .ok (.iadd, 1) := by decide +kernel
theorem dX11_doBlock_31 : decode cX11_doBlock 31 = .ok (.putfield 49, 3) := by decide +kernel
theorem dX11_doBlock_34 : decode cX11_doBlock 34 = .ok (.aload_n 0, 1) := by decide +kernel
theorem dX11_doBlock_35 : decode cX11_doBlock 35 = .ok (.getfield 9, 3) := by decide +kernel
theorem dX11_doBlock_38 : decode cX11_doBlock 38 = .ok (.iload_n 3, 1) := by decide +kernel
theorem dX11_doBlock_39 : decode cX11_doBlock 39 = .ok (.iaload, 1) := by decide +kernel
theorem dX11_doBlock_40 : decode cX11_doBlock 40 = .ok (.istore 4, 2) := by decide +kernel
theorem dX11_doBlock_42 : decode cX11_doBlock 42 = .ok (.iload 4, 2) := by decide +kernel
theorem dX11_doBlock_44 : decode cX11_doBlock 44 = .ok (.ifCond .ne 5, 3) := by decide +kernel
theorem dX11_doBlock_47 : decode cX11_doBlock 47 = .ok (.iconst 0, 1) := by decide +kernel
theorem dX11_doBlock_48 : decode cX11_doBlock 48 = .ok (.ireturn, 1) := by decide +kernel
theorem dX11_doBlock_49 : decode cX11_doBlock 49 = .ok (.iload 4, 2) := by decide +kernel
theorem dX11_doBlock_51 : decode cX11_doBlock 51 = .ok (.bipush 13, 2) := by decide +kernel
theorem dX11_doBlock_53 : decode cX11_doBlock 53 = .ok (.if_icmp .ne 14, 3) := by decide +kernel
theorem dX11_doBlock_56 : decode cX11_doBlock 56 = .ok (.iload_n 3, 1) := by decide +kernel
theorem dX11_doBlock_57 : decode cX11_doBlock 57 = .ok (.aload_n 0, 1) := by decide +kernel
theorem dX11_doBlock_58 : decode cX11_doBlock 58 = .ok (.iload_n 3, 1) := by decide +kernel
theorem dX11_doBlock_59 : decode cX11_doBlock 59 = .ok (.invokevirtual 141, 3) := by decide +kernel
theorem dX11_doBlock_62 : decode cX11_doBlock 62 = .ok (.iadd, 1) := by decide +kernel
theorem dX11_doBlock_63 : decode cX11_doBlock 63 = .ok (.istore_n 3, 1) := by decide +kernel
theorem dX11_doBlock_64 : decode cX11_doBlock 64 = .ok (.goto 19, 3) := by decide +kernel
theorem dX11_doBlock_67 : decode cX11_doBlock 67 = .ok (.aload_n 0, 1) := by decide +kernel
theorem dX11_doBlock_68 : decode cX11_doBlock 68 = .ok (.iload_n 3, 1) := by decide +kernel
theorem dX11_doBlock_69 : decode cX11_doBlock 69 = .ok (.iload_n 2, 1) := by decide +kernel
theorem dX11_doBlock_70 : decode cX11_doBlock 70 = .ok (.invokevirtual 145, 3) := by decide +kernel
theorem dX11_doBlock_73 : decode cX11_doBlock 73 = .ok (.istore 5, 2) := by decide +kernel
theorem dX11_doBlock_75 : decode cX11_doBlock 75 = .ok (.iload 5, 2) := by decide +kernel
theorem dX11_doBlock_77 : decode cX11_doBlock 77 = .ok (.ifCond .eq 6, 3) := by decide +kernel
theorem dX11_doBlock_80 : decode cX11_doBlock 80 = .ok (.iload 5, 2) := by decide +kernel
theorem dX11_doBlock_82 : decode cX11_doBlock 82 = .ok (.ireturn, 1) := by decide +kernel
theorem dX11_doBlock_83 : decode cX11_doBlock 83 = .ok (.iinc 3 1, 3) := by decide +kernel
theorem dX11_doBlock_86 : decode cX11_doBlock 86 = .ok (.goto (-84), 3) := by decide +kernel
theorem dX11_doBlock_89 : decode cX11_doBlock 89 = .ok (.iconst 0, 1) := by decide +kernel
theorem dX11_doBlock_90 : decode cX11_doBlock 90 = .ok (.ireturn, 1) := by decide +kernel
theorem dX11_takeFuel_0 : decode cX11_takeFuel 0 = .ok (.aload_n 0, 1) := by decide +kernel
theorem dX11_takeFuel_1 : decode cX11_takeFuel 1 = .ok (.getfield 46, 3) := by decide +kernel
theorem dX11_takeFuel_4 : decode cX11_takeFuel 4 = .ok (.ifCond .gt 5, 3) := by decide +kernel
theorem dX11_takeFuel_7 : decode cX11_takeFuel 7 = .ok (.iconst 0, 1) := by decide +kernel
theorem dX11_takeFuel_8 : decode cX11_takeFuel 8 = .ok (.ireturn, 1) := by decide +kernel
theorem dX11_takeFuel_9 : decode cX11_takeFuel 9 = .ok (.aload_n 0, 1) := by decide +kernel
theorem dX11_takeFuel_10 : decode cX11_takeFuel 10 = .ok (.dup, 1) := by decide +kernel
theorem dX11_takeFuel_11 : decode cX11_takeFuel 11 = .ok (.getfield 46, 3) := by decide +kernel
theorem dX11_takeFuel_14 : decode cX11_takeFuel 14 = .ok (.iconst 1, 1) := by decide +kernel
theorem dX11_takeFuel_15 : decode cX11_takeFuel 15 = .ok (.isub, 1) := by decide +kernel
theorem dX11_takeFuel_16 : decode cX11_takeFuel 16 = .ok (.putfield 46, 3) := by decide +kernel
theorem dX11_takeFuel_19 : decode cX11_takeFuel 19 = .ok (.iconst 1, 1) := by decide +kernel
theorem dX11_takeFuel_20 : decode cX11_takeFuel 20 = .ok (.ireturn, 1) := by decide +kernel
theorem dX11_passed_0 : decode cX11_passed 0 = .ok (.aload_n 0, 1) := by decide +kernel
theorem dX11_passed_1 : decode cX11_passed 1 = .ok (.getfield 29, 3) := by decide +kernel
theorem dX11_passed_4 : decode cX11_passed 4 = .ok (.aload_n 0, 1) := by decide +kernel
theorem dX11_passed_5 : decode cX11_passed 5 = .ok (.getfield 13, 3) := by decide +kernel
theorem dX11_passed_8 : decode cX11_passed 8 = .ok (.iload_n 1, 1) := by decide +kernel
theorem dX11_passed_9 : decode cX11_passed 9 = .ok (.iaload, 1) := by decide +kernel
theorem dX11_passed_10 : decode cX11_passed 10 = .ok (.invokevirtual 80, 3) := by decide +kernel
theorem dX11_passed_13 : decode cX11_passed 13 = .ok (.lconst 0, 1) := by decide +kernel
theorem dX11_passed_14 : decode cX11_passed 14 = .ok (.lcmp, 1) := by decide +kernel
theorem dX11_passed_15 : decode cX11_passed 15 = .ok (.ifCond .eq 16, 3) := by decide +kernel
theorem dX11_passed_18 : decode cX11_passed 18 = .ok (.aload_n 0, 1) := by decide +kernel
theorem dX11_passed_19 : decode cX11_passed 19 = .ok (.getfield 16, 3) := by decide +kernel
theorem dX11_passed_22 : decode cX11_passed 22 = .ok (.iload_n 1, 1) := by decide +kernel
theorem dX11_passed_23 : decode cX11_passed 23 = .ok (.iaload, 1) := by decide +kernel
theorem dX11_passed_24 : decode cX11_passed 24 = .ok (.sipush 255, 3) := by decide +kernel
theorem dX11_passed_27 : decode cX11_passed 27 = .ok (.iand, 1) := by decide +kernel
theorem dX11_passed_28 : decode cX11_passed 28 = .ok (.goto 4, 3) := by decide +kernel
theorem dX11_passed_31 : decode cX11_passed 31 = .ok (.iconst 0, 1) := by decide +kernel
theorem dX11_passed_32 : decode cX11_passed 32 = .ok (.ireturn, 1) := by decide +kernel
theorem dX11_doOrder_0 : decode cX11_doOrder 0 = .ok (.aload_n 0, 1) := by decide +kernel
theorem dX11_doOrder_1 : decode cX11_doOrder 1 = .ok (.getfield 9, 3) := by decide +kernel
theorem dX11_doOrder_4 : decode cX11_doOrder 4 = .ok (.iload_n 1, 1) := by decide +kernel
theorem dX11_doOrder_5 : decode cX11_doOrder 5 = .ok (.iaload, 1) := by decide +kernel
theorem dX11_doOrder_6 : decode cX11_doOrder 6 = .ok (.istore_n 3, 1) := by decide +kernel
theorem dX11_doOrder_7 : decode cX11_doOrder 7 = .ok (.iload_n 3, 1) := by decide +kernel
theorem dX11_doOrder_8 : decode cX11_doOrder 8 = .ok (.bipush 14, 2) := by decide +kernel
theorem dX11_doOrder_10 : decode cX11_doOrder 10 = .ok (.if_icmp .lt 16, 3) := by decide +kernel
theorem dX11_doOrder_13 : decode cX11_doOrder 13 = .ok (.iload_n 3, 1) := by decide +kernel
theorem dX11_doOrder_14 : decode cX11_doOrder 14 = .ok (.bipush 17, 2) := by decide +kernel
theorem dX11_doOrder_16 : decode cX11_doOrder 16 = .ok (.if_icmp .gt 10, 3) := by decide +kernel
theorem dX11_doOrder_19 : decode cX11_doOrder 19 = .ok (.aload_n 0, 1) := by decide +kernel
theorem dX11_doOrder_20 : decode cX11_doOrder 20 = .ok (.iload_n 1, 1) := by decide +kernel
theorem dX11_doOrder_21 : decode cX11_doOrder 21 = .ok (.iload_n 2, 1) := by decide +kernel
theorem dX11_doOrder_22 : decode cX11_doOrder 22 = .ok (.invokevirtual 148, 3) := by decide +kernel
theorem dX11_doOrder_25 : decode cX11_doOrder 25 = .ok (.ireturn, 1) := by decide +kernel
theorem dX11_doOrder_26 : decode cX11_doOrder 26 = .ok (.iload_n 3, 1) := by decide +kernel
theorem dX11_doOrder_27 : decode cX11_doOrder 27 = .ok (.bipush 19, 2) := by decide +kernel
theorem dX11_doOrder_29 : decode cX11_doOrder 29 = .ok (.if_icmp .ne 9, 3) := by decide +kernel
theorem dX11_doOrder_32 : decode cX11_doOrder 32 = .ok (.aload_n 0, 1) := by decide +kernel
theorem dX11_doOrder_33 : decode cX11_doOrder 33 = .ok (.iload_n 1, 1) := by decide +kernel
theorem dX11_doOrder_34 : decode cX11_doOrder 34 = .ok (.invokevirtual 151, 3) := by decide +kernel
theorem dX11_doOrder_37 : decode cX11_doOrder 37 = .ok (.ireturn, 1) := by decide +kernel
theorem dX11_doOrder_38 : decode cX11_doOrder 38 = .ok (.aload_n 0, 1) := by decide +kernel
theorem dX11_doOrder_39 : decode cX11_doOrder 39 = .ok (.getfield 13, 3) := by decide +kernel
theorem dX11_doOrder_42 : decode cX11_doOrder 42 = .ok (.iload_n 1, 1) := by decide +kernel
theorem dX11_doOrder_43 : decode cX11_doOrder 43 = .ok (.iaload, 1) := by decide +kernel
theorem dX11_doOrder_44 : decode cX11_doOrder 44 = .ok (.istore 4, 2) := by decide +kernel
theorem dX11_doOrder_46 : decode cX11_doOrder 46 = .ok (.aload_n 0, 1) := by decide +kernel
theorem dX11_doOrder_47 : decode cX11_doOrder 47 = .ok (.getfield 16, 3) := by decide +kernel
theorem dX11_doOrder_50 : decode cX11_doOrder 50 = .ok (.iload_n 1, 1) := by decide +kernel
theorem dX11_doOrder_51 : decode cX11_doOrder 51 = .ok (.iaload, 1) := by decide +kernel
theorem dX11_doOrder_52 : decode cX11_doOrder 52 = .ok (.istore 5, 2) := by decide +kernel
theorem dX11_doOrder_54 : decode cX11_doOrder 54 = .ok (.aload_n 0, 1) := by decide +kernel
theorem dX11_doOrder_55 : decode cX11_doOrder 55 = .ok (.getfield 19, 3) := by decide +kernel
theorem dX11_doOrder_58 : decode cX11_doOrder 58 = .ok (.iload_n 1, 1) := by decide +kernel
theorem dX11_doOrder_59 : decode cX11_doOrder 59 = .ok (.iaload, 1) := by decide +kernel
theorem dX11_doOrder_60 : decode cX11_doOrder 60 = .ok (.istore 6, 2) := by decide +kernel
theorem dX11_doOrder_62 : decode cX11_doOrder 62 = .ok (.iload_n 3, 1) := by decide +kernel
theorem dX11_doOrder_63 : decode cX11_doOrder 63 = .ok (.bipush 14, 2) := by decide +kernel
theorem dX11_doOrder_65 : decode cX11_doOrder 65 = .ok (.if_icmp .ge 19, 3) := by decide +kernel
theorem dX11_doOrder_68 : decode cX11_doOrder 68 = .ok (.aload_n 0, 1) := by decide +kernel
theorem dX11_doOrder_69 : decode cX11_doOrder 69 = .ok (.iload_n 3, 1) := by decide +kernel
theorem dX11_doOrder_70 : decode cX11_doOrder 70 = .ok (.iload 4, 2) := by decide +kernel
theorem dX11_doOrder_72 : decode cX11_doOrder 72 = .ok (.iload 5, 2) := by decide +kernel
theorem dX11_doOrder_74 : decode cX11_doOrder 74 = .ok (.iload 6, 2) := by decide +kernel
theorem dX11_doOrder_76 : decode cX11_doOrder 76 = .ok (.invokevirtual 154, 3) := by decide +kernel
theorem dX11_doOrder_79 : decode cX11_doOrder 79 = .ok (.istore 7, 2) := by decide +kernel
theorem dX11_doOrder_81 : decode cX11_doOrder 81 = .ok (.goto 150, 3) := by decide +kernel
theorem dX11_doOrder_84 : decode cX11_doOrder 84 = .ok (.iload_n 3, 1) := by decide +kernel
theorem dX11_doOrder_85 : decode cX11_doOrder 85 = .ok (.bipush 24, 2) := by decide +kernel
theorem dX11_doOrder_87 : decode cX11_doOrder 87 = .ok (.if_icmp .ge 15, 3) := by decide +kernel
theorem dX11_doOrder_90 : decode cX11_doOrder 90 = .ok (.aload_n 0, 1) := by decide +kernel
theorem dX11_doOrder_91 : decode cX11_doOrder 91 = .ok (.iload_n 3, 1) := by decide +kernel
theorem dX11_doOrder_92 : decode cX11_doOrder 92 = .ok (.iload 4, 2) := by decide +kernel
theorem dX11_doOrder_94 : decode cX11_doOrder 94 = .ok (.invokevirtual 158, 3) := by decide +kernel
theorem dX11_doOrder_97 : decode cX11_doOrder 97 = .ok (.istore 7, 2) := by decide +kernel
theorem dX11_doOrder_99 : decode cX11_doOrder 99 = .ok (.goto 132, 3) := by decide +kernel
theorem dX11_doOrder_102 : decode cX11_doOrder 102 = .ok (.iload_n 3, 1) := by decide +kernel
theorem dX11_doOrder_103 : decode cX11_doOrder 103 = .ok (.bipush 40, 2) := by decide +kernel
theorem dX11_doOrder_105 : decode cX11_doOrder 105 = .ok (.if_icmp .ge 19, 3) := by decide +kernel
theorem dX11_doOrder_108 : decode cX11_doOrder 108 = .ok (.aload_n 0, 1) := by decide +kernel
theorem dX11_doOrder_109 : decode cX11_doOrder 109 = .ok (.iload_n 3, 1) := by decide +kernel
theorem dX11_doOrder_110 : decode cX11_doOrder 110 = .ok (.iload 4, 2) := by decide +kernel
theorem dX11_doOrder_112 : decode cX11_doOrder 112 = .ok (.iload 5, 2) := by decide +kernel
theorem dX11_doOrder_114 : decode cX11_doOrder 114 = .ok (.iload 6, 2) := by decide +kernel
theorem dX11_doOrder_116 : decode cX11_doOrder 116 = .ok (.invokevirtual 161, 3) := by decide +kernel
theorem dX11_doOrder_119 : decode cX11_doOrder 119 = .ok (.istore 7, 2) := by decide +kernel
theorem dX11_doOrder_121 : decode cX11_doOrder 121 = .ok (.goto 110, 3) := by decide +kernel
theorem dX11_doOrder_124 : decode cX11_doOrder 124 = .ok (.iload_n 3, 1) := by decide +kernel
theorem dX11_doOrder_125 : decode cX11_doOrder 125 = .ok (.bipush 48, 2) := by decide +kernel
theorem dX11_doOrder_127 : decode cX11_doOrder 127 = .ok (.if_icmp .ge 19, 3) := by decide +kernel
theorem dX11_doOrder_130 : decode cX11_doOrder 130 = .ok (.aload_n 0, 1) := by decide +kernel
theorem dX11_doOrder_131 : decode cX11_doOrder 131 = .ok (.iload_n 3, 1) := by decide +kernel
theorem dX11_doOrder_132 : decode cX11_doOrder 132 = .ok (.iload 4, 2) := by decide +kernel
theorem dX11_doOrder_134 : decode cX11_doOrder 134 = .ok (.iload 5, 2) := by decide +kernel
theorem dX11_doOrder_136 : decode cX11_doOrder 136 = .ok (.iload 6, 2) := by decide +kernel
theorem dX11_doOrder_138 : decode cX11_doOrder 138 = .ok (.invokevirtual 164, 3) := by decide +kernel
theorem dX11_doOrder_141 : decode cX11_doOrder 141 = .ok (.istore 7, 2) := by decide +kernel
theorem dX11_doOrder_143 : decode cX11_doOrder 143 = .ok (.goto 88, 3) := by decide +kernel
theorem dX11_doOrder_146 : decode cX11_doOrder 146 = .ok (.iload_n 3, 1) := by decide +kernel
theorem dX11_doOrder_147 : decode cX11_doOrder 147 = .ok (.bipush 64, 2) := by decide +kernel
theorem dX11_doOrder_149 : decode cX11_doOrder 149 = .ok (.if_icmp .ge 22, 3) := by decide +kernel
theorem dX11_doOrder_152 : decode cX11_doOrder 152 = .ok (.aload_n 0, 1) := by decide +kernel
theorem dX11_doOrder_153 : decode cX11_doOrder 153 = .ok (.iload_n 3, 1) := by decide +kernel
theorem dX11_doOrder_154 : decode cX11_doOrder 154 = .ok (.bipush 48, 2) := by decide +kernel
theorem dX11_doOrder_156 : decode cX11_doOrder 156 = .ok (.isub, 1) := by decide +kernel
theorem dX11_doOrder_157 : decode cX11_doOrder 157 = .ok (.iload 4, 2) := by decide +kernel
theorem dX11_doOrder_159 : decode cX11_doOrder 159 = .ok (.iload 5, 2) := by decide +kernel
theorem dX11_doOrder_161 : decode cX11_doOrder 161 = .ok (.iload 6, 2) := by decide +kernel
theorem dX11_doOrder_163 : decode cX11_doOrder 163 = .ok (.invokevirtual 167, 3) := by decide +kernel
theorem dX11_doOrder_166 : decode cX11_doOrder 166 = .ok (.istore 7, 2) := by decide +kernel
theorem dX11_doOrder_168 : decode cX11_doOrder 168 = .ok (.goto 63, 3) := by decide +kernel
theorem dX11_doOrder_171 : decode cX11_doOrder 171 = .ok (.iload_n 3, 1) := by decide +kernel
theorem dX11_doOrder_172 : decode cX11_doOrder 172 = .ok (.bipush 80, 2) := by decide +kernel
theorem dX11_doOrder_174 : decode cX11_doOrder 174 = .ok (.if_icmp .ge 22, 3) := by decide +kernel
theorem dX11_doOrder_177 : decode cX11_doOrder 177 = .ok (.aload_n 0, 1) := by decide +kernel
theorem dX11_doOrder_178 : decode cX11_doOrder 178 = .ok (.iload_n 3, 1) := by decide +kernel
theorem dX11_doOrder_179 : decode cX11_doOrder 179 = .ok (.bipush 64, 2) := by decide +kernel
theorem dX11_doOrder_181 : decode cX11_doOrder 181 = .ok (.isub, 1) := by decide +kernel
theorem dX11_doOrder_182 : decode cX11_doOrder 182 = .ok (.iload 4, 2) := by decide +kernel
theorem dX11_doOrder_184 : decode cX11_doOrder 184 = .ok (.iload 5, 2) := by decide +kernel
theorem dX11_doOrder_186 : decode cX11_doOrder 186 = .ok (.iload 6, 2) := by decide +kernel
theorem dX11_doOrder_188 : decode cX11_doOrder 188 = .ok (.invokevirtual 170, 3) := by decide +kernel
theorem dX11_doOrder_191 : decode cX11_doOrder 191 = .ok (.istore 7, 2) := by decide +kernel
theorem dX11_doOrder_193 : decode cX11_doOrder 193 = .ok (.goto 38, 3) := by decide +kernel
theorem dX11_doOrder_196 : decode cX11_doOrder 196 = .ok (.iload_n 3, 1) := by decide +kernel
theorem dX11_doOrder_197 : decode cX11_doOrder 197 = .ok (.bipush 88, 2) := by decide +kernel
theorem dX11_doOrder_199 : decode cX11_doOrder 199 = .ok (.if_icmp .ge 19, 3) := by decide +kernel
theorem dX11_doOrder_202 : decode cX11_doOrder 202 = .ok (.aload_n 0, 1) := by decide +kernel
theorem dX11_doOrder_203 : decode cX11_doOrder 203 = .ok (.iload_n 3, 1) := by decide +kernel
theorem dX11_doOrder_204 : decode cX11_doOrder 204 = .ok (.iload 4, 2) := by decide +kernel
theorem dX11_doOrder_206 : decode cX11_doOrder 206 = .ok (.iload 5, 2) := by decide +kernel
theorem dX11_doOrder_208 : decode cX11_doOrder 208 = .ok (.iload 6, 2) := by decide +kernel
theorem dX11_doOrder_210 : decode cX11_doOrder 210 = .ok (.invokevirtual 173, 3) := by decide +kernel
theorem dX11_doOrder_213 : decode cX11_doOrder 213 = .ok (.istore 7, 2) := by decide +kernel
theorem dX11_doOrder_215 : decode cX11_doOrder 215 = .ok (.goto 16, 3) := by decide +kernel
theorem dX11_doOrder_218 : decode cX11_doOrder 218 = .ok (.aload_n 0, 1) := by decide +kernel
theorem dX11_doOrder_219 : decode cX11_doOrder 219 = .ok (.iload_n 3, 1) := by decide +kernel
theorem dX11_doOrder_220 : decode cX11_doOrder 220 = .ok (.iload 4, 2) := by decide +kernel
theorem dX11_doOrder_222 : decode cX11_doOrder 222 = .ok (.iload 5, 2) := by decide +kernel
theorem dX11_doOrder_224 : decode cX11_doOrder 224 = .ok (.iload 6, 2) := by decide +kernel
theorem dX11_doOrder_226 : decode cX11_doOrder 226 = .ok (.invokevirtual 176, 3) := by decide +kernel
theorem dX11_doOrder_229 : decode cX11_doOrder 229 = .ok (.istore 7, 2) := by decide +kernel
theorem dX11_doOrder_231 : decode cX11_doOrder 231 = .ok (.aload_n 0, 1) := by decide +kernel
theorem dX11_doOrder_232 : decode cX11_doOrder 232 = .ok (.iload 7, 2) := by decide +kernel
theorem dX11_doOrder_234 : decode cX11_doOrder 234 = .ok (.iload_n 1, 1) := by decide +kernel
theorem dX11_doOrder_235 : decode cX11_doOrder 235 = .ok (.invokevirtual 179, 3) := by decide +kernel
theorem dX11_doOrder_238 : decode cX11_doOrder 238 = .ok (.ireturn, 1) := by decide +kernel
theorem dX11_doInner_0 : decode cX11_doInner 0 = .ok (.aload_n 0, 1) := by decide +kernel
theorem dX11_doInner_1 : decode cX11_doInner 1 = .ok (.getfield 9, 3) := by decide +kernel
theorem dX11_doInner_4 : decode cX11_doInner 4 = .ok (.iload_n 1, 1) := by decide +kernel
theorem dX11_doInner_5 : decode cX11_doInner 5 = .ok (.iaload, 1) := by decide +kernel
theorem dX11_doInner_6 : decode cX11_doInner 6 = .ok (.bipush 15, 2) := by decide +kernel
theorem dX11_doInner_8 : decode cX11_doInner 8 = .ok (.if_icmp .ne 10, 3) := by decide +kernel
theorem dX11_doInner_11 : decode cX11_doInner 11 = .ok (.aload_n 0, 1) := by decide +kernel
theorem dX11_doInner_12 : decode cX11_doInner 12 = .ok (.iload_n 1, 1) := by decide +kernel
theorem dX11_doInner_13 : decode cX11_doInner 13 = .ok (.iload_n 2, 1) := by decide +kernel
theorem dX11_doInner_14 : decode cX11_doInner 14 = .ok (.invokevirtual 182, 3) := by decide +kernel
theorem dX11_doInner_17 : decode cX11_doInner 17 = .ok (.ireturn, 1) := by decide +kernel
theorem dX11_doInner_18 : decode cX11_doInner 18 = .ok (.iload_n 2, 1) := by decide +kernel
theorem dX11_doInner_19 : decode cX11_doInner 19 = .ok (.bipush 40, 2) := by decide +kernel
theorem dX11_doInner_21 : decode cX11_doInner 21 = .ok (.if_icmp .lt 11, 3) := by decide +kernel
theorem dX11_doInner_24 : decode cX11_doInner 24 = .ok (.aload_n 0, 1) := by decide +kernel
theorem dX11_doInner_25 : decode cX11_doInner 25 = .ok (.bipush 9, 2) := by decide +kernel
theorem dX11_doInner_27 : decode cX11_doInner 27 = .ok (.iload_n 1, 1) := by decide +kernel
theorem dX11_doInner_28 : decode cX11_doInner 28 = .ok (.invokevirtual 179, 3) := by decide +kernel
theorem dX11_doInner_31 : decode cX11_doInner 31 = .ok (.ireturn, 1) := by decide +kernel
theorem dX11_doInner_32 : decode cX11_doInner 32 = .ok (.aload_n 0, 1) := by decide +kernel
theorem dX11_doInner_33 : decode cX11_doInner 33 = .ok (.getfield 9, 3) := by decide +kernel
theorem dX11_doInner_36 : decode cX11_doInner 36 = .ok (.iload_n 1, 1) := by decide +kernel
theorem dX11_doInner_37 : decode cX11_doInner 37 = .ok (.iaload, 1) := by decide +kernel
theorem dX11_doInner_38 : decode cX11_doInner 38 = .ok (.lookupswitch 44 #[(16, 26), (17, 35)], 26) := by decide +kernel
theorem dX11_doInner_64 : decode cX11_doInner 64 = .ok (.aload_n 0, 1) := by decide +kernel
theorem dX11_doInner_65 : decode cX11_doInner 65 = .ok (.iload_n 1, 1) := by decide +kernel
theorem dX11_doInner_66 : decode cX11_doInner 66 = .ok (.iload_n 2, 1) := by decide +kernel
theorem dX11_doInner_67 : decode cX11_doInner 67 = .ok (.iconst 1, 1) := by decide +kernel
theorem dX11_doInner_68 : decode cX11_doInner 68 = .ok (.iadd, 1) := by decide +kernel
theorem dX11_doInner_69 : decode cX11_doInner 69 = .ok (.invokevirtual 185, 3) := by decide +kernel
theorem dX11_doInner_72 : decode cX11_doInner 72 = .ok (.ireturn, 1) := by decide +kernel
theorem dX11_doInner_73 : decode cX11_doInner 73 = .ok (.aload_n 0, 1) := by decide +kernel
theorem dX11_doInner_74 : decode cX11_doInner 74 = .ok (.iload_n 1, 1) := by decide +kernel
theorem dX11_doInner_75 : decode cX11_doInner 75 = .ok (.iload_n 2, 1) := by decide +kernel
theorem dX11_doInner_76 : decode cX11_doInner 76 = .ok (.iconst 1, 1) := by decide +kernel
theorem dX11_doInner_77 : decode cX11_doInner 77 = .ok (.iadd, 1) := by decide +kernel
theorem dX11_doInner_78 : decode cX11_doInner 78 = .ok (.invokevirtual 188, 3) := by decide +kernel
theorem dX11_doInner_81 : decode cX11_doInner 81 = .ok (.ireturn, 1) := by decide +kernel
theorem dX11_doInner_82 : decode cX11_doInner 82 = .ok (.aload_n 0, 1) := by decide +kernel
theorem dX11_doInner_83 : decode cX11_doInner 83 = .ok (.aload_n 0, 1) := by decide +kernel
theorem dX11_doInner_84 : decode cX11_doInner 84 = .ok (.getfield 16, 3) := by decide +kernel
theorem dX11_doInner_87 : decode cX11_doInner 87 = .ok (.iload_n 1, 1) := by decide +kernel
theorem dX11_doInner_88 : decode cX11_doInner 88 = .ok (.iaload, 1) := by decide +kernel
theorem dX11_doInner_89 : decode cX11_doInner 89 = .ok (.iload_n 2, 1) := by decide +kernel
theorem dX11_doInner_90 : decode cX11_doInner 90 = .ok (.iconst 1, 1) := by decide +kernel
theorem dX11_doInner_91 : decode cX11_doInner 91 = .ok (.iadd, 1) := by decide +kernel
theorem dX11_doInner_92 : decode cX11_doInner 92 = .ok (.invokevirtual 72, 3) := by decide +kernel
theorem dX11_doInner_95 : decode cX11_doInner 95 = .ok (.ireturn, 1) := by decide +kernel
theorem dX11_repeat_0 : decode cX11_repeat 0 = .ok (.aload_n 0, 1) := by decide +kernel
theorem dX11_repeat_1 : decode cX11_repeat 1 = .ok (.getfield 29, 3) := by decide +kernel
theorem dX11_repeat_4 : decode cX11_repeat 4 = .ok (.aload_n 0, 1) := by decide +kernel
theorem dX11_repeat_5 : decode cX11_repeat 5 = .ok (.getfield 13, 3) := by decide +kernel
theorem dX11_repeat_8 : decode cX11_repeat 8 = .ok (.iload_n 1, 1) := by decide +kernel
theorem dX11_repeat_9 : decode cX11_repeat 9 = .ok (.iaload, 1) := by decide +kernel
theorem dX11_repeat_10 : decode cX11_repeat 10 = .ok (.invokevirtual 80, 3) := by decide +kernel
theorem dX11_repeat_13 : decode cX11_repeat 13 = .ok (.lstore_n 3, 1) := by decide +kernel
theorem dX11_repeat_14 : decode cX11_repeat 14 = .ok (.iconst 0, 1) := by decide +kernel
theorem dX11_repeat_15 : decode cX11_repeat 15 = .ok (.istore 5, 2) := by decide +kernel
theorem dX11_repeat_17 : decode cX11_repeat 17 = .ok (.iload 5, 2) := by decide +kernel
theorem dX11_repeat_19 : decode cX11_repeat 19 = .ok (.i2l, 1) := by decide +kernel
theorem dX11_repeat_20 : decode cX11_repeat 20 = .ok (.lload_n 3, 1) := by decide +kernel
theorem dX11_repeat_21 : decode cX11_repeat 21 = .ok (.lcmp, 1) := by decide +kernel
theorem dX11_repeat_22 : decode cX11_repeat 22 = .ok (.ifCond .ge 66, 3) := by decide +kernel
theorem dX11_repeat_25 : decode cX11_repeat 25 = .ok (.iload 5, 2) := by decide +kernel
theorem dX11_repeat_27 : decode cX11_repeat 27 = .ok (.sipush 20000, 3) := by decide +kernel
theorem dX11_repeat_30 : decode cX11_repeat 30 = .ok (.if_icmp .gt 58, 3) := by decide +kernel
theorem dX11_repeat_33 : decode cX11_repeat 33 = .ok (.aload_n 0, 1) := by decide +kernel
theorem dX11_repeat_34 : decode cX11_repeat 34 = .ok (.invokevirtual 138, 3) := by decide +kernel
theorem dX11_repeat_37 : decode cX11_repeat 37 = .ok (.ifCond .ne 6, 3) := by decide +kernel
theorem dX11_repeat_40 : decode cX11_repeat 40 = .ok (.bipush 10, 2) := by decide +kernel
theorem dX11_repeat_42 : decode cX11_repeat 42 = .ok (.ireturn, 1) := by decide +kernel
theorem dX11_repeat_43 : decode cX11_repeat 43 = .ok (.iload_n 2, 1) := by decide +kernel
theorem dX11_repeat_44 : decode cX11_repeat 44 = .ok (.bipush 40, 2) := by decide +kernel
theorem dX11_repeat_46 : decode cX11_repeat 46 = .ok (.if_icmp .lt 13, 3) := by decide +kernel
theorem dX11_repeat_49 : decode cX11_repeat 49 = .ok (.aload_n 0, 1) := by decide +kernel
theorem dX11_repeat_50 : decode cX11_repeat 50 = .ok (.bipush 9, 2) := by decide +kernel
theorem dX11_repeat_52 : decode cX11_repeat 52 = .ok (.iload_n 1, 1) := by decide +kernel
theorem dX11_repeat_53 : decode cX11_repeat 53 = .ok (.invokevirtual 179, 3) := by decide +kernel
theorem dX11_repeat_56 : decode cX11_repeat 56 = .ok (.goto 16, 3) := by decide +kernel
theorem dX11_repeat_59 : decode cX11_repeat 59 = .ok (.aload_n 0, 1) := by decide +kernel
theorem dX11_repeat_60 : decode cX11_repeat 60 = .ok (.aload_n 0, 1) := by decide +kernel
theorem dX11_repeat_61 : decode cX11_repeat 61 = .ok (.getfield 16, 3) := by decide +kernel
theorem dX11_repeat_64 : decode cX11_repeat 64 = .ok (.iload_n 1, 1) := by decide +kernel
theorem dX11_repeat_65 : decode cX11_repeat 65 = .ok (.iaload, 1) := by decide +kernel
theorem dX11_repeat_66 : decode cX11_repeat 66 = .ok (.iload_n 2, 1) := by decide +kernel
theorem dX11_repeat_67 : decode cX11_repeat 67 = .ok (.iconst 1, 1) := by decide +kernel
theorem dX11_repeat_68 : decode cX11_repeat 68 = .ok (.iadd, 1) := by decide +kernel
theorem dX11_repeat_69 : decode cX11_repeat 69 = .ok (.invokevirtual 72, 3) := by decide +kernel
theorem dX11_repeat_72 : decode cX11_repeat 72 = .ok (.istore 6, 2) := by decide +kernel
theorem dX11_repeat_74 : decode cX11_repeat 74 = .ok (.iload 6, 2) := by decide +kernel
theorem dX11_repeat_76 : decode cX11_repeat 76 = .ok (.ifCond .eq 6, 3) := by decide +kernel
theorem dX11_repeat_79 : decode cX11_repeat 79 = .ok (.iload 6, 2) := by decide +kernel
theorem dX11_repeat_81 : decode cX11_repeat 81 = .ok (.ireturn, 1) := by decide +kernel
theorem dX11_repeat_82 : decode cX11_repeat 82 = .ok (.iinc 5 1, 3) := by decide +kernel
theorem dX11_repeat_85 : decode cX11_repeat 85 = .ok (.goto (-68), 3) := by decide +kernel
theorem dX11_repeat_88 : decode cX11_repeat 88 = .ok (.iconst 0, 1) := by decide +kernel
theorem dX11_repeat_89 : decode cX11_repeat 89 = .ok (.ireturn, 1) := by decide +kernel
theorem dX11_attempt_0 : decode cX11_attempt 0 = .ok (.aload_n 0, 1) := by decide +kernel
theorem dX11_attempt_1 : decode cX11_attempt 1 = .ok (.aload_n 0, 1) := by decide +kernel
theorem dX11_attempt_2 : decode cX11_attempt 2 = .ok (.getfield 16, 3) := by decide +kernel
theorem dX11_attempt_5 : decode cX11_attempt 5 = .ok (.iload_n 1, 1) := by decide +kernel
theorem dX11_attempt_6 : decode cX11_attempt 6 = .ok (.iaload, 1) := by decide +kernel
theorem dX11_attempt_7 : decode cX11_attempt 7 = .ok (.iload_n 2, 1) := by decide +kernel
theorem dX11_attempt_8 : decode cX11_attempt 8 = .ok (.invokevirtual 72, 3) := by decide +kernel
theorem dX11_attempt_11 : decode cX11_attempt 11 = .ok (.istore_n 3, 1) := by decide +kernel
theorem dX11_attempt_12 : decode cX11_attempt 12 = .ok (.aload_n 0, 1) := by decide +kernel
theorem dX11_attempt_13 : decode cX11_attempt 13 = .ok (.getfield 19, 3) := by decide +kernel
theorem dX11_attempt_16 : decode cX11_attempt 16 = .ok (.iload_n 1, 1) := by decide +kernel
theorem dX11_attempt_17 : decode cX11_attempt 17 = .ok (.iaload, 1) := by decide +kernel
theorem dX11_attempt_18 : decode cX11_attempt 18 = .ok (.istore 4, 2) := by decide +kernel
theorem dX11_attempt_20 : decode cX11_attempt 20 = .ok (.iload_n 3, 1) := by decide +kernel
theorem dX11_attempt_21 : decode cX11_attempt 21 = .ok (.invokestatic 76, 3) := by decide +kernel
theorem dX11_attempt_24 : decode cX11_attempt 24 = .ok (.ifCond .eq 14, 3) := by decide +kernel
theorem dX11_attempt_27 : decode cX11_attempt 27 = .ok (.iload 4, 2) := by decide +kernel
theorem dX11_attempt_29 : decode cX11_attempt 29 = .ok (.ifCond .eq 11, 3) := by decide +kernel
theorem dX11_attempt_32 : decode cX11_attempt 32 = .ok (.iload 4, 2) := by decide +kernel
theorem dX11_attempt_34 : decode cX11_attempt 34 = .ok (.iload_n 3, 1) := by decide +kernel
theorem dX11_attempt_35 : decode cX11_attempt 35 = .ok (.if_icmp .eq 5, 3) := by decide +kernel
theorem dX11_attempt_38 : decode cX11_attempt 38 = .ok (.iload_n 3, 1) := by decide +kernel
theorem dX11_attempt_39 : decode cX11_attempt 39 = .ok (.ireturn, 1) := by decide +kernel
theorem dX11_attempt_40 : decode cX11_attempt 40 = .ok (.aload_n 0, 1) := by decide +kernel
theorem dX11_attempt_41 : decode cX11_attempt 41 = .ok (.iload_n 3, 1) := by decide +kernel
theorem dX11_attempt_42 : decode cX11_attempt 42 = .ok (.putfield 55, 3) := by decide +kernel
theorem dX11_attempt_45 : decode cX11_attempt 45 = .ok (.aload_n 0, 1) := by decide +kernel
theorem dX11_attempt_46 : decode cX11_attempt 46 = .ok (.aload_n 0, 1) := by decide +kernel
theorem dX11_attempt_47 : decode cX11_attempt 47 = .ok (.getfield 52, 3) := by decide +kernel
theorem dX11_attempt_50 : decode cX11_attempt 50 = .ok (.putfield 58, 3) := by decide +kernel
theorem dX11_attempt_53 : decode cX11_attempt 53 = .ok (.aload_n 0, 1) := by decide +kernel
theorem dX11_attempt_54 : decode cX11_attempt 54 = .ok (.aload_n 0, 1) := by decide +kernel
theorem dX11_attempt_55 : decode cX11_attempt 55 = .ok (.getfield 13, 3) := by decide +kernel
theorem dX11_attempt_58 : decode cX11_attempt 58 = .ok (.iload_n 1, 1) := by decide +kernel
theorem dX11_attempt_59 : decode cX11_attempt 59 = .ok (.iaload, 1) := by decide +kernel
theorem dX11_attempt_60 : decode cX11_attempt 60 = .ok (.iload_n 3, 1) := by decide +kernel
theorem dX11_attempt_61 : decode cX11_attempt 61 = .ok (.i2l, 1) := by decide +kernel
theorem dX11_attempt_62 : decode cX11_attempt 62 = .ok (.invokevirtual 191, 3) := by decide +kernel
theorem dX11_attempt_65 : decode cX11_attempt 65 = .ok (.ireturn, 1) := by decide +kernel
theorem dX11_scope_0 : decode cX11_scope 0 = .ok (.aload_n 0, 1) := by decide +kernel
theorem dX11_scope_1 : decode cX11_scope 1 = .ok (.aload_n 0, 1) := by decide +kernel
theorem dX11_scope_2 : decode cX11_scope 2 = .ok (.getfield 16, 3) := by decide +kernel
theorem dX11_scope_5 : decode cX11_scope 5 = .ok (.iload_n 1, 1) := by decide +kernel
theorem dX11_scope_6 : decode cX11_scope 6 = .ok (.iaload, 1) := by decide +kernel
theorem dX11_scope_7 : decode cX11_scope 7 = .ok (.iload_n 2, 1) := by decide +kernel
theorem dX11_scope_8 : decode cX11_scope 8 = .ok (.invokevirtual 72, 3) := by decide +kernel
theorem dX11_scope_11 : decode cX11_scope 11 = .ok (.istore_n 3, 1) := by decide +kernel
theorem dX11_scope_12 : decode cX11_scope 12 = .ok (.iload_n 3, 1) := by decide +kernel
theorem dX11_scope_13 : decode cX11_scope 13 = .ok (.bipush 10, 2) := by decide +kernel
theorem dX11_scope_15 : decode cX11_scope 15 = .ok (.if_icmp .ne 6, 3) := by decide +kernel
theorem dX11_scope_18 : decode cX11_scope 18 = .ok (.bipush 10, 2) := by decide +kernel
theorem dX11_scope_20 : decode cX11_scope 20 = .ok (.ireturn, 1) := by decide +kernel
theorem dX11_scope_21 : decode cX11_scope 21 = .ok (.aload_n 0, 1) := by decide +kernel
theorem dX11_scope_22 : decode cX11_scope 22 = .ok (.getfield 52, 3) := by decide +kernel
theorem dX11_scope_25 : decode cX11_scope 25 = .ok (.istore 4, 2) := by decide +kernel
theorem dX11_scope_27 : decode cX11_scope 27 = .ok (.aload_n 0, 1) := by decide +kernel
theorem dX11_scope_28 : decode cX11_scope 28 = .ok (.aload_n 0, 1) := by decide +kernel
theorem dX11_scope_29 : decode cX11_scope 29 = .ok (.getfield 19, 3) := by decide +kernel
theorem dX11_scope_32 : decode cX11_scope 32 = .ok (.iload_n 1, 1) := by decide +kernel
theorem dX11_scope_33 : decode cX11_scope 33 = .ok (.iaload, 1) := by decide +kernel
theorem dX11_scope_34 : decode cX11_scope 34 = .ok (.iload_n 2, 1) := by decide +kernel
theorem dX11_scope_35 : decode cX11_scope 35 = .ok (.invokevirtual 72, 3) := by decide +kernel
theorem dX11_scope_38 : decode cX11_scope 38 = .ok (.istore 5, 2) := by decide +kernel
theorem dX11_scope_40 : decode cX11_scope 40 = .ok (.iload 5, 2) := by decide +kernel
theorem dX11_scope_42 : decode cX11_scope 42 = .ok (.ifCond .eq 6, 3) := by decide +kernel
theorem dX11_scope_45 : decode cX11_scope 45 = .ok (.iload 5, 2) := by decide +kernel
theorem dX11_scope_47 : decode cX11_scope 47 = .ok (.ireturn, 1) := by decide +kernel
theorem dX11_scope_48 : decode cX11_scope 48 = .ok (.aload_n 0, 1) := by decide +kernel
theorem dX11_scope_49 : decode cX11_scope 49 = .ok (.iload 4, 2) := by decide +kernel
theorem dX11_scope_51 : decode cX11_scope 51 = .ok (.putfield 52, 3) := by decide +kernel
theorem dX11_scope_54 : decode cX11_scope 54 = .ok (.iload_n 3, 1) := by decide +kernel
theorem dX11_scope_55 : decode cX11_scope 55 = .ok (.ireturn, 1) := by decide +kernel
theorem dX11_isFault_0 : decode cX11_isFault 0 = .ok (.iload_n 0, 1) := by decide +kernel
theorem dX11_isFault_1 : decode cX11_isFault 1 = .ok (.iconst 1, 1) := by decide +kernel
theorem dX11_isFault_2 : decode cX11_isFault 2 = .ok (.if_icmp .lt 13, 3) := by decide +kernel
theorem dX11_isFault_5 : decode cX11_isFault 5 = .ok (.iload_n 0, 1) := by decide +kernel
theorem dX11_isFault_6 : decode cX11_isFault 6 = .ok (.bipush 9, 2) := by decide +kernel
theorem dX11_isFault_8 : decode cX11_isFault 8 = .ok (.if_icmp .gt 7, 3) := by decide +kernel
theorem dX11_isFault_11 : decode cX11_isFault 11 = .ok (.iconst 1, 1) := by decide +kernel
theorem dX11_isFault_12 : decode cX11_isFault 12 = .ok (.goto 4, 3) := by decide +kernel
theorem dX11_isFault_15 : decode cX11_isFault 15 = .ok (.iconst 0, 1) := by decide +kernel
theorem dX11_isFault_16 : decode cX11_isFault 16 = .ok (.ireturn, 1) := by decide +kernel
theorem dX11_raise_0 : decode cX11_raise 0 = .ok (.iload_n 1, 1) := by decide +kernel
theorem dX11_raise_1 : decode cX11_raise 1 = .ok (.invokestatic 76, 3) := by decide +kernel
theorem dX11_raise_4 : decode cX11_raise 4 = .ok (.ifCond .ne 5, 3) := by decide +kernel
theorem dX11_raise_7 : decode cX11_raise 7 = .ok (.iload_n 1, 1) := by decide +kernel
theorem dX11_raise_8 : decode cX11_raise 8 = .ok (.ireturn, 1) := by decide +kernel
theorem dX11_raise_9 : decode cX11_raise 9 = .ok (.aload_n 0, 1) := by decide +kernel
theorem dX11_raise_10 : decode cX11_raise 10 = .ok (.getfield 43, 3) := by decide +kernel
theorem dX11_raise_13 : decode cX11_raise 13 = .ok (.sipush 2000, 3) := by decide +kernel
theorem dX11_raise_16 : decode cX11_raise 16 = .ok (.if_icmp .lt 6, 3) := by decide +kernel
theorem dX11_raise_19 : decode cX11_raise 19 = .ok (.bipush 10, 2) := by decide +kernel
theorem dX11_raise_21 : decode cX11_raise 21 = .ok (.ireturn, 1) := by decide +kernel
theorem dX11_raise_22 : decode cX11_raise 22 = .ok (.aload_n 0, 1) := by decide +kernel
theorem dX11_raise_23 : decode cX11_raise 23 = .ok (.dup, 1) := by decide +kernel
theorem dX11_raise_24 : decode cX11_raise 24 = .ok (.getfield 43, 3) := by decide +kernel
theorem dX11_raise_27 : decode cX11_raise 27 = .ok (.iconst 1, 1) := by decide +kernel
theorem dX11_raise_28 : decode cX11_raise 28 = .ok (.iadd, 1) := by decide +kernel
theorem dX11_raise_29 : decode cX11_raise 29 = .ok (.putfield 43, 3) := by decide +kernel
theorem dX11_raise_32 : decode cX11_raise 32 = .ok (.aload_n 0, 1) := by decide +kernel
theorem dX11_raise_33 : decode cX11_raise 33 = .ok (.iload_n 2, 1) := by decide +kernel
theorem dX11_raise_34 : decode cX11_raise 34 = .ok (.putfield 52, 3) := by decide +kernel
theorem dX11_raise_37 : decode cX11_raise 37 = .ok (.iload_n 1, 1) := by decide +kernel
theorem dX11_raise_38 : decode cX11_raise 38 = .ok (.ireturn, 1) := by decide +kernel
theorem dX11_raiseAgain_0 : decode cX11_raiseAgain 0 = .ok (.aload_n 0, 1) := by decide +kernel
theorem dX11_raiseAgain_1 : decode cX11_raiseAgain 1 = .ok (.getfield 55, 3) := by decide +kernel
theorem dX11_raiseAgain_4 : decode cX11_raiseAgain 4 = .ok (.ifCond .ne 10, 3) := by decide +kernel
theorem dX11_raiseAgain_7 : decode cX11_raiseAgain 7 = .ok (.aload_n 0, 1) := by decide +kernel
theorem dX11_raiseAgain_8 : decode cX11_raiseAgain 8 = .ok (.iconst 1, 1) := by decide +kernel
theorem dX11_raiseAgain_9 : decode cX11_raiseAgain 9 = .ok (.iload_n 1, 1) := by decide +kernel
theorem dX11_raiseAgain_10 : decode cX11_raiseAgain 10 = .ok (.invokevirtual 179, 3) := by decide +kernel
theorem dX11_raiseAgain_13 : decode cX11_raiseAgain 13 = .ok (.ireturn, 1) := by decide +kernel
theorem dX11_raiseAgain_14 : decode cX11_raiseAgain 14 = .ok (.aload_n 0, 1) := by decide +kernel
theorem dX11_raiseAgain_15 : decode cX11_raiseAgain 15 = .ok (.aload_n 0, 1) := by decide +kernel
theorem dX11_raiseAgain_16 : decode cX11_raiseAgain 16 = .ok (.getfield 58, 3) := by decide +kernel
theorem dX11_raiseAgain_19 : decode cX11_raiseAgain 19 = .ok (.putfield 52, 3) := by decide +kernel
theorem dX11_raiseAgain_22 : decode cX11_raiseAgain 22 = .ok (.aload_n 0, 1) := by decide +kernel
theorem dX11_raiseAgain_23 : decode cX11_raiseAgain 23 = .ok (.getfield 55, 3) := by decide +kernel
theorem dX11_raiseAgain_26 : decode cX11_raiseAgain 26 = .ok (.ireturn, 1) := by decide +kernel
theorem dX11_giveNumber_0 : decode cX11_giveNumber 0 = .ok (.aload_n 0, 1) := by decide +kernel
theorem dX11_giveNumber_1 : decode cX11_giveNumber 1 = .ok (.getfield 29, 3) := by decide +kernel
theorem dX11_giveNumber_4 : decode cX11_giveNumber 4 = .ok (.iload_n 1, 1) := by decide +kernel
theorem dX11_giveNumber_5 : decode cX11_giveNumber 5 = .ok (.lload_n 2, 1) := by decide +kernel
theorem dX11_giveNumber_6 : decode cX11_giveNumber 6 = .ok (.invokevirtual 68, 3) := by decide +kernel
theorem dX11_giveNumber_9 : decode cX11_giveNumber 9 = .ok (.iconst 0, 1) := by decide +kernel
theorem dX11_giveNumber_10 : decode cX11_giveNumber 10 = .ok (.ireturn, 1) := by decide +kernel
theorem dX11_giveMeasure_0 : decode cX11_giveMeasure 0 = .ok (.aload_n 0, 1) := by decide +kernel
theorem dX11_giveMeasure_1 : decode cX11_giveMeasure 1 = .ok (.getfield 29, 3) := by decide +kernel
theorem dX11_giveMeasure_4 : decode cX11_giveMeasure 4 = .ok (.iload_n 1, 1) := by decide +kernel
theorem dX11_giveMeasure_5 : decode cX11_giveMeasure 5 = .ok (.lload_n 2, 1) := by decide +kernel
theorem dX11_giveMeasure_6 : decode cX11_giveMeasure 6 = .ok (.invokevirtual 195, 3) := by decide +kernel
theorem dX11_giveMeasure_9 : decode cX11_giveMeasure 9 = .ok (.iconst 0, 1) := by decide +kernel
theorem dX11_giveMeasure_10 : decode cX11_giveMeasure 10 = .ok (.ireturn, 1) := by decide +kernel
theorem dX11_giveThing_0 : decode cX11_giveThing 0 = .ok (.aload_n 0, 1) := by decide +kernel
theorem dX11_giveThing_1 : decode cX11_giveThing 1 = .ok (.getfield 29, 3) := by decide +kernel
theorem dX11_giveThing_4 : decode cX11_giveThing 4 = .ok (.iload_n 1, 1) := by decide +kernel
theorem dX11_giveThing_5 : decode cX11_giveThing 5 = .ok (.aload_n 2, 1) := by decide +kernel
theorem dX11_giveThing_6 : decode cX11_giveThing 6 = .ok (.invokevirtual 198, 3) := by decide +kernel
theorem dX11_giveThing_9 : decode cX11_giveThing 9 = .ok (.iconst 0, 1) := by decide +kernel
theorem dX11_giveThing_10 : decode cX11_giveThing 10 = .ok (.ireturn, 1) := by decide +kernel
theorem dX11_wide_0 : decode cX11_wide 0 = .ok (.iload_n 0, 1) := by decide +kernel
theorem dX11_wide_1 : decode cX11_wide 1 = .ok (.i2l, 1) := by decide +kernel
theorem dX11_wide_2 : decode cX11_wide 2 = .ok (.bipush 32, 2) := by decide +kernel
theorem dX11_wide_4 : decode cX11_wide 4 = .ok (.lshl, 1) := by decide +kernel
theorem dX11_wide_5 : decode cX11_wide 5 = .ok (.iload_n 1, 1) := by decide +kernel
theorem dX11_wide_6 : decode cX11_wide 6 = .ok (.i2l, 1) := by decide +kernel
theorem dX11_wide_7 : decode cX11_wide 7 = .ok (.ldc2_w 202, 3) := by decide +kernel
theorem dX11_wide_10 : decode cX11_wide 10 = .ok (.land, 1) := by decide +kernel
theorem dX11_wide_11 : decode cX11_wide 11 = .ok (.lor, 1) := by decide +kernel
theorem dX11_wide_12 : decode cX11_wide 12 = .ok (.lreturn, 1) := by decide +kernel
theorem dX11_onNumbers_0 : decode cX11_onNumbers 0 = .ok (.aload_n 0, 1) := by decide +kernel
theorem dX11_onNumbers_1 : decode cX11_onNumbers 1 = .ok (.getfield 29, 3) := by decide +kernel
theorem dX11_onNumbers_4 : decode cX11_onNumbers 4 = .ok (.iload_n 3, 1) := by decide +kernel
theorem dX11_onNumbers_5 : decode cX11_onNumbers 5 = .ok (.invokevirtual 80, 3) := by decide +kernel
theorem dX11_onNumbers_8 : decode cX11_onNumbers 8 = .ok (.lstore 5, 2) := by decide +kernel
theorem dX11_onNumbers_10 : decode cX11_onNumbers 10 = .ok (.aload_n 0, 1) := by decide +kernel
theorem dX11_onNumbers_11 : decode cX11_onNumbers 11 = .ok (.getfield 29, 3) := by decide +kernel
theorem dX11_onNumbers_14 : decode cX11_onNumbers 14 = .ok (.iload 4, 2) := by decide +kernel
theorem dX11_onNumbers_16 : decode cX11_onNumbers 16 = .ok (.invokevirtual 80, 3) := by decide +kernel
theorem dX11_onNumbers_19 : decode cX11_onNumbers 19 = .ok (.lstore 7, 2) := by decide +kernel
theorem dX11_onNumbers_21 : decode cX11_onNumbers 21 = .ok (.iload_n 1, 1) := by decide +kernel
theorem dX11_onNumbers_22 : decode cX11_onNumbers 22 = .ok (.tableswitch 245 1 12 #[62, 74, 85, 96, 107, 130, 153, 164, 175, 191, 207, 226], 62) := by decide +kernel
theorem dX11_onNumbers_84 : decode cX11_onNumbers 84 = .ok (.aload_n 0, 1) := by decide +kernel
theorem dX11_onNumbers_85 : decode cX11_onNumbers 85 = .ok (.iload_n 2, 1) := by decide +kernel
theorem dX11_onNumbers_86 : decode cX11_onNumbers 86 = .ok (.iload_n 3, 1) := by decide +kernel
theorem dX11_onNumbers_87 : decode cX11_onNumbers 87 = .ok (.iload 4, 2) := by decide +kernel
theorem dX11_onNumbers_89 : decode cX11_onNumbers 89 = .ok (.invokestatic 64, 3) := by decide +kernel
theorem dX11_onNumbers_92 : decode cX11_onNumbers 92 = .ok (.invokevirtual 191, 3) := by decide +kernel
theorem dX11_onNumbers_95 : decode cX11_onNumbers 95 = .ok (.ireturn, 1) := by decide +kernel
theorem dX11_onNumbers_96 : decode cX11_onNumbers 96 = .ok (.aload_n 0, 1) := by decide +kernel
theorem dX11_onNumbers_97 : decode cX11_onNumbers 97 = .ok (.iload_n 2, 1) := by decide +kernel
theorem dX11_onNumbers_98 : decode cX11_onNumbers 98 = .ok (.lload 5, 2) := by decide +kernel
theorem dX11_onNumbers_100 : decode cX11_onNumbers 100 = .ok (.lload 7, 2) := by decide +kernel
theorem dX11_onNumbers_102 : decode cX11_onNumbers 102 = .ok (.ladd, 1) := by decide +kernel
theorem dX11_onNumbers_103 : decode cX11_onNumbers 103 = .ok (.invokevirtual 191, 3) := by decide +kernel
theorem dX11_onNumbers_106 : decode cX11_onNumbers 106 = .ok (.ireturn, 1) := by decide +kernel
theorem dX11_onNumbers_107 : decode cX11_onNumbers 107 = .ok (.aload_n 0, 1) := by decide +kernel
theorem dX11_onNumbers_108 : decode cX11_onNumbers 108 = .ok (.iload_n 2, 1) := by decide +kernel
theorem dX11_onNumbers_109 : decode cX11_onNumbers 109 = .ok (.lload 5, 2) := by decide +kernel
theorem dX11_onNumbers_111 : decode cX11_onNumbers 111 = .ok (.lload 7, 2) := by decide +kernel
theorem dX11_onNumbers_113 : decode cX11_onNumbers 113 = .ok (.lsub, 1) := by decide +kernel
theorem dX11_onNumbers_114 : decode cX11_onNumbers 114 = .ok (.invokevirtual 191, 3) := by decide +kernel
theorem dX11_onNumbers_117 : decode cX11_onNumbers 117 = .ok (.ireturn, 1) := by decide +kernel
theorem dX11_onNumbers_118 : decode cX11_onNumbers 118 = .ok (.aload_n 0, 1) := by decide +kernel
theorem dX11_onNumbers_119 : decode cX11_onNumbers 119 = .ok (.iload_n 2, 1) := by decide +kernel
theorem dX11_onNumbers_120 : decode cX11_onNumbers 120 = .ok (.lload 5, 2) := by decide +kernel
theorem dX11_onNumbers_122 : decode cX11_onNumbers 122 = .ok (.lload 7, 2) := by decide +kernel
theorem dX11_onNumbers_124 : decode cX11_onNumbers 124 = .ok (.lmul, 1) := by decide +kernel
theorem dX11_onNumbers_125 : decode cX11_onNumbers 125 = .ok (.invokevirtual 191, 3) := by decide +kernel
theorem dX11_onNumbers_128 : decode cX11_onNumbers 128 = .ok (.ireturn, 1) := by decide +kernel
theorem dX11_onNumbers_129 : decode cX11_onNumbers 129 = .ok (.lload 7, 2) := by decide +kernel
theorem dX11_onNumbers_131 : decode cX11_onNumbers 131 = .ok (.lconst 0, 1) := by decide +kernel
theorem dX11_onNumbers_132 : decode cX11_onNumbers 132 = .ok (.lcmp, 1) := by decide +kernel
theorem dX11_onNumbers_133 : decode cX11_onNumbers 133 = .ok (.ifCond .ne 8, 3) := by decide +kernel
theorem dX11_onNumbers_136 : decode cX11_onNumbers 136 = .ok (.bipush 6, 2) := by decide +kernel
theorem dX11_onNumbers_138 : decode cX11_onNumbers 138 = .ok (.goto 13, 3) := by decide +kernel
theorem dX11_onNumbers_141 : decode cX11_onNumbers 141 = .ok (.aload_n 0, 1) := by decide +kernel
theorem dX11_onNumbers_142 : decode cX11_onNumbers 142 = .ok (.iload_n 2, 1) := by decide +kernel
theorem dX11_onNumbers_143 : decode cX11_onNumbers 143 = .ok (.lload 5, 2) := by decide +kernel
theorem dX11_onNumbers_145 : decode cX11_onNumbers 145 = .ok (.lload 7, 2) := by decide +kernel
theorem dX11_onNumbers_147 : decode cX11_onNumbers 147 = .ok (.ldiv, 1) := by decide +kernel
theorem dX11_onNumbers_148 : decode cX11_onNumbers 148 = .ok (.invokevirtual 191, 3) := by decide +kernel
theorem dX11_onNumbers_151 : decode cX11_onNumbers 151 = .ok (.ireturn, 1) := by decide +kernel
theorem dX11_onNumbers_152 : decode cX11_onNumbers 152 = .ok (.lload 7, 2) := by decide +kernel
theorem dX11_onNumbers_154 : decode cX11_onNumbers 154 = .ok (.lconst 0, 1) := by decide +kernel
theorem dX11_onNumbers_155 : decode cX11_onNumbers 155 = .ok (.lcmp, 1) := by decide +kernel
theorem dX11_onNumbers_156 : decode cX11_onNumbers 156 = .ok (.ifCond .ne 8, 3) := by decide +kernel
theorem dX11_onNumbers_159 : decode cX11_onNumbers 159 = .ok (.bipush 6, 2) := by decide +kernel
theorem dX11_onNumbers_161 : decode cX11_onNumbers 161 = .ok (.goto 13, 3) := by decide +kernel
theorem dX11_onNumbers_164 : decode cX11_onNumbers 164 = .ok (.aload_n 0, 1) := by decide +kernel
theorem dX11_onNumbers_165 : decode cX11_onNumbers 165 = .ok (.iload_n 2, 1) := by decide +kernel
theorem dX11_onNumbers_166 : decode cX11_onNumbers 166 = .ok (.lload 5, 2) := by decide +kernel
theorem dX11_onNumbers_168 : decode cX11_onNumbers 168 = .ok (.lload 7, 2) := by decide +kernel
theorem dX11_onNumbers_170 : decode cX11_onNumbers 170 = .ok (.lrem, 1) := by decide +kernel
theorem dX11_onNumbers_171 : decode cX11_onNumbers 171 = .ok (.invokevirtual 191, 3) := by decide +kernel
theorem dX11_onNumbers_174 : decode cX11_onNumbers 174 = .ok (.ireturn, 1) := by decide +kernel
theorem dX11_onNumbers_175 : decode cX11_onNumbers 175 = .ok (.aload_n 0, 1) := by decide +kernel
theorem dX11_onNumbers_176 : decode cX11_onNumbers 176 = .ok (.iload_n 2, 1) := by decide +kernel
theorem dX11_onNumbers_177 : decode cX11_onNumbers 177 = .ok (.lload 5, 2) := by decide +kernel
theorem dX11_onNumbers_179 : decode cX11_onNumbers 179 = .ok (.lload 7, 2) := by decide +kernel
theorem dX11_onNumbers_181 : decode cX11_onNumbers 181 = .ok (.land, 1) := by decide +kernel
theorem dX11_onNumbers_182 : decode cX11_onNumbers 182 = .ok (.invokevirtual 191, 3) := by decide +kernel
theorem dX11_onNumbers_185 : decode cX11_onNumbers 185 = .ok (.ireturn, 1) := by decide +kernel
theorem dX11_onNumbers_186 : decode cX11_onNumbers 186 = .ok (.aload_n 0, 1) := by decide +kernel
theorem dX11_onNumbers_187 : decode cX11_onNumbers 187 = .ok (.iload_n 2, 1) := by decide +kernel
theorem dX11_onNumbers_188 : decode cX11_onNumbers 188 = .ok (.lload 5, 2) := by decide +kernel
theorem dX11_onNumbers_190 : decode cX11_onNumbers 190 = .ok (.lload 7, 2) := by decide +kernel
theorem dX11_onNumbers_192 : decode cX11_onNumbers 192 = .ok (.lxor, 1) := by decide +kernel
theorem dX11_onNumbers_193 : decode cX11_onNumbers 193 = .ok (.invokevirtual 191, 3) := by decide +kernel
theorem dX11_onNumbers_196 : decode cX11_onNumbers 196 = .ok (.ireturn, 1) := by decide +kernel
theorem dX11_onNumbers_197 : decode cX11_onNumbers 197 = .ok (.aload_n 0, 1) := by decide +kernel
theorem dX11_onNumbers_198 : decode cX11_onNumbers 198 = .ok (.iload_n 2, 1) := by decide +kernel
theorem dX11_onNumbers_199 : decode cX11_onNumbers 199 = .ok (.lload 5, 2) := by decide +kernel
theorem dX11_onNumbers_201 : decode cX11_onNumbers 201 = .ok (.lload 7, 2) := by decide +kernel
theorem dX11_onNumbers_203 : decode cX11_onNumbers 203 = .ok (.ldc2_w 204, 3) := by decide +kernel
theorem dX11_onNumbers_206 : decode cX11_onNumbers 206 = .ok (.land, 1) := by decide +kernel
theorem dX11_onNumbers_207 : decode cX11_onNumbers 207 = .ok (.l2i, 1) := by decide +kernel
theorem dX11_onNumbers_208 : decode cX11_onNumbers 208 = .ok (.lshl, 1) := by decide +kernel
theorem dX11_onNumbers_209 : decode cX11_onNumbers 209 = .ok (.invokevirtual 191, 3) := by decide +kernel
theorem dX11_onNumbers_212 : decode cX11_onNumbers 212 = .ok (.ireturn, 1) := by decide +kernel
theorem dX11_onNumbers_213 : decode cX11_onNumbers 213 = .ok (.aload_n 0, 1) := by decide +kernel
theorem dX11_onNumbers_214 : decode cX11_onNumbers 214 = .ok (.iload_n 2, 1) := by decide +kernel
theorem dX11_onNumbers_215 : decode cX11_onNumbers 215 = .ok (.lload 5, 2) := by decide +kernel
theorem dX11_onNumbers_217 : decode cX11_onNumbers 217 = .ok (.lload 7, 2) := by decide +kernel
theorem dX11_onNumbers_219 : decode cX11_onNumbers 219 = .ok (.ldc2_w 204, 3) := by decide +kernel
theorem dX11_onNumbers_222 : decode cX11_onNumbers 222 = .ok (.land, 1) := by decide +kernel
theorem dX11_onNumbers_223 : decode cX11_onNumbers 223 = .ok (.l2i, 1) := by decide +kernel
theorem dX11_onNumbers_224 : decode cX11_onNumbers 224 = .ok (.lshr, 1) := by decide +kernel
theorem dX11_onNumbers_225 : decode cX11_onNumbers 225 = .ok (.invokevirtual 191, 3) := by decide +kernel
theorem dX11_onNumbers_228 : decode cX11_onNumbers 228 = .ok (.ireturn, 1) := by decide +kernel
theorem dX11_onNumbers_229 : decode cX11_onNumbers 229 = .ok (.aload_n 0, 1) := by decide +kernel
theorem dX11_onNumbers_230 : decode cX11_onNumbers 230 = .ok (.iload_n 2, 1) := by decide +kernel
theorem dX11_onNumbers_231 : decode cX11_onNumbers 231 = .ok (.lload 5, 2) := by decide +kernel
theorem dX11_onNumbers_233 : decode cX11_onNumbers 233 = .ok (.lload 7, 2) := by decide +kernel
theorem dX11_onNumbers_235 : decode cX11_onNumbers 235 = .ok (.lcmp, 1) := by decide +kernel
theorem dX11_onNumbers_236 : decode cX11_onNumbers 236 = .ok (.ifCond .ge 7, 3) := by decide +kernel
theorem dX11_onNumbers_239 : decode cX11_onNumbers 239 = .ok (.lconst 1, 1) := by decide +kernel
theorem dX11_onNumbers_240 : decode cX11_onNumbers 240 = .ok (.goto 4, 3) := by decide +kernel
theorem dX11_onNumbers_243 : decode cX11_onNumbers 243 = .ok (.lconst 0, 1) := by decide +kernel
theorem dX11_onNumbers_244 : decode cX11_onNumbers 244 = .ok (.invokevirtual 191, 3) := by decide +kernel
theorem dX11_onNumbers_247 : decode cX11_onNumbers 247 = .ok (.ireturn, 1) := by decide +kernel
theorem dX11_onNumbers_248 : decode cX11_onNumbers 248 = .ok (.aload_n 0, 1) := by decide +kernel
theorem dX11_onNumbers_249 : decode cX11_onNumbers 249 = .ok (.iload_n 2, 1) := by decide +kernel
theorem dX11_onNumbers_250 : decode cX11_onNumbers 250 = .ok (.lload 5, 2) := by decide +kernel
theorem dX11_onNumbers_252 : decode cX11_onNumbers 252 = .ok (.lload 7, 2) := by decide +kernel
theorem dX11_onNumbers_254 : decode cX11_onNumbers 254 = .ok (.lcmp, 1) := by decide +kernel
theorem dX11_onNumbers_255 : decode cX11_onNumbers 255 = .ok (.ifCond .ne 7, 3) := by decide +kernel
theorem dX11_onNumbers_258 : decode cX11_onNumbers 258 = .ok (.lconst 1, 1) := by decide +kernel
theorem dX11_onNumbers_259 : decode cX11_onNumbers 259 = .ok (.goto 4, 3) := by decide +kernel
theorem dX11_onNumbers_262 : decode cX11_onNumbers 262 = .ok (.lconst 0, 1) := by decide +kernel
theorem dX11_onNumbers_263 : decode cX11_onNumbers 263 = .ok (.invokevirtual 191, 3) := by decide +kernel
theorem dX11_onNumbers_266 : decode cX11_onNumbers 266 = .ok (.ireturn, 1) := by decide +kernel
theorem dX11_onNumbers_267 : decode cX11_onNumbers 267 = .ok (.iconst 2, 1) := by decide +kernel
theorem dX11_onNumbers_268 : decode cX11_onNumbers 268 = .ok (.ireturn, 1) := by decide +kernel
theorem dX11_raiseOrLog_0 : decode cX11_raiseOrLog 0 = .ok (.iload_n 1, 1) := by decide +kernel
theorem dX11_raiseOrLog_1 : decode cX11_raiseOrLog 1 = .ok (.tableswitch 87 18 21 #[31, 87, 61, 74], 31) := by decide +kernel
theorem dX11_raiseOrLog_32 : decode cX11_raiseOrLog 32 = .ok (.aload_n 0, 1) := by decide +kernel
theorem dX11_raiseOrLog_33 : decode cX11_raiseOrLog 33 = .ok (.getfield 29, 3) := by decide +kernel
theorem dX11_raiseOrLog_36 : decode cX11_raiseOrLog 36 = .ok (.iload_n 2, 1) := by decide +kernel
theorem dX11_raiseOrLog_37 : decode cX11_raiseOrLog 37 = .ok (.invokevirtual 80, 3) := by decide +kernel
theorem dX11_raiseOrLog_40 : decode cX11_raiseOrLog 40 = .ok (.lstore_n 3, 1) := by decide +kernel
theorem dX11_raiseOrLog_41 : decode cX11_raiseOrLog 41 = .ok (.lload_n 3, 1) := by decide +kernel
theorem dX11_raiseOrLog_42 : decode cX11_raiseOrLog 42 = .ok (.lconst 1, 1) := by decide +kernel
theorem dX11_raiseOrLog_43 : decode cX11_raiseOrLog 43 = .ok (.lcmp, 1) := by decide +kernel
theorem dX11_raiseOrLog_44 : decode cX11_raiseOrLog 44 = .ok (.ifCond .lt 16, 3) := by decide +kernel
theorem dX11_raiseOrLog_47 : decode cX11_raiseOrLog 47 = .ok (.lload_n 3, 1) := by decide +kernel
theorem dX11_raiseOrLog_48 : decode cX11_raiseOrLog 48 = .ok (.ldc2_w 206, 3) := by decide +kernel
theorem dX11_raiseOrLog_51 : decode cX11_raiseOrLog 51 = .ok (.lcmp, 1) := by decide +kernel
theorem dX11_raiseOrLog_52 : decode cX11_raiseOrLog 52 = .ok (.ifCond .gt 8, 3) := by decide +kernel
theorem dX11_raiseOrLog_55 : decode cX11_raiseOrLog 55 = .ok (.lload_n 3, 1) := by decide +kernel
theorem dX11_raiseOrLog_56 : decode cX11_raiseOrLog 56 = .ok (.l2i, 1) := by decide +kernel
theorem dX11_raiseOrLog_57 : decode cX11_raiseOrLog 57 = .ok (.goto 4, 3) := by decide +kernel
theorem dX11_raiseOrLog_60 : decode cX11_raiseOrLog 60 = .ok (.iconst 2, 1) := by decide +kernel
theorem dX11_raiseOrLog_61 : decode cX11_raiseOrLog 61 = .ok (.ireturn, 1) := by decide +kernel
theorem dX11_raiseOrLog_62 : decode cX11_raiseOrLog 62 = .ok (.aload_n 0, 1) := by decide +kernel
theorem dX11_raiseOrLog_63 : decode cX11_raiseOrLog 63 = .ok (.aload_n 0, 1) := by decide +kernel
theorem dX11_raiseOrLog_64 : decode cX11_raiseOrLog 64 = .ok (.getfield 29, 3) := by decide +kernel
theorem dX11_raiseOrLog_67 : decode cX11_raiseOrLog 67 = .ok (.iload_n 2, 1) := by decide +kernel
theorem dX11_raiseOrLog_68 : decode cX11_raiseOrLog 68 = .ok (.invokevirtual 80, 3) := by decide +kernel
theorem dX11_raiseOrLog_71 : decode cX11_raiseOrLog 71 = .ok (.invokevirtual 208, 3) := by decide +kernel
theorem dX11_raiseOrLog_74 : decode cX11_raiseOrLog 74 = .ok (.ireturn, 1) := by decide +kernel
theorem dX11_raiseOrLog_75 : decode cX11_raiseOrLog 75 = .ok (.aload_n 0, 1) := by decide +kernel
theorem dX11_raiseOrLog_76 : decode cX11_raiseOrLog 76 = .ok (.aload_n 0, 1) := by decide +kernel
theorem dX11_raiseOrLog_77 : decode cX11_raiseOrLog 77 = .ok (.getfield 29, 3) := by decide +kernel
theorem dX11_raiseOrLog_80 : decode cX11_raiseOrLog 80 = .ok (.iload_n 2, 1) := by decide +kernel
theorem dX11_raiseOrLog_81 : decode cX11_raiseOrLog 81 = .ok (.invokevirtual 84, 3) := by decide +kernel
theorem dX11_raiseOrLog_84 : decode cX11_raiseOrLog 84 = .ok (.invokevirtual 208, 3) := by decide +kernel
theorem dX11_raiseOrLog_87 : decode cX11_raiseOrLog 87 = .ok (.ireturn, 1) := by decide +kernel
theorem dX11_raiseOrLog_88 : decode cX11_raiseOrLog 88 = .ok (.iconst 2, 1) := by decide +kernel
theorem dX11_raiseOrLog_89 : decode cX11_raiseOrLog 89 = .ok (.ireturn, 1) := by decide +kernel
theorem dX11_keepLog_0 : decode cX11_keepLog 0 = .ok (.aload_n 0, 1) := by decide +kernel
theorem dX11_keepLog_1 : decode cX11_keepLog 1 = .ok (.getfield 37, 3) := by decide +kernel
theorem dX11_keepLog_4 : decode cX11_keepLog 4 = .ok (.sipush 200, 3) := by decide +kernel
theorem dX11_keepLog_7 : decode cX11_keepLog 7 = .ok (.if_icmp .ge 13, 3) := by decide +kernel
theorem dX11_keepLog_10 : decode cX11_keepLog 10 = .ok (.aload_n 0, 1) := by decide +kernel
theorem dX11_keepLog_11 : decode cX11_keepLog 11 = .ok (.getfield 33, 3) := by decide +kernel
theorem dX11_keepLog_14 : decode cX11_keepLog 14 = .ok (.aload_n 0, 1) := by decide +kernel
theorem dX11_keepLog_15 : decode cX11_keepLog 15 = .ok (.getfield 37, 3) := by decide +kernel
theorem dX11_keepLog_18 : decode cX11_keepLog 18 = .ok (.lload_n 1, 1) := by decide +kernel
theorem dX11_keepLog_19 : decode cX11_keepLog 19 = .ok (.lastore, 1) := by decide +kernel
theorem dX11_keepLog_20 : decode cX11_keepLog 20 = .ok (.aload_n 0, 1) := by decide +kernel
theorem dX11_keepLog_21 : decode cX11_keepLog 21 = .ok (.dup, 1) := by decide +kernel
theorem dX11_keepLog_22 : decode cX11_keepLog 22 = .ok (.getfield 37, 3) := by decide +kernel
theorem dX11_keepLog_25 : decode cX11_keepLog 25 = .ok (.iconst 1, 1) := by decide +kernel
theorem dX11_keepLog_26 : decode cX11_keepLog 26 = .ok (.iadd, 1) := by decide +kernel
theorem dX11_keepLog_27 : decode cX11_keepLog 27 = .ok (.putfield 37, 3) := by decide +kernel
theorem dX11_keepLog_30 : decode cX11_keepLog 30 = .ok (.iconst 0, 1) := by decide +kernel
theorem dX11_keepLog_31 : decode cX11_keepLog 31 = .ok (.ireturn, 1) := by decide +kernel
theorem dX11_onMeasures_0 : decode cX11_onMeasures 0 = .ok (.aload_n 0, 1) := by decide +kernel
theorem dX11_onMeasures_1 : decode cX11_onMeasures 1 = .ok (.getfield 29, 3) := by decide +kernel
theorem dX11_onMeasures_4 : decode cX11_onMeasures 4 = .ok (.iload_n 3, 1) := by decide +kernel
theorem dX11_onMeasures_5 : decode cX11_onMeasures 5 = .ok (.invokevirtual 84, 3) := by decide +kernel
theorem dX11_onMeasures_8 : decode cX11_onMeasures 8 = .ok (.lstore 5, 2) := by decide +kernel
theorem dX11_onMeasures_10 : decode cX11_onMeasures 10 = .ok (.aload_n 0, 1) := by decide +kernel
theorem dX11_onMeasures_11 : decode cX11_onMeasures 11 = .ok (.getfield 29, 3) := by decide +kernel
theorem dX11_onMeasures_14 : decode cX11_onMeasures 14 = .ok (.iload 4, 2) := by decide +kernel
theorem dX11_onMeasures_16 : decode cX11_onMeasures 16 = .ok (.invokevirtual 84, 3) := by decide +kernel
theorem dX11_onMeasures_19 : decode cX11_onMeasures 19 = .ok (.lstore 7, 2) := by decide +kernel
theorem dX11_onMeasures_21 : decode cX11_onMeasures 21 = .ok (.iload_n 1, 1) := by decide +kernel
theorem dX11_onMeasures_22 : decode cX11_onMeasures 22 = .ok (.tableswitch 236 24 34 #[58, 78, 91, 104, 117, 130, 143, 159, 174, 202, 215], 58) := by decide +kernel
theorem dX11_onMeasures_80 : decode cX11_onMeasures 80 = .ok (.aload_n 0, 1) := by decide +kernel
theorem dX11_onMeasures_81 : decode cX11_onMeasures 81 = .ok (.iload_n 2, 1) := by decide +kernel
theorem dX11_onMeasures_82 : decode cX11_onMeasures 82 = .ok (.iload_n 3, 1) := by decide +kernel
theorem dX11_onMeasures_83 : decode cX11_onMeasures 83 = .ok (.i2l, 1) := by decide +kernel
theorem dX11_onMeasures_84 : decode cX11_onMeasures 84 = .ok (.invokestatic 212, 3) := by decide +kernel
theorem dX11_onMeasures_87 : decode cX11_onMeasures 87 = .ok (.iload 4, 2) := by decide +kernel
theorem dX11_onMeasures_89 : decode cX11_onMeasures 89 = .ok (.i2l, 1) := by decide +kernel
theorem dX11_onMeasures_90 : decode cX11_onMeasures 90 = .ok (.invokestatic 212, 3) := by decide +kernel
theorem dX11_onMeasures_93 : decode cX11_onMeasures 93 = .ok (.invokestatic 218, 3) := by decide +kernel
theorem dX11_onMeasures_96 : decode cX11_onMeasures 96 = .ok (.invokevirtual 222, 3) := by decide +kernel
theorem dX11_onMeasures_99 : decode cX11_onMeasures 99 = .ok (.ireturn, 1) := by decide +kernel
theorem dX11_onMeasures_100 : decode cX11_onMeasures 100 = .ok (.aload_n 0, 1) := by decide +kernel
theorem dX11_onMeasures_101 : decode cX11_onMeasures 101 = .ok (.iload_n 2, 1) := by decide +kernel
theorem dX11_onMeasures_102 : decode cX11_onMeasures 102 = .ok (.lload 5, 2) := by decide +kernel
theorem dX11_onMeasures_104 : decode cX11_onMeasures 104 = .ok (.lload 7, 2) := by decide +kernel
theorem dX11_onMeasures_106 : decode cX11_onMeasures 106 = .ok (.invokestatic 225, 3) := by decide +kernel
theorem dX11_onMeasures_109 : decode cX11_onMeasures 109 = .ok (.invokevirtual 222, 3) := by decide +kernel
theorem dX11_onMeasures_112 : decode cX11_onMeasures 112 = .ok (.ireturn, 1) := by decide +kernel
theorem dX11_onMeasures_113 : decode cX11_onMeasures 113 = .ok (.aload_n 0, 1) := by decide +kernel
theorem dX11_onMeasures_114 : decode cX11_onMeasures 114 = .ok (.iload_n 2, 1) := by decide +kernel
theorem dX11_onMeasures_115 : decode cX11_onMeasures 115 = .ok (.lload 5, 2) := by decide +kernel
theorem dX11_onMeasures_117 : decode cX11_onMeasures 117 = .ok (.lload 7, 2) := by decide +kernel
theorem dX11_onMeasures_119 : decode cX11_onMeasures 119 = .ok (.invokestatic 228, 3) := by decide +kernel
theorem dX11_onMeasures_122 : decode cX11_onMeasures 122 = .ok (.invokevirtual 222, 3) := by decide +kernel
theorem dX11_onMeasures_125 : decode cX11_onMeasures 125 = .ok (.ireturn, 1) := by decide +kernel
theorem dX11_onMeasures_126 : decode cX11_onMeasures 126 = .ok (.aload_n 0, 1) := by decide +kernel
theorem dX11_onMeasures_127 : decode cX11_onMeasures 127 = .ok (.iload_n 2, 1) := by decide +kernel
theorem dX11_onMeasures_128 : decode cX11_onMeasures 128 = .ok (.lload 5, 2) := by decide +kernel
theorem dX11_onMeasures_130 : decode cX11_onMeasures 130 = .ok (.lload 7, 2) := by decide +kernel
theorem dX11_onMeasures_132 : decode cX11_onMeasures 132 = .ok (.invokestatic 231, 3) := by decide +kernel
theorem dX11_onMeasures_135 : decode cX11_onMeasures 135 = .ok (.invokevirtual 222, 3) := by decide +kernel
theorem dX11_onMeasures_138 : decode cX11_onMeasures 138 = .ok (.ireturn, 1) := by decide +kernel
theorem dX11_onMeasures_139 : decode cX11_onMeasures 139 = .ok (.aload_n 0, 1) := by decide +kernel
theorem dX11_onMeasures_140 : decode cX11_onMeasures 140 = .ok (.iload_n 2, 1) := by decide +kernel
theorem dX11_onMeasures_141 : decode cX11_onMeasures 141 = .ok (.lload 5, 2) := by decide +kernel
theorem dX11_onMeasures_143 : decode cX11_onMeasures 143 = .ok (.lload 7, 2) := by decide +kernel
theorem dX11_onMeasures_145 : decode cX11_onMeasures 145 = .ok (.invokestatic 218, 3) := by decide +kernel
theorem dX11_onMeasures_148 : decode cX11_onMeasures 148 = .ok (.invokevirtual 222, 3) := by decide +kernel
theorem dX11_onMeasures_151 : decode cX11_onMeasures 151 = .ok (.ireturn, 1) := by decide +kernel
theorem dX11_onMeasures_152 : decode cX11_onMeasures 152 = .ok (.aload_n 0, 1) := by decide +kernel
theorem dX11_onMeasures_153 : decode cX11_onMeasures 153 = .ok (.iload_n 2, 1) := by decide +kernel
theorem dX11_onMeasures_154 : decode cX11_onMeasures 154 = .ok (.lload 5, 2) := by decide +kernel
theorem dX11_onMeasures_156 : decode cX11_onMeasures 156 = .ok (.lload 7, 2) := by decide +kernel
theorem dX11_onMeasures_158 : decode cX11_onMeasures 158 = .ok (.invokestatic 234, 3) := by decide +kernel
theorem dX11_onMeasures_161 : decode cX11_onMeasures 161 = .ok (.invokevirtual 222, 3) := by decide +kernel
theorem dX11_onMeasures_164 : decode cX11_onMeasures 164 = .ok (.ireturn, 1) := by decide +kernel
theorem dX11_onMeasures_165 : decode cX11_onMeasures 165 = .ok (.aload_n 0, 1) := by decide +kernel
theorem dX11_onMeasures_166 : decode cX11_onMeasures 166 = .ok (.iload_n 2, 1) := by decide +kernel
theorem dX11_onMeasures_167 : decode cX11_onMeasures 167 = .ok (.lload 5, 2) := by decide +kernel
theorem dX11_onMeasures_169 : decode cX11_onMeasures 169 = .ok (.iload 4, 2) := by decide +kernel
theorem dX11_onMeasures_171 : decode cX11_onMeasures 171 = .ok (.bipush 15, 2) := by decide +kernel
theorem dX11_onMeasures_173 : decode cX11_onMeasures 173 = .ok (.iand, 1) := by decide +kernel
theorem dX11_onMeasures_174 : decode cX11_onMeasures 174 = .ok (.invokestatic 237, 3) := by decide +kernel
theorem dX11_onMeasures_177 : decode cX11_onMeasures 177 = .ok (.invokevirtual 222, 3) := by decide +kernel
theorem dX11_onMeasures_180 : decode cX11_onMeasures 180 = .ok (.ireturn, 1) := by decide +kernel
theorem dX11_onMeasures_181 : decode cX11_onMeasures 181 = .ok (.aload_n 0, 1) := by decide +kernel
theorem dX11_onMeasures_182 : decode cX11_onMeasures 182 = .ok (.iload_n 2, 1) := by decide +kernel
theorem dX11_onMeasures_183 : decode cX11_onMeasures 183 = .ok (.aload_n 0, 1) := by decide +kernel
theorem dX11_onMeasures_184 : decode cX11_onMeasures 184 = .ok (.iload_n 2, 1) := by decide +kernel
theorem dX11_onMeasures_185 : decode cX11_onMeasures 185 = .ok (.lload 5, 2) := by decide +kernel
theorem dX11_onMeasures_187 : decode cX11_onMeasures 187 = .ok (.iload 4, 2) := by decide +kernel
theorem dX11_onMeasures_189 : decode cX11_onMeasures 189 = .ok (.invokevirtual 241, 3) := by decide +kernel
theorem dX11_onMeasures_192 : decode cX11_onMeasures 192 = .ok (.invokevirtual 222, 3) := by decide +kernel
theorem dX11_onMeasures_195 : decode cX11_onMeasures 195 = .ok (.ireturn, 1) := by decide +kernel
theorem dX11_onMeasures_196 : decode cX11_onMeasures 196 = .ok (.aload_n 0, 1) := by decide +kernel
theorem dX11_onMeasures_197 : decode cX11_onMeasures 197 = .ok (.iload_n 2, 1) := by decide +kernel
theorem dX11_onMeasures_198 : decode cX11_onMeasures 198 = .ok (.iload 4, 2) := by decide +kernel
theorem dX11_onMeasures_200 : decode cX11_onMeasures 200 = .ok (.iconst 4, 1) := by decide +kernel
theorem dX11_onMeasures_201 : decode cX11_onMeasures 201 = .ok (.ishr, 1) := by decide +kernel
theorem dX11_onMeasures_202 : decode cX11_onMeasures 202 = .ok (.bipush 7, 2) := by decide +kernel
theorem dX11_onMeasures_204 : decode cX11_onMeasures 204 = .ok (.iand, 1) := by decide +kernel
theorem dX11_onMeasures_205 : decode cX11_onMeasures 205 = .ok (.lload 5, 2) := by decide +kernel
theorem dX11_onMeasures_207 : decode cX11_onMeasures 207 = .ok (.lload 7, 2) := by decide +kernel
theorem dX11_onMeasures_209 : decode cX11_onMeasures 209 = .ok (.invokestatic 245, 3) := by decide +kernel
theorem dX11_onMeasures_212 : decode cX11_onMeasures 212 = .ok (.ifCond .eq 7, 3) := by decide +kernel
theorem dX11_onMeasures_215 : decode cX11_onMeasures 215 = .ok (.lconst 1, 1) := by decide +kernel
theorem dX11_onMeasures_216 : decode cX11_onMeasures 216 = .ok (.goto 4, 3) := by decide +kernel
theorem dX11_onMeasures_219 : decode cX11_onMeasures 219 = .ok (.lconst 0, 1) := by decide +kernel
theorem dX11_onMeasures_220 : decode cX11_onMeasures 220 = .ok (.invokevirtual 191, 3) := by decide +kernel
theorem dX11_onMeasures_223 : decode cX11_onMeasures 223 = .ok (.ireturn, 1) := by decide +kernel
theorem dX11_onMeasures_224 : decode cX11_onMeasures 224 = .ok (.aload_n 0, 1) := by decide +kernel
theorem dX11_onMeasures_225 : decode cX11_onMeasures 225 = .ok (.iload_n 2, 1) := by decide +kernel
theorem dX11_onMeasures_226 : decode cX11_onMeasures 226 = .ok (.lload 5, 2) := by decide +kernel
theorem dX11_onMeasures_228 : decode cX11_onMeasures 228 = .ok (.iload 4, 2) := by decide +kernel
theorem dX11_onMeasures_230 : decode cX11_onMeasures 230 = .ok (.bipush 7, 2) := by decide +kernel
theorem dX11_onMeasures_232 : decode cX11_onMeasures 232 = .ok (.iand, 1) := by decide +kernel
theorem dX11_onMeasures_233 : decode cX11_onMeasures 233 = .ok (.invokevirtual 249, 3) := by decide +kernel
theorem dX11_onMeasures_236 : decode cX11_onMeasures 236 = .ok (.ireturn, 1) := by decide +kernel
theorem dX11_onMeasures_237 : decode cX11_onMeasures 237 = .ok (.aload_n 0, 1) := by decide +kernel
theorem dX11_onMeasures_238 : decode cX11_onMeasures 238 = .ok (.iload_n 2, 1) := by decide +kernel
theorem dX11_onMeasures_239 : decode cX11_onMeasures 239 = .ok (.aload_n 0, 1) := by decide +kernel
theorem dX11_onMeasures_240 : decode cX11_onMeasures 240 = .ok (.getfield 29, 3) := by decide +kernel
theorem dX11_onMeasures_243 : decode cX11_onMeasures 243 = .ok (.iload_n 3, 1) := by decide +kernel
theorem dX11_onMeasures_244 : decode cX11_onMeasures 244 = .ok (.invokevirtual 80, 3) := by decide +kernel
theorem dX11_onMeasures_247 : decode cX11_onMeasures 247 = .ok (.iload 4, 2) := by decide +kernel
theorem dX11_onMeasures_249 : decode cX11_onMeasures 249 = .ok (.iconst 3, 1) := by decide +kernel
theorem dX11_onMeasures_250 : decode cX11_onMeasures 250 = .ok (.iand, 1) := by decide +kernel
theorem dX11_onMeasures_251 : decode cX11_onMeasures 251 = .ok (.invokestatic 253, 3) := by decide +kernel
theorem dX11_onMeasures_254 : decode cX11_onMeasures 254 = .ok (.invokevirtual 222, 3) := by decide +kernel
theorem dX11_onMeasures_257 : decode cX11_onMeasures 257 = .ok (.ireturn, 1) := by decide +kernel
theorem dX11_onMeasures_258 : decode cX11_onMeasures 258 = .ok (.iconst 2, 1) := by decide +kernel
theorem dX11_onMeasures_259 : decode cX11_onMeasures 259 = .ok (.ireturn, 1) := by decide +kernel
theorem dX11_ofOne_0 : decode cX11_ofOne 0 = .ok (.iload_n 2, 1) := by decide +kernel
theorem dX11_ofOne_1 : decode cX11_ofOne 1 = .ok (.tableswitch 130 0 11 #[63, 68, 73, 78, 83, 88, 93, 98, 103, 108, 113, 122], 63) := by decide +kernel
theorem dX11_ofOne_64 : decode cX11_ofOne 64 = .ok (.lload_n 0, 1) := by decide +kernel
theorem dX11_ofOne_65 : decode cX11_ofOne 65 = .ok (.invokestatic 256, 3) := by decide +kernel
theorem dX11_ofOne_68 : decode cX11_ofOne 68 = .ok (.lreturn, 1) := by decide +kernel
theorem dX11_ofOne_69 : decode cX11_ofOne 69 = .ok (.lload_n 0, 1) := by decide +kernel
theorem dX11_ofOne_70 : decode cX11_ofOne 70 = .ok (.invokestatic 259, 3) := by decide +kernel
theorem dX11_ofOne_73 : decode cX11_ofOne 73 = .ok (.lreturn, 1) := by decide +kernel
theorem dX11_ofOne_74 : decode cX11_ofOne 74 = .ok (.lload_n 0, 1) := by decide +kernel
theorem dX11_ofOne_75 : decode cX11_ofOne 75 = .ok (.invokestatic 262, 3) := by decide +kernel
theorem dX11_ofOne_78 : decode cX11_ofOne 78 = .ok (.lreturn, 1) := by decide +kernel
theorem dX11_ofOne_79 : decode cX11_ofOne 79 = .ok (.lload_n 0, 1) := by decide +kernel
theorem dX11_ofOne_80 : decode cX11_ofOne 80 = .ok (.invokestatic 265, 3) := by decide +kernel
theorem dX11_ofOne_83 : decode cX11_ofOne 83 = .ok (.lreturn, 1) := by decide +kernel
theorem dX11_ofOne_84 : decode cX11_ofOne 84 = .ok (.lload_n 0, 1) := by decide +kernel
theorem dX11_ofOne_85 : decode cX11_ofOne 85 = .ok (.invokestatic 268, 3) := by decide +kernel
theorem dX11_ofOne_88 : decode cX11_ofOne 88 = .ok (.lreturn, 1) := by decide +kernel
theorem dX11_ofOne_89 : decode cX11_ofOne 89 = .ok (.lload_n 0, 1) := by decide +kernel
theorem dX11_ofOne_90 : decode cX11_ofOne 90 = .ok (.invokestatic 271, 3) := by decide +kernel
theorem dX11_ofOne_93 : decode cX11_ofOne 93 = .ok (.lreturn, 1) := by decide +kernel
theorem dX11_ofOne_94 : decode cX11_ofOne 94 = .ok (.lload_n 0, 1) := by decide +kernel
theorem dX11_ofOne_95 : decode cX11_ofOne 95 = .ok (.invokestatic 274, 3) := by decide +kernel
theorem dX11_ofOne_98 : decode cX11_ofOne 98 = .ok (.lreturn, 1) := by decide +kernel
theorem dX11_ofOne_99 : decode cX11_ofOne 99 = .ok (.lload_n 0, 1) := by decide +kernel
theorem dX11_ofOne_100 : decode cX11_ofOne 100 = .ok (.invokestatic 277, 3) := by decide +kernel
theorem dX11_ofOne_103 : decode cX11_ofOne 103 = .ok (.lreturn, 1) := by decide +kernel
theorem dX11_ofOne_104 : decode cX11_ofOne 104 = .ok (.lload_n 0, 1) := by decide +kernel
theorem dX11_ofOne_105 : decode cX11_ofOne 105 = .ok (.invokestatic 280, 3) := by decide +kernel
theorem dX11_ofOne_108 : decode cX11_ofOne 108 = .ok (.lreturn, 1) := by decide +kernel
theorem dX11_ofOne_109 : decode cX11_ofOne 109 = .ok (.lload_n 0, 1) := by decide +kernel
theorem dX11_ofOne_110 : decode cX11_ofOne 110 = .ok (.invokestatic 283, 3) := by decide +kernel
theorem dX11_ofOne_113 : decode cX11_ofOne 113 = .ok (.lreturn, 1) := by decide +kernel
theorem dX11_ofOne_114 : decode cX11_ofOne 114 = .ok (.lload_n 0, 1) := by decide +kernel
theorem dX11_ofOne_115 : decode cX11_ofOne 115 = .ok (.invokestatic 286, 3) := by decide +kernel
theorem dX11_ofOne_118 : decode cX11_ofOne 118 = .ok (.i2l, 1) := by decide +kernel
theorem dX11_ofOne_119 : decode cX11_ofOne 119 = .ok (.invokestatic 212, 3) := by decide +kernel
theorem dX11_ofOne_122 : decode cX11_ofOne 122 = .ok (.lreturn, 1) := by decide +kernel
theorem dX11_ofOne_123 : decode cX11_ofOne 123 = .ok (.lload_n 0, 1) := by decide +kernel
theorem dX11_ofOne_124 : decode cX11_ofOne 124 = .ok (.invokestatic 289, 3) := by decide +kernel
theorem dX11_ofOne_127 : decode cX11_ofOne 127 = .ok (.invokestatic 292, 3) := by decide +kernel
theorem dX11_ofOne_130 : decode cX11_ofOne 130 = .ok (.lreturn, 1) := by decide +kernel
theorem dX11_ofOne_131 : decode cX11_ofOne 131 = .ok (.lload_n 0, 1) := by decide +kernel
theorem dX11_ofOne_132 : decode cX11_ofOne 132 = .ok (.lreturn, 1) := by decide +kernel
theorem dX11_ofTwo_0 : decode cX11_ofTwo 0 = .ok (.aload_n 0, 1) := by decide +kernel
theorem dX11_ofTwo_1 : decode cX11_ofTwo 1 = .ok (.getfield 29, 3) := by decide +kernel
theorem dX11_ofTwo_4 : decode cX11_ofTwo 4 = .ok (.iload 4, 2) := by decide +kernel
theorem dX11_ofTwo_6 : decode cX11_ofTwo 6 = .ok (.invokevirtual 84, 3) := by decide +kernel
theorem dX11_ofTwo_9 : decode cX11_ofTwo 9 = .ok (.lstore 5, 2) := by decide +kernel
theorem dX11_ofTwo_11 : decode cX11_ofTwo 11 = .ok (.iload 4, 2) := by decide +kernel
theorem dX11_ofTwo_13 : decode cX11_ofTwo 13 = .ok (.iconst 4, 1) := by decide +kernel
theorem dX11_ofTwo_14 : decode cX11_ofTwo 14 = .ok (.ishr, 1) := by decide +kernel
theorem dX11_ofTwo_15 : decode cX11_ofTwo 15 = .ok (.bipush 7, 2) := by decide +kernel
theorem dX11_ofTwo_17 : decode cX11_ofTwo 17 = .ok (.iand, 1) := by decide +kernel
theorem dX11_ofTwo_18 : decode cX11_ofTwo 18 = .ok (.tableswitch 113 0 6 #[42, 49, 56, 63, 81, 92, 106], 42) := by decide +kernel
theorem dX11_ofTwo_60 : decode cX11_ofTwo 60 = .ok (.lload_n 2, 1) := by decide +kernel
theorem dX11_ofTwo_61 : decode cX11_ofTwo 61 = .ok (.lload 5, 2) := by decide +kernel
theorem dX11_ofTwo_63 : decode cX11_ofTwo 63 = .ok (.invokestatic 295, 3) := by decide +kernel
theorem dX11_ofTwo_66 : decode cX11_ofTwo 66 = .ok (.lreturn, 1) := by decide +kernel
theorem dX11_ofTwo_67 : decode cX11_ofTwo 67 = .ok (.lload_n 2, 1) := by decide +kernel
theorem dX11_ofTwo_68 : decode cX11_ofTwo 68 = .ok (.lload 5, 2) := by decide +kernel
theorem dX11_ofTwo_70 : decode cX11_ofTwo 70 = .ok (.invokestatic 298, 3) := by decide +kernel
theorem dX11_ofTwo_73 : decode cX11_ofTwo 73 = .ok (.lreturn, 1) := by decide +kernel
theorem dX11_ofTwo_74 : decode cX11_ofTwo 74 = .ok (.lload_n 2, 1) := by decide +kernel
theorem dX11_ofTwo_75 : decode cX11_ofTwo 75 = .ok (.lload 5, 2) := by decide +kernel
theorem dX11_ofTwo_77 : decode cX11_ofTwo 77 = .ok (.invokestatic 301, 3) := by decide +kernel
theorem dX11_ofTwo_80 : decode cX11_ofTwo 80 = .ok (.lreturn, 1) := by decide +kernel
theorem dX11_ofTwo_81 : decode cX11_ofTwo 81 = .ok (.lload_n 2, 1) := by decide +kernel
theorem dX11_ofTwo_82 : decode cX11_ofTwo 82 = .ok (.lload 5, 2) := by decide +kernel
theorem dX11_ofTwo_84 : decode cX11_ofTwo 84 = .ok (.invokestatic 231, 3) := by decide +kernel
theorem dX11_ofTwo_87 : decode cX11_ofTwo 87 = .ok (.aload_n 0, 1) := by decide +kernel
theorem dX11_ofTwo_88 : decode cX11_ofTwo 88 = .ok (.getfield 29, 3) := by decide +kernel
theorem dX11_ofTwo_91 : decode cX11_ofTwo 91 = .ok (.iload_n 1, 1) := by decide +kernel
theorem dX11_ofTwo_92 : decode cX11_ofTwo 92 = .ok (.invokevirtual 84, 3) := by decide +kernel
theorem dX11_ofTwo_95 : decode cX11_ofTwo 95 = .ok (.invokestatic 225, 3) := by decide +kernel
theorem dX11_ofTwo_98 : decode cX11_ofTwo 98 = .ok (.lreturn, 1) := by decide +kernel
theorem dX11_ofTwo_99 : decode cX11_ofTwo 99 = .ok (.lload_n 2, 1) := by decide +kernel
theorem dX11_ofTwo_100 : decode cX11_ofTwo 100 = .ok (.lload 5, 2) := by decide +kernel
theorem dX11_ofTwo_102 : decode cX11_ofTwo 102 = .ok (.invokestatic 304, 3) := by decide +kernel
theorem dX11_ofTwo_105 : decode cX11_ofTwo 105 = .ok (.i2l, 1) := by decide +kernel
theorem dX11_ofTwo_106 : decode cX11_ofTwo 106 = .ok (.invokestatic 212, 3) := by decide +kernel
theorem dX11_ofTwo_109 : decode cX11_ofTwo 109 = .ok (.lreturn, 1) := by decide +kernel
theorem dX11_ofTwo_110 : decode cX11_ofTwo 110 = .ok (.lload_n 2, 1) := by decide +kernel
theorem dX11_ofTwo_111 : decode cX11_ofTwo 111 = .ok (.aload_n 0, 1) := by decide +kernel
theorem dX11_ofTwo_112 : decode cX11_ofTwo 112 = .ok (.getfield 29, 3) := by decide +kernel
theorem dX11_ofTwo_115 : decode cX11_ofTwo 115 = .ok (.iload 4, 2) := by decide +kernel
theorem dX11_ofTwo_117 : decode cX11_ofTwo 117 = .ok (.invokevirtual 80, 3) := by decide +kernel
theorem dX11_ofTwo_120 : decode cX11_ofTwo 120 = .ok (.invokestatic 308, 3) := by decide +kernel
theorem dX11_ofTwo_123 : decode cX11_ofTwo 123 = .ok (.lreturn, 1) := by decide +kernel
theorem dX11_ofTwo_124 : decode cX11_ofTwo 124 = .ok (.lload_n 2, 1) := by decide +kernel
theorem dX11_ofTwo_125 : decode cX11_ofTwo 125 = .ok (.lload 5, 2) := by decide +kernel
theorem dX11_ofTwo_127 : decode cX11_ofTwo 127 = .ok (.invokestatic 311, 3) := by decide +kernel
theorem dX11_ofTwo_130 : decode cX11_ofTwo 130 = .ok (.lreturn, 1) := by decide +kernel
theorem dX11_ofTwo_131 : decode cX11_ofTwo 131 = .ok (.lload_n 2, 1) := by decide +kernel
theorem dX11_ofTwo_132 : decode cX11_ofTwo 132 = .ok (.lreturn, 1) := by decide +kernel
theorem dX11_holds_0 : decode cX11_holds 0 = .ok (.iload_n 0, 1) := by decide +kernel
theorem dX11_holds_1 : decode cX11_holds 1 = .ok (.tableswitch 97 0 4 #[35, 41, 63, 69, 91], 35) := by decide +kernel
theorem dX11_holds_36 : decode cX11_holds 36 = .ok (.lload_n 1, 1) := by decide +kernel
theorem dX11_holds_37 : decode cX11_holds 37 = .ok (.lload_n 3, 1) := by decide +kernel
theorem dX11_holds_38 : decode cX11_holds 38 = .ok (.invokestatic 314, 3) := by decide +kernel
theorem dX11_holds_41 : decode cX11_holds 41 = .ok (.ireturn, 1) := by decide +kernel
theorem dX11_holds_42 : decode cX11_holds 42 = .ok (.lload_n 1, 1) := by decide +kernel
theorem dX11_holds_43 : decode cX11_holds 43 = .ok (.lload_n 3, 1) := by decide +kernel
theorem dX11_holds_44 : decode cX11_holds 44 = .ok (.invokestatic 314, 3) := by decide +kernel
theorem dX11_holds_47 : decode cX11_holds 47 = .ok (.ifCond .ne 11, 3) := by decide +kernel
theorem dX11_holds_50 : decode cX11_holds 50 = .ok (.lload_n 1, 1) := by decide +kernel
theorem dX11_holds_51 : decode cX11_holds 51 = .ok (.lload_n 3, 1) := by decide +kernel
theorem dX11_holds_52 : decode cX11_holds 52 = .ok (.invokestatic 318, 3) := by decide +kernel
theorem dX11_holds_55 : decode cX11_holds 55 = .ok (.ifCond .eq 7, 3) := by decide +kernel
theorem dX11_holds_58 : decode cX11_holds 58 = .ok (.iconst 1, 1) := by decide +kernel
theorem dX11_holds_59 : decode cX11_holds 59 = .ok (.goto 4, 3) := by decide +kernel
theorem dX11_holds_62 : decode cX11_holds 62 = .ok (.iconst 0, 1) := by decide +kernel
theorem dX11_holds_63 : decode cX11_holds 63 = .ok (.ireturn, 1) := by decide +kernel
theorem dX11_holds_64 : decode cX11_holds 64 = .ok (.lload_n 3, 1) := by decide +kernel
theorem dX11_holds_65 : decode cX11_holds 65 = .ok (.lload_n 1, 1) := by decide +kernel
theorem dX11_holds_66 : decode cX11_holds 66 = .ok (.invokestatic 314, 3) := by decide +kernel
theorem dX11_holds_69 : decode cX11_holds 69 = .ok (.ireturn, 1) := by decide +kernel
theorem dX11_holds_70 : decode cX11_holds 70 = .ok (.lload_n 3, 1) := by decide +kernel
theorem dX11_holds_71 : decode cX11_holds 71 = .ok (.lload_n 1, 1) := by decide +kernel
theorem dX11_holds_72 : decode cX11_holds 72 = .ok (.invokestatic 314, 3) := by decide +kernel
theorem dX11_holds_75 : decode cX11_holds 75 = .ok (.ifCond .ne 11, 3) := by decide +kernel
theorem dX11_holds_78 : decode cX11_holds 78 = .ok (.lload_n 1, 1) := by decide +kernel
theorem dX11_holds_79 : decode cX11_holds 79 = .ok (.lload_n 3, 1) := by decide +kernel
theorem dX11_holds_80 : decode cX11_holds 80 = .ok (.invokestatic 318, 3) := by decide +kernel
theorem dX11_holds_83 : decode cX11_holds 83 = .ok (.ifCond .eq 7, 3) := by decide +kernel
theorem dX11_holds_86 : decode cX11_holds 86 = .ok (.iconst 1, 1) := by decide +kernel
theorem dX11_holds_87 : decode cX11_holds 87 = .ok (.goto 4, 3) := by decide +kernel
theorem dX11_holds_90 : decode cX11_holds 90 = .ok (.iconst 0, 1) := by decide +kernel
theorem dX11_holds_91 : decode cX11_holds 91 = .ok (.ireturn, 1) := by decide +kernel
theorem dX11_holds_92 : decode cX11_holds 92 = .ok (.lload_n 1, 1) := by decide +kernel
theorem dX11_holds_93 : decode cX11_holds 93 = .ok (.lload_n 3, 1) := by decide +kernel
theorem dX11_holds_94 : decode cX11_holds 94 = .ok (.invokestatic 318, 3) := by decide +kernel
theorem dX11_holds_97 : decode cX11_holds 97 = .ok (.ireturn, 1) := by decide +kernel
theorem dX11_holds_98 : decode cX11_holds 98 = .ok (.lload_n 1, 1) := by decide +kernel
theorem dX11_holds_99 : decode cX11_holds 99 = .ok (.lload_n 3, 1) := by decide +kernel
theorem dX11_holds_100 : decode cX11_holds 100 = .ok (.invokestatic 318, 3) := by decide +kernel
theorem dX11_holds_103 : decode cX11_holds 103 = .ok (.ifCond .ne 7, 3) := by decide +kernel
theorem dX11_holds_106 : decode cX11_holds 106 = .ok (.iconst 1, 1) := by decide +kernel
theorem dX11_holds_107 : decode cX11_holds 107 = .ok (.goto 4, 3) := by decide +kernel
theorem dX11_holds_110 : decode cX11_holds 110 = .ok (.iconst 0, 1) := by decide +kernel
theorem dX11_holds_111 : decode cX11_holds 111 = .ok (.ireturn, 1) := by decide +kernel
theorem dX11_toNumber_0 : decode cX11_toNumber 0 = .ok (.iload 4, 2) := by decide +kernel
theorem dX11_toNumber_2 : decode cX11_toNumber 2 = .ok (.iconst 2, 1) := by decide +kernel
theorem dX11_toNumber_3 : decode cX11_toNumber 3 = .ok (.if_icmp .gt 13, 3) := by decide +kernel
theorem dX11_toNumber_6 : decode cX11_toNumber 6 = .ok (.lload_n 2, 1) := by decide +kernel
theorem dX11_toNumber_7 : decode cX11_toNumber 7 = .ok (.invokestatic 321, 3) := by decide +kernel
theorem dX11_toNumber_10 : decode cX11_toNumber 10 = .ok (.ifCond .eq 6, 3) := by decide +kernel
theorem dX11_toNumber_13 : decode cX11_toNumber 13 = .ok (.bipush 7, 2) := by decide +kernel
theorem dX11_toNumber_15 : decode cX11_toNumber 15 = .ok (.ireturn, 1) := by decide +kernel
theorem dX11_toNumber_16 : decode cX11_toNumber 16 = .ok (.iload 4, 2) := by decide +kernel
theorem dX11_toNumber_18 : decode cX11_toNumber 18 = .ok (.tableswitch 107 0 5 #[38, 48, 61, 71, 78, 89], 38) := by decide +kernel
theorem dX11_toNumber_56 : decode cX11_toNumber 56 = .ok (.aload_n 0, 1) := by decide +kernel
theorem dX11_toNumber_57 : decode cX11_toNumber 57 = .ok (.iload_n 1, 1) := by decide +kernel
theorem dX11_toNumber_58 : decode cX11_toNumber 58 = .ok (.lload_n 2, 1) := by decide +kernel
theorem dX11_toNumber_59 : decode cX11_toNumber 59 = .ok (.invokestatic 325, 3) := by decide +kernel
theorem dX11_toNumber_62 : decode cX11_toNumber 62 = .ok (.invokevirtual 191, 3) := by decide +kernel
theorem dX11_toNumber_65 : decode cX11_toNumber 65 = .ok (.ireturn, 1) := by decide +kernel
theorem dX11_toNumber_66 : decode cX11_toNumber 66 = .ok (.aload_n 0, 1) := by decide +kernel
theorem dX11_toNumber_67 : decode cX11_toNumber 67 = .ok (.iload_n 1, 1) := by decide +kernel
theorem dX11_toNumber_68 : decode cX11_toNumber 68 = .ok (.lload_n 2, 1) := by decide +kernel
theorem dX11_toNumber_69 : decode cX11_toNumber 69 = .ok (.invokestatic 325, 3) := by decide +kernel
theorem dX11_toNumber_72 : decode cX11_toNumber 72 = .ok (.invokestatic 328, 3) := by decide +kernel
theorem dX11_toNumber_75 : decode cX11_toNumber 75 = .ok (.invokevirtual 191, 3) := by decide +kernel
theorem dX11_toNumber_78 : decode cX11_toNumber 78 = .ok (.ireturn, 1) := by decide +kernel
theorem dX11_toNumber_79 : decode cX11_toNumber 79 = .ok (.aload_n 0, 1) := by decide +kernel
theorem dX11_toNumber_80 : decode cX11_toNumber 80 = .ok (.iload_n 1, 1) := by decide +kernel
theorem dX11_toNumber_81 : decode cX11_toNumber 81 = .ok (.lload_n 2, 1) := by decide +kernel
theorem dX11_toNumber_82 : decode cX11_toNumber 82 = .ok (.invokestatic 331, 3) := by decide +kernel
theorem dX11_toNumber_85 : decode cX11_toNumber 85 = .ok (.invokevirtual 191, 3) := by decide +kernel
theorem dX11_toNumber_88 : decode cX11_toNumber 88 = .ok (.ireturn, 1) := by decide +kernel
theorem dX11_toNumber_89 : decode cX11_toNumber 89 = .ok (.aload_n 0, 1) := by decide +kernel
theorem dX11_toNumber_90 : decode cX11_toNumber 90 = .ok (.iload_n 1, 1) := by decide +kernel
theorem dX11_toNumber_91 : decode cX11_toNumber 91 = .ok (.lload_n 2, 1) := by decide +kernel
theorem dX11_toNumber_92 : decode cX11_toNumber 92 = .ok (.invokevirtual 191, 3) := by decide +kernel
theorem dX11_toNumber_95 : decode cX11_toNumber 95 = .ok (.ireturn, 1) := by decide +kernel
theorem dX11_toNumber_96 : decode cX11_toNumber 96 = .ok (.aload_n 0, 1) := by decide +kernel
theorem dX11_toNumber_97 : decode cX11_toNumber 97 = .ok (.iload_n 1, 1) := by decide +kernel
theorem dX11_toNumber_98 : decode cX11_toNumber 98 = .ok (.lload_n 2, 1) := by decide +kernel
theorem dX11_toNumber_99 : decode cX11_toNumber 99 = .ok (.invokestatic 289, 3) := by decide +kernel
theorem dX11_toNumber_102 : decode cX11_toNumber 102 = .ok (.i2l, 1) := by decide +kernel
theorem dX11_toNumber_103 : decode cX11_toNumber 103 = .ok (.invokevirtual 191, 3) := by decide +kernel
theorem dX11_toNumber_106 : decode cX11_toNumber 106 = .ok (.ireturn, 1) := by decide +kernel
theorem dX11_toNumber_107 : decode cX11_toNumber 107 = .ok (.aload_n 0, 1) := by decide +kernel
theorem dX11_toNumber_108 : decode cX11_toNumber 108 = .ok (.iload_n 1, 1) := by decide +kernel
theorem dX11_toNumber_109 : decode cX11_toNumber 109 = .ok (.lload_n 2, 1) := by decide +kernel
theorem dX11_toNumber_110 : decode cX11_toNumber 110 = .ok (.invokestatic 321, 3) := by decide +kernel
theorem dX11_toNumber_113 : decode cX11_toNumber 113 = .ok (.ifCond .eq 7, 3) := by decide +kernel
theorem dX11_toNumber_116 : decode cX11_toNumber 116 = .ok (.lconst 1, 1) := by decide +kernel
theorem dX11_toNumber_117 : decode cX11_toNumber 117 = .ok (.goto 4, 3) := by decide +kernel
theorem dX11_toNumber_120 : decode cX11_toNumber 120 = .ok (.lconst 0, 1) := by decide +kernel
theorem dX11_toNumber_121 : decode cX11_toNumber 121 = .ok (.invokevirtual 191, 3) := by decide +kernel
theorem dX11_toNumber_124 : decode cX11_toNumber 124 = .ok (.ireturn, 1) := by decide +kernel
theorem dX11_toNumber_125 : decode cX11_toNumber 125 = .ok (.aload_n 0, 1) := by decide +kernel
theorem dX11_toNumber_126 : decode cX11_toNumber 126 = .ok (.iload_n 1, 1) := by decide +kernel
theorem dX11_toNumber_127 : decode cX11_toNumber 127 = .ok (.lconst 0, 1) := by decide +kernel
theorem dX11_toNumber_128 : decode cX11_toNumber 128 = .ok (.invokevirtual 191, 3) := by decide +kernel
theorem dX11_toNumber_131 : decode cX11_toNumber 131 = .ok (.ireturn, 1) := by decide +kernel
theorem dX11_within32_0 : decode cX11_within32 0 = .ok (.ldc2_w 336, 3) := by decide +kernel
theorem dX11_within32_3 : decode cX11_within32 3 = .ok (.ldc2_w 338, 3) := by decide +kernel
theorem dX11_within32_6 : decode cX11_within32 6 = .ok (.lload_n 0, 1) := by decide +kernel
theorem dX11_within32_7 : decode cX11_within32 7 = .ok (.invokestatic 340, 3) := by decide +kernel
theorem dX11_within32_10 : decode cX11_within32 10 = .ok (.invokestatic 345, 3) := by decide +kernel
theorem dX11_within32_13 : decode cX11_within32 13 = .ok (.lreturn, 1) := by decide +kernel
theorem dX11_toMeasure_0 : decode cX11_toMeasure 0 = .ok (.iload_n 2, 1) := by decide +kernel
theorem dX11_toMeasure_1 : decode cX11_toMeasure 1 = .ok (.tableswitch 43 0 2 #[27, 32, 37], 27) := by decide +kernel
theorem dX11_toMeasure_28 : decode cX11_toMeasure 28 = .ok (.lload_n 0, 1) := by decide +kernel
theorem dX11_toMeasure_29 : decode cX11_toMeasure 29 = .ok (.invokestatic 212, 3) := by decide +kernel
theorem dX11_toMeasure_32 : decode cX11_toMeasure 32 = .ok (.lreturn, 1) := by decide +kernel
theorem dX11_toMeasure_33 : decode cX11_toMeasure 33 = .ok (.lload_n 0, 1) := by decide +kernel
theorem dX11_toMeasure_34 : decode cX11_toMeasure 34 = .ok (.invokestatic 348, 3) := by decide +kernel
theorem dX11_toMeasure_37 : decode cX11_toMeasure 37 = .ok (.lreturn, 1) := by decide +kernel
theorem dX11_toMeasure_38 : decode cX11_toMeasure 38 = .ok (.lload_n 0, 1) := by decide +kernel
theorem dX11_toMeasure_39 : decode cX11_toMeasure 39 = .ok (.l2i, 1) := by decide +kernel
theorem dX11_toMeasure_40 : decode cX11_toMeasure 40 = .ok (.invokestatic 292, 3) := by decide +kernel
theorem dX11_toMeasure_43 : decode cX11_toMeasure 43 = .ok (.lreturn, 1) := by decide +kernel
theorem dX11_toMeasure_44 : decode cX11_toMeasure 44 = .ok (.lload_n 0, 1) := by decide +kernel
theorem dX11_toMeasure_45 : decode cX11_toMeasure 45 = .ok (.invokestatic 351, 3) := by decide +kernel
theorem dX11_toMeasure_48 : decode cX11_toMeasure 48 = .ok (.invokestatic 292, 3) := by decide +kernel
theorem dX11_toMeasure_51 : decode cX11_toMeasure 51 = .ok (.lreturn, 1) := by decide +kernel
theorem dX11_mayMake_0 : decode cX11_mayMake 0 = .ok (.aload_n 0, 1) := by decide +kernel
theorem dX11_mayMake_1 : decode cX11_mayMake 1 = .ok (.getfield 40, 3) := by decide +kernel
theorem dX11_mayMake_4 : decode cX11_mayMake 4 = .ok (.iload_n 1, 1) := by decide +kernel
theorem dX11_mayMake_5 : decode cX11_mayMake 5 = .ok (.iadd, 1) := by decide +kernel
theorem dX11_mayMake_6 : decode cX11_mayMake 6 = .ok (.sipush 4000, 3) := by decide +kernel
theorem dX11_mayMake_9 : decode cX11_mayMake 9 = .ok (.if_icmp .gt 7, 3) := by decide +kernel
theorem dX11_mayMake_12 : decode cX11_mayMake 12 = .ok (.iconst 1, 1) := by decide +kernel
theorem dX11_mayMake_13 : decode cX11_mayMake 13 = .ok (.goto 4, 3) := by decide +kernel
theorem dX11_mayMake_16 : decode cX11_mayMake 16 = .ok (.iconst 0, 1) := by decide +kernel
theorem dX11_mayMake_17 : decode cX11_mayMake 17 = .ok (.ireturn, 1) := by decide +kernel
theorem dX11_giveNew_0 : decode cX11_giveNew 0 = .ok (.aload_n 0, 1) := by decide +kernel
theorem dX11_giveNew_1 : decode cX11_giveNew 1 = .ok (.dup, 1) := by decide +kernel
theorem dX11_giveNew_2 : decode cX11_giveNew 2 = .ok (.getfield 40, 3) := by decide +kernel
theorem dX11_giveNew_5 : decode cX11_giveNew 5 = .ok (.iconst 1, 1) := by decide +kernel
theorem dX11_giveNew_6 : decode cX11_giveNew 6 = .ok (.iadd, 1) := by decide +kernel
theorem dX11_giveNew_7 : decode cX11_giveNew 7 = .ok (.putfield 40, 3) := by decide +kernel
theorem dX11_giveNew_10 : decode cX11_giveNew 10 = .ok (.aload_n 0, 1) := by decide +kernel
theorem dX11_giveNew_11 : decode cX11_giveNew 11 = .ok (.iload_n 1, 1) := by decide +kernel
theorem dX11_giveNew_12 : decode cX11_giveNew 12 = .ok (.aload_n 2, 1) := by decide +kernel
theorem dX11_giveNew_13 : decode cX11_giveNew 13 = .ok (.invokevirtual 354, 3) := by decide +kernel
theorem dX11_giveNew_16 : decode cX11_giveNew 16 = .ok (.ireturn, 1) := by decide +kernel
theorem dX11_onThings_0 : decode cX11_onThings 0 = .ok (.aload_n 0, 1) := by decide +kernel
theorem dX11_onThings_1 : decode cX11_onThings 1 = .ok (.getfield 29, 3) := by decide +kernel
theorem dX11_onThings_4 : decode cX11_onThings 4 = .ok (.iload_n 3, 1) := by decide +kernel
theorem dX11_onThings_5 : decode cX11_onThings 5 = .ok (.invokevirtual 87, 3) := by decide +kernel
theorem dX11_onThings_8 : decode cX11_onThings 8 = .ok (.astore 5, 2) := by decide +kernel
theorem dX11_onThings_10 : decode cX11_onThings 10 = .ok (.iload_n 1, 1) := by decide +kernel
theorem dX11_onThings_11 : decode cX11_onThings 11 = .ok (.tableswitch 155 40 47 #[45, 61, 84, 92, 109, 117, 140, 148], 45) := by decide +kernel
theorem dX11_onThings_56 : decode cX11_onThings 56 = .ok (.aload_n 0, 1) := by decide +kernel
theorem dX11_onThings_57 : decode cX11_onThings 57 = .ok (.iload_n 2, 1) := by decide +kernel
theorem dX11_onThings_58 : decode cX11_onThings 58 = .ok (.aload_n 0, 1) := by decide +kernel
theorem dX11_onThings_59 : decode cX11_onThings 59 = .ok (.getfield 29, 3) := by decide +kernel
theorem dX11_onThings_62 : decode cX11_onThings 62 = .ok (.iload_n 3, 1) := by decide +kernel
theorem dX11_onThings_63 : decode cX11_onThings 63 = .ok (.invokevirtual 80, 3) := by decide +kernel
theorem dX11_onThings_66 : decode cX11_onThings 66 = .ok (.iload 4, 2) := by decide +kernel
theorem dX11_onThings_68 : decode cX11_onThings 68 = .ok (.invokevirtual 358, 3) := by decide +kernel
theorem dX11_onThings_71 : decode cX11_onThings 71 = .ok (.ireturn, 1) := by decide +kernel
theorem dX11_onThings_72 : decode cX11_onThings 72 = .ok (.aload_n 0, 1) := by decide +kernel
theorem dX11_onThings_73 : decode cX11_onThings 73 = .ok (.iload_n 2, 1) := by decide +kernel
theorem dX11_onThings_74 : decode cX11_onThings 74 = .ok (.aload_n 0, 1) := by decide +kernel
theorem dX11_onThings_75 : decode cX11_onThings 75 = .ok (.getfield 29, 3) := by decide +kernel
theorem dX11_onThings_78 : decode cX11_onThings 78 = .ok (.iload_n 3, 1) := by decide +kernel
theorem dX11_onThings_79 : decode cX11_onThings 79 = .ok (.invokevirtual 80, 3) := by decide +kernel
theorem dX11_onThings_82 : decode cX11_onThings 82 = .ok (.aload_n 0, 1) := by decide +kernel
theorem dX11_onThings_83 : decode cX11_onThings 83 = .ok (.getfield 29, 3) := by decide +kernel
theorem dX11_onThings_86 : decode cX11_onThings 86 = .ok (.iload 4, 2) := by decide +kernel
theorem dX11_onThings_88 : decode cX11_onThings 88 = .ok (.invokevirtual 80, 3) := by decide +kernel
theorem dX11_onThings_91 : decode cX11_onThings 91 = .ok (.invokevirtual 361, 3) := by decide +kernel
theorem dX11_onThings_94 : decode cX11_onThings 94 = .ok (.ireturn, 1) := by decide +kernel
theorem dX11_onThings_95 : decode cX11_onThings 95 = .ok (.aload_n 0, 1) := by decide +kernel
theorem dX11_onThings_96 : decode cX11_onThings 96 = .ok (.iload_n 2, 1) := by decide +kernel
theorem dX11_onThings_97 : decode cX11_onThings 97 = .ok (.aload 5, 2) := by decide +kernel
theorem dX11_onThings_99 : decode cX11_onThings 99 = .ok (.invokevirtual 365, 3) := by decide +kernel
theorem dX11_onThings_102 : decode cX11_onThings 102 = .ok (.ireturn, 1) := by decide +kernel
theorem dX11_onThings_103 : decode cX11_onThings 103 = .ok (.aload_n 0, 1) := by decide +kernel
theorem dX11_onThings_104 : decode cX11_onThings 104 = .ok (.aload_n 0, 1) := by decide +kernel
theorem dX11_onThings_105 : decode cX11_onThings 105 = .ok (.getfield 29, 3) := by decide +kernel
theorem dX11_onThings_108 : decode cX11_onThings 108 = .ok (.iload_n 2, 1) := by decide +kernel
theorem dX11_onThings_109 : decode cX11_onThings 109 = .ok (.invokevirtual 87, 3) := by decide +kernel
theorem dX11_onThings_112 : decode cX11_onThings 112 = .ok (.aload 5, 2) := by decide +kernel
theorem dX11_onThings_114 : decode cX11_onThings 114 = .ok (.iload 4, 2) := by decide +kernel
theorem dX11_onThings_116 : decode cX11_onThings 116 = .ok (.invokevirtual 368, 3) := by decide +kernel
theorem dX11_onThings_119 : decode cX11_onThings 119 = .ok (.ireturn, 1) := by decide +kernel
theorem dX11_onThings_120 : decode cX11_onThings 120 = .ok (.aload_n 0, 1) := by decide +kernel
theorem dX11_onThings_121 : decode cX11_onThings 121 = .ok (.iload_n 2, 1) := by decide +kernel
theorem dX11_onThings_122 : decode cX11_onThings 122 = .ok (.aload 5, 2) := by decide +kernel
theorem dX11_onThings_124 : decode cX11_onThings 124 = .ok (.invokevirtual 372, 3) := by decide +kernel
theorem dX11_onThings_127 : decode cX11_onThings 127 = .ok (.ireturn, 1) := by decide +kernel
theorem dX11_onThings_128 : decode cX11_onThings 128 = .ok (.aload_n 0, 1) := by decide +kernel
theorem dX11_onThings_129 : decode cX11_onThings 129 = .ok (.iload_n 2, 1) := by decide +kernel
theorem dX11_onThings_130 : decode cX11_onThings 130 = .ok (.aload 5, 2) := by decide +kernel
theorem dX11_onThings_132 : decode cX11_onThings 132 = .ok (.ifnonnull 9, 3) := by decide +kernel
theorem dX11_onThings_135 : decode cX11_onThings 135 = .ok (.ldc2_w 375, 3) := by decide +kernel
theorem dX11_onThings_138 : decode cX11_onThings 138 = .ok (.goto 9, 3) := by decide +kernel
theorem dX11_onThings_141 : decode cX11_onThings 141 = .ok (.aload 5, 2) := by decide +kernel
theorem dX11_onThings_143 : decode cX11_onThings 143 = .ok (.invokevirtual 91, 3) := by decide +kernel
theorem dX11_onThings_146 : decode cX11_onThings 146 = .ok (.i2l, 1) := by decide +kernel
theorem dX11_onThings_147 : decode cX11_onThings 147 = .ok (.invokevirtual 191, 3) := by decide +kernel
theorem dX11_onThings_150 : decode cX11_onThings 150 = .ok (.ireturn, 1) := by decide +kernel
theorem dX11_onThings_151 : decode cX11_onThings 151 = .ok (.aload_n 0, 1) := by decide +kernel
theorem dX11_onThings_152 : decode cX11_onThings 152 = .ok (.iload_n 2, 1) := by decide +kernel
theorem dX11_onThings_153 : decode cX11_onThings 153 = .ok (.aload 5, 2) := by decide +kernel
theorem dX11_onThings_155 : decode cX11_onThings 155 = .ok (.invokevirtual 354, 3) := by decide +kernel
theorem dX11_onThings_158 : decode cX11_onThings 158 = .ok (.ireturn, 1) := by decide +kernel
theorem dX11_onThings_159 : decode cX11_onThings 159 = .ok (.aload_n 0, 1) := by decide +kernel
theorem dX11_onThings_160 : decode cX11_onThings 160 = .ok (.iload_n 2, 1) := by decide +kernel
theorem dX11_onThings_161 : decode cX11_onThings 161 = .ok (.aconst_null, 1) := by decide +kernel
theorem dX11_onThings_162 : decode cX11_onThings 162 = .ok (.invokevirtual 354, 3) := by decide +kernel
theorem dX11_onThings_165 : decode cX11_onThings 165 = .ok (.ireturn, 1) := by decide +kernel
theorem dX11_onThings_166 : decode cX11_onThings 166 = .ok (.iconst 2, 1) := by decide +kernel
theorem dX11_onThings_167 : decode cX11_onThings 167 = .ok (.ireturn, 1) := by decide +kernel
theorem dX11_makeRow_0 : decode cX11_makeRow 0 = .ok (.iload 4, 2) := by decide +kernel
theorem dX11_makeRow_2 : decode cX11_makeRow 2 = .ok (.ifCond .lt 10, 3) := by decide +kernel
theorem dX11_makeRow_5 : decode cX11_makeRow 5 = .ok (.iload 4, 2) := by decide +kernel
theorem dX11_makeRow_7 : decode cX11_makeRow 7 = .ok (.bipush 9, 2) := by decide +kernel
theorem dX11_makeRow_9 : decode cX11_makeRow 9 = .ok (.if_icmp .le 5, 3) := by decide +kernel
theorem dX11_makeRow_12 : decode cX11_makeRow 12 = .ok (.iconst 2, 1) := by decide +kernel
theorem dX11_makeRow_13 : decode cX11_makeRow 13 = .ok (.ireturn, 1) := by decide +kernel
theorem dX11_makeRow_14 : decode cX11_makeRow 14 = .ok (.lload_n 2, 1) := by decide +kernel
theorem dX11_makeRow_15 : decode cX11_makeRow 15 = .ok (.lconst 0, 1) := by decide +kernel
theorem dX11_makeRow_16 : decode cX11_makeRow 16 = .ok (.lcmp, 1) := by decide +kernel
theorem dX11_makeRow_17 : decode cX11_makeRow 17 = .ok (.ifCond .ge 5, 3) := by decide +kernel
theorem dX11_makeRow_20 : decode cX11_makeRow 20 = .ok (.iconst 4, 1) := by decide +kernel
theorem dX11_makeRow_21 : decode cX11_makeRow 21 = .ok (.ireturn, 1) := by decide +kernel
theorem dX11_makeRow_22 : decode cX11_makeRow 22 = .ok (.lload_n 2, 1) := by decide +kernel
theorem dX11_makeRow_23 : decode cX11_makeRow 23 = .ok (.ldc2_w 377, 3) := by decide +kernel
theorem dX11_makeRow_26 : decode cX11_makeRow 26 = .ok (.lcmp, 1) := by decide +kernel
theorem dX11_makeRow_27 : decode cX11_makeRow 27 = .ok (.ifCond .gt 11, 3) := by decide +kernel
theorem dX11_makeRow_30 : decode cX11_makeRow 30 = .ok (.aload_n 0, 1) := by decide +kernel
theorem dX11_makeRow_31 : decode cX11_makeRow 31 = .ok (.iconst 1, 1) := by decide +kernel
theorem dX11_makeRow_32 : decode cX11_makeRow 32 = .ok (.invokevirtual 379, 3) := by decide +kernel
theorem dX11_makeRow_35 : decode cX11_makeRow 35 = .ok (.ifCond .ne 6, 3) := by decide +kernel
theorem dX11_makeRow_38 : decode cX11_makeRow 38 = .ok (.bipush 8, 2) := by decide +kernel
theorem dX11_makeRow_40 : decode cX11_makeRow 40 = .ok (.ireturn, 1) := by decide +kernel
theorem dX11_makeRow_41 : decode cX11_makeRow 41 = .ok (.aload_n 0, 1) := by decide +kernel
theorem dX11_makeRow_42 : decode cX11_makeRow 42 = .ok (.iload_n 1, 1) := by decide +kernel
theorem dX11_makeRow_43 : decode cX11_makeRow 43 = .ok (.new 97, 3) := by decide +kernel
theorem dX11_makeRow_46 : decode cX11_makeRow 46 = .ok (.dup, 1) := by decide +kernel
theorem dX11_makeRow_47 : decode cX11_makeRow 47 = .ok (.iload 4, 2) := by decide +kernel
theorem dX11_makeRow_49 : decode cX11_makeRow 49 = .ok (.lload_n 2, 1) := by decide +kernel
theorem dX11_makeRow_50 : decode cX11_makeRow 50 = .ok (.l2i, 1) := by decide +kernel
theorem dX11_makeRow_51 : decode cX11_makeRow 51 = .ok (.invokespecial 382, 3) := by decide +kernel
theorem dX11_makeRow_54 : decode cX11_makeRow 54 = .ok (.invokevirtual 385, 3) := by decide +kernel
theorem dX11_makeRow_57 : decode cX11_makeRow 57 = .ok (.ireturn, 1) := by decide +kernel
theorem dX11_makeGrid_0 : decode cX11_makeGrid 0 = .ok (.lload_n 2, 1) := by decide +kernel
theorem dX11_makeGrid_1 : decode cX11_makeGrid 1 = .ok (.lconst 0, 1) := by decide +kernel
theorem dX11_makeGrid_2 : decode cX11_makeGrid 2 = .ok (.lcmp, 1) := by decide +kernel
theorem dX11_makeGrid_3 : decode cX11_makeGrid 3 = .ok (.ifCond .lt 10, 3) := by decide +kernel
theorem dX11_makeGrid_6 : decode cX11_makeGrid 6 = .ok (.lload 4, 2) := by decide +kernel
theorem dX11_makeGrid_8 : decode cX11_makeGrid 8 = .ok (.lconst 0, 1) := by decide +kernel
theorem dX11_makeGrid_9 : decode cX11_makeGrid 9 = .ok (.lcmp, 1) := by decide +kernel
theorem dX11_makeGrid_10 : decode cX11_makeGrid 10 = .ok (.ifCond .ge 5, 3) := by decide +kernel
theorem dX11_makeGrid_13 : decode cX11_makeGrid 13 = .ok (.iconst 4, 1) := by decide +kernel
theorem dX11_makeGrid_14 : decode cX11_makeGrid 14 = .ok (.ireturn, 1) := by decide +kernel
theorem dX11_makeGrid_15 : decode cX11_makeGrid 15 = .ok (.lload_n 2, 1) := by decide +kernel
theorem dX11_makeGrid_16 : decode cX11_makeGrid 16 = .ok (.ldc2_w 388, 3) := by decide +kernel
theorem dX11_makeGrid_19 : decode cX11_makeGrid 19 = .ok (.lcmp, 1) := by decide +kernel
theorem dX11_makeGrid_20 : decode cX11_makeGrid 20 = .ok (.ifCond .gt 23, 3) := by decide +kernel
theorem dX11_makeGrid_23 : decode cX11_makeGrid 23 = .ok (.lload 4, 2) := by decide +kernel
theorem dX11_makeGrid_25 : decode cX11_makeGrid 25 = .ok (.ldc2_w 388, 3) := by decide +kernel
theorem dX11_makeGrid_28 : decode cX11_makeGrid 28 = .ok (.lcmp, 1) := by decide +kernel
theorem dX11_makeGrid_29 : decode cX11_makeGrid 29 = .ok (.ifCond .gt 14, 3) := by decide +kernel
theorem dX11_makeGrid_32 : decode cX11_makeGrid 32 = .ok (.aload_n 0, 1) := by decide +kernel
theorem dX11_makeGrid_33 : decode cX11_makeGrid 33 = .ok (.iconst 1, 1) := by decide +kernel
theorem dX11_makeGrid_34 : decode cX11_makeGrid 34 = .ok (.lload_n 2, 1) := by decide +kernel
theorem dX11_makeGrid_35 : decode cX11_makeGrid 35 = .ok (.l2i, 1) := by decide +kernel
theorem dX11_makeGrid_36 : decode cX11_makeGrid 36 = .ok (.iadd, 1) := by decide +kernel
theorem dX11_makeGrid_37 : decode cX11_makeGrid 37 = .ok (.invokevirtual 379, 3) := by decide +kernel
theorem dX11_makeGrid_40 : decode cX11_makeGrid 40 = .ok (.ifCond .ne 6, 3) := by decide +kernel
theorem dX11_makeGrid_43 : decode cX11_makeGrid 43 = .ok (.bipush 8, 2) := by decide +kernel
theorem dX11_makeGrid_45 : decode cX11_makeGrid 45 = .ok (.ireturn, 1) := by decide +kernel
theorem dX11_makeGrid_46 : decode cX11_makeGrid 46 = .ok (.new 97, 3) := by decide +kernel
theorem dX11_makeGrid_49 : decode cX11_makeGrid 49 = .ok (.dup, 1) := by decide +kernel
theorem dX11_makeGrid_50 : decode cX11_makeGrid 50 = .ok (.bipush 10, 2) := by decide +kernel
theorem dX11_makeGrid_52 : decode cX11_makeGrid 52 = .ok (.lload_n 2, 1) := by decide +kernel
theorem dX11_makeGrid_53 : decode cX11_makeGrid 53 = .ok (.l2i, 1) := by decide +kernel
theorem dX11_makeGrid_54 : decode cX11_makeGrid 54 = .ok (.invokespecial 382, 3) := by decide +kernel
theorem dX11_makeGrid_57 : decode cX11_makeGrid 57 = .ok (.astore 6, 2) := by decide +kernel
theorem dX11_makeGrid_59 : decode cX11_makeGrid 59 = .ok (.iconst 0, 1) := by decide +kernel
theorem dX11_makeGrid_60 : decode cX11_makeGrid 60 = .ok (.istore 7, 2) := by decide +kernel
theorem dX11_makeGrid_62 : decode cX11_makeGrid 62 = .ok (.iload 7, 2) := by decide +kernel
theorem dX11_makeGrid_64 : decode cX11_makeGrid 64 = .ok (.i2l, 1) := by decide +kernel
theorem dX11_makeGrid_65 : decode cX11_makeGrid 65 = .ok (.lload_n 2, 1) := by decide +kernel
theorem dX11_makeGrid_66 : decode cX11_makeGrid 66 = .ok (.lcmp, 1) := by decide +kernel
theorem dX11_makeGrid_67 : decode cX11_makeGrid 67 = .ok (.ifCond .ge 38, 3) := by decide +kernel
theorem dX11_makeGrid_70 : decode cX11_makeGrid 70 = .ok (.aload 6, 2) := by decide +kernel
theorem dX11_makeGrid_72 : decode cX11_makeGrid 72 = .ok (.iload 7, 2) := by decide +kernel
theorem dX11_makeGrid_74 : decode cX11_makeGrid 74 = .ok (.new 97, 3) := by decide +kernel
theorem dX11_makeGrid_77 : decode cX11_makeGrid 77 = .ok (.dup, 1) := by decide +kernel
theorem dX11_makeGrid_78 : decode cX11_makeGrid 78 = .ok (.iconst 4, 1) := by decide +kernel
theorem dX11_makeGrid_79 : decode cX11_makeGrid 79 = .ok (.lload 4, 2) := by decide +kernel
theorem dX11_makeGrid_81 : decode cX11_makeGrid 81 = .ok (.l2i, 1) := by decide +kernel
theorem dX11_makeGrid_82 : decode cX11_makeGrid 82 = .ok (.invokespecial 382, 3) := by decide +kernel
theorem dX11_makeGrid_85 : decode cX11_makeGrid 85 = .ok (.invokevirtual 390, 3) := by decide +kernel
theorem dX11_makeGrid_88 : decode cX11_makeGrid 88 = .ok (.pop, 1) := by decide +kernel
theorem dX11_makeGrid_89 : decode cX11_makeGrid 89 = .ok (.aload_n 0, 1) := by decide +kernel
theorem dX11_makeGrid_90 : decode cX11_makeGrid 90 = .ok (.dup, 1) := by decide +kernel
theorem dX11_makeGrid_91 : decode cX11_makeGrid 91 = .ok (.getfield 40, 3) := by decide +kernel
theorem dX11_makeGrid_94 : decode cX11_makeGrid 94 = .ok (.iconst 1, 1) := by decide +kernel
theorem dX11_makeGrid_95 : decode cX11_makeGrid 95 = .ok (.iadd, 1) := by decide +kernel
theorem dX11_makeGrid_96 : decode cX11_makeGrid 96 = .ok (.putfield 40, 3) := by decide +kernel
theorem dX11_makeGrid_99 : decode cX11_makeGrid 99 = .ok (.iinc 7 1, 3) := by decide +kernel
theorem dX11_makeGrid_102 : decode cX11_makeGrid 102 = .ok (.goto (-40), 3) := by decide +kernel
theorem dX11_makeGrid_105 : decode cX11_makeGrid 105 = .ok (.aload_n 0, 1) := by decide +kernel
theorem dX11_makeGrid_106 : decode cX11_makeGrid 106 = .ok (.iload_n 1, 1) := by decide +kernel
theorem dX11_makeGrid_107 : decode cX11_makeGrid 107 = .ok (.aload 6, 2) := by decide +kernel
theorem dX11_makeGrid_109 : decode cX11_makeGrid 109 = .ok (.invokevirtual 385, 3) := by decide +kernel
theorem dX11_makeGrid_112 : decode cX11_makeGrid 112 = .ok (.ireturn, 1) := by decide +kernel
theorem dX11_tellLength_0 : decode cX11_tellLength 0 = .ok (.aload_n 2, 1) := by decide +kernel
theorem dX11_tellLength_1 : decode cX11_tellLength 1 = .ok (.ifnonnull 5, 3) := by decide +kernel
theorem dX11_tellLength_4 : decode cX11_tellLength 4 = .ok (.iconst 1, 1) := by decide +kernel
theorem dX11_tellLength_5 : decode cX11_tellLength 5 = .ok (.ireturn, 1) := by decide +kernel
theorem dX11_tellLength_6 : decode cX11_tellLength 6 = .ok (.aload_n 2, 1) := by decide +kernel
theorem dX11_tellLength_7 : decode cX11_tellLength 7 = .ok (.instanceof 97, 3) := by decide +kernel
theorem dX11_tellLength_10 : decode cX11_tellLength 10 = .ok (.ifCond .eq 21, 3) := by decide +kernel
theorem dX11_tellLength_13 : decode cX11_tellLength 13 = .ok (.aload_n 2, 1) := by decide +kernel
theorem dX11_tellLength_14 : decode cX11_tellLength 14 = .ok (.checkcast 97, 3) := by decide +kernel
theorem dX11_tellLength_17 : decode cX11_tellLength 17 = .ok (.astore_n 3, 1) := by decide +kernel
theorem dX11_tellLength_18 : decode cX11_tellLength 18 = .ok (.aload_n 0, 1) := by decide +kernel
theorem dX11_tellLength_19 : decode cX11_tellLength 19 = .ok (.iload_n 1, 1) := by decide +kernel
theorem dX11_tellLength_20 : decode cX11_tellLength 20 = .ok (.aload_n 3, 1) := by decide +kernel
theorem dX11_tellLength_21 : decode cX11_tellLength 21 = .ok (.invokevirtual 99, 3) := by decide +kernel
theorem dX11_tellLength_24 : decode cX11_tellLength 24 = .ok (.i2l, 1) := by decide +kernel
theorem dX11_tellLength_25 : decode cX11_tellLength 25 = .ok (.invokevirtual 191, 3) := by decide +kernel
theorem dX11_tellLength_28 : decode cX11_tellLength 28 = .ok (.goto 4, 3) := by decide +kernel
theorem dX11_tellLength_31 : decode cX11_tellLength 31 = .ok (.iconst 2, 1) := by decide +kernel
theorem dX11_tellLength_32 : decode cX11_tellLength 32 = .ok (.ireturn, 1) := by decide +kernel
theorem dX11_cloneInts_0 : decode cX11_cloneInts 0 = .ok (.aload_n 2, 1) := by decide +kernel
theorem dX11_cloneInts_1 : decode cX11_cloneInts 1 = .ok (.ifnonnull 5, 3) := by decide +kernel
theorem dX11_cloneInts_4 : decode cX11_cloneInts 4 = .ok (.iconst 1, 1) := by decide +kernel
theorem dX11_cloneInts_5 : decode cX11_cloneInts 5 = .ok (.ireturn, 1) := by decide +kernel
theorem dX11_cloneInts_6 : decode cX11_cloneInts 6 = .ok (.aload_n 2, 1) := by decide +kernel
theorem dX11_cloneInts_7 : decode cX11_cloneInts 7 = .ok (.instanceof 97, 3) := by decide +kernel
theorem dX11_cloneInts_10 : decode cX11_cloneInts 10 = .ok (.ifCond .eq 16, 3) := by decide +kernel
theorem dX11_cloneInts_13 : decode cX11_cloneInts 13 = .ok (.aload_n 2, 1) := by decide +kernel
theorem dX11_cloneInts_14 : decode cX11_cloneInts 14 = .ok (.checkcast 97, 3) := by decide +kernel
theorem dX11_cloneInts_17 : decode cX11_cloneInts 17 = .ok (.astore_n 3, 1) := by decide +kernel
theorem dX11_cloneInts_18 : decode cX11_cloneInts 18 = .ok (.aload_n 3, 1) := by decide +kernel
theorem dX11_cloneInts_19 : decode cX11_cloneInts 19 = .ok (.invokevirtual 394, 3) := by decide +kernel
theorem dX11_cloneInts_22 : decode cX11_cloneInts 22 = .ok (.iconst 4, 1) := by decide +kernel
theorem dX11_cloneInts_23 : decode cX11_cloneInts 23 = .ok (.if_icmp .eq 5, 3) := by decide +kernel
theorem dX11_cloneInts_26 : decode cX11_cloneInts 26 = .ok (.iconst 2, 1) := by decide +kernel
theorem dX11_cloneInts_27 : decode cX11_cloneInts 27 = .ok (.ireturn, 1) := by decide +kernel
theorem dX11_cloneInts_28 : decode cX11_cloneInts 28 = .ok (.aload_n 0, 1) := by decide +kernel
theorem dX11_cloneInts_29 : decode cX11_cloneInts 29 = .ok (.iconst 1, 1) := by decide +kernel
theorem dX11_cloneInts_30 : decode cX11_cloneInts 30 = .ok (.invokevirtual 379, 3) := by decide +kernel
theorem dX11_cloneInts_33 : decode cX11_cloneInts 33 = .ok (.ifCond .ne 6, 3) := by decide +kernel
theorem dX11_cloneInts_36 : decode cX11_cloneInts 36 = .ok (.bipush 8, 2) := by decide +kernel
theorem dX11_cloneInts_38 : decode cX11_cloneInts 38 = .ok (.ireturn, 1) := by decide +kernel
theorem dX11_cloneInts_39 : decode cX11_cloneInts 39 = .ok (.new 97, 3) := by decide +kernel
theorem dX11_cloneInts_42 : decode cX11_cloneInts 42 = .ok (.dup, 1) := by decide +kernel
theorem dX11_cloneInts_43 : decode cX11_cloneInts 43 = .ok (.iconst 4, 1) := by decide +kernel
theorem dX11_cloneInts_44 : decode cX11_cloneInts 44 = .ok (.aload_n 3, 1) := by decide +kernel
theorem dX11_cloneInts_45 : decode cX11_cloneInts 45 = .ok (.invokevirtual 99, 3) := by decide +kernel
theorem dX11_cloneInts_48 : decode cX11_cloneInts 48 = .ok (.invokespecial 382, 3) := by decide +kernel
theorem dX11_cloneInts_51 : decode cX11_cloneInts 51 = .ok (.astore 4, 2) := by decide +kernel
theorem dX11_cloneInts_53 : decode cX11_cloneInts 53 = .ok (.aload 4, 2) := by decide +kernel
theorem dX11_cloneInts_55 : decode cX11_cloneInts 55 = .ok (.aload_n 3, 1) := by decide +kernel
theorem dX11_cloneInts_56 : decode cX11_cloneInts 56 = .ok (.iconst 0, 1) := by decide +kernel
theorem dX11_cloneInts_57 : decode cX11_cloneInts 57 = .ok (.iconst 0, 1) := by decide +kernel
theorem dX11_cloneInts_58 : decode cX11_cloneInts 58 = .ok (.aload_n 3, 1) := by decide +kernel
theorem dX11_cloneInts_59 : decode cX11_cloneInts 59 = .ok (.invokevirtual 99, 3) := by decide +kernel
theorem dX11_cloneInts_62 : decode cX11_cloneInts 62 = .ok (.invokevirtual 395, 3) := by decide +kernel
theorem dX11_cloneInts_65 : decode cX11_cloneInts 65 = .ok (.pop, 1) := by decide +kernel
theorem dX11_cloneInts_66 : decode cX11_cloneInts 66 = .ok (.aload_n 0, 1) := by decide +kernel
theorem dX11_cloneInts_67 : decode cX11_cloneInts 67 = .ok (.iload_n 1, 1) := by decide +kernel
theorem dX11_cloneInts_68 : decode cX11_cloneInts 68 = .ok (.aload 4, 2) := by decide +kernel
theorem dX11_cloneInts_70 : decode cX11_cloneInts 70 = .ok (.invokevirtual 385, 3) := by decide +kernel
theorem dX11_cloneInts_73 : decode cX11_cloneInts 73 = .ok (.ireturn, 1) := by decide +kernel
theorem dX11_copy_0 : decode cX11_copy 0 = .ok (.aload_n 1, 1) := by decide +kernel
theorem dX11_copy_1 : decode cX11_copy 1 = .ok (.ifnull 7, 3) := by decide +kernel
theorem dX11_copy_4 : decode cX11_copy 4 = .ok (.aload_n 2, 1) := by decide +kernel
theorem dX11_copy_5 : decode cX11_copy 5 = .ok (.ifnonnull 5, 3) := by decide +kernel
theorem dX11_copy_8 : decode cX11_copy 8 = .ok (.iconst 1, 1) := by decide +kernel
theorem dX11_copy_9 : decode cX11_copy 9 = .ok (.ireturn, 1) := by decide +kernel
theorem dX11_copy_10 : decode cX11_copy 10 = .ok (.aload_n 1, 1) := by decide +kernel
theorem dX11_copy_11 : decode cX11_copy 11 = .ok (.instanceof 97, 3) := by decide +kernel
theorem dX11_copy_14 : decode cX11_copy 14 = .ok (.ifCond .eq 32, 3) := by decide +kernel
theorem dX11_copy_17 : decode cX11_copy 17 = .ok (.aload_n 1, 1) := by decide +kernel
theorem dX11_copy_18 : decode cX11_copy 18 = .ok (.checkcast 97, 3) := by decide +kernel
theorem dX11_copy_21 : decode cX11_copy 21 = .ok (.astore 4, 2) := by decide +kernel
theorem dX11_copy_23 : decode cX11_copy 23 = .ok (.aload_n 2, 1) := by decide +kernel
theorem dX11_copy_24 : decode cX11_copy 24 = .ok (.instanceof 97, 3) := by decide +kernel
theorem dX11_copy_27 : decode cX11_copy 27 = .ok (.ifCond .eq 19, 3) := by decide +kernel
theorem dX11_copy_30 : decode cX11_copy 30 = .ok (.aload_n 2, 1) := by decide +kernel
theorem dX11_copy_31 : decode cX11_copy 31 = .ok (.checkcast 97, 3) := by decide +kernel
theorem dX11_copy_34 : decode cX11_copy 34 = .ok (.astore 5, 2) := by decide +kernel
theorem dX11_copy_36 : decode cX11_copy 36 = .ok (.aload 5, 2) := by decide +kernel
theorem dX11_copy_38 : decode cX11_copy 38 = .ok (.aload 4, 2) := by decide +kernel
theorem dX11_copy_40 : decode cX11_copy 40 = .ok (.invokevirtual 399, 3) := by decide +kernel
theorem dX11_copy_43 : decode cX11_copy 43 = .ok (.ifCond .ne 5, 3) := by decide +kernel
theorem dX11_copy_46 : decode cX11_copy 46 = .ok (.iconst 5, 1) := by decide +kernel
theorem dX11_copy_47 : decode cX11_copy 47 = .ok (.ireturn, 1) := by decide +kernel
theorem dX11_copy_48 : decode cX11_copy 48 = .ok (.aload_n 0, 1) := by decide +kernel
theorem dX11_copy_49 : decode cX11_copy 49 = .ok (.getfield 29, 3) := by decide +kernel
theorem dX11_copy_52 : decode cX11_copy 52 = .ok (.iload_n 3, 1) := by decide +kernel
theorem dX11_copy_53 : decode cX11_copy 53 = .ok (.invokevirtual 80, 3) := by decide +kernel
theorem dX11_copy_56 : decode cX11_copy 56 = .ok (.l2i, 1) := by decide +kernel
theorem dX11_copy_57 : decode cX11_copy 57 = .ok (.istore 6, 2) := by decide +kernel
theorem dX11_copy_59 : decode cX11_copy 59 = .ok (.aload_n 0, 1) := by decide +kernel
theorem dX11_copy_60 : decode cX11_copy 60 = .ok (.getfield 29, 3) := by decide +kernel
theorem dX11_copy_63 : decode cX11_copy 63 = .ok (.iload_n 3, 1) := by decide +kernel
theorem dX11_copy_64 : decode cX11_copy 64 = .ok (.iconst 1, 1) := by decide +kernel
theorem dX11_copy_65 : decode cX11_copy 65 = .ok (.iadd, 1) := by decide +kernel
theorem dX11_copy_66 : decode cX11_copy 66 = .ok (.invokevirtual 80, 3) := by decide +kernel
theorem dX11_copy_69 : decode cX11_copy 69 = .ok (.l2i, 1) := by decide +kernel
theorem dX11_copy_70 : decode cX11_copy 70 = .ok (.istore 7, 2) := by decide +kernel
theorem dX11_copy_72 : decode cX11_copy 72 = .ok (.aload_n 0, 1) := by decide +kernel
theorem dX11_copy_73 : decode cX11_copy 73 = .ok (.getfield 29, 3) := by decide +kernel
theorem dX11_copy_76 : decode cX11_copy 76 = .ok (.iload_n 3, 1) := by decide +kernel
theorem dX11_copy_77 : decode cX11_copy 77 = .ok (.iconst 2, 1) := by decide +kernel
theorem dX11_copy_78 : decode cX11_copy 78 = .ok (.iadd, 1) := by decide +kernel
theorem dX11_copy_79 : decode cX11_copy 79 = .ok (.invokevirtual 80, 3) := by decide +kernel
theorem dX11_copy_82 : decode cX11_copy 82 = .ok (.l2i, 1) := by decide +kernel
theorem dX11_copy_83 : decode cX11_copy 83 = .ok (.istore 8, 2) := by decide +kernel
theorem dX11_copy_85 : decode cX11_copy 85 = .ok (.aload 4, 2) := by decide +kernel
theorem dX11_copy_87 : decode cX11_copy 87 = .ok (.iload 6, 2) := by decide +kernel
theorem dX11_copy_89 : decode cX11_copy 89 = .ok (.iload 8, 2) := by decide +kernel
theorem dX11_copy_91 : decode cX11_copy 91 = .ok (.invokevirtual 403, 3) := by decide +kernel
theorem dX11_copy_94 : decode cX11_copy 94 = .ok (.ifCond .eq 15, 3) := by decide +kernel
theorem dX11_copy_97 : decode cX11_copy 97 = .ok (.aload 5, 2) := by decide +kernel
theorem dX11_copy_99 : decode cX11_copy 99 = .ok (.iload 7, 2) := by decide +kernel
theorem dX11_copy_101 : decode cX11_copy 101 = .ok (.iload 8, 2) := by decide +kernel
theorem dX11_copy_103 : decode cX11_copy 103 = .ok (.invokevirtual 403, 3) := by decide +kernel
theorem dX11_copy_106 : decode cX11_copy 106 = .ok (.ifCond .ne 5, 3) := by decide +kernel
theorem dX11_copy_109 : decode cX11_copy 109 = .ok (.iconst 3, 1) := by decide +kernel
theorem dX11_copy_110 : decode cX11_copy 110 = .ok (.ireturn, 1) := by decide +kernel
theorem dX11_copy_111 : decode cX11_copy 111 = .ok (.aload 5, 2) := by decide +kernel
theorem dX11_copy_113 : decode cX11_copy 113 = .ok (.aload 4, 2) := by decide +kernel
theorem dX11_copy_115 : decode cX11_copy 115 = .ok (.iload 6, 2) := by decide +kernel
theorem dX11_copy_117 : decode cX11_copy 117 = .ok (.iload 7, 2) := by decide +kernel
theorem dX11_copy_119 : decode cX11_copy 119 = .ok (.iload 8, 2) := by decide +kernel
theorem dX11_copy_121 : decode cX11_copy 121 = .ok (.invokevirtual 395, 3) := by decide +kernel
theorem dX11_copy_124 : decode cX11_copy 124 = .ok (.ifCond .eq 7, 3) := by decide +kernel
theorem dX11_copy_127 : decode cX11_copy 127 = .ok (.iconst 0, 1) := by decide +kernel
theorem dX11_copy_128 : decode cX11_copy 128 = .ok (.goto 4, 3) := by decide +kernel
theorem dX11_copy_131 : decode cX11_copy 131 = .ok (.iconst 5, 1) := by decide +kernel
theorem dX11_copy_132 : decode cX11_copy 132 = .ok (.ireturn, 1) := by decide +kernel
theorem dX11_load_0 : decode cX11_load 0 = .ok (.iload_n 1, 1) := by decide +kernel
theorem dX11_load_1 : decode cX11_load 1 = .ok (.bipush 10, 2) := by decide +kernel
theorem dX11_load_3 : decode cX11_load 3 = .ok (.if_icmp .le 5, 3) := by decide +kernel
theorem dX11_load_6 : decode cX11_load 6 = .ok (.iconst 2, 1) := by decide +kernel
theorem dX11_load_7 : decode cX11_load 7 = .ok (.ireturn, 1) := by decide +kernel
theorem dX11_load_8 : decode cX11_load 8 = .ok (.aload_n 0, 1) := by decide +kernel
theorem dX11_load_9 : decode cX11_load 9 = .ok (.getfield 29, 3) := by decide +kernel
theorem dX11_load_12 : decode cX11_load 12 = .ok (.iload_n 3, 1) := by decide +kernel
theorem dX11_load_13 : decode cX11_load 13 = .ok (.invokevirtual 87, 3) := by decide +kernel
theorem dX11_load_16 : decode cX11_load 16 = .ok (.astore 5, 2) := by decide +kernel
theorem dX11_load_18 : decode cX11_load 18 = .ok (.aload 5, 2) := by decide +kernel
theorem dX11_load_20 : decode cX11_load 20 = .ok (.ifnonnull 5, 3) := by decide +kernel
theorem dX11_load_23 : decode cX11_load 23 = .ok (.iconst 1, 1) := by decide +kernel
theorem dX11_load_24 : decode cX11_load 24 = .ok (.ireturn, 1) := by decide +kernel
theorem dX11_load_25 : decode cX11_load 25 = .ok (.aload 5, 2) := by decide +kernel
theorem dX11_load_27 : decode cX11_load 27 = .ok (.instanceof 97, 3) := by decide +kernel
theorem dX11_load_30 : decode cX11_load 30 = .ok (.ifCond .eq 19, 3) := by decide +kernel
theorem dX11_load_33 : decode cX11_load 33 = .ok (.aload 5, 2) := by decide +kernel
theorem dX11_load_35 : decode cX11_load 35 = .ok (.checkcast 97, 3) := by decide +kernel
theorem dX11_load_38 : decode cX11_load 38 = .ok (.astore 6, 2) := by decide +kernel
theorem dX11_load_40 : decode cX11_load 40 = .ok (.aload 6, 2) := by decide +kernel
theorem dX11_load_42 : decode cX11_load 42 = .ok (.iload_n 1, 1) := by decide +kernel
theorem dX11_load_43 : decode cX11_load 43 = .ok (.invokevirtual 407, 3) := by decide +kernel
theorem dX11_load_46 : decode cX11_load 46 = .ok (.ifCond .ne 5, 3) := by decide +kernel
theorem dX11_load_49 : decode cX11_load 49 = .ok (.iconst 2, 1) := by decide +kernel
theorem dX11_load_50 : decode cX11_load 50 = .ok (.ireturn, 1) := by decide +kernel
theorem dX11_load_51 : decode cX11_load 51 = .ok (.aload_n 0, 1) := by decide +kernel
theorem dX11_load_52 : decode cX11_load 52 = .ok (.getfield 29, 3) := by decide +kernel
theorem dX11_load_55 : decode cX11_load 55 = .ok (.iload 4, 2) := by decide +kernel
theorem dX11_load_57 : decode cX11_load 57 = .ok (.invokevirtual 80, 3) := by decide +kernel
theorem dX11_load_60 : decode cX11_load 60 = .ok (.l2i, 1) := by decide +kernel
theorem dX11_load_61 : decode cX11_load 61 = .ok (.istore 7, 2) := by decide +kernel
theorem dX11_load_63 : decode cX11_load 63 = .ok (.aload 6, 2) := by decide +kernel
theorem dX11_load_65 : decode cX11_load 65 = .ok (.iload 7, 2) := by decide +kernel
theorem dX11_load_67 : decode cX11_load 67 = .ok (.invokevirtual 113, 3) := by decide +kernel
theorem dX11_load_70 : decode cX11_load 70 = .ok (.ifCond .ne 5, 3) := by decide +kernel
theorem dX11_load_73 : decode cX11_load 73 = .ok (.iconst 3, 1) := by decide +kernel
theorem dX11_load_74 : decode cX11_load 74 = .ok (.ireturn, 1) := by decide +kernel
theorem dX11_load_75 : decode cX11_load 75 = .ok (.aload 6, 2) := by decide +kernel
theorem dX11_load_77 : decode cX11_load 77 = .ok (.invokevirtual 121, 3) := by decide +kernel
theorem dX11_load_80 : decode cX11_load 80 = .ok (.ifCond .eq 16, 3) := by decide +kernel
theorem dX11_load_83 : decode cX11_load 83 = .ok (.aload_n 0, 1) := by decide +kernel
theorem dX11_load_84 : decode cX11_load 84 = .ok (.iload_n 2, 1) := by decide +kernel
theorem dX11_load_85 : decode cX11_load 85 = .ok (.aload 6, 2) := by decide +kernel
theorem dX11_load_87 : decode cX11_load 87 = .ok (.iload 7, 2) := by decide +kernel
theorem dX11_load_89 : decode cX11_load 89 = .ok (.invokevirtual 125, 3) := by decide +kernel
theorem dX11_load_92 : decode cX11_load 92 = .ok (.invokevirtual 354, 3) := by decide +kernel
theorem dX11_load_95 : decode cX11_load 95 = .ok (.ireturn, 1) := by decide +kernel
theorem dX11_load_96 : decode cX11_load 96 = .ok (.iload_n 1, 1) := by decide +kernel
theorem dX11_load_97 : decode cX11_load 97 = .ok (.bipush 6, 2) := by decide +kernel
theorem dX11_load_99 : decode cX11_load 99 = .ok (.if_icmp .ne 20, 3) := by decide +kernel
theorem dX11_load_102 : decode cX11_load 102 = .ok (.aload_n 0, 1) := by decide +kernel
theorem dX11_load_103 : decode cX11_load 103 = .ok (.iload_n 2, 1) := by decide +kernel
theorem dX11_load_104 : decode cX11_load 104 = .ok (.aload 6, 2) := by decide +kernel
theorem dX11_load_106 : decode cX11_load 106 = .ok (.iload 7, 2) := by decide +kernel
theorem dX11_load_108 : decode cX11_load 108 = .ok (.invokevirtual 132, 3) := by decide +kernel
theorem dX11_load_111 : decode cX11_load 111 = .ok (.l2i, 1) := by decide +kernel
theorem dX11_load_112 : decode cX11_load 112 = .ok (.invokestatic 292, 3) := by decide +kernel
theorem dX11_load_115 : decode cX11_load 115 = .ok (.invokevirtual 222, 3) := by decide +kernel
theorem dX11_load_118 : decode cX11_load 118 = .ok (.ireturn, 1) := by decide +kernel
theorem dX11_load_119 : decode cX11_load 119 = .ok (.iload_n 1, 1) := by decide +kernel
theorem dX11_load_120 : decode cX11_load 120 = .ok (.bipush 7, 2) := by decide +kernel
theorem dX11_load_122 : decode cX11_load 122 = .ok (.if_icmp .ne 18, 3) := by decide +kernel
theorem dX11_load_125 : decode cX11_load 125 = .ok (.aload_n 0, 1) := by decide +kernel
theorem dX11_load_126 : decode cX11_load 126 = .ok (.iload_n 2, 1) := by decide +kernel
theorem dX11_load_127 : decode cX11_load 127 = .ok (.aload 6, 2) := by decide +kernel
theorem dX11_load_129 : decode cX11_load 129 = .ok (.iload 7, 2) := by decide +kernel
theorem dX11_load_131 : decode cX11_load 131 = .ok (.invokevirtual 132, 3) := by decide +kernel
theorem dX11_load_134 : decode cX11_load 134 = .ok (.invokevirtual 222, 3) := by decide +kernel
theorem dX11_load_137 : decode cX11_load 137 = .ok (.goto 15, 3) := by decide +kernel
theorem dX11_load_140 : decode cX11_load 140 = .ok (.aload_n 0, 1) := by decide +kernel
theorem dX11_load_141 : decode cX11_load 141 = .ok (.iload_n 2, 1) := by decide +kernel
theorem dX11_load_142 : decode cX11_load 142 = .ok (.aload 6, 2) := by decide +kernel
theorem dX11_load_144 : decode cX11_load 144 = .ok (.iload 7, 2) := by decide +kernel
theorem dX11_load_146 : decode cX11_load 146 = .ok (.invokevirtual 132, 3) := by decide +kernel
theorem dX11_load_149 : decode cX11_load 149 = .ok (.invokevirtual 191, 3) := by decide +kernel
theorem dX11_load_152 : decode cX11_load 152 = .ok (.ireturn, 1) := by decide +kernel
theorem dX11_store_0 : decode cX11_store 0 = .ok (.iload_n 1, 1) := by decide +kernel
theorem dX11_store_1 : decode cX11_store 1 = .ok (.bipush 10, 2) := by decide +kernel
theorem dX11_store_3 : decode cX11_store 3 = .ok (.if_icmp .le 5, 3) := by decide +kernel
theorem dX11_store_6 : decode cX11_store 6 = .ok (.iconst 2, 1) := by decide +kernel
theorem dX11_store_7 : decode cX11_store 7 = .ok (.ireturn, 1) := by decide +kernel
theorem dX11_store_8 : decode cX11_store 8 = .ok (.iload_n 1, 1) := by decide +kernel
theorem dX11_store_9 : decode cX11_store 9 = .ok (.bipush 8, 2) := by decide +kernel
theorem dX11_store_11 : decode cX11_store 11 = .ok (.if_icmp .lt 14, 3) := by decide +kernel
theorem dX11_store_14 : decode cX11_store 14 = .ok (.aload_n 0, 1) := by decide +kernel
theorem dX11_store_15 : decode cX11_store 15 = .ok (.getfield 29, 3) := by decide +kernel
theorem dX11_store_18 : decode cX11_store 18 = .ok (.iload_n 2, 1) := by decide +kernel
theorem dX11_store_19 : decode cX11_store 19 = .ok (.invokevirtual 87, 3) := by decide +kernel
theorem dX11_store_22 : decode cX11_store 22 = .ok (.goto 4, 3) := by decide +kernel
theorem dX11_store_25 : decode cX11_store 25 = .ok (.aconst_null, 1) := by decide +kernel
theorem dX11_store_26 : decode cX11_store 26 = .ok (.astore 5, 2) := by decide +kernel
theorem dX11_store_28 : decode cX11_store 28 = .ok (.aload_n 0, 1) := by decide +kernel
theorem dX11_store_29 : decode cX11_store 29 = .ok (.getfield 29, 3) := by decide +kernel
theorem dX11_store_32 : decode cX11_store 32 = .ok (.iload_n 3, 1) := by decide +kernel
theorem dX11_store_33 : decode cX11_store 33 = .ok (.invokevirtual 87, 3) := by decide +kernel
theorem dX11_store_36 : decode cX11_store 36 = .ok (.astore 6, 2) := by decide +kernel
theorem dX11_store_38 : decode cX11_store 38 = .ok (.aload 5, 2) := by decide +kernel
theorem dX11_store_40 : decode cX11_store 40 = .ok (.ifnull 14, 3) := by decide +kernel
theorem dX11_store_43 : decode cX11_store 43 = .ok (.iload_n 1, 1) := by decide +kernel
theorem dX11_store_44 : decode cX11_store 44 = .ok (.aload 5, 2) := by decide +kernel
theorem dX11_store_46 : decode cX11_store 46 = .ok (.invokestatic 410, 3) := by decide +kernel
theorem dX11_store_49 : decode cX11_store 49 = .ok (.ifCond .ne 5, 3) := by decide +kernel
theorem dX11_store_52 : decode cX11_store 52 = .ok (.iconst 2, 1) := by decide +kernel
theorem dX11_store_53 : decode cX11_store 53 = .ok (.ireturn, 1) := by decide +kernel
theorem dX11_store_54 : decode cX11_store 54 = .ok (.aload 6, 2) := by decide +kernel
theorem dX11_store_56 : decode cX11_store 56 = .ok (.ifnonnull 5, 3) := by decide +kernel
theorem dX11_store_59 : decode cX11_store 59 = .ok (.iconst 1, 1) := by decide +kernel
theorem dX11_store_60 : decode cX11_store 60 = .ok (.ireturn, 1) := by decide +kernel
theorem dX11_store_61 : decode cX11_store 61 = .ok (.aload 6, 2) := by decide +kernel
theorem dX11_store_63 : decode cX11_store 63 = .ok (.instanceof 97, 3) := by decide +kernel
theorem dX11_store_66 : decode cX11_store 66 = .ok (.ifCond .eq 19, 3) := by decide +kernel
theorem dX11_store_69 : decode cX11_store 69 = .ok (.aload 6, 2) := by decide +kernel
theorem dX11_store_71 : decode cX11_store 71 = .ok (.checkcast 97, 3) := by decide +kernel
theorem dX11_store_74 : decode cX11_store 74 = .ok (.astore 7, 2) := by decide +kernel
theorem dX11_store_76 : decode cX11_store 76 = .ok (.aload 7, 2) := by decide +kernel
theorem dX11_store_78 : decode cX11_store 78 = .ok (.iload_n 1, 1) := by decide +kernel
theorem dX11_store_79 : decode cX11_store 79 = .ok (.invokevirtual 407, 3) := by decide +kernel
theorem dX11_store_82 : decode cX11_store 82 = .ok (.ifCond .ne 5, 3) := by decide +kernel
theorem dX11_store_85 : decode cX11_store 85 = .ok (.iconst 2, 1) := by decide +kernel
theorem dX11_store_86 : decode cX11_store 86 = .ok (.ireturn, 1) := by decide +kernel
theorem dX11_store_87 : decode cX11_store 87 = .ok (.aload_n 0, 1) := by decide +kernel
theorem dX11_store_88 : decode cX11_store 88 = .ok (.getfield 29, 3) := by decide +kernel
theorem dX11_store_91 : decode cX11_store 91 = .ok (.iload 4, 2) := by decide +kernel
theorem dX11_store_93 : decode cX11_store 93 = .ok (.invokevirtual 80, 3) := by decide +kernel
theorem dX11_store_96 : decode cX11_store 96 = .ok (.l2i, 1) := by decide +kernel
theorem dX11_store_97 : decode cX11_store 97 = .ok (.istore 8, 2) := by decide +kernel
theorem dX11_store_99 : decode cX11_store 99 = .ok (.aload 7, 2) := by decide +kernel
theorem dX11_store_101 : decode cX11_store 101 = .ok (.iload 8, 2) := by decide +kernel
theorem dX11_store_103 : decode cX11_store 103 = .ok (.invokevirtual 113, 3) := by decide +kernel
theorem dX11_store_106 : decode cX11_store 106 = .ok (.ifCond .ne 5, 3) := by decide +kernel
theorem dX11_store_109 : decode cX11_store 109 = .ok (.iconst 3, 1) := by decide +kernel
theorem dX11_store_110 : decode cX11_store 110 = .ok (.ireturn, 1) := by decide +kernel
theorem dX11_store_111 : decode cX11_store 111 = .ok (.aload 7, 2) := by decide +kernel
theorem dX11_store_113 : decode cX11_store 113 = .ok (.invokevirtual 121, 3) := by decide +kernel
theorem dX11_store_116 : decode cX11_store 116 = .ok (.ifCond .eq 21, 3) := by decide +kernel
theorem dX11_store_119 : decode cX11_store 119 = .ok (.aload 7, 2) := by decide +kernel
theorem dX11_store_121 : decode cX11_store 121 = .ok (.iload 8, 2) := by decide +kernel
theorem dX11_store_123 : decode cX11_store 123 = .ok (.aload 5, 2) := by decide +kernel
theorem dX11_store_125 : decode cX11_store 125 = .ok (.invokevirtual 390, 3) := by decide +kernel
theorem dX11_store_128 : decode cX11_store 128 = .ok (.ifCond .eq 7, 3) := by decide +kernel
theorem dX11_store_131 : decode cX11_store 131 = .ok (.iconst 0, 1) := by decide +kernel
theorem dX11_store_132 : decode cX11_store 132 = .ok (.goto 4, 3) := by decide +kernel
theorem dX11_store_135 : decode cX11_store 135 = .ok (.iconst 5, 1) := by decide +kernel
theorem dX11_store_136 : decode cX11_store 136 = .ok (.ireturn, 1) := by decide +kernel
theorem dX11_store_137 : decode cX11_store 137 = .ok (.iload_n 1, 1) := by decide +kernel
theorem dX11_store_138 : decode cX11_store 138 = .ok (.bipush 6, 2) := by decide +kernel
theorem dX11_store_140 : decode cX11_store 140 = .ok (.if_icmp .eq 9, 3) := by decide +kernel
theorem dX11_store_143 : decode cX11_store 143 = .ok (.iload_n 1, 1) := by decide +kernel
theorem dX11_store_144 : decode cX11_store 144 = .ok (.bipush 7, 2) := by decide +kernel
theorem dX11_store_146 : decode cX11_store 146 = .ok (.if_icmp .ne 7, 3) := by decide +kernel
theorem dX11_store_149 : decode cX11_store 149 = .ok (.iconst 1, 1) := by decide +kernel
theorem dX11_store_150 : decode cX11_store 150 = .ok (.goto 4, 3) := by decide +kernel
theorem dX11_store_153 : decode cX11_store 153 = .ok (.iconst 0, 1) := by decide +kernel
theorem dX11_store_154 : decode cX11_store 154 = .ok (.istore 9, 2) := by decide +kernel
theorem dX11_store_156 : decode cX11_store 156 = .ok (.aload 7, 2) := by decide +kernel
theorem dX11_store_158 : decode cX11_store 158 = .ok (.iload 8, 2) := by decide +kernel
theorem dX11_store_160 : decode cX11_store 160 = .ok (.iload 9, 2) := by decide +kernel
theorem dX11_store_162 : decode cX11_store 162 = .ok (.ifCond .eq 14, 3) := by decide +kernel
theorem dX11_store_165 : decode cX11_store 165 = .ok (.aload_n 0, 1) := by decide +kernel
theorem dX11_store_166 : decode cX11_store 166 = .ok (.getfield 29, 3) := by decide +kernel
theorem dX11_store_169 : decode cX11_store 169 = .ok (.iload_n 2, 1) := by decide +kernel
theorem dX11_store_170 : decode cX11_store 170 = .ok (.invokevirtual 84, 3) := by decide +kernel
theorem dX11_store_173 : decode cX11_store 173 = .ok (.goto 11, 3) := by decide +kernel
theorem dX11_store_176 : decode cX11_store 176 = .ok (.aload_n 0, 1) := by decide +kernel
theorem dX11_store_177 : decode cX11_store 177 = .ok (.getfield 29, 3) := by decide +kernel
theorem dX11_store_180 : decode cX11_store 180 = .ok (.iload_n 2, 1) := by decide +kernel
theorem dX11_store_181 : decode cX11_store 181 = .ok (.invokevirtual 80, 3) := by decide +kernel
theorem dX11_store_184 : decode cX11_store 184 = .ok (.invokevirtual 413, 3) := by decide +kernel
theorem dX11_store_187 : decode cX11_store 187 = .ok (.iconst 0, 1) := by decide +kernel
theorem dX11_store_188 : decode cX11_store 188 = .ok (.ireturn, 1) := by decide +kernel
theorem dX11_shownThing_0 : decode cX11_shownThing 0 = .ok (.aload_n 0, 1) := by decide +kernel
theorem dX11_shownThing_1 : decode cX11_shownThing 1 = .ok (.instanceof 416, 3) := by decide +kernel
theorem dX11_shownThing_4 : decode cX11_shownThing 4 = .ok (.ifCond .eq 14, 3) := by decide +kernel
theorem dX11_shownThing_7 : decode cX11_shownThing 7 = .ok (.aload_n 0, 1) := by decide +kernel
theorem dX11_shownThing_8 : decode cX11_shownThing 8 = .ok (.checkcast 416, 3) := by decide +kernel
theorem dX11_shownThing_11 : decode cX11_shownThing 11 = .ok (.astore_n 1, 1) := by decide +kernel
theorem dX11_shownThing_12 : decode cX11_shownThing 12 = .ok (.aload_n 1, 1) := by decide +kernel
theorem dX11_shownThing_13 : decode cX11_shownThing 13 = .ok (.getfield 418, 3) := by decide +kernel
theorem dX11_shownThing_16 : decode cX11_shownThing 16 = .ok (.i2l, 1) := by decide +kernel
theorem dX11_shownThing_17 : decode cX11_shownThing 17 = .ok (.lreturn, 1) := by decide +kernel
theorem dX11_shownThing_18 : decode cX11_shownThing 18 = .ok (.aload_n 0, 1) := by decide +kernel
theorem dX11_shownThing_19 : decode cX11_shownThing 19 = .ok (.instanceof 97, 3) := by decide +kernel
theorem dX11_shownThing_22 : decode cX11_shownThing 22 = .ok (.ifCond .eq 16, 3) := by decide +kernel
theorem dX11_shownThing_25 : decode cX11_shownThing 25 = .ok (.aload_n 0, 1) := by decide +kernel
theorem dX11_shownThing_26 : decode cX11_shownThing 26 = .ok (.checkcast 97, 3) := by decide +kernel
theorem dX11_shownThing_29 : decode cX11_shownThing 29 = .ok (.astore_n 1, 1) := by decide +kernel
theorem dX11_shownThing_30 : decode cX11_shownThing 30 = .ok (.aload_n 1, 1) := by decide +kernel
theorem dX11_shownThing_31 : decode cX11_shownThing 31 = .ok (.invokevirtual 99, 3) := by decide +kernel
theorem dX11_shownThing_34 : decode cX11_shownThing 34 = .ok (.i2l, 1) := by decide +kernel
theorem dX11_shownThing_35 : decode cX11_shownThing 35 = .ok (.goto 6, 3) := by decide +kernel
theorem dX11_shownThing_38 : decode cX11_shownThing 38 = .ok (.ldc2_w 375, 3) := by decide +kernel
theorem dX11_shownThing_41 : decode cX11_shownThing 41 = .ok (.lreturn, 1) := by decide +kernel
theorem dX11_onPoses_0 : decode cX11_onPoses 0 = .ok (.iload_n 1, 1) := by decide +kernel
theorem dX11_onPoses_1 : decode cX11_onPoses 1 = .ok (.tableswitch 143 80 84 #[35, 53, 72, 91, 120], 35) := by decide +kernel
theorem dX11_onPoses_36 : decode cX11_onPoses 36 = .ok (.aload_n 0, 1) := by decide +kernel
theorem dX11_onPoses_37 : decode cX11_onPoses 37 = .ok (.iload_n 2, 1) := by decide +kernel
theorem dX11_onPoses_38 : decode cX11_onPoses 38 = .ok (.iload 4, 2) := by decide +kernel
theorem dX11_onPoses_40 : decode cX11_onPoses 40 = .ok (.iconst 1, 1) := by decide +kernel
theorem dX11_onPoses_41 : decode cX11_onPoses 41 = .ok (.iand, 1) := by decide +kernel
theorem dX11_onPoses_42 : decode cX11_onPoses 42 = .ok (.ifCond .eq 7, 3) := by decide +kernel
theorem dX11_onPoses_45 : decode cX11_onPoses 45 = .ok (.iconst 1, 1) := by decide +kernel
theorem dX11_onPoses_46 : decode cX11_onPoses 46 = .ok (.goto 4, 3) := by decide +kernel
theorem dX11_onPoses_49 : decode cX11_onPoses 49 = .ok (.iconst 0, 1) := by decide +kernel
theorem dX11_onPoses_50 : decode cX11_onPoses 50 = .ok (.invokevirtual 421, 3) := by decide +kernel
theorem dX11_onPoses_53 : decode cX11_onPoses 53 = .ok (.ireturn, 1) := by decide +kernel
theorem dX11_onPoses_54 : decode cX11_onPoses 54 = .ok (.aload_n 0, 1) := by decide +kernel
theorem dX11_onPoses_55 : decode cX11_onPoses 55 = .ok (.iload_n 2, 1) := by decide +kernel
theorem dX11_onPoses_56 : decode cX11_onPoses 56 = .ok (.aload_n 0, 1) := by decide +kernel
theorem dX11_onPoses_57 : decode cX11_onPoses 57 = .ok (.getfield 29, 3) := by decide +kernel
theorem dX11_onPoses_60 : decode cX11_onPoses 60 = .ok (.iload_n 3, 1) := by decide +kernel
theorem dX11_onPoses_61 : decode cX11_onPoses 61 = .ok (.invokevirtual 87, 3) := by decide +kernel
theorem dX11_onPoses_64 : decode cX11_onPoses 64 = .ok (.iload 4, 2) := by decide +kernel
theorem dX11_onPoses_66 : decode cX11_onPoses 66 = .ok (.bipush 7, 2) := by decide +kernel
theorem dX11_onPoses_68 : decode cX11_onPoses 68 = .ok (.iand, 1) := by decide +kernel
theorem dX11_onPoses_69 : decode cX11_onPoses 69 = .ok (.invokevirtual 425, 3) := by decide +kernel
theorem dX11_onPoses_72 : decode cX11_onPoses 72 = .ok (.ireturn, 1) := by decide +kernel
theorem dX11_onPoses_73 : decode cX11_onPoses 73 = .ok (.aload_n 0, 1) := by decide +kernel
theorem dX11_onPoses_74 : decode cX11_onPoses 74 = .ok (.iload_n 2, 1) := by decide +kernel
theorem dX11_onPoses_75 : decode cX11_onPoses 75 = .ok (.aload_n 0, 1) := by decide +kernel
theorem dX11_onPoses_76 : decode cX11_onPoses 76 = .ok (.getfield 29, 3) := by decide +kernel
theorem dX11_onPoses_79 : decode cX11_onPoses 79 = .ok (.iload_n 3, 1) := by decide +kernel
theorem dX11_onPoses_80 : decode cX11_onPoses 80 = .ok (.invokevirtual 87, 3) := by decide +kernel
theorem dX11_onPoses_83 : decode cX11_onPoses 83 = .ok (.iload 4, 2) := by decide +kernel
theorem dX11_onPoses_85 : decode cX11_onPoses 85 = .ok (.bipush 7, 2) := by decide +kernel
theorem dX11_onPoses_87 : decode cX11_onPoses 87 = .ok (.iand, 1) := by decide +kernel
theorem dX11_onPoses_88 : decode cX11_onPoses 88 = .ok (.invokevirtual 429, 3) := by decide +kernel
theorem dX11_onPoses_91 : decode cX11_onPoses 91 = .ok (.ireturn, 1) := by decide +kernel
theorem dX11_onPoses_92 : decode cX11_onPoses 92 = .ok (.aload_n 0, 1) := by decide +kernel
theorem dX11_onPoses_93 : decode cX11_onPoses 93 = .ok (.getfield 29, 3) := by decide +kernel
theorem dX11_onPoses_96 : decode cX11_onPoses 96 = .ok (.iload_n 2, 1) := by decide +kernel
theorem dX11_onPoses_97 : decode cX11_onPoses 97 = .ok (.invokevirtual 87, 3) := by decide +kernel
theorem dX11_onPoses_100 : decode cX11_onPoses 100 = .ok (.aload_n 0, 1) := by decide +kernel
theorem dX11_onPoses_101 : decode cX11_onPoses 101 = .ok (.getfield 29, 3) := by decide +kernel
theorem dX11_onPoses_104 : decode cX11_onPoses 104 = .ok (.iload_n 3, 1) := by decide +kernel
theorem dX11_onPoses_105 : decode cX11_onPoses 105 = .ok (.invokevirtual 84, 3) := by decide +kernel
theorem dX11_onPoses_108 : decode cX11_onPoses 108 = .ok (.aload_n 0, 1) := by decide +kernel
theorem dX11_onPoses_109 : decode cX11_onPoses 109 = .ok (.getfield 29, 3) := by decide +kernel
theorem dX11_onPoses_112 : decode cX11_onPoses 112 = .ok (.iload 4, 2) := by decide +kernel
theorem dX11_onPoses_114 : decode cX11_onPoses 114 = .ok (.invokevirtual 84, 3) := by decide +kernel
theorem dX11_onPoses_117 : decode cX11_onPoses 117 = .ok (.invokestatic 432, 3) := by decide +kernel
theorem dX11_onPoses_120 : decode cX11_onPoses 120 = .ok (.ireturn, 1) := by decide +kernel
theorem dX11_onPoses_121 : decode cX11_onPoses 121 = .ok (.aload_n 0, 1) := by decide +kernel
theorem dX11_onPoses_122 : decode cX11_onPoses 122 = .ok (.iload_n 2, 1) := by decide +kernel
theorem dX11_onPoses_123 : decode cX11_onPoses 123 = .ok (.aload_n 0, 1) := by decide +kernel
theorem dX11_onPoses_124 : decode cX11_onPoses 124 = .ok (.getfield 29, 3) := by decide +kernel
theorem dX11_onPoses_127 : decode cX11_onPoses 127 = .ok (.iload_n 3, 1) := by decide +kernel
theorem dX11_onPoses_128 : decode cX11_onPoses 128 = .ok (.invokevirtual 87, 3) := by decide +kernel
theorem dX11_onPoses_131 : decode cX11_onPoses 131 = .ok (.aload_n 0, 1) := by decide +kernel
theorem dX11_onPoses_132 : decode cX11_onPoses 132 = .ok (.getfield 29, 3) := by decide +kernel
theorem dX11_onPoses_135 : decode cX11_onPoses 135 = .ok (.iload 4, 2) := by decide +kernel
theorem dX11_onPoses_137 : decode cX11_onPoses 137 = .ok (.invokevirtual 87, 3) := by decide +kernel
theorem dX11_onPoses_140 : decode cX11_onPoses 140 = .ok (.invokevirtual 436, 3) := by decide +kernel
theorem dX11_onPoses_143 : decode cX11_onPoses 143 = .ok (.ireturn, 1) := by decide +kernel
theorem dX11_onPoses_144 : decode cX11_onPoses 144 = .ok (.iconst 2, 1) := by decide +kernel
theorem dX11_onPoses_145 : decode cX11_onPoses 145 = .ok (.ireturn, 1) := by decide +kernel
theorem dX11_makePose_0 : decode cX11_makePose 0 = .ok (.aload_n 0, 1) := by decide +kernel
theorem dX11_makePose_1 : decode cX11_makePose 1 = .ok (.iconst 1, 1) := by decide +kernel
theorem dX11_makePose_2 : decode cX11_makePose 2 = .ok (.invokevirtual 379, 3) := by decide +kernel
theorem dX11_makePose_5 : decode cX11_makePose 5 = .ok (.ifCond .ne 6, 3) := by decide +kernel
theorem dX11_makePose_8 : decode cX11_makePose 8 = .ok (.bipush 8, 2) := by decide +kernel
theorem dX11_makePose_10 : decode cX11_makePose 10 = .ok (.ireturn, 1) := by decide +kernel
theorem dX11_makePose_11 : decode cX11_makePose 11 = .ok (.aload_n 0, 1) := by decide +kernel
theorem dX11_makePose_12 : decode cX11_makePose 12 = .ok (.iload_n 1, 1) := by decide +kernel
theorem dX11_makePose_13 : decode cX11_makePose 13 = .ok (.iload_n 2, 1) := by decide +kernel
theorem dX11_makePose_14 : decode cX11_makePose 14 = .ok (.ifCond .eq 13, 3) := by decide +kernel
theorem dX11_makePose_17 : decode cX11_makePose 17 = .ok (.new 440, 3) := by decide +kernel
theorem dX11_makePose_20 : decode cX11_makePose 20 = .ok (.dup, 1) := by decide +kernel
theorem dX11_makePose_21 : decode cX11_makePose 21 = .ok (.invokespecial 442, 3) := by decide +kernel
theorem dX11_makePose_24 : decode cX11_makePose 24 = .ok (.goto 10, 3) := by decide +kernel
theorem dX11_makePose_27 : decode cX11_makePose 27 = .ok (.new 416, 3) := by decide +kernel
theorem dX11_makePose_30 : decode cX11_makePose 30 = .ok (.dup, 1) := by decide +kernel
theorem dX11_makePose_31 : decode cX11_makePose 31 = .ok (.invokespecial 443, 3) := by decide +kernel
theorem dX11_makePose_34 : decode cX11_makePose 34 = .ok (.invokevirtual 385, 3) := by decide +kernel
theorem dX11_makePose_37 : decode cX11_makePose 37 = .ok (.ireturn, 1) := by decide +kernel
theorem dX11_read_0 : decode cX11_read 0 = .ok (.aload_n 2, 1) := by decide +kernel
theorem dX11_read_1 : decode cX11_read 1 = .ok (.ifnonnull 5, 3) := by decide +kernel
theorem dX11_read_4 : decode cX11_read 4 = .ok (.iconst 1, 1) := by decide +kernel
theorem dX11_read_5 : decode cX11_read 5 = .ok (.ireturn, 1) := by decide +kernel
theorem dX11_read_6 : decode cX11_read 6 = .ok (.aload_n 2, 1) := by decide +kernel
theorem dX11_read_7 : decode cX11_read 7 = .ok (.instanceof 416, 3) := by decide +kernel
theorem dX11_read_10 : decode cX11_read 10 = .ok (.ifCond .eq 12, 3) := by decide +kernel
theorem dX11_read_13 : decode cX11_read 13 = .ok (.aload_n 2, 1) := by decide +kernel
theorem dX11_read_14 : decode cX11_read 14 = .ok (.checkcast 416, 3) := by decide +kernel
theorem dX11_read_17 : decode cX11_read 17 = .ok (.astore 4, 2) := by decide +kernel
theorem dX11_read_19 : decode cX11_read 19 = .ok (.goto 5, 3) := by decide +kernel
theorem dX11_read_22 : decode cX11_read 22 = .ok (.iconst 2, 1) := by decide +kernel
theorem dX11_read_23 : decode cX11_read 23 = .ok (.ireturn, 1) := by decide +kernel
theorem dX11_read_24 : decode cX11_read 24 = .ok (.iload_n 3, 1) := by decide +kernel
theorem dX11_read_25 : decode cX11_read 25 = .ok (.tableswitch 141 0 6 #[43, 54, 65, 76, 88, 99, 129], 43) := by decide +kernel
theorem dX11_read_68 : decode cX11_read 68 = .ok (.aload_n 0, 1) := by decide +kernel
theorem dX11_read_69 : decode cX11_read 69 = .ok (.iload_n 1, 1) := by decide +kernel
theorem dX11_read_70 : decode cX11_read 70 = .ok (.aload 4, 2) := by decide +kernel
theorem dX11_read_72 : decode cX11_read 72 = .ok (.getfield 444, 3) := by decide +kernel
theorem dX11_read_75 : decode cX11_read 75 = .ok (.invokevirtual 222, 3) := by decide +kernel
theorem dX11_read_78 : decode cX11_read 78 = .ok (.ireturn, 1) := by decide +kernel
theorem dX11_read_79 : decode cX11_read 79 = .ok (.aload_n 0, 1) := by decide +kernel
theorem dX11_read_80 : decode cX11_read 80 = .ok (.iload_n 1, 1) := by decide +kernel
theorem dX11_read_81 : decode cX11_read 81 = .ok (.aload 4, 2) := by decide +kernel
theorem dX11_read_83 : decode cX11_read 83 = .ok (.getfield 448, 3) := by decide +kernel
theorem dX11_read_86 : decode cX11_read 86 = .ok (.invokevirtual 222, 3) := by decide +kernel
theorem dX11_read_89 : decode cX11_read 89 = .ok (.ireturn, 1) := by decide +kernel
theorem dX11_read_90 : decode cX11_read 90 = .ok (.aload_n 0, 1) := by decide +kernel
theorem dX11_read_91 : decode cX11_read 91 = .ok (.iload_n 1, 1) := by decide +kernel
theorem dX11_read_92 : decode cX11_read 92 = .ok (.aload 4, 2) := by decide +kernel
theorem dX11_read_94 : decode cX11_read 94 = .ok (.getfield 451, 3) := by decide +kernel
theorem dX11_read_97 : decode cX11_read 97 = .ok (.invokevirtual 222, 3) := by decide +kernel
theorem dX11_read_100 : decode cX11_read 100 = .ok (.ireturn, 1) := by decide +kernel
theorem dX11_read_101 : decode cX11_read 101 = .ok (.aload_n 0, 1) := by decide +kernel
theorem dX11_read_102 : decode cX11_read 102 = .ok (.iload_n 1, 1) := by decide +kernel
theorem dX11_read_103 : decode cX11_read 103 = .ok (.aload 4, 2) := by decide +kernel
theorem dX11_read_105 : decode cX11_read 105 = .ok (.getfield 418, 3) := by decide +kernel
theorem dX11_read_108 : decode cX11_read 108 = .ok (.i2l, 1) := by decide +kernel
theorem dX11_read_109 : decode cX11_read 109 = .ok (.invokevirtual 191, 3) := by decide +kernel
theorem dX11_read_112 : decode cX11_read 112 = .ok (.ireturn, 1) := by decide +kernel
theorem dX11_read_113 : decode cX11_read 113 = .ok (.aload_n 0, 1) := by decide +kernel
theorem dX11_read_114 : decode cX11_read 114 = .ok (.iload_n 1, 1) := by decide +kernel
theorem dX11_read_115 : decode cX11_read 115 = .ok (.aload 4, 2) := by decide +kernel
theorem dX11_read_117 : decode cX11_read 117 = .ok (.getfield 454, 3) := by decide +kernel
theorem dX11_read_120 : decode cX11_read 120 = .ok (.invokevirtual 354, 3) := by decide +kernel
theorem dX11_read_123 : decode cX11_read 123 = .ok (.ireturn, 1) := by decide +kernel
theorem dX11_read_124 : decode cX11_read 124 = .ok (.aload 4, 2) := by decide +kernel
theorem dX11_read_126 : decode cX11_read 126 = .ok (.instanceof 440, 3) := by decide +kernel
theorem dX11_read_129 : decode cX11_read 129 = .ok (.ifCond .eq 23, 3) := by decide +kernel
theorem dX11_read_132 : decode cX11_read 132 = .ok (.aload 4, 2) := by decide +kernel
theorem dX11_read_134 : decode cX11_read 134 = .ok (.checkcast 440, 3) := by decide +kernel
theorem dX11_read_137 : decode cX11_read 137 = .ok (.astore 5, 2) := by decide +kernel
theorem dX11_read_139 : decode cX11_read 139 = .ok (.aload_n 0, 1) := by decide +kernel
theorem dX11_read_140 : decode cX11_read 140 = .ok (.iload_n 1, 1) := by decide +kernel
theorem dX11_read_141 : decode cX11_read 141 = .ok (.aload 5, 2) := by decide +kernel
theorem dX11_read_143 : decode cX11_read 143 = .ok (.getfield 458, 3) := by decide +kernel
theorem dX11_read_146 : decode cX11_read 146 = .ok (.invokevirtual 222, 3) := by decide +kernel
theorem dX11_read_149 : decode cX11_read 149 = .ok (.goto 4, 3) := by decide +kernel
theorem dX11_read_152 : decode cX11_read 152 = .ok (.iconst 2, 1) := by decide +kernel
theorem dX11_read_153 : decode cX11_read 153 = .ok (.ireturn, 1) := by decide +kernel
theorem dX11_read_154 : decode cX11_read 154 = .ok (.aload_n 0, 1) := by decide +kernel
theorem dX11_read_155 : decode cX11_read 155 = .ok (.iload_n 1, 1) := by decide +kernel
theorem dX11_read_156 : decode cX11_read 156 = .ok (.aload 4, 2) := by decide +kernel
theorem dX11_read_158 : decode cX11_read 158 = .ok (.invokevirtual 461, 3) := by decide +kernel
theorem dX11_read_161 : decode cX11_read 161 = .ok (.i2l, 1) := by decide +kernel
theorem dX11_read_162 : decode cX11_read 162 = .ok (.invokevirtual 191, 3) := by decide +kernel
theorem dX11_read_165 : decode cX11_read 165 = .ok (.ireturn, 1) := by decide +kernel
theorem dX11_read_166 : decode cX11_read 166 = .ok (.iconst 0, 1) := by decide +kernel
theorem dX11_read_167 : decode cX11_read 167 = .ok (.ireturn, 1) := by decide +kernel
theorem dX11_write_0 : decode cX11_write 0 = .ok (.iload_n 3, 1) := by decide +kernel
theorem dX11_write_1 : decode cX11_write 1 = .ok (.iconst 4, 1) := by decide +kernel
theorem dX11_write_2 : decode cX11_write 2 = .ok (.if_icmp .ne 14, 3) := by decide +kernel
theorem dX11_write_5 : decode cX11_write 5 = .ok (.aload_n 0, 1) := by decide +kernel
theorem dX11_write_6 : decode cX11_write 6 = .ok (.getfield 29, 3) := by decide +kernel
theorem dX11_write_9 : decode cX11_write 9 = .ok (.iload_n 1, 1) := by decide +kernel
theorem dX11_write_10 : decode cX11_write 10 = .ok (.invokevirtual 87, 3) := by decide +kernel
theorem dX11_write_13 : decode cX11_write 13 = .ok (.goto 4, 3) := by decide +kernel
theorem dX11_write_16 : decode cX11_write 16 = .ok (.aconst_null, 1) := by decide +kernel
theorem dX11_write_17 : decode cX11_write 17 = .ok (.astore 4, 2) := by decide +kernel
theorem dX11_write_19 : decode cX11_write 19 = .ok (.aload 4, 2) := by decide +kernel
theorem dX11_write_21 : decode cX11_write 21 = .ok (.ifnull 13, 3) := by decide +kernel
theorem dX11_write_24 : decode cX11_write 24 = .ok (.aload 4, 2) := by decide +kernel
theorem dX11_write_26 : decode cX11_write 26 = .ok (.instanceof 416, 3) := by decide +kernel
theorem dX11_write_29 : decode cX11_write 29 = .ok (.ifCond .ne 5, 3) := by decide +kernel
theorem dX11_write_32 : decode cX11_write 32 = .ok (.iconst 2, 1) := by decide +kernel
theorem dX11_write_33 : decode cX11_write 33 = .ok (.ireturn, 1) := by decide +kernel
theorem dX11_write_34 : decode cX11_write 34 = .ok (.aload_n 2, 1) := by decide +kernel
theorem dX11_write_35 : decode cX11_write 35 = .ok (.ifnonnull 5, 3) := by decide +kernel
theorem dX11_write_38 : decode cX11_write 38 = .ok (.iconst 1, 1) := by decide +kernel
theorem dX11_write_39 : decode cX11_write 39 = .ok (.ireturn, 1) := by decide +kernel
theorem dX11_write_40 : decode cX11_write 40 = .ok (.aload_n 2, 1) := by decide +kernel
theorem dX11_write_41 : decode cX11_write 41 = .ok (.instanceof 416, 3) := by decide +kernel
theorem dX11_write_44 : decode cX11_write 44 = .ok (.ifCond .eq 12, 3) := by decide +kernel
theorem dX11_write_47 : decode cX11_write 47 = .ok (.aload_n 2, 1) := by decide +kernel
theorem dX11_write_48 : decode cX11_write 48 = .ok (.checkcast 416, 3) := by decide +kernel
theorem dX11_write_51 : decode cX11_write 51 = .ok (.astore 5, 2) := by decide +kernel
theorem dX11_write_53 : decode cX11_write 53 = .ok (.goto 5, 3) := by decide +kernel
theorem dX11_write_56 : decode cX11_write 56 = .ok (.iconst 2, 1) := by decide +kernel
theorem dX11_write_57 : decode cX11_write 57 = .ok (.ireturn, 1) := by decide +kernel
theorem dX11_write_58 : decode cX11_write 58 = .ok (.iload_n 3, 1) := by decide +kernel
theorem dX11_write_59 : decode cX11_write 59 = .ok (.lookupswitch 69 #[(3, 25), (4, 41)], 25) := by decide +kernel
theorem dX11_write_84 : decode cX11_write 84 = .ok (.aload 5, 2) := by decide +kernel
theorem dX11_write_86 : decode cX11_write 86 = .ok (.aload_n 0, 1) := by decide +kernel
theorem dX11_write_87 : decode cX11_write 87 = .ok (.getfield 29, 3) := by decide +kernel
theorem dX11_write_90 : decode cX11_write 90 = .ok (.iload_n 1, 1) := by decide +kernel
theorem dX11_write_91 : decode cX11_write 91 = .ok (.invokevirtual 80, 3) := by decide +kernel
theorem dX11_write_94 : decode cX11_write 94 = .ok (.l2i, 1) := by decide +kernel
theorem dX11_write_95 : decode cX11_write 95 = .ok (.putfield 418, 3) := by decide +kernel
theorem dX11_write_98 : decode cX11_write 98 = .ok (.iconst 0, 1) := by decide +kernel
theorem dX11_write_99 : decode cX11_write 99 = .ok (.ireturn, 1) := by decide +kernel
theorem dX11_write_100 : decode cX11_write 100 = .ok (.aload 5, 2) := by decide +kernel
theorem dX11_write_102 : decode cX11_write 102 = .ok (.aload 4, 2) := by decide +kernel
theorem dX11_write_104 : decode cX11_write 104 = .ok (.instanceof 416, 3) := by decide +kernel
theorem dX11_write_107 : decode cX11_write 107 = .ok (.ifCond .eq 15, 3) := by decide +kernel
theorem dX11_write_110 : decode cX11_write 110 = .ok (.aload 4, 2) := by decide +kernel
theorem dX11_write_112 : decode cX11_write 112 = .ok (.checkcast 416, 3) := by decide +kernel
theorem dX11_write_115 : decode cX11_write 115 = .ok (.astore 6, 2) := by decide +kernel
theorem dX11_write_117 : decode cX11_write 117 = .ok (.aload 6, 2) := by decide +kernel
theorem dX11_write_119 : decode cX11_write 119 = .ok (.goto 4, 3) := by decide +kernel
theorem dX11_write_122 : decode cX11_write 122 = .ok (.aconst_null, 1) := by decide +kernel
theorem dX11_write_123 : decode cX11_write 123 = .ok (.putfield 454, 3) := by decide +kernel
theorem dX11_write_126 : decode cX11_write 126 = .ok (.iconst 0, 1) := by decide +kernel
theorem dX11_write_127 : decode cX11_write 127 = .ok (.ireturn, 1) := by decide +kernel
theorem dX11_write_128 : decode cX11_write 128 = .ok (.aload 5, 2) := by decide +kernel
theorem dX11_write_130 : decode cX11_write 130 = .ok (.iload_n 3, 1) := by decide +kernel
theorem dX11_write_131 : decode cX11_write 131 = .ok (.aload_n 0, 1) := by decide +kernel
theorem dX11_write_132 : decode cX11_write 132 = .ok (.getfield 29, 3) := by decide +kernel
theorem dX11_write_135 : decode cX11_write 135 = .ok (.iload_n 1, 1) := by decide +kernel
theorem dX11_write_136 : decode cX11_write 136 = .ok (.invokevirtual 84, 3) := by decide +kernel
theorem dX11_write_139 : decode cX11_write 139 = .ok (.invokestatic 464, 3) := by decide +kernel
theorem dX11_write_142 : decode cX11_write 142 = .ok (.ireturn, 1) := by decide +kernel
theorem dX11_writeMeasure_0 : decode cX11_writeMeasure 0 = .ok (.iload_n 1, 1) := by decide +kernel
theorem dX11_writeMeasure_1 : decode cX11_writeMeasure 1 = .ok (.tableswitch 86 0 5 #[39, 46, 53, 86, 86, 60], 39) := by decide +kernel
theorem dX11_writeMeasure_40 : decode cX11_writeMeasure 40 = .ok (.aload_n 0, 1) := by decide +kernel
theorem dX11_writeMeasure_41 : decode cX11_writeMeasure 41 = .ok (.lload_n 2, 1) := by decide +kernel
theorem dX11_writeMeasure_42 : decode cX11_writeMeasure 42 = .ok (.putfield 444, 3) := by decide +kernel
theorem dX11_writeMeasure_45 : decode cX11_writeMeasure 45 = .ok (.iconst 0, 1) := by decide +kernel
theorem dX11_writeMeasure_46 : decode cX11_writeMeasure 46 = .ok (.ireturn, 1) := by decide +kernel
theorem dX11_writeMeasure_47 : decode cX11_writeMeasure 47 = .ok (.aload_n 0, 1) := by decide +kernel
theorem dX11_writeMeasure_48 : decode cX11_writeMeasure 48 = .ok (.lload_n 2, 1) := by decide +kernel
theorem dX11_writeMeasure_49 : decode cX11_writeMeasure 49 = .ok (.putfield 448, 3) := by decide +kernel
theorem dX11_writeMeasure_52 : decode cX11_writeMeasure 52 = .ok (.iconst 0, 1) := by decide +kernel
theorem dX11_writeMeasure_53 : decode cX11_writeMeasure 53 = .ok (.ireturn, 1) := by decide +kernel
theorem dX11_writeMeasure_54 : decode cX11_writeMeasure 54 = .ok (.aload_n 0, 1) := by decide +kernel
theorem dX11_writeMeasure_55 : decode cX11_writeMeasure 55 = .ok (.lload_n 2, 1) := by decide +kernel
theorem dX11_writeMeasure_56 : decode cX11_writeMeasure 56 = .ok (.putfield 451, 3) := by decide +kernel
theorem dX11_writeMeasure_59 : decode cX11_writeMeasure 59 = .ok (.iconst 0, 1) := by decide +kernel
theorem dX11_writeMeasure_60 : decode cX11_writeMeasure 60 = .ok (.ireturn, 1) := by decide +kernel
theorem dX11_writeMeasure_61 : decode cX11_writeMeasure 61 = .ok (.aload_n 0, 1) := by decide +kernel
theorem dX11_writeMeasure_62 : decode cX11_writeMeasure 62 = .ok (.instanceof 440, 3) := by decide +kernel
theorem dX11_writeMeasure_65 : decode cX11_writeMeasure 65 = .ok (.ifCond .eq 12, 3) := by decide +kernel
theorem dX11_writeMeasure_68 : decode cX11_writeMeasure 68 = .ok (.aload_n 0, 1) := by decide +kernel
theorem dX11_writeMeasure_69 : decode cX11_writeMeasure 69 = .ok (.checkcast 440, 3) := by decide +kernel
theorem dX11_writeMeasure_72 : decode cX11_writeMeasure 72 = .ok (.astore 4, 2) := by decide +kernel
theorem dX11_writeMeasure_74 : decode cX11_writeMeasure 74 = .ok (.goto 5, 3) := by decide +kernel
theorem dX11_writeMeasure_77 : decode cX11_writeMeasure 77 = .ok (.iconst 2, 1) := by decide +kernel
theorem dX11_writeMeasure_78 : decode cX11_writeMeasure 78 = .ok (.ireturn, 1) := by decide +kernel
theorem dX11_writeMeasure_79 : decode cX11_writeMeasure 79 = .ok (.aload 4, 2) := by decide +kernel
theorem dX11_writeMeasure_81 : decode cX11_writeMeasure 81 = .ok (.lload_n 2, 1) := by decide +kernel
theorem dX11_writeMeasure_82 : decode cX11_writeMeasure 82 = .ok (.putfield 458, 3) := by decide +kernel
theorem dX11_writeMeasure_85 : decode cX11_writeMeasure 85 = .ok (.iconst 0, 1) := by decide +kernel
theorem dX11_writeMeasure_86 : decode cX11_writeMeasure 86 = .ok (.ireturn, 1) := by decide +kernel
theorem dX11_writeMeasure_87 : decode cX11_writeMeasure 87 = .ok (.iconst 0, 1) := by decide +kernel
theorem dX11_writeMeasure_88 : decode cX11_writeMeasure 88 = .ok (.ireturn, 1) := by decide +kernel
theorem dX11_shift_0 : decode cX11_shift 0 = .ok (.aload_n 0, 1) := by decide +kernel
theorem dX11_shift_1 : decode cX11_shift 1 = .ok (.ifnonnull 5, 3) := by decide +kernel
theorem dX11_shift_4 : decode cX11_shift 4 = .ok (.iconst 1, 1) := by decide +kernel
theorem dX11_shift_5 : decode cX11_shift 5 = .ok (.ireturn, 1) := by decide +kernel
theorem dX11_shift_6 : decode cX11_shift 6 = .ok (.aload_n 0, 1) := by decide +kernel
theorem dX11_shift_7 : decode cX11_shift 7 = .ok (.instanceof 416, 3) := by decide +kernel
theorem dX11_shift_10 : decode cX11_shift 10 = .ok (.ifCond .eq 12, 3) := by decide +kernel
theorem dX11_shift_13 : decode cX11_shift 13 = .ok (.aload_n 0, 1) := by decide +kernel
theorem dX11_shift_14 : decode cX11_shift 14 = .ok (.checkcast 416, 3) := by decide +kernel
theorem dX11_shift_17 : decode cX11_shift 17 = .ok (.astore 5, 2) := by decide +kernel
theorem dX11_shift_19 : decode cX11_shift 19 = .ok (.goto 5, 3) := by decide +kernel
theorem dX11_shift_22 : decode cX11_shift 22 = .ok (.iconst 2, 1) := by decide +kernel
theorem dX11_shift_23 : decode cX11_shift 23 = .ok (.ireturn, 1) := by decide +kernel
theorem dX11_shift_24 : decode cX11_shift 24 = .ok (.aload 5, 2) := by decide +kernel
theorem dX11_shift_26 : decode cX11_shift 26 = .ok (.aload 5, 2) := by decide +kernel
theorem dX11_shift_28 : decode cX11_shift 28 = .ok (.getfield 444, 3) := by decide +kernel
theorem dX11_shift_31 : decode cX11_shift 31 = .ok (.lload_n 1, 1) := by decide +kernel
theorem dX11_shift_32 : decode cX11_shift 32 = .ok (.invokestatic 225, 3) := by decide +kernel
theorem dX11_shift_35 : decode cX11_shift 35 = .ok (.putfield 444, 3) := by decide +kernel
theorem dX11_shift_38 : decode cX11_shift 38 = .ok (.aload 5, 2) := by decide +kernel
theorem dX11_shift_40 : decode cX11_shift 40 = .ok (.aload 5, 2) := by decide +kernel
theorem dX11_shift_42 : decode cX11_shift 42 = .ok (.getfield 448, 3) := by decide +kernel
theorem dX11_shift_45 : decode cX11_shift 45 = .ok (.lload_n 3, 1) := by decide +kernel
theorem dX11_shift_46 : decode cX11_shift 46 = .ok (.invokestatic 225, 3) := by decide +kernel
theorem dX11_shift_49 : decode cX11_shift 49 = .ok (.putfield 448, 3) := by decide +kernel
theorem dX11_shift_52 : decode cX11_shift 52 = .ok (.iconst 0, 1) := by decide +kernel
theorem dX11_shift_53 : decode cX11_shift 53 = .ok (.ireturn, 1) := by decide +kernel
theorem dX11_tellApart_0 : decode cX11_tellApart 0 = .ok (.aload_n 2, 1) := by decide +kernel
theorem dX11_tellApart_1 : decode cX11_tellApart 1 = .ok (.ifnull 10, 3) := by decide +kernel
theorem dX11_tellApart_4 : decode cX11_tellApart 4 = .ok (.aload_n 2, 1) := by decide +kernel
theorem dX11_tellApart_5 : decode cX11_tellApart 5 = .ok (.instanceof 416, 3) := by decide +kernel
theorem dX11_tellApart_8 : decode cX11_tellApart 8 = .ok (.ifCond .eq 14, 3) := by decide +kernel
theorem dX11_tellApart_11 : decode cX11_tellApart 11 = .ok (.aload_n 3, 1) := by decide +kernel
theorem dX11_tellApart_12 : decode cX11_tellApart 12 = .ok (.ifnull 12, 3) := by decide +kernel
theorem dX11_tellApart_15 : decode cX11_tellApart 15 = .ok (.aload_n 3, 1) := by decide +kernel
theorem dX11_tellApart_16 : decode cX11_tellApart 16 = .ok (.instanceof 416, 3) := by decide +kernel
theorem dX11_tellApart_19 : decode cX11_tellApart 19 = .ok (.ifCond .ne 5, 3) := by decide +kernel
theorem dX11_tellApart_22 : decode cX11_tellApart 22 = .ok (.iconst 2, 1) := by decide +kernel
theorem dX11_tellApart_23 : decode cX11_tellApart 23 = .ok (.ireturn, 1) := by decide +kernel
theorem dX11_tellApart_24 : decode cX11_tellApart 24 = .ok (.aload_n 2, 1) := by decide +kernel
theorem dX11_tellApart_25 : decode cX11_tellApart 25 = .ok (.instanceof 416, 3) := by decide +kernel
theorem dX11_tellApart_28 : decode cX11_tellApart 28 = .ok (.ifCond .eq 25, 3) := by decide +kernel
theorem dX11_tellApart_31 : decode cX11_tellApart 31 = .ok (.aload_n 2, 1) := by decide +kernel
theorem dX11_tellApart_32 : decode cX11_tellApart 32 = .ok (.checkcast 416, 3) := by decide +kernel
theorem dX11_tellApart_35 : decode cX11_tellApart 35 = .ok (.astore 4, 2) := by decide +kernel
theorem dX11_tellApart_37 : decode cX11_tellApart 37 = .ok (.aload_n 3, 1) := by decide +kernel
theorem dX11_tellApart_38 : decode cX11_tellApart 38 = .ok (.instanceof 416, 3) := by decide +kernel
theorem dX11_tellApart_41 : decode cX11_tellApart 41 = .ok (.ifCond .eq 12, 3) := by decide +kernel
theorem dX11_tellApart_44 : decode cX11_tellApart 44 = .ok (.aload_n 3, 1) := by decide +kernel
theorem dX11_tellApart_45 : decode cX11_tellApart 45 = .ok (.checkcast 416, 3) := by decide +kernel
theorem dX11_tellApart_48 : decode cX11_tellApart 48 = .ok (.astore 5, 2) := by decide +kernel
theorem dX11_tellApart_50 : decode cX11_tellApart 50 = .ok (.goto 5, 3) := by decide +kernel
theorem dX11_tellApart_53 : decode cX11_tellApart 53 = .ok (.iconst 1, 1) := by decide +kernel
theorem dX11_tellApart_54 : decode cX11_tellApart 54 = .ok (.ireturn, 1) := by decide +kernel
theorem dX11_tellApart_55 : decode cX11_tellApart 55 = .ok (.aload_n 0, 1) := by decide +kernel
theorem dX11_tellApart_56 : decode cX11_tellApart 56 = .ok (.iload_n 1, 1) := by decide +kernel
theorem dX11_tellApart_57 : decode cX11_tellApart 57 = .ok (.aload 4, 2) := by decide +kernel
theorem dX11_tellApart_59 : decode cX11_tellApart 59 = .ok (.aload 5, 2) := by decide +kernel
theorem dX11_tellApart_61 : decode cX11_tellApart 61 = .ok (.invokevirtual 468, 3) := by decide +kernel
theorem dX11_tellApart_64 : decode cX11_tellApart 64 = .ok (.invokevirtual 222, 3) := by decide +kernel
theorem dX11_tellApart_67 : decode cX11_tellApart 67 = .ok (.ireturn, 1) := by decide +kernel
theorem dX11_onDevices_0 : decode cX11_onDevices 0 = .ok (.iload_n 1, 1) := by decide +kernel
theorem dX11_onDevices_1 : decode cX11_onDevices 1 = .ok (.tableswitch 119 88 92 #[35, 45, 68, 87, 99], 35) := by decide +kernel
theorem dX11_onDevices_36 : decode cX11_onDevices 36 = .ok (.aload_n 0, 1) := by decide +kernel
theorem dX11_onDevices_37 : decode cX11_onDevices 37 = .ok (.iload_n 2, 1) := by decide +kernel
theorem dX11_onDevices_38 : decode cX11_onDevices 38 = .ok (.iload 4, 2) := by decide +kernel
theorem dX11_onDevices_40 : decode cX11_onDevices 40 = .ok (.iconst 3, 1) := by decide +kernel
theorem dX11_onDevices_41 : decode cX11_onDevices 41 = .ok (.iand, 1) := by decide +kernel
theorem dX11_onDevices_42 : decode cX11_onDevices 42 = .ok (.invokevirtual 472, 3) := by decide +kernel
theorem dX11_onDevices_45 : decode cX11_onDevices 45 = .ok (.ireturn, 1) := by decide +kernel
theorem dX11_onDevices_46 : decode cX11_onDevices 46 = .ok (.aload_n 0, 1) := by decide +kernel
theorem dX11_onDevices_47 : decode cX11_onDevices 47 = .ok (.iload_n 2, 1) := by decide +kernel
theorem dX11_onDevices_48 : decode cX11_onDevices 48 = .ok (.aload_n 0, 1) := by decide +kernel
theorem dX11_onDevices_49 : decode cX11_onDevices 49 = .ok (.getfield 29, 3) := by decide +kernel
theorem dX11_onDevices_52 : decode cX11_onDevices 52 = .ok (.iload_n 3, 1) := by decide +kernel
theorem dX11_onDevices_53 : decode cX11_onDevices 53 = .ok (.invokevirtual 87, 3) := by decide +kernel
theorem dX11_onDevices_56 : decode cX11_onDevices 56 = .ok (.aload_n 0, 1) := by decide +kernel
theorem dX11_onDevices_57 : decode cX11_onDevices 57 = .ok (.getfield 29, 3) := by decide +kernel
theorem dX11_onDevices_60 : decode cX11_onDevices 60 = .ok (.iload 4, 2) := by decide +kernel
theorem dX11_onDevices_62 : decode cX11_onDevices 62 = .ok (.invokevirtual 84, 3) := by decide +kernel
theorem dX11_onDevices_65 : decode cX11_onDevices 65 = .ok (.invokevirtual 475, 3) := by decide +kernel
theorem dX11_onDevices_68 : decode cX11_onDevices 68 = .ok (.ireturn, 1) := by decide +kernel
theorem dX11_onDevices_69 : decode cX11_onDevices 69 = .ok (.aload_n 0, 1) := by decide +kernel
theorem dX11_onDevices_70 : decode cX11_onDevices 70 = .ok (.iload_n 2, 1) := by decide +kernel
theorem dX11_onDevices_71 : decode cX11_onDevices 71 = .ok (.aload_n 0, 1) := by decide +kernel
theorem dX11_onDevices_72 : decode cX11_onDevices 72 = .ok (.getfield 29, 3) := by decide +kernel
theorem dX11_onDevices_75 : decode cX11_onDevices 75 = .ok (.iload_n 3, 1) := by decide +kernel
theorem dX11_onDevices_76 : decode cX11_onDevices 76 = .ok (.invokevirtual 87, 3) := by decide +kernel
theorem dX11_onDevices_79 : decode cX11_onDevices 79 = .ok (.iload 4, 2) := by decide +kernel
theorem dX11_onDevices_81 : decode cX11_onDevices 81 = .ok (.bipush 7, 2) := by decide +kernel
theorem dX11_onDevices_83 : decode cX11_onDevices 83 = .ok (.iand, 1) := by decide +kernel
theorem dX11_onDevices_84 : decode cX11_onDevices 84 = .ok (.invokevirtual 479, 3) := by decide +kernel
theorem dX11_onDevices_87 : decode cX11_onDevices 87 = .ok (.ireturn, 1) := by decide +kernel
theorem dX11_onDevices_88 : decode cX11_onDevices 88 = .ok (.aload_n 0, 1) := by decide +kernel
theorem dX11_onDevices_89 : decode cX11_onDevices 89 = .ok (.getfield 29, 3) := by decide +kernel
theorem dX11_onDevices_92 : decode cX11_onDevices 92 = .ok (.iload_n 2, 1) := by decide +kernel
theorem dX11_onDevices_93 : decode cX11_onDevices 93 = .ok (.invokevirtual 87, 3) := by decide +kernel
theorem dX11_onDevices_96 : decode cX11_onDevices 96 = .ok (.invokestatic 482, 3) := by decide +kernel
theorem dX11_onDevices_99 : decode cX11_onDevices 99 = .ok (.ireturn, 1) := by decide +kernel
theorem dX11_onDevices_100 : decode cX11_onDevices 100 = .ok (.aload_n 0, 1) := by decide +kernel
theorem dX11_onDevices_101 : decode cX11_onDevices 101 = .ok (.getfield 29, 3) := by decide +kernel
theorem dX11_onDevices_104 : decode cX11_onDevices 104 = .ok (.iload_n 2, 1) := by decide +kernel
theorem dX11_onDevices_105 : decode cX11_onDevices 105 = .ok (.invokevirtual 87, 3) := by decide +kernel
theorem dX11_onDevices_108 : decode cX11_onDevices 108 = .ok (.aload_n 0, 1) := by decide +kernel
theorem dX11_onDevices_109 : decode cX11_onDevices 109 = .ok (.getfield 29, 3) := by decide +kernel
theorem dX11_onDevices_112 : decode cX11_onDevices 112 = .ok (.iload_n 3, 1) := by decide +kernel
theorem dX11_onDevices_113 : decode cX11_onDevices 113 = .ok (.invokevirtual 84, 3) := by decide +kernel
theorem dX11_onDevices_116 : decode cX11_onDevices 116 = .ok (.invokestatic 485, 3) := by decide +kernel
theorem dX11_onDevices_119 : decode cX11_onDevices 119 = .ok (.ireturn, 1) := by decide +kernel
theorem dX11_onDevices_120 : decode cX11_onDevices 120 = .ok (.iconst 2, 1) := by decide +kernel
theorem dX11_onDevices_121 : decode cX11_onDevices 121 = .ok (.ireturn, 1) := by decide +kernel
theorem dX11_makeDevice_0 : decode cX11_makeDevice 0 = .ok (.aload_n 0, 1) := by decide +kernel
theorem dX11_makeDevice_1 : decode cX11_makeDevice 1 = .ok (.iconst 1, 1) := by decide +kernel
theorem dX11_makeDevice_2 : decode cX11_makeDevice 2 = .ok (.invokevirtual 379, 3) := by decide +kernel
theorem dX11_makeDevice_5 : decode cX11_makeDevice 5 = .ok (.ifCond .ne 6, 3) := by decide +kernel
theorem dX11_makeDevice_8 : decode cX11_makeDevice 8 = .ok (.bipush 8, 2) := by decide +kernel
theorem dX11_makeDevice_10 : decode cX11_makeDevice 10 = .ok (.ireturn, 1) := by decide +kernel
theorem dX11_makeDevice_11 : decode cX11_makeDevice 11 = .ok (.iload_n 2, 1) := by decide +kernel
theorem dX11_makeDevice_12 : decode cX11_makeDevice 12 = .ok (.tableswitch 67 0 2 #[28, 41, 54], 28) := by decide +kernel
theorem dX11_makeDevice_40 : decode cX11_makeDevice 40 = .ok (.aload_n 0, 1) := by decide +kernel
theorem dX11_makeDevice_41 : decode cX11_makeDevice 41 = .ok (.iload_n 1, 1) := by decide +kernel
theorem dX11_makeDevice_42 : decode cX11_makeDevice 42 = .ok (.new 489, 3) := by decide +kernel
theorem dX11_makeDevice_45 : decode cX11_makeDevice 45 = .ok (.dup, 1) := by decide +kernel
theorem dX11_makeDevice_46 : decode cX11_makeDevice 46 = .ok (.invokespecial 491, 3) := by decide +kernel
theorem dX11_makeDevice_49 : decode cX11_makeDevice 49 = .ok (.invokevirtual 385, 3) := by decide +kernel
theorem dX11_makeDevice_52 : decode cX11_makeDevice 52 = .ok (.ireturn, 1) := by decide +kernel
theorem dX11_makeDevice_53 : decode cX11_makeDevice 53 = .ok (.aload_n 0, 1) := by decide +kernel
theorem dX11_makeDevice_54 : decode cX11_makeDevice 54 = .ok (.iload_n 1, 1) := by decide +kernel
theorem dX11_makeDevice_55 : decode cX11_makeDevice 55 = .ok (.new 492, 3) := by decide +kernel
theorem dX11_makeDevice_58 : decode cX11_makeDevice 58 = .ok (.dup, 1) := by decide +kernel
theorem dX11_makeDevice_59 : decode cX11_makeDevice 59 = .ok (.invokespecial 494, 3) := by decide +kernel
theorem dX11_makeDevice_62 : decode cX11_makeDevice 62 = .ok (.invokevirtual 385, 3) := by decide +kernel
theorem dX11_makeDevice_65 : decode cX11_makeDevice 65 = .ok (.ireturn, 1) := by decide +kernel
theorem dX11_makeDevice_66 : decode cX11_makeDevice 66 = .ok (.aload_n 0, 1) := by decide +kernel
theorem dX11_makeDevice_67 : decode cX11_makeDevice 67 = .ok (.iload_n 1, 1) := by decide +kernel
theorem dX11_makeDevice_68 : decode cX11_makeDevice 68 = .ok (.new 495, 3) := by decide +kernel
theorem dX11_makeDevice_71 : decode cX11_makeDevice 71 = .ok (.dup, 1) := by decide +kernel
theorem dX11_makeDevice_72 : decode cX11_makeDevice 72 = .ok (.invokespecial 497, 3) := by decide +kernel
theorem dX11_makeDevice_75 : decode cX11_makeDevice 75 = .ok (.invokevirtual 385, 3) := by decide +kernel
theorem dX11_makeDevice_78 : decode cX11_makeDevice 78 = .ok (.ireturn, 1) := by decide +kernel
theorem dX11_makeDevice_79 : decode cX11_makeDevice 79 = .ok (.aload_n 0, 1) := by decide +kernel
theorem dX11_makeDevice_80 : decode cX11_makeDevice 80 = .ok (.iload_n 1, 1) := by decide +kernel
theorem dX11_makeDevice_81 : decode cX11_makeDevice 81 = .ok (.new 498, 3) := by decide +kernel
theorem dX11_makeDevice_84 : decode cX11_makeDevice 84 = .ok (.dup, 1) := by decide +kernel
theorem dX11_makeDevice_85 : decode cX11_makeDevice 85 = .ok (.invokespecial 500, 3) := by decide +kernel
theorem dX11_makeDevice_88 : decode cX11_makeDevice 88 = .ok (.invokevirtual 385, 3) := by decide +kernel
theorem dX11_makeDevice_91 : decode cX11_makeDevice 91 = .ok (.ireturn, 1) := by decide +kernel
theorem dX11_go_0 : decode cX11_go 0 = .ok (.aload_n 2, 1) := by decide +kernel
theorem dX11_go_1 : decode cX11_go 1 = .ok (.ifnonnull 5, 3) := by decide +kernel
theorem dX11_go_4 : decode cX11_go 4 = .ok (.iconst 1, 1) := by decide +kernel
theorem dX11_go_5 : decode cX11_go 5 = .ok (.ireturn, 1) := by decide +kernel
theorem dX11_go_6 : decode cX11_go 6 = .ok (.aload_n 2, 1) := by decide +kernel
theorem dX11_go_7 : decode cX11_go 7 = .ok (.instanceof 501, 3) := by decide +kernel
theorem dX11_go_10 : decode cX11_go 10 = .ok (.ifCond .eq 12, 3) := by decide +kernel
theorem dX11_go_13 : decode cX11_go 13 = .ok (.aload_n 2, 1) := by decide +kernel
theorem dX11_go_14 : decode cX11_go 14 = .ok (.checkcast 501, 3) := by decide +kernel
theorem dX11_go_17 : decode cX11_go 17 = .ok (.astore 5, 2) := by decide +kernel
theorem dX11_go_19 : decode cX11_go 19 = .ok (.goto 5, 3) := by decide +kernel
theorem dX11_go_22 : decode cX11_go 22 = .ok (.iconst 2, 1) := by decide +kernel
theorem dX11_go_23 : decode cX11_go 23 = .ok (.ireturn, 1) := by decide +kernel
theorem dX11_go_24 : decode cX11_go 24 = .ok (.aload 5, 2) := by decide +kernel
theorem dX11_go_26 : decode cX11_go 26 = .ok (.lload_n 3, 1) := by decide +kernel
theorem dX11_go_27 : decode cX11_go 27 = .ok (.invokevirtual 503, 3) := by decide +kernel
theorem dX11_go_30 : decode cX11_go 30 = .ok (.lstore 6, 2) := by decide +kernel
theorem dX11_go_32 : decode cX11_go 32 = .ok (.lload 6, 2) := by decide +kernel
theorem dX11_go_34 : decode cX11_go 34 = .ok (.lconst 0, 1) := by decide +kernel
theorem dX11_go_35 : decode cX11_go 35 = .ok (.lcmp, 1) := by decide +kernel
theorem dX11_go_36 : decode cX11_go 36 = .ok (.ifCond .ge 10, 3) := by decide +kernel
theorem dX11_go_39 : decode cX11_go 39 = .ok (.lload 6, 2) := by decide +kernel
theorem dX11_go_41 : decode cX11_go 41 = .ok (.lneg, 1) := by decide +kernel
theorem dX11_go_42 : decode cX11_go 42 = .ok (.l2i, 1) := by decide +kernel
theorem dX11_go_43 : decode cX11_go 43 = .ok (.goto 10, 3) := by decide +kernel
theorem dX11_go_46 : decode cX11_go 46 = .ok (.aload_n 0, 1) := by decide +kernel
theorem dX11_go_47 : decode cX11_go 47 = .ok (.iload_n 1, 1) := by decide +kernel
theorem dX11_go_48 : decode cX11_go 48 = .ok (.lload 6, 2) := by decide +kernel
theorem dX11_go_50 : decode cX11_go 50 = .ok (.invokevirtual 191, 3) := by decide +kernel
theorem dX11_go_53 : decode cX11_go 53 = .ok (.ireturn, 1) := by decide +kernel
theorem dX11_tell_0 : decode cX11_tell 0 = .ok (.aload_n 2, 1) := by decide +kernel
theorem dX11_tell_1 : decode cX11_tell 1 = .ok (.ifnonnull 5, 3) := by decide +kernel
theorem dX11_tell_4 : decode cX11_tell 4 = .ok (.iconst 1, 1) := by decide +kernel
theorem dX11_tell_5 : decode cX11_tell 5 = .ok (.ireturn, 1) := by decide +kernel
theorem dX11_tell_6 : decode cX11_tell 6 = .ok (.aload_n 2, 1) := by decide +kernel
theorem dX11_tell_7 : decode cX11_tell 7 = .ok (.instanceof 501, 3) := by decide +kernel
theorem dX11_tell_10 : decode cX11_tell 10 = .ok (.ifCond .eq 23, 3) := by decide +kernel
theorem dX11_tell_13 : decode cX11_tell 13 = .ok (.aload_n 2, 1) := by decide +kernel
theorem dX11_tell_14 : decode cX11_tell 14 = .ok (.checkcast 501, 3) := by decide +kernel
theorem dX11_tell_17 : decode cX11_tell 17 = .ok (.astore 4, 2) := by decide +kernel
theorem dX11_tell_19 : decode cX11_tell 19 = .ok (.aload_n 0, 1) := by decide +kernel
theorem dX11_tell_20 : decode cX11_tell 20 = .ok (.iload_n 1, 1) := by decide +kernel
theorem dX11_tell_21 : decode cX11_tell 21 = .ok (.aload 4, 2) := by decide +kernel
theorem dX11_tell_23 : decode cX11_tell 23 = .ok (.iload_n 3, 1) := by decide +kernel
theorem dX11_tell_24 : decode cX11_tell 24 = .ok (.invokestatic 506, 3) := by decide +kernel
theorem dX11_tell_27 : decode cX11_tell 27 = .ok (.invokevirtual 222, 3) := by decide +kernel
theorem dX11_tell_30 : decode cX11_tell 30 = .ok (.goto 4, 3) := by decide +kernel
theorem dX11_tell_33 : decode cX11_tell 33 = .ok (.iconst 2, 1) := by decide +kernel
theorem dX11_tell_34 : decode cX11_tell 34 = .ok (.ireturn, 1) := by decide +kernel
theorem dX11_toldOf_0 : decode cX11_toldOf 0 = .ok (.iload_n 1, 1) := by decide +kernel
theorem dX11_toldOf_1 : decode cX11_toldOf 1 = .ok (.tableswitch 84 0 5 #[39, 44, 53, 62, 67, 75], 39) := by decide +kernel
theorem dX11_toldOf_40 : decode cX11_toldOf 40 = .ok (.aload_n 0, 1) := by decide +kernel
theorem dX11_toldOf_41 : decode cX11_toldOf 41 = .ok (.invokevirtual 510, 3) := by decide +kernel
theorem dX11_toldOf_44 : decode cX11_toldOf 44 = .ok (.lreturn, 1) := by decide +kernel
theorem dX11_toldOf_45 : decode cX11_toldOf 45 = .ok (.aload_n 0, 1) := by decide +kernel
theorem dX11_toldOf_46 : decode cX11_toldOf 46 = .ok (.invokevirtual 514, 3) := by decide +kernel
theorem dX11_toldOf_49 : decode cX11_toldOf 49 = .ok (.i2l, 1) := by decide +kernel
theorem dX11_toldOf_50 : decode cX11_toldOf 50 = .ok (.invokestatic 212, 3) := by decide +kernel
theorem dX11_toldOf_53 : decode cX11_toldOf 53 = .ok (.lreturn, 1) := by decide +kernel
theorem dX11_toldOf_54 : decode cX11_toldOf 54 = .ok (.aload_n 0, 1) := by decide +kernel
theorem dX11_toldOf_55 : decode cX11_toldOf 55 = .ok (.invokevirtual 517, 3) := by decide +kernel
theorem dX11_toldOf_58 : decode cX11_toldOf 58 = .ok (.i2l, 1) := by decide +kernel
theorem dX11_toldOf_59 : decode cX11_toldOf 59 = .ok (.invokestatic 212, 3) := by decide +kernel
theorem dX11_toldOf_62 : decode cX11_toldOf 62 = .ok (.lreturn, 1) := by decide +kernel
theorem dX11_toldOf_63 : decode cX11_toldOf 63 = .ok (.aload_n 0, 1) := by decide +kernel
theorem dX11_toldOf_64 : decode cX11_toldOf 64 = .ok (.invokevirtual 520, 3) := by decide +kernel
theorem dX11_toldOf_67 : decode cX11_toldOf 67 = .ok (.lreturn, 1) := by decide +kernel
theorem dX11_toldOf_68 : decode cX11_toldOf 68 = .ok (.aload_n 0, 1) := by decide +kernel
theorem dX11_toldOf_69 : decode cX11_toldOf 69 = .ok (.invokevirtual 523, 3) := by decide +kernel
theorem dX11_toldOf_72 : decode cX11_toldOf 72 = .ok (.invokestatic 212, 3) := by decide +kernel
theorem dX11_toldOf_75 : decode cX11_toldOf 75 = .ok (.lreturn, 1) := by decide +kernel
theorem dX11_toldOf_76 : decode cX11_toldOf 76 = .ok (.aload_n 0, 1) := by decide +kernel
theorem dX11_toldOf_77 : decode cX11_toldOf 77 = .ok (.invokevirtual 526, 3) := by decide +kernel
theorem dX11_toldOf_80 : decode cX11_toldOf 80 = .ok (.i2l, 1) := by decide +kernel
theorem dX11_toldOf_81 : decode cX11_toldOf 81 = .ok (.invokestatic 212, 3) := by decide +kernel
theorem dX11_toldOf_84 : decode cX11_toldOf 84 = .ok (.lreturn, 1) := by decide +kernel
theorem dX11_toldOf_85 : decode cX11_toldOf 85 = .ok (.lconst 0, 1) := by decide +kernel
theorem dX11_toldOf_86 : decode cX11_toldOf 86 = .ok (.lreturn, 1) := by decide +kernel
theorem dX11_rest_0 : decode cX11_rest 0 = .ok (.aload_n 0, 1) := by decide +kernel
theorem dX11_rest_1 : decode cX11_rest 1 = .ok (.ifnonnull 5, 3) := by decide +kernel
theorem dX11_rest_4 : decode cX11_rest 4 = .ok (.iconst 1, 1) := by decide +kernel
theorem dX11_rest_5 : decode cX11_rest 5 = .ok (.ireturn, 1) := by decide +kernel
theorem dX11_rest_6 : decode cX11_rest 6 = .ok (.aload_n 0, 1) := by decide +kernel
theorem dX11_rest_7 : decode cX11_rest 7 = .ok (.instanceof 489, 3) := by decide +kernel
theorem dX11_rest_10 : decode cX11_rest 10 = .ok (.ifCond .eq 11, 3) := by decide +kernel
theorem dX11_rest_13 : decode cX11_rest 13 = .ok (.aload_n 0, 1) := by decide +kernel
theorem dX11_rest_14 : decode cX11_rest 14 = .ok (.checkcast 489, 3) := by decide +kernel
theorem dX11_rest_17 : decode cX11_rest 17 = .ok (.astore_n 1, 1) := by decide +kernel
theorem dX11_rest_18 : decode cX11_rest 18 = .ok (.goto 5, 3) := by decide +kernel
theorem dX11_rest_21 : decode cX11_rest 21 = .ok (.iconst 2, 1) := by decide +kernel
theorem dX11_rest_22 : decode cX11_rest 22 = .ok (.ireturn, 1) := by decide +kernel
theorem dX11_rest_23 : decode cX11_rest 23 = .ok (.aload_n 1, 1) := by decide +kernel
theorem dX11_rest_24 : decode cX11_rest 24 = .ok (.invokevirtual 529, 3) := by decide +kernel
theorem dX11_rest_27 : decode cX11_rest 27 = .ok (.iconst 0, 1) := by decide +kernel
theorem dX11_rest_28 : decode cX11_rest 28 = .ok (.ireturn, 1) := by decide +kernel
theorem dX11_sense_0 : decode cX11_sense 0 = .ok (.aload_n 0, 1) := by decide +kernel
theorem dX11_sense_1 : decode cX11_sense 1 = .ok (.ifnonnull 5, 3) := by decide +kernel
theorem dX11_sense_4 : decode cX11_sense 4 = .ok (.iconst 1, 1) := by decide +kernel
theorem dX11_sense_5 : decode cX11_sense 5 = .ok (.ireturn, 1) := by decide +kernel
theorem dX11_sense_6 : decode cX11_sense 6 = .ok (.aload_n 0, 1) := by decide +kernel
theorem dX11_sense_7 : decode cX11_sense 7 = .ok (.instanceof 498, 3) := by decide +kernel
theorem dX11_sense_10 : decode cX11_sense 10 = .ok (.ifCond .eq 11, 3) := by decide +kernel
theorem dX11_sense_13 : decode cX11_sense 13 = .ok (.aload_n 0, 1) := by decide +kernel
theorem dX11_sense_14 : decode cX11_sense 14 = .ok (.checkcast 498, 3) := by decide +kernel
theorem dX11_sense_17 : decode cX11_sense 17 = .ok (.astore_n 3, 1) := by decide +kernel
theorem dX11_sense_18 : decode cX11_sense 18 = .ok (.goto 5, 3) := by decide +kernel
theorem dX11_sense_21 : decode cX11_sense 21 = .ok (.iconst 2, 1) := by decide +kernel
theorem dX11_sense_22 : decode cX11_sense 22 = .ok (.ireturn, 1) := by decide +kernel
theorem dX11_sense_23 : decode cX11_sense 23 = .ok (.aload_n 3, 1) := by decide +kernel
theorem dX11_sense_24 : decode cX11_sense 24 = .ok (.lload_n 1, 1) := by decide +kernel
theorem dX11_sense_25 : decode cX11_sense 25 = .ok (.invokevirtual 532, 3) := by decide +kernel
theorem dX11_sense_28 : decode cX11_sense 28 = .ok (.iconst 0, 1) := by decide +kernel
theorem dX11_sense_29 : decode cX11_sense 29 = .ok (.ireturn, 1) := by decide +kernel
