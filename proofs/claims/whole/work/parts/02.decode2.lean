theorem dX8_hoursFor_2 : decode cX8_hoursFor 2 = .ok (.getfield 9, 3) := by decide +kernel
theorem dX8_hoursFor_5 : decode cX8_hoursFor 5 = .ok (.invokestatic 35, 3) := by decide +kernel
theorem dX8_hoursFor_8 : decode cX8_hoursFor 8 = .ok (.ireturn, 1) := by decide +kernel
theorem dX8_burnFor_0 : decode cX8_burnFor 0 = .ok (.aload_n 0, 1) := by decide +kernel
theorem dX8_burnFor_1 : decode cX8_burnFor 1 = .ok (.iload_n 1, 1) := by decide +kernel
theorem dX8_burnFor_2 : decode cX8_burnFor 2 = .ok (.invokevirtual 39, 3) := by decide +kernel
theorem dX8_burnFor_5 : decode cX8_burnFor 5 = .ok (.aload_n 0, 1) := by decide +kernel
theorem dX8_burnFor_6 : decode cX8_burnFor 6 = .ok (.getfield 32, 3) := by decide +kernel
theorem dX8_burnFor_9 : decode cX8_burnFor 9 = .ok (.aload_n 0, 1) := by decide +kernel
theorem dX8_burnFor_10 : decode cX8_burnFor 10 = .ok (.getfield 9, 3) := by decide +kernel
theorem dX8_burnFor_13 : decode cX8_burnFor 13 = .ok (.aload_n 0, 1) := by decide +kernel
theorem dX8_burnFor_14 : decode cX8_burnFor 14 = .ok (.getfield 9, 3) := by decide +kernel
theorem dX8_burnFor_17 : decode cX8_burnFor 17 = .ok (.imul, 1) := by decide +kernel
theorem dX8_burnFor_18 : decode cX8_burnFor 18 = .ok (.aload_n 0, 1) := by decide +kernel
theorem dX8_burnFor_19 : decode cX8_burnFor 19 = .ok (.getfield 9, 3) := by decide +kernel
theorem dX8_burnFor_22 : decode cX8_burnFor 22 = .ok (.imul, 1) := by decide +kernel
theorem dX8_burnFor_23 : decode cX8_burnFor 23 = .ok (.bipush 100, 2) := by decide +kernel
theorem dX8_burnFor_25 : decode cX8_burnFor 25 = .ok (.idiv, 1) := by decide +kernel
theorem dX8_burnFor_26 : decode cX8_burnFor 26 = .ok (.iadd, 1) := by decide +kernel
theorem dX8_burnFor_27 : decode cX8_burnFor 27 = .ok (.imul, 1) := by decide +kernel
theorem dX8_burnFor_28 : decode cX8_burnFor 28 = .ok (.bipush 24, 2) := by decide +kernel
theorem dX8_burnFor_30 : decode cX8_burnFor 30 = .ok (.invokestatic 35, 3) := by decide +kernel
theorem dX8_burnFor_33 : decode cX8_burnFor 33 = .ok (.ireturn, 1) := by decide +kernel
theorem dX8_sortAt_0 : decode cX8_sortAt 0 = .ok (.iload_n 1, 1) := by decide +kernel
theorem dX8_sortAt_1 : decode cX8_sortAt 1 = .ok (.ifCond .lt 20, 3) := by decide +kernel
theorem dX8_sortAt_4 : decode cX8_sortAt 4 = .ok (.iload_n 1, 1) := by decide +kernel
theorem dX8_sortAt_5 : decode cX8_sortAt 5 = .ok (.aload_n 0, 1) := by decide +kernel
theorem dX8_sortAt_6 : decode cX8_sortAt 6 = .ok (.getfield 43, 3) := by decide +kernel
theorem dX8_sortAt_9 : decode cX8_sortAt 9 = .ok (.if_icmp .ge 12, 3) := by decide +kernel
theorem dX8_sortAt_12 : decode cX8_sortAt 12 = .ok (.aload_n 0, 1) := by decide +kernel
theorem dX8_sortAt_13 : decode cX8_sortAt 13 = .ok (.getfield 15, 3) := by decide +kernel
theorem dX8_sortAt_16 : decode cX8_sortAt 16 = .ok (.iload_n 1, 1) := by decide +kernel
theorem dX8_sortAt_17 : decode cX8_sortAt 17 = .ok (.baload, 1) := by decide +kernel
theorem dX8_sortAt_18 : decode cX8_sortAt 18 = .ok (.goto 4, 3) := by decide +kernel
theorem dX8_sortAt_21 : decode cX8_sortAt 21 = .ok (.iconst (-1), 1) := by decide +kernel
theorem dX8_sortAt_22 : decode cX8_sortAt 22 = .ok (.ireturn, 1) := by decide +kernel
theorem dX8_append_0 : decode cX8_append 0 = .ok (.aload_n 0, 1) := by decide +kernel
theorem dX8_append_1 : decode cX8_append 1 = .ok (.getfield 43, 3) := by decide +kernel
theorem dX8_append_4 : decode cX8_append 4 = .ok (.sipush 2000, 3) := by decide +kernel
theorem dX8_append_7 : decode cX8_append 7 = .ok (.if_icmp .ge 24, 3) := by decide +kernel
theorem dX8_append_10 : decode cX8_append 10 = .ok (.aload_n 0, 1) := by decide +kernel
theorem dX8_append_11 : decode cX8_append 11 = .ok (.getfield 15, 3) := by decide +kernel
theorem dX8_append_14 : decode cX8_append 14 = .ok (.aload_n 0, 1) := by decide +kernel
theorem dX8_append_15 : decode cX8_append 15 = .ok (.getfield 43, 3) := by decide +kernel
theorem dX8_append_18 : decode cX8_append 18 = .ok (.iload_n 1, 1) := by decide +kernel
theorem dX8_append_19 : decode cX8_append 19 = .ok (.i2b, 1) := by decide +kernel
theorem dX8_append_20 : decode cX8_append 20 = .ok (.bastore, 1) := by decide +kernel
theorem dX8_append_21 : decode cX8_append 21 = .ok (.aload_n 0, 1) := by decide +kernel
theorem dX8_append_22 : decode cX8_append 22 = .ok (.dup, 1) := by decide +kernel
theorem dX8_append_23 : decode cX8_append 23 = .ok (.getfield 43, 3) := by decide +kernel
theorem dX8_append_26 : decode cX8_append 26 = .ok (.iconst 1, 1) := by decide +kernel
theorem dX8_append_27 : decode cX8_append 27 = .ok (.iadd, 1) := by decide +kernel
theorem dX8_append_28 : decode cX8_append 28 = .ok (.putfield 43, 3) := by decide +kernel
theorem dX8_append_31 : decode cX8_append 31 = .ok (.return_, 1) := by decide +kernel
theorem dX8_correct_0 : decode cX8_correct 0 = .ok (.iload_n 1, 1) := by decide +kernel
theorem dX8_correct_1 : decode cX8_correct 1 = .ok (.ifCond .lt 19, 3) := by decide +kernel
theorem dX8_correct_4 : decode cX8_correct 4 = .ok (.iload_n 1, 1) := by decide +kernel
theorem dX8_correct_5 : decode cX8_correct 5 = .ok (.aload_n 0, 1) := by decide +kernel
theorem dX8_correct_6 : decode cX8_correct 6 = .ok (.getfield 43, 3) := by decide +kernel
theorem dX8_correct_9 : decode cX8_correct 9 = .ok (.if_icmp .ge 11, 3) := by decide +kernel
theorem dX8_correct_12 : decode cX8_correct 12 = .ok (.aload_n 0, 1) := by decide +kernel
theorem dX8_correct_13 : decode cX8_correct 13 = .ok (.getfield 15, 3) := by decide +kernel
theorem dX8_correct_16 : decode cX8_correct 16 = .ok (.iload_n 1, 1) := by decide +kernel
theorem dX8_correct_17 : decode cX8_correct 17 = .ok (.iload_n 2, 1) := by decide +kernel
theorem dX8_correct_18 : decode cX8_correct 18 = .ok (.i2b, 1) := by decide +kernel
theorem dX8_correct_19 : decode cX8_correct 19 = .ok (.bastore, 1) := by decide +kernel
theorem dX8_correct_20 : decode cX8_correct 20 = .ok (.return_, 1) := by decide +kernel
theorem dX9_init_0 : decode cX9_init 0 = .ok (.aload_n 0, 1) := by decide +kernel
theorem dX9_init_1 : decode cX9_init 1 = .ok (.invokespecial 3, 3) := by decide +kernel
theorem dX9_init_4 : decode cX9_init 4 = .ok (.aload_n 0, 1) := by decide +kernel
theorem dX9_init_5 : decode cX9_init 5 = .ok (.sipush 160, 3) := by decide +kernel
theorem dX9_init_8 : decode cX9_init 8 = .ok (.newarray .int, 2) := by decide +kernel
theorem dX9_init_10 : decode cX9_init 10 = .ok (.putfield 9, 3) := by decide +kernel
theorem dX9_init_13 : decode cX9_init 13 = .ok (.return_, 1) := by decide +kernel
theorem dX9_run_0 : decode cX9_run 0 = .ok (.aload_n 0, 1) := by decide +kernel
theorem dX9_run_1 : decode cX9_run 1 = .ok (.iconst 0, 1) := by decide +kernel
theorem dX9_run_2 : decode cX9_run 2 = .ok (.putfield 15, 3) := by decide +kernel
theorem dX9_run_5 : decode cX9_run 5 = .ok (.aload_n 0, 1) := by decide +kernel
theorem dX9_run_6 : decode cX9_run 6 = .ok (.iconst 0, 1) := by decide +kernel
theorem dX9_run_7 : decode cX9_run 7 = .ok (.putfield 19, 3) := by decide +kernel
theorem dX9_run_10 : decode cX9_run 10 = .ok (.aload_n 0, 1) := by decide +kernel
theorem dX9_run_11 : decode cX9_run 11 = .ok (.iconst 0, 1) := by decide +kernel
theorem dX9_run_12 : decode cX9_run 12 = .ok (.putfield 22, 3) := by decide +kernel
theorem dX9_run_15 : decode cX9_run 15 = .ok (.iconst (-1), 1) := by decide +kernel
theorem dX9_run_16 : decode cX9_run 16 = .ok (.istore_n 3, 1) := by decide +kernel
theorem dX9_run_17 : decode cX9_run 17 = .ok (.aload_n 1, 1) := by decide +kernel
theorem dX9_run_18 : decode cX9_run 18 = .ok (.invokevirtual 25, 3) := by decide +kernel
theorem dX9_run_21 : decode cX9_run 21 = .ok (.iload_n 2, 1) := by decide +kernel
theorem dX9_run_22 : decode cX9_run 22 = .ok (.aload_n 1, 1) := by decide +kernel
theorem dX9_run_23 : decode cX9_run 23 = .ok (.getfield 31, 3) := by decide +kernel
theorem dX9_run_26 : decode cX9_run 26 = .ok (.isub, 1) := by decide +kernel
theorem dX9_run_27 : decode cX9_run 27 = .ok (.iconst 1, 1) := by decide +kernel
theorem dX9_run_28 : decode cX9_run 28 = .ok (.iadd, 1) := by decide +kernel
theorem dX9_run_29 : decode cX9_run 29 = .ok (.invokestatic 34, 3) := by decide +kernel
theorem dX9_run_32 : decode cX9_run 32 = .ok (.istore 4, 2) := by decide +kernel
theorem dX9_run_34 : decode cX9_run 34 = .ok (.iconst 0, 1) := by decide +kernel
theorem dX9_run_35 : decode cX9_run 35 = .ok (.istore 5, 2) := by decide +kernel
theorem dX9_run_37 : decode cX9_run 37 = .ok (.iload 5, 2) := by decide +kernel
theorem dX9_run_39 : decode cX9_run 39 = .ok (.iload 4, 2) := by decide +kernel
theorem dX9_run_41 : decode cX9_run 41 = .ok (.if_icmp .ge 50, 3) := by decide +kernel
theorem dX9_run_44 : decode cX9_run 44 = .ok (.aload_n 0, 1) := by decide +kernel
theorem dX9_run_45 : decode cX9_run 45 = .ok (.iload 5, 2) := by decide +kernel
theorem dX9_run_47 : decode cX9_run 47 = .ok (.putfield 40, 3) := by decide +kernel
theorem dX9_run_50 : decode cX9_run 50 = .ok (.aload_n 0, 1) := by decide +kernel
theorem dX9_run_51 : decode cX9_run 51 = .ok (.aload_n 1, 1) := by decide +kernel
theorem dX9_run_52 : decode cX9_run 52 = .ok (.getfield 31, 3) := by decide +kernel
theorem dX9_run_55 : decode cX9_run 55 = .ok (.iload 5, 2) := by decide +kernel
theorem dX9_run_57 : decode cX9_run 57 = .ok (.iadd, 1) := by decide +kernel
theorem dX9_run_58 : decode cX9_run 58 = .ok (.putfield 43, 3) := by decide +kernel
theorem dX9_run_61 : decode cX9_run 61 = .ok (.aload_n 0, 1) := by decide +kernel
theorem dX9_run_62 : decode cX9_run 62 = .ok (.aload_n 1, 1) := by decide +kernel
theorem dX9_run_63 : decode cX9_run 63 = .ok (.getfield 46, 3) := by decide +kernel
theorem dX9_run_66 : decode cX9_run 66 = .ok (.aload_n 0, 1) := by decide +kernel
theorem dX9_run_67 : decode cX9_run 67 = .ok (.getfield 43, 3) := by decide +kernel
theorem dX9_run_70 : decode cX9_run 70 = .ok (.invokevirtual 50, 3) := by decide +kernel
theorem dX9_run_73 : decode cX9_run 73 = .ok (.putfield 56, 3) := by decide +kernel
theorem dX9_run_76 : decode cX9_run 76 = .ok (.aload_n 0, 1) := by decide +kernel
theorem dX9_run_77 : decode cX9_run 77 = .ok (.aload_n 1, 1) := by decide +kernel
theorem dX9_run_78 : decode cX9_run 78 = .ok (.getfield 59, 3) := by decide +kernel
theorem dX9_run_81 : decode cX9_run 81 = .ok (.invokevirtual 63, 3) := by decide +kernel
theorem dX9_run_84 : decode cX9_run 84 = .ok (.istore_n 3, 1) := by decide +kernel
theorem dX9_run_85 : decode cX9_run 85 = .ok (.iinc 5 1, 3) := by decide +kernel
theorem dX9_run_88 : decode cX9_run 88 = .ok (.goto (-51), 3) := by decide +kernel
theorem dX9_run_91 : decode cX9_run 91 = .ok (.iload_n 3, 1) := by decide +kernel
theorem dX9_run_92 : decode cX9_run 92 = .ok (.ireturn, 1) := by decide +kernel
theorem dX9_countHour_0 : decode cX9_countHour 0 = .ok (.aload_n 0, 1) := by decide +kernel
theorem dX9_countHour_1 : decode cX9_countHour 1 = .ok (.aload_n 1, 1) := by decide +kernel
theorem dX9_countHour_2 : decode cX9_countHour 2 = .ok (.iconst 0, 1) := by decide +kernel
theorem dX9_countHour_3 : decode cX9_countHour 3 = .ok (.aload_n 1, 1) := by decide +kernel
theorem dX9_countHour_4 : decode cX9_countHour 4 = .ok (.getfield 67, 3) := by decide +kernel
theorem dX9_countHour_7 : decode cX9_countHour 7 = .ok (.invokevirtual 72, 3) := by decide +kernel
theorem dX9_countHour_10 : decode cX9_countHour 10 = .ok (.ifCond .eq 15, 3) := by decide +kernel
theorem dX9_countHour_13 : decode cX9_countHour 13 = .ok (.aload_n 0, 1) := by decide +kernel
theorem dX9_countHour_14 : decode cX9_countHour 14 = .ok (.dup, 1) := by decide +kernel
theorem dX9_countHour_15 : decode cX9_countHour 15 = .ok (.getfield 15, 3) := by decide +kernel
theorem dX9_countHour_18 : decode cX9_countHour 18 = .ok (.iconst 1, 1) := by decide +kernel
theorem dX9_countHour_19 : decode cX9_countHour 19 = .ok (.iadd, 1) := by decide +kernel
theorem dX9_countHour_20 : decode cX9_countHour 20 = .ok (.putfield 15, 3) := by decide +kernel
theorem dX9_countHour_23 : decode cX9_countHour 23 = .ok (.iconst 0, 1) := by decide +kernel
theorem dX9_countHour_24 : decode cX9_countHour 24 = .ok (.ireturn, 1) := by decide +kernel
theorem dX9_countHour_25 : decode cX9_countHour 25 = .ok (.aload_n 0, 1) := by decide +kernel
theorem dX9_countHour_26 : decode cX9_countHour 26 = .ok (.aload_n 1, 1) := by decide +kernel
theorem dX9_countHour_27 : decode cX9_countHour 27 = .ok (.aload_n 1, 1) := by decide +kernel
theorem dX9_countHour_28 : decode cX9_countHour 28 = .ok (.getfield 67, 3) := by decide +kernel
theorem dX9_countHour_31 : decode cX9_countHour 31 = .ok (.aload_n 1, 1) := by decide +kernel
theorem dX9_countHour_32 : decode cX9_countHour 32 = .ok (.getfield 76, 3) := by decide +kernel
theorem dX9_countHour_35 : decode cX9_countHour 35 = .ok (.invokevirtual 72, 3) := by decide +kernel
theorem dX9_countHour_38 : decode cX9_countHour 38 = .ok (.ifCond .eq 15, 3) := by decide +kernel
theorem dX9_countHour_41 : decode cX9_countHour 41 = .ok (.aload_n 0, 1) := by decide +kernel
theorem dX9_countHour_42 : decode cX9_countHour 42 = .ok (.dup, 1) := by decide +kernel
theorem dX9_countHour_43 : decode cX9_countHour 43 = .ok (.getfield 19, 3) := by decide +kernel
theorem dX9_countHour_46 : decode cX9_countHour 46 = .ok (.iconst 1, 1) := by decide +kernel
theorem dX9_countHour_47 : decode cX9_countHour 47 = .ok (.iadd, 1) := by decide +kernel
theorem dX9_countHour_48 : decode cX9_countHour 48 = .ok (.putfield 19, 3) := by decide +kernel
theorem dX9_countHour_51 : decode cX9_countHour 51 = .ok (.iconst 1, 1) := by decide +kernel
theorem dX9_countHour_52 : decode cX9_countHour 52 = .ok (.ireturn, 1) := by decide +kernel
theorem dX9_countHour_53 : decode cX9_countHour 53 = .ok (.aload_n 0, 1) := by decide +kernel
theorem dX9_countHour_54 : decode cX9_countHour 54 = .ok (.dup, 1) := by decide +kernel
theorem dX9_countHour_55 : decode cX9_countHour 55 = .ok (.getfield 22, 3) := by decide +kernel
theorem dX9_countHour_58 : decode cX9_countHour 58 = .ok (.iconst 1, 1) := by decide +kernel
theorem dX9_countHour_59 : decode cX9_countHour 59 = .ok (.iadd, 1) := by decide +kernel
theorem dX9_countHour_60 : decode cX9_countHour 60 = .ok (.putfield 22, 3) := by decide +kernel
theorem dX9_countHour_63 : decode cX9_countHour 63 = .ok (.iconst 2, 1) := by decide +kernel
theorem dX9_countHour_64 : decode cX9_countHour 64 = .ok (.ireturn, 1) := by decide +kernel
theorem dX9_worth_0 : decode cX9_worth 0 = .ok (.iconst 0, 1) := by decide +kernel
theorem dX9_worth_1 : decode cX9_worth 1 = .ok (.istore 4, 2) := by decide +kernel
theorem dX9_worth_3 : decode cX9_worth 3 = .ok (.iload_n 2, 1) := by decide +kernel
theorem dX9_worth_4 : decode cX9_worth 4 = .ok (.istore 5, 2) := by decide +kernel
theorem dX9_worth_6 : decode cX9_worth 6 = .ok (.iload 5, 2) := by decide +kernel
theorem dX9_worth_8 : decode cX9_worth 8 = .ok (.iload_n 3, 1) := by decide +kernel
theorem dX9_worth_9 : decode cX9_worth 9 = .ok (.if_icmp .ge 23, 3) := by decide +kernel
theorem dX9_worth_12 : decode cX9_worth 12 = .ok (.aload_n 0, 1) := by decide +kernel
theorem dX9_worth_13 : decode cX9_worth 13 = .ok (.aload_n 1, 1) := by decide +kernel
theorem dX9_worth_14 : decode cX9_worth 14 = .ok (.iload 5, 2) := by decide +kernel
theorem dX9_worth_16 : decode cX9_worth 16 = .ok (.invokevirtual 79, 3) := by decide +kernel
theorem dX9_worth_19 : decode cX9_worth 19 = .ok (.iload 4, 2) := by decide +kernel
theorem dX9_worth_21 : decode cX9_worth 21 = .ok (.invokevirtual 82, 3) := by decide +kernel
theorem dX9_worth_24 : decode cX9_worth 24 = .ok (.istore 4, 2) := by decide +kernel
theorem dX9_worth_26 : decode cX9_worth 26 = .ok (.iinc 5 1, 3) := by decide +kernel
theorem dX9_worth_29 : decode cX9_worth 29 = .ok (.goto (-23), 3) := by decide +kernel
theorem dX9_worth_32 : decode cX9_worth 32 = .ok (.iload 4, 2) := by decide +kernel
theorem dX9_worth_34 : decode cX9_worth 34 = .ok (.iconst 1, 1) := by decide +kernel
theorem dX9_worth_35 : decode cX9_worth 35 = .ok (.sipush 160, 3) := by decide +kernel
theorem dX9_worth_38 : decode cX9_worth 38 = .ok (.invokestatic 85, 3) := by decide +kernel
theorem dX9_worth_41 : decode cX9_worth 41 = .ok (.ifCond .eq 15, 3) := by decide +kernel
theorem dX9_worth_44 : decode cX9_worth 44 = .ok (.aload_n 0, 1) := by decide +kernel
theorem dX9_worth_45 : decode cX9_worth 45 = .ok (.getfield 9, 3) := by decide +kernel
theorem dX9_worth_48 : decode cX9_worth 48 = .ok (.iload 4, 2) := by decide +kernel
theorem dX9_worth_50 : decode cX9_worth 50 = .ok (.iconst 1, 1) := by decide +kernel
theorem dX9_worth_51 : decode cX9_worth 51 = .ok (.isub, 1) := by decide +kernel
theorem dX9_worth_52 : decode cX9_worth 52 = .ok (.iaload, 1) := by decide +kernel
theorem dX9_worth_53 : decode cX9_worth 53 = .ok (.goto 4, 3) := by decide +kernel
theorem dX9_worth_56 : decode cX9_worth 56 = .ok (.iconst 0, 1) := by decide +kernel
theorem dX9_worth_57 : decode cX9_worth 57 = .ok (.ireturn, 1) := by decide +kernel
theorem dX9_step_0 : decode cX9_step 0 = .ok (.iload_n 1, 1) := by decide +kernel
theorem dX9_step_1 : decode cX9_step 1 = .ok (.bipush (-3), 2) := by decide +kernel
theorem dX9_step_3 : decode cX9_step 3 = .ok (.if_icmp .eq 9, 3) := by decide +kernel
theorem dX9_step_6 : decode cX9_step 6 = .ok (.iload_n 1, 1) := by decide +kernel
theorem dX9_step_7 : decode cX9_step 7 = .ok (.bipush (-9), 2) := by decide +kernel
theorem dX9_step_9 : decode cX9_step 9 = .ok (.if_icmp .ne 10, 3) := by decide +kernel
theorem dX9_step_12 : decode cX9_step 12 = .ok (.aload_n 0, 1) := by decide +kernel
theorem dX9_step_13 : decode cX9_step 13 = .ok (.iload_n 1, 1) := by decide +kernel
theorem dX9_step_14 : decode cX9_step 14 = .ok (.iload_n 2, 1) := by decide +kernel
theorem dX9_step_15 : decode cX9_step 15 = .ok (.invokevirtual 89, 3) := by decide +kernel
theorem dX9_step_18 : decode cX9_step 18 = .ok (.ireturn, 1) := by decide +kernel
theorem dX9_step_19 : decode cX9_step 19 = .ok (.iload_n 1, 1) := by decide +kernel
theorem dX9_step_20 : decode cX9_step 20 = .ok (.invokestatic 92, 3) := by decide +kernel
theorem dX9_step_23 : decode cX9_step 23 = .ok (.ifCond .eq 10, 3) := by decide +kernel
theorem dX9_step_26 : decode cX9_step 26 = .ok (.aload_n 0, 1) := by decide +kernel
theorem dX9_step_27 : decode cX9_step 27 = .ok (.iload_n 1, 1) := by decide +kernel
theorem dX9_step_28 : decode cX9_step 28 = .ok (.iload_n 2, 1) := by decide +kernel
theorem dX9_step_29 : decode cX9_step 29 = .ok (.invokevirtual 96, 3) := by decide +kernel
theorem dX9_step_32 : decode cX9_step 32 = .ok (.ireturn, 1) := by decide +kernel
theorem dX9_step_33 : decode cX9_step 33 = .ok (.iload_n 2, 1) := by decide +kernel
theorem dX9_step_34 : decode cX9_step 34 = .ok (.iconst 0, 1) := by decide +kernel
theorem dX9_step_35 : decode cX9_step 35 = .ok (.sipush 159, 3) := by decide +kernel
theorem dX9_step_38 : decode cX9_step 38 = .ok (.invokestatic 85, 3) := by decide +kernel
theorem dX9_step_41 : decode cX9_step 41 = .ok (.ifCond .ne 5, 3) := by decide +kernel
theorem dX9_step_44 : decode cX9_step 44 = .ok (.iload_n 2, 1) := by decide +kernel
theorem dX9_step_45 : decode cX9_step 45 = .ok (.ireturn, 1) := by decide +kernel
theorem dX9_step_46 : decode cX9_step 46 = .ok (.aload_n 0, 1) := by decide +kernel
theorem dX9_step_47 : decode cX9_step 47 = .ok (.getfield 9, 3) := by decide +kernel
theorem dX9_step_50 : decode cX9_step 50 = .ok (.iload_n 2, 1) := by decide +kernel
theorem dX9_step_51 : decode cX9_step 51 = .ok (.iload_n 1, 1) := by decide +kernel
theorem dX9_step_52 : decode cX9_step 52 = .ok (.ifCond .lt 7, 3) := by decide +kernel
theorem dX9_step_55 : decode cX9_step 55 = .ok (.iload_n 1, 1) := by decide +kernel
theorem dX9_step_56 : decode cX9_step 56 = .ok (.goto 8, 3) := by decide +kernel
theorem dX9_step_59 : decode cX9_step 59 = .ok (.aload_n 0, 1) := by decide +kernel
theorem dX9_step_60 : decode cX9_step 60 = .ok (.iload_n 1, 1) := by decide +kernel
theorem dX9_step_61 : decode cX9_step 61 = .ok (.invokevirtual 99, 3) := by decide +kernel
theorem dX9_step_64 : decode cX9_step 64 = .ok (.iastore, 1) := by decide +kernel
theorem dX9_step_65 : decode cX9_step 65 = .ok (.iload_n 2, 1) := by decide +kernel
theorem dX9_step_66 : decode cX9_step 66 = .ok (.iconst 1, 1) := by decide +kernel
theorem dX9_step_67 : decode cX9_step 67 = .ok (.iadd, 1) := by decide +kernel
theorem dX9_step_68 : decode cX9_step 68 = .ok (.ireturn, 1) := by decide +kernel
theorem dX9_turn_0 : decode cX9_turn 0 = .ok (.iload_n 2, 1) := by decide +kernel
theorem dX9_turn_1 : decode cX9_turn 1 = .ok (.iconst 1, 1) := by decide +kernel
theorem dX9_turn_2 : decode cX9_turn 2 = .ok (.sipush 160, 3) := by decide +kernel
theorem dX9_turn_5 : decode cX9_turn 5 = .ok (.invokestatic 85, 3) := by decide +kernel
theorem dX9_turn_8 : decode cX9_turn 8 = .ok (.ifCond .eq 40, 3) := by decide +kernel
theorem dX9_turn_11 : decode cX9_turn 11 = .ok (.aload_n 0, 1) := by decide +kernel
theorem dX9_turn_12 : decode cX9_turn 12 = .ok (.getfield 9, 3) := by decide +kernel
theorem dX9_turn_15 : decode cX9_turn 15 = .ok (.iload_n 2, 1) := by decide +kernel
theorem dX9_turn_16 : decode cX9_turn 16 = .ok (.iconst 1, 1) := by decide +kernel
theorem dX9_turn_17 : decode cX9_turn 17 = .ok (.isub, 1) := by decide +kernel
theorem dX9_turn_18 : decode cX9_turn 18 = .ok (.iaload, 1) := by decide +kernel
theorem dX9_turn_19 : decode cX9_turn 19 = .ok (.istore_n 3, 1) := by decide +kernel
theorem dX9_turn_20 : decode cX9_turn 20 = .ok (.aload_n 0, 1) := by decide +kernel
theorem dX9_turn_21 : decode cX9_turn 21 = .ok (.getfield 9, 3) := by decide +kernel
theorem dX9_turn_24 : decode cX9_turn 24 = .ok (.iload_n 2, 1) := by decide +kernel
theorem dX9_turn_25 : decode cX9_turn 25 = .ok (.iconst 1, 1) := by decide +kernel
theorem dX9_turn_26 : decode cX9_turn 26 = .ok (.isub, 1) := by decide +kernel
theorem dX9_turn_27 : decode cX9_turn 27 = .ok (.iload_n 1, 1) := by decide +kernel
theorem dX9_turn_28 : decode cX9_turn 28 = .ok (.bipush (-9), 2) := by decide +kernel
theorem dX9_turn_30 : decode cX9_turn 30 = .ok (.if_icmp .ne 8, 3) := by decide +kernel
theorem dX9_turn_33 : decode cX9_turn 33 = .ok (.iload_n 3, 1) := by decide +kernel
theorem dX9_turn_34 : decode cX9_turn 34 = .ok (.ineg, 1) := by decide +kernel
theorem dX9_turn_35 : decode cX9_turn 35 = .ok (.goto 12, 3) := by decide +kernel
theorem dX9_turn_38 : decode cX9_turn 38 = .ok (.iload_n 3, 1) := by decide +kernel
theorem dX9_turn_39 : decode cX9_turn 39 = .ok (.ifCond .ne 7, 3) := by decide +kernel
theorem dX9_turn_42 : decode cX9_turn 42 = .ok (.iconst 1, 1) := by decide +kernel
theorem dX9_turn_43 : decode cX9_turn 43 = .ok (.goto 4, 3) := by decide +kernel
theorem dX9_turn_46 : decode cX9_turn 46 = .ok (.iconst 0, 1) := by decide +kernel
theorem dX9_turn_47 : decode cX9_turn 47 = .ok (.iastore, 1) := by decide +kernel
theorem dX9_turn_48 : decode cX9_turn 48 = .ok (.iload_n 2, 1) := by decide +kernel
theorem dX9_turn_49 : decode cX9_turn 49 = .ok (.ireturn, 1) := by decide +kernel
theorem dX9_join_0 : decode cX9_join 0 = .ok (.iload_n 2, 1) := by decide +kernel
theorem dX9_join_1 : decode cX9_join 1 = .ok (.iconst 2, 1) := by decide +kernel
theorem dX9_join_2 : decode cX9_join 2 = .ok (.sipush 160, 3) := by decide +kernel
theorem dX9_join_5 : decode cX9_join 5 = .ok (.invokestatic 85, 3) := by decide +kernel
theorem dX9_join_8 : decode cX9_join 8 = .ok (.ifCond .ne 5, 3) := by decide +kernel
theorem dX9_join_11 : decode cX9_join 11 = .ok (.iload_n 2, 1) := by decide +kernel
theorem dX9_join_12 : decode cX9_join 12 = .ok (.ireturn, 1) := by decide +kernel
theorem dX9_join_13 : decode cX9_join 13 = .ok (.aload_n 0, 1) := by decide +kernel
theorem dX9_join_14 : decode cX9_join 14 = .ok (.getfield 9, 3) := by decide +kernel
theorem dX9_join_17 : decode cX9_join 17 = .ok (.iload_n 2, 1) := by decide +kernel
theorem dX9_join_18 : decode cX9_join 18 = .ok (.iconst 2, 1) := by decide +kernel
theorem dX9_join_19 : decode cX9_join 19 = .ok (.isub, 1) := by decide +kernel
theorem dX9_join_20 : decode cX9_join 20 = .ok (.iload_n 1, 1) := by decide +kernel
theorem dX9_join_21 : decode cX9_join 21 = .ok (.aload_n 0, 1) := by decide +kernel
theorem dX9_join_22 : decode cX9_join 22 = .ok (.getfield 9, 3) := by decide +kernel
theorem dX9_join_25 : decode cX9_join 25 = .ok (.iload_n 2, 1) := by decide +kernel
theorem dX9_join_26 : decode cX9_join 26 = .ok (.iconst 2, 1) := by decide +kernel
theorem dX9_join_27 : decode cX9_join 27 = .ok (.isub, 1) := by decide +kernel
theorem dX9_join_28 : decode cX9_join 28 = .ok (.iaload, 1) := by decide +kernel
theorem dX9_join_29 : decode cX9_join 29 = .ok (.aload_n 0, 1) := by decide +kernel
theorem dX9_join_30 : decode cX9_join 30 = .ok (.getfield 9, 3) := by decide +kernel
theorem dX9_join_33 : decode cX9_join 33 = .ok (.iload_n 2, 1) := by decide +kernel
theorem dX9_join_34 : decode cX9_join 34 = .ok (.iconst 1, 1) := by decide +kernel
theorem dX9_join_35 : decode cX9_join 35 = .ok (.isub, 1) := by decide +kernel
theorem dX9_join_36 : decode cX9_join 36 = .ok (.iaload, 1) := by decide +kernel
theorem dX9_join_37 : decode cX9_join 37 = .ok (.invokestatic 102, 3) := by decide +kernel
theorem dX9_join_40 : decode cX9_join 40 = .ok (.iastore, 1) := by decide +kernel
theorem dX9_join_41 : decode cX9_join 41 = .ok (.iload_n 2, 1) := by decide +kernel
theorem dX9_join_42 : decode cX9_join 42 = .ok (.iconst 1, 1) := by decide +kernel
theorem dX9_join_43 : decode cX9_join 43 = .ok (.isub, 1) := by decide +kernel
theorem dX9_join_44 : decode cX9_join 44 = .ok (.ireturn, 1) := by decide +kernel
theorem dX9_named_0 : decode cX9_named 0 = .ok (.iload_n 1, 1) := by decide +kernel
theorem dX9_named_1 : decode cX9_named 1 = .ok (.tableswitch 69 (-14) (-10) #[64, 59, 51, 40, 35], 35) := by decide +kernel
theorem dX9_named_36 : decode cX9_named 36 = .ok (.aload_n 0, 1) := by decide +kernel
theorem dX9_named_37 : decode cX9_named 37 = .ok (.getfield 56, 3) := by decide +kernel
theorem dX9_named_40 : decode cX9_named 40 = .ok (.ireturn, 1) := by decide +kernel
theorem dX9_named_41 : decode cX9_named 41 = .ok (.aload_n 0, 1) := by decide +kernel
theorem dX9_named_42 : decode cX9_named 42 = .ok (.getfield 43, 3) := by decide +kernel
theorem dX9_named_45 : decode cX9_named 45 = .ok (.bipush 24, 2) := by decide +kernel
theorem dX9_named_47 : decode cX9_named 47 = .ok (.idiv, 1) := by decide +kernel
theorem dX9_named_48 : decode cX9_named 48 = .ok (.bipush 7, 2) := by decide +kernel
theorem dX9_named_50 : decode cX9_named 50 = .ok (.irem, 1) := by decide +kernel
theorem dX9_named_51 : decode cX9_named 51 = .ok (.ireturn, 1) := by decide +kernel
theorem dX9_named_52 : decode cX9_named 52 = .ok (.aload_n 0, 1) := by decide +kernel
theorem dX9_named_53 : decode cX9_named 53 = .ok (.getfield 43, 3) := by decide +kernel
theorem dX9_named_56 : decode cX9_named 56 = .ok (.bipush 24, 2) := by decide +kernel
theorem dX9_named_58 : decode cX9_named 58 = .ok (.irem, 1) := by decide +kernel
theorem dX9_named_59 : decode cX9_named 59 = .ok (.ireturn, 1) := by decide +kernel
theorem dX9_named_60 : decode cX9_named 60 = .ok (.aload_n 0, 1) := by decide +kernel
theorem dX9_named_61 : decode cX9_named 61 = .ok (.getfield 40, 3) := by decide +kernel
theorem dX9_named_64 : decode cX9_named 64 = .ok (.ireturn, 1) := by decide +kernel
theorem dX9_named_65 : decode cX9_named 65 = .ok (.aload_n 0, 1) := by decide +kernel
theorem dX9_named_66 : decode cX9_named 66 = .ok (.getfield 15, 3) := by decide +kernel
theorem dX9_named_69 : decode cX9_named 69 = .ok (.ireturn, 1) := by decide +kernel
theorem dX9_named_70 : decode cX9_named 70 = .ok (.iconst 0, 1) := by decide +kernel
theorem dX9_named_71 : decode cX9_named 71 = .ok (.ireturn, 1) := by decide +kernel
theorem dX9_joined_0 : decode cX9_joined 0 = .ok (.iload_n 0, 1) := by decide +kernel
theorem dX9_joined_1 : decode cX9_joined 1 = .ok (.tableswitch 109 (-8) (-1) #[105, 101, 97, 86, 75, 109, 61, 47], 47) := by decide +kernel
theorem dX9_joined_48 : decode cX9_joined 48 = .ok (.iload_n 1, 1) := by decide +kernel
theorem dX9_joined_49 : decode cX9_joined 49 = .ok (.ifCond .ne 7, 3) := by decide +kernel
theorem dX9_joined_52 : decode cX9_joined 52 = .ok (.iload_n 2, 1) := by decide +kernel
theorem dX9_joined_53 : decode cX9_joined 53 = .ok (.ifCond .eq 7, 3) := by decide +kernel
theorem dX9_joined_56 : decode cX9_joined 56 = .ok (.iconst 1, 1) := by decide +kernel
theorem dX9_joined_57 : decode cX9_joined 57 = .ok (.goto 4, 3) := by decide +kernel
theorem dX9_joined_60 : decode cX9_joined 60 = .ok (.iconst 0, 1) := by decide +kernel
theorem dX9_joined_61 : decode cX9_joined 61 = .ok (.ireturn, 1) := by decide +kernel
theorem dX9_joined_62 : decode cX9_joined 62 = .ok (.iload_n 1, 1) := by decide +kernel
theorem dX9_joined_63 : decode cX9_joined 63 = .ok (.ifCond .eq 11, 3) := by decide +kernel
theorem dX9_joined_66 : decode cX9_joined 66 = .ok (.iload_n 2, 1) := by decide +kernel
theorem dX9_joined_67 : decode cX9_joined 67 = .ok (.ifCond .eq 7, 3) := by decide +kernel
theorem dX9_joined_70 : decode cX9_joined 70 = .ok (.iconst 1, 1) := by decide +kernel
theorem dX9_joined_71 : decode cX9_joined 71 = .ok (.goto 4, 3) := by decide +kernel
theorem dX9_joined_74 : decode cX9_joined 74 = .ok (.iconst 0, 1) := by decide +kernel
theorem dX9_joined_75 : decode cX9_joined 75 = .ok (.ireturn, 1) := by decide +kernel
theorem dX9_joined_76 : decode cX9_joined 76 = .ok (.iload_n 1, 1) := by decide +kernel
theorem dX9_joined_77 : decode cX9_joined 77 = .ok (.iload_n 2, 1) := by decide +kernel
theorem dX9_joined_78 : decode cX9_joined 78 = .ok (.if_icmp .ge 7, 3) := by decide +kernel
theorem dX9_joined_81 : decode cX9_joined 81 = .ok (.iconst 1, 1) := by decide +kernel
theorem dX9_joined_82 : decode cX9_joined 82 = .ok (.goto 4, 3) := by decide +kernel
theorem dX9_joined_85 : decode cX9_joined 85 = .ok (.iconst 0, 1) := by decide +kernel
theorem dX9_joined_86 : decode cX9_joined 86 = .ok (.ireturn, 1) := by decide +kernel
theorem dX9_joined_87 : decode cX9_joined 87 = .ok (.iload_n 1, 1) := by decide +kernel
theorem dX9_joined_88 : decode cX9_joined 88 = .ok (.iload_n 2, 1) := by decide +kernel
theorem dX9_joined_89 : decode cX9_joined 89 = .ok (.if_icmp .ne 7, 3) := by decide +kernel
theorem dX9_joined_92 : decode cX9_joined 92 = .ok (.iconst 1, 1) := by decide +kernel
theorem dX9_joined_93 : decode cX9_joined 93 = .ok (.goto 4, 3) := by decide +kernel
theorem dX9_joined_96 : decode cX9_joined 96 = .ok (.iconst 0, 1) := by decide +kernel
theorem dX9_joined_97 : decode cX9_joined 97 = .ok (.ireturn, 1) := by decide +kernel
theorem dX9_joined_98 : decode cX9_joined 98 = .ok (.iload_n 1, 1) := by decide +kernel
theorem dX9_joined_99 : decode cX9_joined 99 = .ok (.iload_n 2, 1) := by decide +kernel
theorem dX9_joined_100 : decode cX9_joined 100 = .ok (.iadd, 1) := by decide +kernel
theorem dX9_joined_101 : decode cX9_joined 101 = .ok (.ireturn, 1) := by decide +kernel
theorem dX9_joined_102 : decode cX9_joined 102 = .ok (.iload_n 1, 1) := by decide +kernel
theorem dX9_joined_103 : decode cX9_joined 103 = .ok (.iload_n 2, 1) := by decide +kernel
theorem dX9_joined_104 : decode cX9_joined 104 = .ok (.isub, 1) := by decide +kernel
theorem dX9_joined_105 : decode cX9_joined 105 = .ok (.ireturn, 1) := by decide +kernel
theorem dX9_joined_106 : decode cX9_joined 106 = .ok (.iload_n 1, 1) := by decide +kernel
theorem dX9_joined_107 : decode cX9_joined 107 = .ok (.iload_n 2, 1) := by decide +kernel
theorem dX9_joined_108 : decode cX9_joined 108 = .ok (.imul, 1) := by decide +kernel
theorem dX9_joined_109 : decode cX9_joined 109 = .ok (.ireturn, 1) := by decide +kernel
theorem dX9_joined_110 : decode cX9_joined 110 = .ok (.iconst 0, 1) := by decide +kernel
theorem dX9_joined_111 : decode cX9_joined 111 = .ok (.ireturn, 1) := by decide +kernel
theorem dX10_init_0 : decode cX10_init 0 = .ok (.aload_n 0, 1) := by decide +kernel
theorem dX10_init_1 : decode cX10_init 1 = .ok (.invokespecial 3, 3) := by decide +kernel
theorem dX10_init_4 : decode cX10_init 4 = .ok (.aload_n 0, 1) := by decide +kernel
theorem dX10_init_5 : decode cX10_init 5 = .ok (.sipush 160, 3) := by decide +kernel
theorem dX10_init_8 : decode cX10_init 8 = .ok (.newarray .int, 2) := by decide +kernel
theorem dX10_init_10 : decode cX10_init 10 = .ok (.putfield 9, 3) := by decide +kernel
theorem dX10_init_13 : decode cX10_init 13 = .ok (.aload_n 0, 1) := by decide +kernel
theorem dX10_init_14 : decode cX10_init 14 = .ok (.iload_n 1, 1) := by decide +kernel
theorem dX10_init_15 : decode cX10_init 15 = .ok (.putfield 15, 3) := by decide +kernel
theorem dX10_init_18 : decode cX10_init 18 = .ok (.return_, 1) := by decide +kernel
theorem dX10_codeAt_0 : decode cX10_codeAt 0 = .ok (.iload_n 1, 1) := by decide +kernel
theorem dX10_codeAt_1 : decode cX10_codeAt 1 = .ok (.ifCond .lt 20, 3) := by decide +kernel
theorem dX10_codeAt_4 : decode cX10_codeAt 4 = .ok (.iload_n 1, 1) := by decide +kernel
theorem dX10_codeAt_5 : decode cX10_codeAt 5 = .ok (.aload_n 0, 1) := by decide +kernel
theorem dX10_codeAt_6 : decode cX10_codeAt 6 = .ok (.getfield 19, 3) := by decide +kernel
theorem dX10_codeAt_9 : decode cX10_codeAt 9 = .ok (.if_icmp .ge 12, 3) := by decide +kernel
theorem dX10_codeAt_12 : decode cX10_codeAt 12 = .ok (.aload_n 0, 1) := by decide +kernel
theorem dX10_codeAt_13 : decode cX10_codeAt 13 = .ok (.getfield 9, 3) := by decide +kernel
theorem dX10_codeAt_16 : decode cX10_codeAt 16 = .ok (.iload_n 1, 1) := by decide +kernel
theorem dX10_codeAt_17 : decode cX10_codeAt 17 = .ok (.iaload, 1) := by decide +kernel
theorem dX10_codeAt_18 : decode cX10_codeAt 18 = .ok (.goto 4, 3) := by decide +kernel
theorem dX10_codeAt_21 : decode cX10_codeAt 21 = .ok (.iconst 0, 1) := by decide +kernel
theorem dX10_codeAt_22 : decode cX10_codeAt 22 = .ok (.ireturn, 1) := by decide +kernel
theorem dX10_add_0 : decode cX10_add 0 = .ok (.aload_n 0, 1) := by decide +kernel
theorem dX10_add_1 : decode cX10_add 1 = .ok (.getfield 19, 3) := by decide +kernel
theorem dX10_add_4 : decode cX10_add 4 = .ok (.sipush 160, 3) := by decide +kernel
theorem dX10_add_7 : decode cX10_add 7 = .ok (.if_icmp .ge 23, 3) := by decide +kernel
theorem dX10_add_10 : decode cX10_add 10 = .ok (.aload_n 0, 1) := by decide +kernel
theorem dX10_add_11 : decode cX10_add 11 = .ok (.getfield 9, 3) := by decide +kernel
theorem dX10_add_14 : decode cX10_add 14 = .ok (.aload_n 0, 1) := by decide +kernel
theorem dX10_add_15 : decode cX10_add 15 = .ok (.getfield 19, 3) := by decide +kernel
theorem dX10_add_18 : decode cX10_add 18 = .ok (.iload_n 1, 1) := by decide +kernel
theorem dX10_add_19 : decode cX10_add 19 = .ok (.iastore, 1) := by decide +kernel
theorem dX10_add_20 : decode cX10_add 20 = .ok (.aload_n 0, 1) := by decide +kernel
theorem dX10_add_21 : decode cX10_add 21 = .ok (.dup, 1) := by decide +kernel
theorem dX10_add_22 : decode cX10_add 22 = .ok (.getfield 19, 3) := by decide +kernel
theorem dX10_add_25 : decode cX10_add 25 = .ok (.iconst 1, 1) := by decide +kernel
theorem dX10_add_26 : decode cX10_add 26 = .ok (.iadd, 1) := by decide +kernel
theorem dX10_add_27 : decode cX10_add 27 = .ok (.putfield 19, 3) := by decide +kernel
theorem dX10_add_30 : decode cX10_add 30 = .ok (.return_, 1) := by decide +kernel
theorem dX10_empty_0 : decode cX10_empty 0 = .ok (.aload_n 0, 1) := by decide +kernel
theorem dX10_empty_1 : decode cX10_empty 1 = .ok (.iconst 0, 1) := by decide +kernel
theorem dX10_empty_2 : decode cX10_empty 2 = .ok (.putfield 22, 3) := by decide +kernel
theorem dX10_empty_5 : decode cX10_empty 5 = .ok (.aload_n 0, 1) := by decide +kernel
theorem dX10_empty_6 : decode cX10_empty 6 = .ok (.iconst 0, 1) := by decide +kernel
theorem dX10_empty_7 : decode cX10_empty 7 = .ok (.putfield 19, 3) := by decide +kernel
theorem dX10_empty_10 : decode cX10_empty 10 = .ok (.return_, 1) := by decide +kernel
theorem dX10_endLay_0 : decode cX10_endLay 0 = .ok (.aload_n 0, 1) := by decide +kernel
theorem dX10_endLay_1 : decode cX10_endLay 1 = .ok (.aload_n 0, 1) := by decide +kernel
theorem dX10_endLay_2 : decode cX10_endLay 2 = .ok (.getfield 19, 3) := by decide +kernel
theorem dX10_endLay_5 : decode cX10_endLay 5 = .ok (.putfield 22, 3) := by decide +kernel
theorem dX10_endLay_8 : decode cX10_endLay 8 = .ok (.return_, 1) := by decide +kernel
theorem dX10_isName_0 : decode cX10_isName 0 = .ok (.iload_n 0, 1) := by decide +kernel
theorem dX10_isName_1 : decode cX10_isName 1 = .ok (.bipush (-14), 2) := by decide +kernel
theorem dX10_isName_3 : decode cX10_isName 3 = .ok (.bipush (-10), 2) := by decide +kernel
theorem dX10_isName_5 : decode cX10_isName 5 = .ok (.invokestatic 25, 3) := by decide +kernel
theorem dX10_isName_8 : decode cX10_isName 8 = .ok (.ireturn, 1) := by decide +kernel
theorem dX10_joinsTwo_0 : decode cX10_joinsTwo 0 = .ok (.iload_n 0, 1) := by decide +kernel
theorem dX10_joinsTwo_1 : decode cX10_joinsTwo 1 = .ok (.bipush (-8), 2) := by decide +kernel
theorem dX10_joinsTwo_3 : decode cX10_joinsTwo 3 = .ok (.iconst (-1), 1) := by decide +kernel
theorem dX10_joinsTwo_4 : decode cX10_joinsTwo 4 = .ok (.invokestatic 25, 3) := by decide +kernel
theorem dX10_joinsTwo_7 : decode cX10_joinsTwo 7 = .ok (.ireturn, 1) := by decide +kernel
theorem dX11_init_0 : decode cX11_init 0 = .ok (.aload_n 0, 1) := by decide +kernel
theorem dX11_init_1 : decode cX11_init 1 = .ok (.invokespecial 1, 3) := by decide +kernel
theorem dX11_init_4 : decode cX11_init 4 = .ok (.aload_n 0, 1) := by decide +kernel
theorem dX11_init_5 : decode cX11_init 5 = .ok (.bipush 8, 2) := by decide +kernel
theorem dX11_init_7 : decode cX11_init 7 = .ok (.anewarray 9, 3) := by decide +kernel
theorem dX11_init_10 : decode cX11_init 10 = .ok (.putfield 11, 3) := by decide +kernel
theorem dX11_init_13 : decode cX11_init 13 = .ok (.aload_n 0, 1) := by decide +kernel
theorem dX11_init_14 : decode cX11_init 14 = .ok (.iconst 5, 1) := by decide +kernel
theorem dX11_init_15 : decode cX11_init 15 = .ok (.anewarray 15, 3) := by decide +kernel
theorem dX11_init_18 : decode cX11_init 18 = .ok (.putfield 17, 3) := by decide +kernel
theorem dX11_init_21 : decode cX11_init 21 = .ok (.aload_n 0, 1) := by decide +kernel
theorem dX11_init_22 : decode cX11_init 22 = .ok (.bipush 10, 2) := by decide +kernel
theorem dX11_init_24 : decode cX11_init 24 = .ok (.anewarray 21, 3) := by decide +kernel
theorem dX11_init_27 : decode cX11_init 27 = .ok (.putfield 23, 3) := by decide +kernel
theorem dX11_init_30 : decode cX11_init 30 = .ok (.aload_n 0, 1) := by decide +kernel
theorem dX11_init_31 : decode cX11_init 31 = .ok (.bipush 6, 2) := by decide +kernel
theorem dX11_init_33 : decode cX11_init 33 = .ok (.anewarray 27, 3) := by decide +kernel
theorem dX11_init_36 : decode cX11_init 36 = .ok (.putfield 29, 3) := by decide +kernel
theorem dX11_init_39 : decode cX11_init 39 = .ok (.aload_n 0, 1) := by decide +kernel
theorem dX11_init_40 : decode cX11_init 40 = .ok (.bipush 12, 2) := by decide +kernel
theorem dX11_init_42 : decode cX11_init 42 = .ok (.anewarray 33, 3) := by decide +kernel
theorem dX11_init_45 : decode cX11_init 45 = .ok (.putfield 35, 3) := by decide +kernel
theorem dX11_init_48 : decode cX11_init 48 = .ok (.aload_n 0, 1) := by decide +kernel
theorem dX11_init_49 : decode cX11_init 49 = .ok (.iconst 4, 1) := by decide +kernel
theorem dX11_init_50 : decode cX11_init 50 = .ok (.anewarray 39, 3) := by decide +kernel
theorem dX11_init_53 : decode cX11_init 53 = .ok (.putfield 41, 3) := by decide +kernel
theorem dX11_init_56 : decode cX11_init 56 = .ok (.aload_n 0, 1) := by decide +kernel
theorem dX11_init_57 : decode cX11_init 57 = .ok (.bipush 6, 2) := by decide +kernel
theorem dX11_init_59 : decode cX11_init 59 = .ok (.anewarray 9, 3) := by decide +kernel
theorem dX11_init_62 : decode cX11_init 62 = .ok (.putfield 45, 3) := by decide +kernel
theorem dX11_init_65 : decode cX11_init 65 = .ok (.aload_n 0, 1) := by decide +kernel
theorem dX11_init_66 : decode cX11_init 66 = .ok (.new 48, 3) := by decide +kernel
theorem dX11_init_69 : decode cX11_init 69 = .ok (.dup, 1) := by decide +kernel
theorem dX11_init_70 : decode cX11_init 70 = .ok (.invokespecial 50, 3) := by decide +kernel
theorem dX11_init_73 : decode cX11_init 73 = .ok (.putfield 51, 3) := by decide +kernel
theorem dX11_init_76 : decode cX11_init 76 = .ok (.aload_n 0, 1) := by decide +kernel
theorem dX11_init_77 : decode cX11_init 77 = .ok (.new 55, 3) := by decide +kernel
theorem dX11_init_80 : decode cX11_init 80 = .ok (.dup, 1) := by decide +kernel
theorem dX11_init_81 : decode cX11_init 81 = .ok (.invokespecial 57, 3) := by decide +kernel
theorem dX11_init_84 : decode cX11_init 84 = .ok (.putfield 58, 3) := by decide +kernel
theorem dX11_init_87 : decode cX11_init 87 = .ok (.aload_n 0, 1) := by decide +kernel
theorem dX11_init_88 : decode cX11_init 88 = .ok (.new 62, 3) := by decide +kernel
theorem dX11_init_91 : decode cX11_init 91 = .ok (.dup, 1) := by decide +kernel
theorem dX11_init_92 : decode cX11_init 92 = .ok (.invokespecial 64, 3) := by decide +kernel
theorem dX11_init_95 : decode cX11_init 95 = .ok (.putfield 65, 3) := by decide +kernel
theorem dX11_init_98 : decode cX11_init 98 = .ok (.aload_n 0, 1) := by decide +kernel
theorem dX11_init_99 : decode cX11_init 99 = .ok (.new 69, 3) := by decide +kernel
theorem dX11_init_102 : decode cX11_init 102 = .ok (.dup, 1) := by decide +kernel
theorem dX11_init_103 : decode cX11_init 103 = .ok (.invokespecial 71, 3) := by decide +kernel
theorem dX11_init_106 : decode cX11_init 106 = .ok (.putfield 72, 3) := by decide +kernel
theorem dX11_init_109 : decode cX11_init 109 = .ok (.aload_n 0, 1) := by decide +kernel
theorem dX11_init_110 : decode cX11_init 110 = .ok (.new 27, 3) := by decide +kernel
theorem dX11_init_113 : decode cX11_init 113 = .ok (.dup, 1) := by decide +kernel
theorem dX11_init_114 : decode cX11_init 114 = .ok (.iconst 0, 1) := by decide +kernel
theorem dX11_init_115 : decode cX11_init 115 = .ok (.invokespecial 76, 3) := by decide +kernel
theorem dX11_init_118 : decode cX11_init 118 = .ok (.putfield 79, 3) := by decide +kernel
theorem dX11_init_121 : decode cX11_init 121 = .ok (.aload_n 0, 1) := by decide +kernel
theorem dX11_init_122 : decode cX11_init 122 = .ok (.new 83, 3) := by decide +kernel
theorem dX11_init_125 : decode cX11_init 125 = .ok (.dup, 1) := by decide +kernel
theorem dX11_init_126 : decode cX11_init 126 = .ok (.invokespecial 85, 3) := by decide +kernel
theorem dX11_init_129 : decode cX11_init 129 = .ok (.putfield 86, 3) := by decide +kernel
theorem dX11_init_132 : decode cX11_init 132 = .ok (.iconst 0, 1) := by decide +kernel
theorem dX11_init_133 : decode cX11_init 133 = .ok (.istore_n 1, 1) := by decide +kernel
theorem dX11_init_134 : decode cX11_init 134 = .ok (.iload_n 1, 1) := by decide +kernel
theorem dX11_init_135 : decode cX11_init 135 = .ok (.iconst 4, 1) := by decide +kernel
theorem dX11_init_136 : decode cX11_init 136 = .ok (.if_icmp .ge 22, 3) := by decide +kernel
theorem dX11_init_139 : decode cX11_init 139 = .ok (.aload_n 0, 1) := by decide +kernel
theorem dX11_init_140 : decode cX11_init 140 = .ok (.getfield 41, 3) := by decide +kernel
theorem dX11_init_143 : decode cX11_init 143 = .ok (.iload_n 1, 1) := by decide +kernel
theorem dX11_init_144 : decode cX11_init 144 = .ok (.new 39, 3) := by decide +kernel
theorem dX11_init_147 : decode cX11_init 147 = .ok (.dup, 1) := by decide +kernel
theorem dX11_init_148 : decode cX11_init 148 = .ok (.invokespecial 90, 3) := by decide +kernel
theorem dX11_init_151 : decode cX11_init 151 = .ok (.aastore, 1) := by decide +kernel
theorem dX11_init_152 : decode cX11_init 152 = .ok (.iinc 1 1, 3) := by decide +kernel
theorem dX11_init_155 : decode cX11_init 155 = .ok (.goto (-21), 3) := by decide +kernel
theorem dX11_init_158 : decode cX11_init 158 = .ok (.iconst 0, 1) := by decide +kernel
theorem dX11_init_159 : decode cX11_init 159 = .ok (.istore_n 1, 1) := by decide +kernel
theorem dX11_init_160 : decode cX11_init 160 = .ok (.iload_n 1, 1) := by decide +kernel
theorem dX11_init_161 : decode cX11_init 161 = .ok (.ldc 91, 2) := by decide +kernel
theorem dX11_init_163 : decode cX11_init 163 = .ok (.invokevirtual 93, 3) := by decide +kernel
theorem dX11_init_166 : decode cX11_init 166 = .ok (.if_icmp .ge 22, 3) := by decide +kernel
theorem dX11_init_169 : decode cX11_init 169 = .ok (.aload_n 0, 1) := by decide +kernel
theorem dX11_init_170 : decode cX11_init 170 = .ok (.getfield 72, 3) := by decide +kernel
theorem dX11_init_173 : decode cX11_init 173 = .ok (.ldc 91, 2) := by decide +kernel
theorem dX11_init_175 : decode cX11_init 175 = .ok (.iload_n 1, 1) := by decide +kernel
theorem dX11_init_176 : decode cX11_init 176 = .ok (.invokevirtual 99, 3) := by decide +kernel
theorem dX11_init_179 : decode cX11_init 179 = .ok (.invokevirtual 103, 3) := by decide +kernel
theorem dX11_init_182 : decode cX11_init 182 = .ok (.iinc 1 1, 3) := by decide +kernel
theorem dX11_init_185 : decode cX11_init 185 = .ok (.goto (-25), 3) := by decide +kernel
theorem dX11_init_188 : decode cX11_init 188 = .ok (.aload_n 0, 1) := by decide +kernel
theorem dX11_init_189 : decode cX11_init 189 = .ok (.invokevirtual 106, 3) := by decide +kernel
theorem dX11_init_192 : decode cX11_init 192 = .ok (.pop, 1) := by decide +kernel
theorem dX11_init_193 : decode cX11_init 193 = .ok (.return_, 1) := by decide +kernel
theorem dX11_port_0 : decode cX11_port 0 = .ok (.iload_n 1, 1) := by decide +kernel
theorem dX11_port_1 : decode cX11_port 1 = .ok (.bipush 10, 2) := by decide +kernel
theorem dX11_port_3 : decode cX11_port 3 = .ok (.sipush 999, 3) := by decide +kernel
theorem dX11_port_6 : decode cX11_port 6 = .ok (.invokestatic 109, 3) := by decide +kernel
theorem dX11_port_9 : decode cX11_port 9 = .ok (.ifCond .eq 13, 3) := by decide +kernel
theorem dX11_port_12 : decode cX11_port 12 = .ok (.iload_n 2, 1) := by decide +kernel
theorem dX11_port_13 : decode cX11_port 13 = .ok (.iconst 0, 1) := by decide +kernel
theorem dX11_port_14 : decode cX11_port 14 = .ok (.bipush 99, 2) := by decide +kernel
theorem dX11_port_16 : decode cX11_port 16 = .ok (.invokestatic 109, 3) := by decide +kernel
theorem dX11_port_19 : decode cX11_port 19 = .ok (.ifCond .ne 6, 3) := by decide +kernel
theorem dX11_port_22 : decode cX11_port 22 = .ok (.bipush (-2), 2) := by decide +kernel
theorem dX11_port_24 : decode cX11_port 24 = .ok (.ireturn, 1) := by decide +kernel
theorem dX11_port_25 : decode cX11_port 25 = .ok (.aload_n 0, 1) := by decide +kernel
theorem dX11_port_26 : decode cX11_port 26 = .ok (.getfield 113, 3) := by decide +kernel
theorem dX11_port_29 : decode cX11_port 29 = .ok (.bipush 8, 2) := by decide +kernel
theorem dX11_port_31 : decode cX11_port 31 = .ok (.if_icmp .lt 6, 3) := by decide +kernel
theorem dX11_port_34 : decode cX11_port 34 = .ok (.bipush (-4), 2) := by decide +kernel
theorem dX11_port_36 : decode cX11_port 36 = .ok (.ireturn, 1) := by decide +kernel
theorem dX11_port_37 : decode cX11_port 37 = .ok (.aload_n 0, 1) := by decide +kernel
theorem dX11_port_38 : decode cX11_port 38 = .ok (.getfield 11, 3) := by decide +kernel
theorem dX11_port_41 : decode cX11_port 41 = .ok (.aload_n 0, 1) := by decide +kernel
theorem dX11_port_42 : decode cX11_port 42 = .ok (.getfield 113, 3) := by decide +kernel
theorem dX11_port_45 : decode cX11_port 45 = .ok (.new 9, 3) := by decide +kernel
theorem dX11_port_48 : decode cX11_port 48 = .ok (.dup, 1) := by decide +kernel
theorem dX11_port_49 : decode cX11_port 49 = .ok (.aload_n 0, 1) := by decide +kernel
theorem dX11_port_50 : decode cX11_port 50 = .ok (.getfield 113, 3) := by decide +kernel
theorem dX11_port_53 : decode cX11_port 53 = .ok (.iload_n 1, 1) := by decide +kernel
theorem dX11_port_54 : decode cX11_port 54 = .ok (.iload_n 2, 1) := by decide +kernel
theorem dX11_port_55 : decode cX11_port 55 = .ok (.invokespecial 117, 3) := by decide +kernel
theorem dX11_port_58 : decode cX11_port 58 = .ok (.aastore, 1) := by decide +kernel
theorem dX11_port_59 : decode cX11_port 59 = .ok (.aload_n 0, 1) := by decide +kernel
theorem dX11_port_60 : decode cX11_port 60 = .ok (.dup, 1) := by decide +kernel
theorem dX11_port_61 : decode cX11_port 61 = .ok (.getfield 113, 3) := by decide +kernel
theorem dX11_port_64 : decode cX11_port 64 = .ok (.iconst 1, 1) := by decide +kernel
theorem dX11_port_65 : decode cX11_port 65 = .ok (.iadd, 1) := by decide +kernel
theorem dX11_port_66 : decode cX11_port 66 = .ok (.putfield 113, 3) := by decide +kernel
theorem dX11_port_69 : decode cX11_port 69 = .ok (.aload_n 0, 1) := by decide +kernel
theorem dX11_port_70 : decode cX11_port 70 = .ok (.getfield 113, 3) := by decide +kernel
theorem dX11_port_73 : decode cX11_port 73 = .ok (.iconst 1, 1) := by decide +kernel
theorem dX11_port_74 : decode cX11_port 74 = .ok (.isub, 1) := by decide +kernel
theorem dX11_port_75 : decode cX11_port 75 = .ok (.ireturn, 1) := by decide +kernel
theorem dX11_way_0 : decode cX11_way 0 = .ok (.aload_n 0, 1) := by decide +kernel
theorem dX11_way_1 : decode cX11_way 1 = .ok (.iload_n 1, 1) := by decide +kernel
theorem dX11_way_2 : decode cX11_way 2 = .ok (.invokevirtual 120, 3) := by decide +kernel
theorem dX11_way_5 : decode cX11_way 5 = .ok (.astore 4, 2) := by decide +kernel
theorem dX11_way_7 : decode cX11_way 7 = .ok (.aload_n 0, 1) := by decide +kernel
theorem dX11_way_8 : decode cX11_way 8 = .ok (.iload_n 2, 1) := by decide +kernel
theorem dX11_way_9 : decode cX11_way 9 = .ok (.invokevirtual 120, 3) := by decide +kernel
theorem dX11_way_12 : decode cX11_way 12 = .ok (.astore 5, 2) := by decide +kernel
theorem dX11_way_14 : decode cX11_way 14 = .ok (.aload 4, 2) := by decide +kernel
theorem dX11_way_16 : decode cX11_way 16 = .ok (.ifnull 24, 3) := by decide +kernel
theorem dX11_way_19 : decode cX11_way 19 = .ok (.aload 5, 2) := by decide +kernel
theorem dX11_way_21 : decode cX11_way 21 = .ok (.ifnull 19, 3) := by decide +kernel
theorem dX11_way_24 : decode cX11_way 24 = .ok (.iload_n 1, 1) := by decide +kernel
theorem dX11_way_25 : decode cX11_way 25 = .ok (.iload_n 2, 1) := by decide +kernel
theorem dX11_way_26 : decode cX11_way 26 = .ok (.if_icmp .eq 14, 3) := by decide +kernel
theorem dX11_way_29 : decode cX11_way 29 = .ok (.iload_n 3, 1) := by decide +kernel
theorem dX11_way_30 : decode cX11_way 30 = .ok (.iconst 1, 1) := by decide +kernel
theorem dX11_way_31 : decode cX11_way 31 = .ok (.sipush 9999, 3) := by decide +kernel
theorem dX11_way_34 : decode cX11_way 34 = .ok (.invokestatic 109, 3) := by decide +kernel
theorem dX11_way_37 : decode cX11_way 37 = .ok (.ifCond .ne 6, 3) := by decide +kernel
theorem dX11_way_40 : decode cX11_way 40 = .ok (.bipush (-2), 2) := by decide +kernel
theorem dX11_way_42 : decode cX11_way 42 = .ok (.ireturn, 1) := by decide +kernel
theorem dX11_way_43 : decode cX11_way 43 = .ok (.aload 4, 2) := by decide +kernel
theorem dX11_way_45 : decode cX11_way 45 = .ok (.aload 5, 2) := by decide +kernel
theorem dX11_way_47 : decode cX11_way 47 = .ok (.invokevirtual 124, 3) := by decide +kernel
theorem dX11_way_50 : decode cX11_way 50 = .ok (.istore 6, 2) := by decide +kernel
theorem dX11_way_52 : decode cX11_way 52 = .ok (.aload 4, 2) := by decide +kernel
theorem dX11_way_54 : decode cX11_way 54 = .ok (.aload 5, 2) := by decide +kernel
theorem dX11_way_56 : decode cX11_way 56 = .ok (.iload_n 3, 1) := by decide +kernel
theorem dX11_way_57 : decode cX11_way 57 = .ok (.invokevirtual 128, 3) := by decide +kernel
theorem dX11_way_60 : decode cX11_way 60 = .ok (.aload 5, 2) := by decide +kernel
theorem dX11_way_62 : decode cX11_way 62 = .ok (.aload 4, 2) := by decide +kernel
theorem dX11_way_64 : decode cX11_way 64 = .ok (.iload_n 3, 1) := by decide +kernel
theorem dX11_way_65 : decode cX11_way 65 = .ok (.invokevirtual 128, 3) := by decide +kernel
theorem dX11_way_68 : decode cX11_way 68 = .ok (.iload 6, 2) := by decide +kernel
theorem dX11_way_70 : decode cX11_way 70 = .ok (.ireturn, 1) := by decide +kernel
theorem dX11_price_0 : decode cX11_price 0 = .ok (.aload_n 0, 1) := by decide +kernel
theorem dX11_price_1 : decode cX11_price 1 = .ok (.iload_n 1, 1) := by decide +kernel
theorem dX11_price_2 : decode cX11_price 2 = .ok (.invokevirtual 120, 3) := by decide +kernel
theorem dX11_price_5 : decode cX11_price 5 = .ok (.astore_n 3, 1) := by decide +kernel
theorem dX11_price_6 : decode cX11_price 6 = .ok (.aload_n 3, 1) := by decide +kernel
theorem dX11_price_7 : decode cX11_price 7 = .ok (.ifnull 13, 3) := by decide +kernel
theorem dX11_price_10 : decode cX11_price 10 = .ok (.iload_n 2, 1) := by decide +kernel
theorem dX11_price_11 : decode cX11_price 11 = .ok (.iconst 0, 1) := by decide +kernel
theorem dX11_price_12 : decode cX11_price 12 = .ok (.bipush 99, 2) := by decide +kernel
theorem dX11_price_14 : decode cX11_price 14 = .ok (.invokestatic 109, 3) := by decide +kernel
theorem dX11_price_17 : decode cX11_price 17 = .ok (.ifCond .ne 6, 3) := by decide +kernel
theorem dX11_price_20 : decode cX11_price 20 = .ok (.bipush (-2), 2) := by decide +kernel
theorem dX11_price_22 : decode cX11_price 22 = .ok (.ireturn, 1) := by decide +kernel
theorem dX11_price_23 : decode cX11_price 23 = .ok (.aload_n 3, 1) := by decide +kernel
theorem dX11_price_24 : decode cX11_price 24 = .ok (.getfield 132, 3) := by decide +kernel
theorem dX11_price_27 : decode cX11_price 27 = .ok (.istore 4, 2) := by decide +kernel
theorem dX11_price_29 : decode cX11_price 29 = .ok (.aload_n 3, 1) := by decide +kernel
theorem dX11_price_30 : decode cX11_price 30 = .ok (.iload_n 2, 1) := by decide +kernel
theorem dX11_price_31 : decode cX11_price 31 = .ok (.putfield 132, 3) := by decide +kernel
theorem dX11_price_34 : decode cX11_price 34 = .ok (.iload 4, 2) := by decide +kernel
theorem dX11_price_36 : decode cX11_price 36 = .ok (.ireturn, 1) := by decide +kernel
theorem dX11_ship_0 : decode cX11_ship 0 = .ok (.aload_n 0, 1) := by decide +kernel
theorem dX11_ship_1 : decode cX11_ship 1 = .ok (.iload_n 1, 1) := by decide +kernel
theorem dX11_ship_2 : decode cX11_ship 2 = .ok (.invokevirtual 120, 3) := by decide +kernel
theorem dX11_ship_5 : decode cX11_ship 5 = .ok (.astore 5, 2) := by decide +kernel
theorem dX11_ship_7 : decode cX11_ship 7 = .ok (.aload 5, 2) := by decide +kernel
theorem dX11_ship_9 : decode cX11_ship 9 = .ok (.ifnull 38, 3) := by decide +kernel
theorem dX11_ship_12 : decode cX11_ship 12 = .ok (.iload_n 2, 1) := by decide +kernel
theorem dX11_ship_13 : decode cX11_ship 13 = .ok (.bipush 100, 2) := by decide +kernel
theorem dX11_ship_15 : decode cX11_ship 15 = .ok (.sipush 9999, 3) := by decide +kernel
theorem dX11_ship_18 : decode cX11_ship 18 = .ok (.invokestatic 109, 3) := by decide +kernel
theorem dX11_ship_21 : decode cX11_ship 21 = .ok (.ifCond .eq 26, 3) := by decide +kernel
theorem dX11_ship_24 : decode cX11_ship 24 = .ok (.iload_n 3, 1) := by decide +kernel
theorem dX11_ship_25 : decode cX11_ship 25 = .ok (.bipush 10, 2) := by decide +kernel
theorem dX11_ship_27 : decode cX11_ship 27 = .ok (.sipush 999, 3) := by decide +kernel
theorem dX11_ship_30 : decode cX11_ship 30 = .ok (.invokestatic 109, 3) := by decide +kernel
theorem dX11_ship_33 : decode cX11_ship 33 = .ok (.ifCond .eq 14, 3) := by decide +kernel
theorem dX11_ship_36 : decode cX11_ship 36 = .ok (.iload 4, 2) := by decide +kernel
theorem dX11_ship_38 : decode cX11_ship 38 = .ok (.iconst 1, 1) := by decide +kernel
theorem dX11_ship_39 : decode cX11_ship 39 = .ok (.bipush 50, 2) := by decide +kernel
theorem dX11_ship_41 : decode cX11_ship 41 = .ok (.invokestatic 109, 3) := by decide +kernel
theorem dX11_ship_44 : decode cX11_ship 44 = .ok (.ifCond .ne 6, 3) := by decide +kernel
theorem dX11_ship_47 : decode cX11_ship 47 = .ok (.bipush (-2), 2) := by decide +kernel
theorem dX11_ship_49 : decode cX11_ship 49 = .ok (.ireturn, 1) := by decide +kernel
theorem dX11_ship_50 : decode cX11_ship 50 = .ok (.aload_n 0, 1) := by decide +kernel
theorem dX11_ship_51 : decode cX11_ship 51 = .ok (.getfield 135, 3) := by decide +kernel
theorem dX11_ship_54 : decode cX11_ship 54 = .ok (.iconst 5, 1) := by decide +kernel
theorem dX11_ship_55 : decode cX11_ship 55 = .ok (.if_icmp .lt 6, 3) := by decide +kernel
theorem dX11_ship_58 : decode cX11_ship 58 = .ok (.bipush (-4), 2) := by decide +kernel
theorem dX11_ship_60 : decode cX11_ship 60 = .ok (.ireturn, 1) := by decide +kernel
theorem dX11_ship_61 : decode cX11_ship 61 = .ok (.aload_n 0, 1) := by decide +kernel
theorem dX11_ship_62 : decode cX11_ship 62 = .ok (.getfield 17, 3) := by decide +kernel
theorem dX11_ship_65 : decode cX11_ship 65 = .ok (.aload_n 0, 1) := by decide +kernel
theorem dX11_ship_66 : decode cX11_ship 66 = .ok (.getfield 135, 3) := by decide +kernel
theorem dX11_ship_69 : decode cX11_ship 69 = .ok (.new 15, 3) := by decide +kernel
theorem dX11_ship_72 : decode cX11_ship 72 = .ok (.dup, 1) := by decide +kernel
theorem dX11_ship_73 : decode cX11_ship 73 = .ok (.aload_n 0, 1) := by decide +kernel
theorem dX11_ship_74 : decode cX11_ship 74 = .ok (.getfield 135, 3) := by decide +kernel
theorem dX11_ship_77 : decode cX11_ship 77 = .ok (.aload 5, 2) := by decide +kernel
theorem dX11_ship_79 : decode cX11_ship 79 = .ok (.iload_n 2, 1) := by decide +kernel
theorem dX11_ship_80 : decode cX11_ship 80 = .ok (.iload_n 3, 1) := by decide +kernel
theorem dX11_ship_81 : decode cX11_ship 81 = .ok (.iload 4, 2) := by decide +kernel
theorem dX11_ship_83 : decode cX11_ship 83 = .ok (.invokespecial 138, 3) := by decide +kernel
theorem dX11_ship_86 : decode cX11_ship 86 = .ok (.aastore, 1) := by decide +kernel
theorem dX11_ship_87 : decode cX11_ship 87 = .ok (.aload_n 0, 1) := by decide +kernel
theorem dX11_ship_88 : decode cX11_ship 88 = .ok (.dup, 1) := by decide +kernel
theorem dX11_ship_89 : decode cX11_ship 89 = .ok (.getfield 135, 3) := by decide +kernel
theorem dX11_ship_92 : decode cX11_ship 92 = .ok (.iconst 1, 1) := by decide +kernel
theorem dX11_ship_93 : decode cX11_ship 93 = .ok (.iadd, 1) := by decide +kernel
theorem dX11_ship_94 : decode cX11_ship 94 = .ok (.putfield 135, 3) := by decide +kernel
theorem dX11_ship_97 : decode cX11_ship 97 = .ok (.aload_n 0, 1) := by decide +kernel
theorem dX11_ship_98 : decode cX11_ship 98 = .ok (.getfield 135, 3) := by decide +kernel
theorem dX11_ship_101 : decode cX11_ship 101 = .ok (.iconst 1, 1) := by decide +kernel
theorem dX11_ship_102 : decode cX11_ship 102 = .ok (.isub, 1) := by decide +kernel
theorem dX11_ship_103 : decode cX11_ship 103 = .ok (.ireturn, 1) := by decide +kernel
theorem dX11_speed_0 : decode cX11_speed 0 = .ok (.aload_n 0, 1) := by decide +kernel
theorem dX11_speed_1 : decode cX11_speed 1 = .ok (.iload_n 1, 1) := by decide +kernel
theorem dX11_speed_2 : decode cX11_speed 2 = .ok (.invokevirtual 141, 3) := by decide +kernel
theorem dX11_speed_5 : decode cX11_speed 5 = .ok (.astore_n 3, 1) := by decide +kernel
theorem dX11_speed_6 : decode cX11_speed 6 = .ok (.aload_n 3, 1) := by decide +kernel
theorem dX11_speed_7 : decode cX11_speed 7 = .ok (.ifnull 14, 3) := by decide +kernel
theorem dX11_speed_10 : decode cX11_speed 10 = .ok (.iload_n 2, 1) := by decide +kernel
theorem dX11_speed_11 : decode cX11_speed 11 = .ok (.bipush 6, 2) := by decide +kernel
theorem dX11_speed_13 : decode cX11_speed 13 = .ok (.bipush 14, 2) := by decide +kernel
theorem dX11_speed_15 : decode cX11_speed 15 = .ok (.invokestatic 109, 3) := by decide +kernel
theorem dX11_speed_18 : decode cX11_speed 18 = .ok (.ifCond .ne 6, 3) := by decide +kernel
theorem dX11_speed_21 : decode cX11_speed 21 = .ok (.bipush (-2), 2) := by decide +kernel
theorem dX11_speed_23 : decode cX11_speed 23 = .ok (.ireturn, 1) := by decide +kernel
theorem dX11_speed_24 : decode cX11_speed 24 = .ok (.aload_n 3, 1) := by decide +kernel
theorem dX11_speed_25 : decode cX11_speed 25 = .ok (.getfield 145, 3) := by decide +kernel
theorem dX11_speed_28 : decode cX11_speed 28 = .ok (.istore 4, 2) := by decide +kernel
theorem dX11_speed_30 : decode cX11_speed 30 = .ok (.aload_n 3, 1) := by decide +kernel
theorem dX11_speed_31 : decode cX11_speed 31 = .ok (.iload_n 2, 1) := by decide +kernel
theorem dX11_speed_32 : decode cX11_speed 32 = .ok (.putfield 145, 3) := by decide +kernel
theorem dX11_speed_35 : decode cX11_speed 35 = .ok (.iload 4, 2) := by decide +kernel
theorem dX11_speed_37 : decode cX11_speed 37 = .ok (.ireturn, 1) := by decide +kernel
theorem dX11_free_0 : decode cX11_free 0 = .ok (.aload_n 0, 1) := by decide +kernel
theorem dX11_free_1 : decode cX11_free 1 = .ok (.iload_n 1, 1) := by decide +kernel
theorem dX11_free_2 : decode cX11_free 2 = .ok (.invokevirtual 141, 3) := by decide +kernel
theorem dX11_free_5 : decode cX11_free 5 = .ok (.astore 4, 2) := by decide +kernel
theorem dX11_free_7 : decode cX11_free 7 = .ok (.aload_n 0, 1) := by decide +kernel
theorem dX11_free_8 : decode cX11_free 8 = .ok (.iload_n 2, 1) := by decide +kernel
theorem dX11_free_9 : decode cX11_free 9 = .ok (.invokevirtual 120, 3) := by decide +kernel
theorem dX11_free_12 : decode cX11_free 12 = .ok (.astore 5, 2) := by decide +kernel
theorem dX11_free_14 : decode cX11_free 14 = .ok (.aload 4, 2) := by decide +kernel
theorem dX11_free_16 : decode cX11_free 16 = .ok (.ifnull 15, 3) := by decide +kernel
theorem dX11_free_19 : decode cX11_free 19 = .ok (.aload 5, 2) := by decide +kernel
theorem dX11_free_21 : decode cX11_free 21 = .ok (.ifnull 10, 3) := by decide +kernel
theorem dX11_free_24 : decode cX11_free 24 = .ok (.iload_n 3, 1) := by decide +kernel
theorem dX11_free_25 : decode cX11_free 25 = .ok (.invokestatic 148, 3) := by decide +kernel
theorem dX11_free_28 : decode cX11_free 28 = .ok (.ifCond .ne 6, 3) := by decide +kernel
theorem dX11_free_31 : decode cX11_free 31 = .ok (.bipush (-2), 2) := by decide +kernel
theorem dX11_free_33 : decode cX11_free 33 = .ok (.ireturn, 1) := by decide +kernel
theorem dX11_free_34 : decode cX11_free 34 = .ok (.aload 4, 2) := by decide +kernel
theorem dX11_free_36 : decode cX11_free 36 = .ok (.aload 5, 2) := by decide +kernel
theorem dX11_free_38 : decode cX11_free 38 = .ok (.putfield 152, 3) := by decide +kernel
theorem dX11_free_41 : decode cX11_free 41 = .ok (.aload 4, 2) := by decide +kernel
theorem dX11_free_43 : decode cX11_free 43 = .ok (.iload_n 3, 1) := by decide +kernel
theorem dX11_free_44 : decode cX11_free 44 = .ok (.putfield 156, 3) := by decide +kernel
theorem dX11_free_47 : decode cX11_free 47 = .ok (.iconst 1, 1) := by decide +kernel
theorem dX11_free_48 : decode cX11_free 48 = .ok (.ireturn, 1) := by decide +kernel
theorem dX11_shipTold_0 : decode cX11_shipTold 0 = .ok (.aload_n 0, 1) := by decide +kernel
theorem dX11_shipTold_1 : decode cX11_shipTold 1 = .ok (.iload_n 1, 1) := by decide +kernel
theorem dX11_shipTold_2 : decode cX11_shipTold 2 = .ok (.invokevirtual 141, 3) := by decide +kernel
theorem dX11_shipTold_5 : decode cX11_shipTold 5 = .ok (.astore_n 3, 1) := by decide +kernel
theorem dX11_shipTold_6 : decode cX11_shipTold 6 = .ok (.aload_n 3, 1) := by decide +kernel
theorem dX11_shipTold_7 : decode cX11_shipTold 7 = .ok (.ifnonnull 6, 3) := by decide +kernel
theorem dX11_shipTold_10 : decode cX11_shipTold 10 = .ok (.bipush (-2), 2) := by decide +kernel
theorem dX11_shipTold_12 : decode cX11_shipTold 12 = .ok (.ireturn, 1) := by decide +kernel
theorem dX11_shipTold_13 : decode cX11_shipTold 13 = .ok (.iload_n 2, 1) := by decide +kernel
theorem dX11_shipTold_14 : decode cX11_shipTold 14 = .ok (.tableswitch 80 0 6 #[42, 50, 55, 60, 65, 70, 75], 42) := by decide +kernel
theorem dX11_shipTold_56 : decode cX11_shipTold 56 = .ok (.aload_n 3, 1) := by decide +kernel
theorem dX11_shipTold_57 : decode cX11_shipTold 57 = .ok (.getfield 152, 3) := by decide +kernel
theorem dX11_shipTold_60 : decode cX11_shipTold 60 = .ok (.getfield 159, 3) := by decide +kernel
theorem dX11_shipTold_63 : decode cX11_shipTold 63 = .ok (.ireturn, 1) := by decide +kernel
theorem dX11_shipTold_64 : decode cX11_shipTold 64 = .ok (.aload_n 3, 1) := by decide +kernel
theorem dX11_shipTold_65 : decode cX11_shipTold 65 = .ok (.getfield 156, 3) := by decide +kernel
theorem dX11_shipTold_68 : decode cX11_shipTold 68 = .ok (.ireturn, 1) := by decide +kernel
theorem dX11_shipTold_69 : decode cX11_shipTold 69 = .ok (.aload_n 3, 1) := by decide +kernel
theorem dX11_shipTold_70 : decode cX11_shipTold 70 = .ok (.getfield 162, 3) := by decide +kernel
theorem dX11_shipTold_73 : decode cX11_shipTold 73 = .ok (.ireturn, 1) := by decide +kernel
theorem dX11_shipTold_74 : decode cX11_shipTold 74 = .ok (.aload_n 3, 1) := by decide +kernel
theorem dX11_shipTold_75 : decode cX11_shipTold 75 = .ok (.getfield 165, 3) := by decide +kernel
theorem dX11_shipTold_78 : decode cX11_shipTold 78 = .ok (.ireturn, 1) := by decide +kernel
theorem dX11_shipTold_79 : decode cX11_shipTold 79 = .ok (.aload_n 3, 1) := by decide +kernel
theorem dX11_shipTold_80 : decode cX11_shipTold 80 = .ok (.getfield 168, 3) := by decide +kernel
theorem dX11_shipTold_83 : decode cX11_shipTold 83 = .ok (.ireturn, 1) := by decide +kernel
theorem dX11_shipTold_84 : decode cX11_shipTold 84 = .ok (.aload_n 3, 1) := by decide +kernel
theorem dX11_shipTold_85 : decode cX11_shipTold 85 = .ok (.getfield 145, 3) := by decide +kernel
theorem dX11_shipTold_88 : decode cX11_shipTold 88 = .ok (.ireturn, 1) := by decide +kernel
theorem dX11_shipTold_89 : decode cX11_shipTold 89 = .ok (.aload_n 3, 1) := by decide +kernel
theorem dX11_shipTold_90 : decode cX11_shipTold 90 = .ok (.getfield 171, 3) := by decide +kernel
theorem dX11_shipTold_93 : decode cX11_shipTold 93 = .ok (.ireturn, 1) := by decide +kernel
theorem dX11_shipTold_94 : decode cX11_shipTold 94 = .ok (.bipush (-2), 2) := by decide +kernel
theorem dX11_shipTold_96 : decode cX11_shipTold 96 = .ok (.ireturn, 1) := by decide +kernel
theorem dX11_offer_0 : decode cX11_offer 0 = .ok (.aload_n 0, 1) := by decide +kernel
theorem dX11_offer_1 : decode cX11_offer 1 = .ok (.iload_n 1, 1) := by decide +kernel
theorem dX11_offer_2 : decode cX11_offer 2 = .ok (.invokevirtual 120, 3) := by decide +kernel
theorem dX11_offer_5 : decode cX11_offer 5 = .ok (.astore 7, 2) := by decide +kernel
theorem dX11_offer_7 : decode cX11_offer 7 = .ok (.aload_n 0, 1) := by decide +kernel
theorem dX11_offer_8 : decode cX11_offer 8 = .ok (.iload_n 2, 1) := by decide +kernel
theorem dX11_offer_9 : decode cX11_offer 9 = .ok (.invokevirtual 120, 3) := by decide +kernel
theorem dX11_offer_12 : decode cX11_offer 12 = .ok (.astore 8, 2) := by decide +kernel
theorem dX11_offer_14 : decode cX11_offer 14 = .ok (.aload 7, 2) := by decide +kernel
theorem dX11_offer_16 : decode cX11_offer 16 = .ok (.ifnull 36, 3) := by decide +kernel
theorem dX11_offer_19 : decode cX11_offer 19 = .ok (.aload 8, 2) := by decide +kernel
theorem dX11_offer_21 : decode cX11_offer 21 = .ok (.ifnull 31, 3) := by decide +kernel
theorem dX11_offer_24 : decode cX11_offer 24 = .ok (.iload_n 1, 1) := by decide +kernel
theorem dX11_offer_25 : decode cX11_offer 25 = .ok (.iload_n 2, 1) := by decide +kernel
theorem dX11_offer_26 : decode cX11_offer 26 = .ok (.if_icmp .eq 26, 3) := by decide +kernel
theorem dX11_offer_29 : decode cX11_offer 29 = .ok (.iload_n 3, 1) := by decide +kernel
theorem dX11_offer_30 : decode cX11_offer 30 = .ok (.iconst 1, 1) := by decide +kernel
theorem dX11_offer_31 : decode cX11_offer 31 = .ok (.sipush 9999, 3) := by decide +kernel
theorem dX11_offer_34 : decode cX11_offer 34 = .ok (.invokestatic 109, 3) := by decide +kernel
theorem dX11_offer_37 : decode cX11_offer 37 = .ok (.ifCond .eq 15, 3) := by decide +kernel
theorem dX11_offer_40 : decode cX11_offer 40 = .ok (.iload 4, 2) := by decide +kernel
theorem dX11_offer_42 : decode cX11_offer 42 = .ok (.iconst 0, 1) := by decide +kernel
theorem dX11_offer_43 : decode cX11_offer 43 = .ok (.sipush 9999, 3) := by decide +kernel
theorem dX11_offer_46 : decode cX11_offer 46 = .ok (.invokestatic 109, 3) := by decide +kernel
theorem dX11_offer_49 : decode cX11_offer 49 = .ok (.ifCond .ne 6, 3) := by decide +kernel
theorem dX11_offer_52 : decode cX11_offer 52 = .ok (.bipush (-2), 2) := by decide +kernel
theorem dX11_offer_54 : decode cX11_offer 54 = .ok (.ireturn, 1) := by decide +kernel
theorem dX11_offer_55 : decode cX11_offer 55 = .ok (.iload 5, 2) := by decide +kernel
theorem dX11_offer_57 : decode cX11_offer 57 = .ok (.invokestatic 148, 3) := by decide +kernel
theorem dX11_offer_60 : decode cX11_offer 60 = .ok (.ifCond .eq 18, 3) := by decide +kernel
theorem dX11_offer_63 : decode cX11_offer 63 = .ok (.iload 6, 2) := by decide +kernel
theorem dX11_offer_65 : decode cX11_offer 65 = .ok (.invokestatic 148, 3) := by decide +kernel
theorem dX11_offer_68 : decode cX11_offer 68 = .ok (.ifCond .eq 10, 3) := by decide +kernel
theorem dX11_offer_71 : decode cX11_offer 71 = .ok (.iload 5, 2) := by decide +kernel
theorem dX11_offer_73 : decode cX11_offer 73 = .ok (.iload 6, 2) := by decide +kernel
theorem dX11_offer_75 : decode cX11_offer 75 = .ok (.if_icmp .le 6, 3) := by decide +kernel
theorem dX11_offer_78 : decode cX11_offer 78 = .ok (.bipush (-2), 2) := by decide +kernel
theorem dX11_offer_80 : decode cX11_offer 80 = .ok (.ireturn, 1) := by decide +kernel
theorem dX11_offer_81 : decode cX11_offer 81 = .ok (.aload_n 0, 1) := by decide +kernel
theorem dX11_offer_82 : decode cX11_offer 82 = .ok (.getfield 174, 3) := by decide +kernel
theorem dX11_offer_85 : decode cX11_offer 85 = .ok (.bipush 10, 2) := by decide +kernel
theorem dX11_offer_87 : decode cX11_offer 87 = .ok (.if_icmp .lt 6, 3) := by decide +kernel
theorem dX11_offer_90 : decode cX11_offer 90 = .ok (.bipush (-4), 2) := by decide +kernel
theorem dX11_offer_92 : decode cX11_offer 92 = .ok (.ireturn, 1) := by decide +kernel
theorem dX11_offer_93 : decode cX11_offer 93 = .ok (.aload_n 0, 1) := by decide +kernel
theorem dX11_offer_94 : decode cX11_offer 94 = .ok (.getfield 23, 3) := by decide +kernel
theorem dX11_offer_97 : decode cX11_offer 97 = .ok (.aload_n 0, 1) := by decide +kernel
theorem dX11_offer_98 : decode cX11_offer 98 = .ok (.getfield 174, 3) := by decide +kernel
theorem dX11_offer_101 : decode cX11_offer 101 = .ok (.new 21, 3) := by decide +kernel
theorem dX11_offer_104 : decode cX11_offer 104 = .ok (.dup, 1) := by decide +kernel
theorem dX11_offer_105 : decode cX11_offer 105 = .ok (.aload 7, 2) := by decide +kernel
theorem dX11_offer_107 : decode cX11_offer 107 = .ok (.aload 8, 2) := by decide +kernel
theorem dX11_offer_109 : decode cX11_offer 109 = .ok (.iload_n 3, 1) := by decide +kernel
theorem dX11_offer_110 : decode cX11_offer 110 = .ok (.iload 4, 2) := by decide +kernel
theorem dX11_offer_112 : decode cX11_offer 112 = .ok (.iload 5, 2) := by decide +kernel
theorem dX11_offer_114 : decode cX11_offer 114 = .ok (.iload 6, 2) := by decide +kernel
theorem dX11_offer_116 : decode cX11_offer 116 = .ok (.invokespecial 177, 3) := by decide +kernel
theorem dX11_offer_119 : decode cX11_offer 119 = .ok (.aastore, 1) := by decide +kernel
theorem dX11_offer_120 : decode cX11_offer 120 = .ok (.aload_n 0, 1) := by decide +kernel
theorem dX11_offer_121 : decode cX11_offer 121 = .ok (.dup, 1) := by decide +kernel
theorem dX11_offer_122 : decode cX11_offer 122 = .ok (.getfield 174, 3) := by decide +kernel
theorem dX11_offer_125 : decode cX11_offer 125 = .ok (.iconst 1, 1) := by decide +kernel
theorem dX11_offer_126 : decode cX11_offer 126 = .ok (.iadd, 1) := by decide +kernel
theorem dX11_offer_127 : decode cX11_offer 127 = .ok (.putfield 174, 3) := by decide +kernel
theorem dX11_offer_130 : decode cX11_offer 130 = .ok (.aload_n 0, 1) := by decide +kernel
theorem dX11_offer_131 : decode cX11_offer 131 = .ok (.getfield 174, 3) := by decide +kernel
theorem dX11_offer_134 : decode cX11_offer 134 = .ok (.iconst 1, 1) := by decide +kernel
theorem dX11_offer_135 : decode cX11_offer 135 = .ok (.isub, 1) := by decide +kernel
theorem dX11_offer_136 : decode cX11_offer 136 = .ok (.ireturn, 1) := by decide +kernel
theorem dX11_why_0 : decode cX11_why 0 = .ok (.aload_n 0, 1) := by decide +kernel
theorem dX11_why_1 : decode cX11_why 1 = .ok (.iload_n 1, 1) := by decide +kernel
theorem dX11_why_2 : decode cX11_why 2 = .ok (.invokevirtual 141, 3) := by decide +kernel
theorem dX11_why_5 : decode cX11_why 5 = .ok (.astore_n 3, 1) := by decide +kernel
theorem dX11_why_6 : decode cX11_why 6 = .ok (.aload_n 0, 1) := by decide +kernel
theorem dX11_why_7 : decode cX11_why 7 = .ok (.iload_n 2, 1) := by decide +kernel
theorem dX11_why_8 : decode cX11_why 8 = .ok (.invokevirtual 180, 3) := by decide +kernel
theorem dX11_why_11 : decode cX11_why 11 = .ok (.astore 4, 2) := by decide +kernel
theorem dX11_why_13 : decode cX11_why 13 = .ok (.aload_n 3, 1) := by decide +kernel
theorem dX11_why_14 : decode cX11_why 14 = .ok (.ifnull 8, 3) := by decide +kernel
theorem dX11_why_17 : decode cX11_why 17 = .ok (.aload 4, 2) := by decide +kernel
theorem dX11_why_19 : decode cX11_why 19 = .ok (.ifnonnull 6, 3) := by decide +kernel
theorem dX11_why_22 : decode cX11_why 22 = .ok (.bipush (-2), 2) := by decide +kernel
theorem dX11_why_24 : decode cX11_why 24 = .ok (.ireturn, 1) := by decide +kernel
theorem dX11_why_25 : decode cX11_why 25 = .ok (.aload_n 0, 1) := by decide +kernel
theorem dX11_why_26 : decode cX11_why 26 = .ok (.getfield 51, 3) := by decide +kernel
theorem dX11_why_29 : decode cX11_why 29 = .ok (.aload_n 3, 1) := by decide +kernel
theorem dX11_why_30 : decode cX11_why 30 = .ok (.aload_n 3, 1) := by decide +kernel
theorem dX11_why_31 : decode cX11_why 31 = .ok (.getfield 152, 3) := by decide +kernel
theorem dX11_why_34 : decode cX11_why 34 = .ok (.aload_n 3, 1) := by decide +kernel
theorem dX11_why_35 : decode cX11_why 35 = .ok (.getfield 156, 3) := by decide +kernel
theorem dX11_why_38 : decode cX11_why 38 = .ok (.aload 4, 2) := by decide +kernel
theorem dX11_why_40 : decode cX11_why 40 = .ok (.invokevirtual 184, 3) := by decide +kernel
theorem dX11_why_43 : decode cX11_why 43 = .ok (.aload_n 0, 1) := by decide +kernel
theorem dX11_why_44 : decode cX11_why 44 = .ok (.getfield 51, 3) := by decide +kernel
theorem dX11_why_47 : decode cX11_why 47 = .ok (.getfield 188, 3) := by decide +kernel
theorem dX11_why_50 : decode cX11_why 50 = .ok (.ireturn, 1) := by decide +kernel
theorem dX11_estimate_0 : decode cX11_estimate 0 = .ok (.aload_n 0, 1) := by decide +kernel
theorem dX11_estimate_1 : decode cX11_estimate 1 = .ok (.iload_n 1, 1) := by decide +kernel
theorem dX11_estimate_2 : decode cX11_estimate 2 = .ok (.iload_n 2, 1) := by decide +kernel
theorem dX11_estimate_3 : decode cX11_estimate 3 = .ok (.invokevirtual 191, 3) := by decide +kernel
theorem dX11_estimate_6 : decode cX11_estimate 6 = .ok (.ifCond .eq 7, 3) := by decide +kernel
theorem dX11_estimate_9 : decode cX11_estimate 9 = .ok (.ldc2_w 194, 3) := by decide +kernel
theorem dX11_estimate_12 : decode cX11_estimate 12 = .ok (.lreturn, 1) := by decide +kernel
theorem dX11_estimate_13 : decode cX11_estimate 13 = .ok (.iload_n 3, 1) := by decide +kernel
theorem dX11_estimate_14 : decode cX11_estimate 14 = .ok (.tableswitch 65 0 3 #[30, 39, 48, 57], 30) := by decide +kernel
theorem dX11_estimate_44 : decode cX11_estimate 44 = .ok (.aload_n 0, 1) := by decide +kernel
theorem dX11_estimate_45 : decode cX11_estimate 45 = .ok (.getfield 51, 3) := by decide +kernel
theorem dX11_estimate_48 : decode cX11_estimate 48 = .ok (.getfield 196, 3) := by decide +kernel
theorem dX11_estimate_51 : decode cX11_estimate 51 = .ok (.i2l, 1) := by decide +kernel
theorem dX11_estimate_52 : decode cX11_estimate 52 = .ok (.lreturn, 1) := by decide +kernel
theorem dX11_estimate_53 : decode cX11_estimate 53 = .ok (.aload_n 0, 1) := by decide +kernel
theorem dX11_estimate_54 : decode cX11_estimate 54 = .ok (.getfield 51, 3) := by decide +kernel
theorem dX11_estimate_57 : decode cX11_estimate 57 = .ok (.getfield 199, 3) := by decide +kernel
theorem dX11_estimate_60 : decode cX11_estimate 60 = .ok (.i2l, 1) := by decide +kernel
theorem dX11_estimate_61 : decode cX11_estimate 61 = .ok (.lreturn, 1) := by decide +kernel
theorem dX11_estimate_62 : decode cX11_estimate 62 = .ok (.aload_n 0, 1) := by decide +kernel
theorem dX11_estimate_63 : decode cX11_estimate 63 = .ok (.getfield 51, 3) := by decide +kernel
theorem dX11_estimate_66 : decode cX11_estimate 66 = .ok (.getfield 202, 3) := by decide +kernel
theorem dX11_estimate_69 : decode cX11_estimate 69 = .ok (.i2l, 1) := by decide +kernel
theorem dX11_estimate_70 : decode cX11_estimate 70 = .ok (.lreturn, 1) := by decide +kernel
theorem dX11_estimate_71 : decode cX11_estimate 71 = .ok (.aload_n 0, 1) := by decide +kernel
theorem dX11_estimate_72 : decode cX11_estimate 72 = .ok (.getfield 51, 3) := by decide +kernel
theorem dX11_estimate_75 : decode cX11_estimate 75 = .ok (.getfield 205, 3) := by decide +kernel
theorem dX11_estimate_78 : decode cX11_estimate 78 = .ok (.lreturn, 1) := by decide +kernel
theorem dX11_estimate_79 : decode cX11_estimate 79 = .ok (.ldc2_w 194, 3) := by decide +kernel
theorem dX11_estimate_82 : decode cX11_estimate 82 = .ok (.lreturn, 1) := by decide +kernel
theorem dX11_best_0 : decode cX11_best 0 = .ok (.aload_n 0, 1) := by decide +kernel
theorem dX11_best_1 : decode cX11_best 1 = .ok (.iload_n 1, 1) := by decide +kernel
theorem dX11_best_2 : decode cX11_best 2 = .ok (.invokevirtual 141, 3) := by decide +kernel
theorem dX11_best_5 : decode cX11_best 5 = .ok (.astore 4, 2) := by decide +kernel
theorem dX11_best_7 : decode cX11_best 7 = .ok (.aload 4, 2) := by decide +kernel
theorem dX11_best_9 : decode cX11_best 9 = .ok (.ifnull 12, 3) := by decide +kernel
theorem dX11_best_12 : decode cX11_best 12 = .ok (.iload_n 2, 1) := by decide +kernel
theorem dX11_best_13 : decode cX11_best 13 = .ok (.iconst 1, 1) := by decide +kernel
theorem dX11_best_14 : decode cX11_best 14 = .ok (.iconst 3, 1) := by decide +kernel
theorem dX11_best_15 : decode cX11_best 15 = .ok (.invokestatic 109, 3) := by decide +kernel
theorem dX11_best_18 : decode cX11_best 18 = .ok (.ifCond .ne 7, 3) := by decide +kernel
theorem dX11_best_21 : decode cX11_best 21 = .ok (.ldc2_w 194, 3) := by decide +kernel
theorem dX11_best_24 : decode cX11_best 24 = .ok (.lreturn, 1) := by decide +kernel
theorem dX11_best_25 : decode cX11_best 25 = .ok (.aload_n 0, 1) := by decide +kernel
theorem dX11_best_26 : decode cX11_best 26 = .ok (.getfield 58, 3) := by decide +kernel
theorem dX11_best_29 : decode cX11_best 29 = .ok (.aload 4, 2) := by decide +kernel
theorem dX11_best_31 : decode cX11_best 31 = .ok (.aload_n 0, 1) := by decide +kernel
theorem dX11_best_32 : decode cX11_best 32 = .ok (.getfield 23, 3) := by decide +kernel
theorem dX11_best_35 : decode cX11_best 35 = .ok (.aload_n 0, 1) := by decide +kernel
theorem dX11_best_36 : decode cX11_best 36 = .ok (.getfield 174, 3) := by decide +kernel
theorem dX11_best_39 : decode cX11_best 39 = .ok (.iload_n 2, 1) := by decide +kernel
theorem dX11_best_40 : decode cX11_best 40 = .ok (.invokevirtual 209, 3) := by decide +kernel
theorem dX11_best_43 : decode cX11_best 43 = .ok (.aload_n 0, 1) := by decide +kernel
theorem dX11_best_44 : decode cX11_best 44 = .ok (.getfield 58, 3) := by decide +kernel
theorem dX11_best_47 : decode cX11_best 47 = .ok (.getfield 213, 3) := by decide +kernel
theorem dX11_best_50 : decode cX11_best 50 = .ok (.ifCond .ne 7, 3) := by decide +kernel
theorem dX11_best_53 : decode cX11_best 53 = .ok (.ldc2_w 194, 3) := by decide +kernel
theorem dX11_best_56 : decode cX11_best 56 = .ok (.lreturn, 1) := by decide +kernel
theorem dX11_best_57 : decode cX11_best 57 = .ok (.iload_n 3, 1) := by decide +kernel
theorem dX11_best_58 : decode cX11_best 58 = .ok (.tableswitch 52 0 2 #[26, 34, 43], 26) := by decide +kernel
theorem dX11_best_84 : decode cX11_best 84 = .ok (.aload_n 0, 1) := by decide +kernel
theorem dX11_best_85 : decode cX11_best 85 = .ok (.getfield 58, 3) := by decide +kernel
theorem dX11_best_88 : decode cX11_best 88 = .ok (.getfield 216, 3) := by decide +kernel
theorem dX11_best_91 : decode cX11_best 91 = .ok (.lreturn, 1) := by decide +kernel
theorem dX11_best_92 : decode cX11_best 92 = .ok (.aload_n 0, 1) := by decide +kernel
theorem dX11_best_93 : decode cX11_best 93 = .ok (.getfield 58, 3) := by decide +kernel
theorem dX11_best_96 : decode cX11_best 96 = .ok (.getfield 217, 3) := by decide +kernel
theorem dX11_best_99 : decode cX11_best 99 = .ok (.i2l, 1) := by decide +kernel
theorem dX11_best_100 : decode cX11_best 100 = .ok (.lreturn, 1) := by decide +kernel
theorem dX11_best_101 : decode cX11_best 101 = .ok (.aload_n 0, 1) := by decide +kernel
theorem dX11_best_102 : decode cX11_best 102 = .ok (.getfield 58, 3) := by decide +kernel
theorem dX11_best_105 : decode cX11_best 105 = .ok (.getfield 213, 3) := by decide +kernel
theorem dX11_best_108 : decode cX11_best 108 = .ok (.i2l, 1) := by decide +kernel
theorem dX11_best_109 : decode cX11_best 109 = .ok (.lreturn, 1) := by decide +kernel
theorem dX11_best_110 : decode cX11_best 110 = .ok (.ldc2_w 194, 3) := by decide +kernel
theorem dX11_best_113 : decode cX11_best 113 = .ok (.lreturn, 1) := by decide +kernel
theorem dX11_chain_0 : decode cX11_chain 0 = .ok (.aload_n 0, 1) := by decide +kernel
theorem dX11_chain_1 : decode cX11_chain 1 = .ok (.iload_n 1, 1) := by decide +kernel
theorem dX11_chain_2 : decode cX11_chain 2 = .ok (.invokevirtual 141, 3) := by decide +kernel
theorem dX11_chain_5 : decode cX11_chain 5 = .ok (.astore 4, 2) := by decide +kernel
theorem dX11_chain_7 : decode cX11_chain 7 = .ok (.aload 4, 2) := by decide +kernel
theorem dX11_chain_9 : decode cX11_chain 9 = .ok (.ifnull 12, 3) := by decide +kernel
theorem dX11_chain_12 : decode cX11_chain 12 = .ok (.iload_n 2, 1) := by decide +kernel
theorem dX11_chain_13 : decode cX11_chain 13 = .ok (.iconst 1, 1) := by decide +kernel
theorem dX11_chain_14 : decode cX11_chain 14 = .ok (.iconst 3, 1) := by decide +kernel
theorem dX11_chain_15 : decode cX11_chain 15 = .ok (.invokestatic 109, 3) := by decide +kernel
theorem dX11_chain_18 : decode cX11_chain 18 = .ok (.ifCond .ne 6, 3) := by decide +kernel
theorem dX11_chain_21 : decode cX11_chain 21 = .ok (.bipush (-2), 2) := by decide +kernel
theorem dX11_chain_23 : decode cX11_chain 23 = .ok (.ireturn, 1) := by decide +kernel
theorem dX11_chain_24 : decode cX11_chain 24 = .ok (.aload_n 0, 1) := by decide +kernel
theorem dX11_chain_25 : decode cX11_chain 25 = .ok (.getfield 58, 3) := by decide +kernel
theorem dX11_chain_28 : decode cX11_chain 28 = .ok (.aload 4, 2) := by decide +kernel
theorem dX11_chain_30 : decode cX11_chain 30 = .ok (.aload_n 0, 1) := by decide +kernel
theorem dX11_chain_31 : decode cX11_chain 31 = .ok (.getfield 23, 3) := by decide +kernel
theorem dX11_chain_34 : decode cX11_chain 34 = .ok (.aload_n 0, 1) := by decide +kernel
theorem dX11_chain_35 : decode cX11_chain 35 = .ok (.getfield 174, 3) := by decide +kernel
theorem dX11_chain_38 : decode cX11_chain 38 = .ok (.iload_n 2, 1) := by decide +kernel
theorem dX11_chain_39 : decode cX11_chain 39 = .ok (.invokevirtual 209, 3) := by decide +kernel
theorem dX11_chain_42 : decode cX11_chain 42 = .ok (.aload_n 0, 1) := by decide +kernel
theorem dX11_chain_43 : decode cX11_chain 43 = .ok (.getfield 58, 3) := by decide +kernel
theorem dX11_chain_46 : decode cX11_chain 46 = .ok (.iload_n 3, 1) := by decide +kernel
theorem dX11_chain_47 : decode cX11_chain 47 = .ok (.invokevirtual 220, 3) := by decide +kernel
theorem dX11_chain_50 : decode cX11_chain 50 = .ok (.ireturn, 1) := by decide +kernel
theorem dX11_fix_0 : decode cX11_fix 0 = .ok (.aload_n 0, 1) := by decide +kernel
theorem dX11_fix_1 : decode cX11_fix 1 = .ok (.iload_n 1, 1) := by decide +kernel
theorem dX11_fix_2 : decode cX11_fix 2 = .ok (.invokevirtual 141, 3) := by decide +kernel
theorem dX11_fix_5 : decode cX11_fix 5 = .ok (.astore_n 3, 1) := by decide +kernel
theorem dX11_fix_6 : decode cX11_fix 6 = .ok (.aload_n 0, 1) := by decide +kernel
theorem dX11_fix_7 : decode cX11_fix 7 = .ok (.iload_n 2, 1) := by decide +kernel
theorem dX11_fix_8 : decode cX11_fix 8 = .ok (.invokevirtual 180, 3) := by decide +kernel
theorem dX11_fix_11 : decode cX11_fix 11 = .ok (.astore 4, 2) := by decide +kernel
theorem dX11_fix_13 : decode cX11_fix 13 = .ok (.aload_n 3, 1) := by decide +kernel
theorem dX11_fix_14 : decode cX11_fix 14 = .ok (.ifnull 8, 3) := by decide +kernel
theorem dX11_fix_17 : decode cX11_fix 17 = .ok (.aload 4, 2) := by decide +kernel
theorem dX11_fix_19 : decode cX11_fix 19 = .ok (.ifnonnull 6, 3) := by decide +kernel
theorem dX11_fix_22 : decode cX11_fix 22 = .ok (.bipush (-2), 2) := by decide +kernel
theorem dX11_fix_24 : decode cX11_fix 24 = .ok (.ireturn, 1) := by decide +kernel
theorem dX11_fix_25 : decode cX11_fix 25 = .ok (.aload_n 0, 1) := by decide +kernel
theorem dX11_fix_26 : decode cX11_fix 26 = .ok (.getfield 51, 3) := by decide +kernel
theorem dX11_fix_29 : decode cX11_fix 29 = .ok (.aload_n 3, 1) := by decide +kernel
theorem dX11_fix_30 : decode cX11_fix 30 = .ok (.aload_n 3, 1) := by decide +kernel
theorem dX11_fix_31 : decode cX11_fix 31 = .ok (.getfield 152, 3) := by decide +kernel
theorem dX11_fix_34 : decode cX11_fix 34 = .ok (.aload_n 3, 1) := by decide +kernel
theorem dX11_fix_35 : decode cX11_fix 35 = .ok (.getfield 156, 3) := by decide +kernel
theorem dX11_fix_38 : decode cX11_fix 38 = .ok (.aload 4, 2) := by decide +kernel
theorem dX11_fix_40 : decode cX11_fix 40 = .ok (.invokevirtual 184, 3) := by decide +kernel
theorem dX11_fix_43 : decode cX11_fix 43 = .ok (.aload_n 0, 1) := by decide +kernel
theorem dX11_fix_44 : decode cX11_fix 44 = .ok (.getfield 51, 3) := by decide +kernel
theorem dX11_fix_47 : decode cX11_fix 47 = .ok (.getfield 188, 3) := by decide +kernel
theorem dX11_fix_50 : decode cX11_fix 50 = .ok (.ifCond .eq 14, 3) := by decide +kernel
theorem dX11_fix_53 : decode cX11_fix 53 = .ok (.bipush (-20), 2) := by decide +kernel
theorem dX11_fix_55 : decode cX11_fix 55 = .ok (.aload_n 0, 1) := by decide +kernel
theorem dX11_fix_56 : decode cX11_fix 56 = .ok (.getfield 51, 3) := by decide +kernel
theorem dX11_fix_59 : decode cX11_fix 59 = .ok (.getfield 188, 3) := by decide +kernel
theorem dX11_fix_62 : decode cX11_fix 62 = .ok (.isub, 1) := by decide +kernel
theorem dX11_fix_63 : decode cX11_fix 63 = .ok (.ireturn, 1) := by decide +kernel
theorem dX11_fix_64 : decode cX11_fix 64 = .ok (.aload_n 3, 1) := by decide +kernel
theorem dX11_fix_65 : decode cX11_fix 65 = .ok (.aload 4, 2) := by decide +kernel
theorem dX11_fix_67 : decode cX11_fix 67 = .ok (.getfield 224, 3) := by decide +kernel
theorem dX11_fix_70 : decode cX11_fix 70 = .ok (.putfield 152, 3) := by decide +kernel
theorem dX11_fix_73 : decode cX11_fix 73 = .ok (.aload_n 3, 1) := by decide +kernel
theorem dX11_fix_74 : decode cX11_fix 74 = .ok (.aload_n 0, 1) := by decide +kernel
theorem dX11_fix_75 : decode cX11_fix 75 = .ok (.getfield 51, 3) := by decide +kernel
theorem dX11_fix_78 : decode cX11_fix 78 = .ok (.getfield 199, 3) := by decide +kernel
theorem dX11_fix_81 : decode cX11_fix 81 = .ok (.putfield 156, 3) := by decide +kernel
theorem dX11_fix_84 : decode cX11_fix 84 = .ok (.aload 4, 2) := by decide +kernel
theorem dX11_fix_86 : decode cX11_fix 86 = .ok (.iconst 1, 1) := by decide +kernel
theorem dX11_fix_87 : decode cX11_fix 87 = .ok (.putfield 227, 3) := by decide +kernel
theorem dX11_fix_90 : decode cX11_fix 90 = .ok (.iconst 1, 1) := by decide +kernel
theorem dX11_fix_91 : decode cX11_fix 91 = .ok (.ireturn, 1) := by decide +kernel
theorem dX11_go_0 : decode cX11_go 0 = .ok (.aload_n 0, 1) := by decide +kernel
theorem dX11_go_1 : decode cX11_go 1 = .ok (.iload_n 1, 1) := by decide +kernel
theorem dX11_go_2 : decode cX11_go 2 = .ok (.invokevirtual 120, 3) := by decide +kernel
theorem dX11_go_5 : decode cX11_go 5 = .ok (.astore_n 2, 1) := by decide +kernel
theorem dX11_go_6 : decode cX11_go 6 = .ok (.aload_n 2, 1) := by decide +kernel
theorem dX11_go_7 : decode cX11_go 7 = .ok (.ifnull 11, 3) := by decide +kernel
theorem dX11_go_10 : decode cX11_go 10 = .ok (.aload_n 0, 1) := by decide +kernel
theorem dX11_go_11 : decode cX11_go 11 = .ok (.aload_n 2, 1) := by decide +kernel
theorem dX11_go_12 : decode cX11_go 12 = .ok (.invokevirtual 231, 3) := by decide +kernel
theorem dX11_go_15 : decode cX11_go 15 = .ok (.ifCond .eq 6, 3) := by decide +kernel
theorem dX11_go_18 : decode cX11_go 18 = .ok (.bipush (-2), 2) := by decide +kernel
theorem dX11_go_20 : decode cX11_go 20 = .ok (.ireturn, 1) := by decide +kernel
theorem dX11_go_21 : decode cX11_go 21 = .ok (.aload_n 0, 1) := by decide +kernel
theorem dX11_go_22 : decode cX11_go 22 = .ok (.getfield 235, 3) := by decide +kernel
theorem dX11_go_25 : decode cX11_go 25 = .ok (.bipush 6, 2) := by decide +kernel
theorem dX11_go_27 : decode cX11_go 27 = .ok (.if_icmp .lt 6, 3) := by decide +kernel
theorem dX11_go_30 : decode cX11_go 30 = .ok (.bipush (-4), 2) := by decide +kernel
theorem dX11_go_32 : decode cX11_go 32 = .ok (.ireturn, 1) := by decide +kernel
theorem dX11_go_33 : decode cX11_go 33 = .ok (.aload_n 0, 1) := by decide +kernel
theorem dX11_go_34 : decode cX11_go 34 = .ok (.getfield 45, 3) := by decide +kernel
theorem dX11_go_37 : decode cX11_go 37 = .ok (.aload_n 0, 1) := by decide +kernel
theorem dX11_go_38 : decode cX11_go 38 = .ok (.getfield 235, 3) := by decide +kernel
theorem dX11_go_41 : decode cX11_go 41 = .ok (.aload_n 2, 1) := by decide +kernel
theorem dX11_go_42 : decode cX11_go 42 = .ok (.aastore, 1) := by decide +kernel
theorem dX11_go_43 : decode cX11_go 43 = .ok (.aload_n 0, 1) := by decide +kernel
theorem dX11_go_44 : decode cX11_go 44 = .ok (.dup, 1) := by decide +kernel
theorem dX11_go_45 : decode cX11_go 45 = .ok (.getfield 235, 3) := by decide +kernel
theorem dX11_go_48 : decode cX11_go 48 = .ok (.iconst 1, 1) := by decide +kernel
theorem dX11_go_49 : decode cX11_go 49 = .ok (.iadd, 1) := by decide +kernel
theorem dX11_go_50 : decode cX11_go 50 = .ok (.putfield 235, 3) := by decide +kernel
theorem dX11_go_53 : decode cX11_go 53 = .ok (.aload_n 0, 1) := by decide +kernel
theorem dX11_go_54 : decode cX11_go 54 = .ok (.getfield 235, 3) := by decide +kernel
theorem dX11_go_57 : decode cX11_go 57 = .ok (.ireturn, 1) := by decide +kernel
theorem dX11_clear_0 : decode cX11_clear 0 = .ok (.aload_n 0, 1) := by decide +kernel
theorem dX11_clear_1 : decode cX11_clear 1 = .ok (.getfield 235, 3) := by decide +kernel
theorem dX11_clear_4 : decode cX11_clear 4 = .ok (.istore_n 1, 1) := by decide +kernel
theorem dX11_clear_5 : decode cX11_clear 5 = .ok (.aload_n 0, 1) := by decide +kernel
theorem dX11_clear_6 : decode cX11_clear 6 = .ok (.iconst 0, 1) := by decide +kernel
theorem dX11_clear_7 : decode cX11_clear 7 = .ok (.putfield 235, 3) := by decide +kernel
theorem dX11_clear_10 : decode cX11_clear 10 = .ok (.iload_n 1, 1) := by decide +kernel
theorem dX11_clear_11 : decode cX11_clear 11 = .ok (.ireturn, 1) := by decide +kernel
theorem dX11_bunker_0 : decode cX11_bunker 0 = .ok (.aload_n 0, 1) := by decide +kernel
theorem dX11_bunker_1 : decode cX11_bunker 1 = .ok (.iload_n 1, 1) := by decide +kernel
theorem dX11_bunker_2 : decode cX11_bunker 2 = .ok (.invokevirtual 141, 3) := by decide +kernel
theorem dX11_bunker_5 : decode cX11_bunker 5 = .ok (.astore_n 2, 1) := by decide +kernel
theorem dX11_bunker_6 : decode cX11_bunker 6 = .ok (.aload_n 2, 1) := by decide +kernel
theorem dX11_bunker_7 : decode cX11_bunker 7 = .ok (.ifnonnull 6, 3) := by decide +kernel
theorem dX11_bunker_10 : decode cX11_bunker 10 = .ok (.bipush (-2), 2) := by decide +kernel
theorem dX11_bunker_12 : decode cX11_bunker 12 = .ok (.ireturn, 1) := by decide +kernel
theorem dX11_bunker_13 : decode cX11_bunker 13 = .ok (.aload_n 0, 1) := by decide +kernel
theorem dX11_bunker_14 : decode cX11_bunker 14 = .ok (.getfield 65, 3) := by decide +kernel
theorem dX11_bunker_17 : decode cX11_bunker 17 = .ok (.aload_n 2, 1) := by decide +kernel
theorem dX11_bunker_18 : decode cX11_bunker 18 = .ok (.aload_n 0, 1) := by decide +kernel
theorem dX11_bunker_19 : decode cX11_bunker 19 = .ok (.getfield 45, 3) := by decide +kernel
theorem dX11_bunker_22 : decode cX11_bunker 22 = .ok (.aload_n 0, 1) := by decide +kernel
theorem dX11_bunker_23 : decode cX11_bunker 23 = .ok (.getfield 235, 3) := by decide +kernel
theorem dX11_bunker_26 : decode cX11_bunker 26 = .ok (.invokevirtual 238, 3) := by decide +kernel
theorem dX11_bunker_29 : decode cX11_bunker 29 = .ok (.ireturn, 1) := by decide +kernel
theorem dX11_bought_0 : decode cX11_bought 0 = .ok (.aload_n 0, 1) := by decide +kernel
theorem dX11_bought_1 : decode cX11_bought 1 = .ok (.iload_n 1, 1) := by decide +kernel
theorem dX11_bought_2 : decode cX11_bought 2 = .ok (.invokevirtual 141, 3) := by decide +kernel
theorem dX11_bought_5 : decode cX11_bought 5 = .ok (.astore_n 3, 1) := by decide +kernel
theorem dX11_bought_6 : decode cX11_bought 6 = .ok (.aload_n 3, 1) := by decide +kernel
theorem dX11_bought_7 : decode cX11_bought 7 = .ok (.ifnonnull 6, 3) := by decide +kernel
theorem dX11_bought_10 : decode cX11_bought 10 = .ok (.bipush (-2), 2) := by decide +kernel
theorem dX11_bought_12 : decode cX11_bought 12 = .ok (.ireturn, 1) := by decide +kernel
theorem dX11_bought_13 : decode cX11_bought 13 = .ok (.aload_n 0, 1) := by decide +kernel
theorem dX11_bought_14 : decode cX11_bought 14 = .ok (.getfield 65, 3) := by decide +kernel
theorem dX11_bought_17 : decode cX11_bought 17 = .ok (.aload_n 3, 1) := by decide +kernel
theorem dX11_bought_18 : decode cX11_bought 18 = .ok (.aload_n 0, 1) := by decide +kernel
theorem dX11_bought_19 : decode cX11_bought 19 = .ok (.getfield 45, 3) := by decide +kernel
theorem dX11_bought_22 : decode cX11_bought 22 = .ok (.aload_n 0, 1) := by decide +kernel
theorem dX11_bought_23 : decode cX11_bought 23 = .ok (.getfield 235, 3) := by decide +kernel
theorem dX11_bought_26 : decode cX11_bought 26 = .ok (.invokevirtual 238, 3) := by decide +kernel
theorem dX11_bought_29 : decode cX11_bought 29 = .ok (.iconst (-1), 1) := by decide +kernel
theorem dX11_bought_30 : decode cX11_bought 30 = .ok (.if_icmp .ne 5, 3) := by decide +kernel
theorem dX11_bought_33 : decode cX11_bought 33 = .ok (.iconst (-1), 1) := by decide +kernel
theorem dX11_bought_34 : decode cX11_bought 34 = .ok (.ireturn, 1) := by decide +kernel
theorem dX11_bought_35 : decode cX11_bought 35 = .ok (.aload_n 0, 1) := by decide +kernel
theorem dX11_bought_36 : decode cX11_bought 36 = .ok (.getfield 65, 3) := by decide +kernel
theorem dX11_bought_39 : decode cX11_bought 39 = .ok (.iload_n 2, 1) := by decide +kernel
theorem dX11_bought_40 : decode cX11_bought 40 = .ok (.invokevirtual 242, 3) := by decide +kernel
theorem dX11_bought_43 : decode cX11_bought 43 = .ok (.ireturn, 1) := by decide +kernel
theorem dX11_log_0 : decode cX11_log 0 = .ok (.aload_n 0, 1) := by decide +kernel
theorem dX11_log_1 : decode cX11_log 1 = .ok (.iload_n 1, 1) := by decide +kernel
theorem dX11_log_2 : decode cX11_log 2 = .ok (.invokevirtual 141, 3) := by decide +kernel
theorem dX11_log_5 : decode cX11_log 5 = .ok (.astore 4, 2) := by decide +kernel
theorem dX11_log_7 : decode cX11_log 7 = .ok (.aload 4, 2) := by decide +kernel
theorem dX11_log_9 : decode cX11_log 9 = .ok (.ifnull 21, 3) := by decide +kernel
theorem dX11_log_12 : decode cX11_log 12 = .ok (.iload_n 2, 1) := by decide +kernel
theorem dX11_log_13 : decode cX11_log 13 = .ok (.invokestatic 245, 3) := by decide +kernel
theorem dX11_log_16 : decode cX11_log 16 = .ok (.ifCond .eq 14, 3) := by decide +kernel
theorem dX11_log_19 : decode cX11_log 19 = .ok (.iload_n 3, 1) := by decide +kernel
theorem dX11_log_20 : decode cX11_log 20 = .ok (.iconst 1, 1) := by decide +kernel
theorem dX11_log_21 : decode cX11_log 21 = .ok (.sipush 500, 3) := by decide +kernel
theorem dX11_log_24 : decode cX11_log 24 = .ok (.invokestatic 109, 3) := by decide +kernel
theorem dX11_log_27 : decode cX11_log 27 = .ok (.ifCond .ne 6, 3) := by decide +kernel
theorem dX11_log_30 : decode cX11_log 30 = .ok (.bipush (-2), 2) := by decide +kernel
theorem dX11_log_32 : decode cX11_log 32 = .ok (.ireturn, 1) := by decide +kernel
theorem dX11_log_33 : decode cX11_log 33 = .ok (.iload_n 3, 1) := by decide +kernel
theorem dX11_log_34 : decode cX11_log 34 = .ok (.sipush 2000, 3) := by decide +kernel
theorem dX11_log_37 : decode cX11_log 37 = .ok (.aload 4, 2) := by decide +kernel
theorem dX11_log_39 : decode cX11_log 39 = .ok (.getfield 171, 3) := by decide +kernel
theorem dX11_log_42 : decode cX11_log 42 = .ok (.isub, 1) := by decide +kernel
theorem dX11_log_43 : decode cX11_log 43 = .ok (.if_icmp .le 6, 3) := by decide +kernel
theorem dX11_log_46 : decode cX11_log 46 = .ok (.bipush (-4), 2) := by decide +kernel
theorem dX11_log_48 : decode cX11_log 48 = .ok (.ireturn, 1) := by decide +kernel
theorem dX11_log_49 : decode cX11_log 49 = .ok (.iconst 0, 1) := by decide +kernel
theorem dX11_log_50 : decode cX11_log 50 = .ok (.istore 5, 2) := by decide +kernel
theorem dX11_log_52 : decode cX11_log 52 = .ok (.iload 5, 2) := by decide +kernel
theorem dX11_log_54 : decode cX11_log 54 = .ok (.iload_n 3, 1) := by decide +kernel
theorem dX11_log_55 : decode cX11_log 55 = .ok (.if_icmp .ge 15, 3) := by decide +kernel
theorem dX11_log_58 : decode cX11_log 58 = .ok (.aload 4, 2) := by decide +kernel
theorem dX11_log_60 : decode cX11_log 60 = .ok (.iload_n 2, 1) := by decide +kernel
theorem dX11_log_61 : decode cX11_log 61 = .ok (.invokevirtual 248, 3) := by decide +kernel
theorem dX11_log_64 : decode cX11_log 64 = .ok (.iinc 5 1, 3) := by decide +kernel
theorem dX11_log_67 : decode cX11_log 67 = .ok (.goto (-15), 3) := by decide +kernel
theorem dX11_log_70 : decode cX11_log 70 = .ok (.aload 4, 2) := by decide +kernel
theorem dX11_log_72 : decode cX11_log 72 = .ok (.getfield 171, 3) := by decide +kernel
theorem dX11_log_75 : decode cX11_log 75 = .ok (.ireturn, 1) := by decide +kernel
theorem dX11_lay_0 : decode cX11_lay 0 = .ok (.aload_n 0, 1) := by decide +kernel
theorem dX11_lay_1 : decode cX11_lay 1 = .ok (.iload_n 1, 1) := by decide +kernel
theorem dX11_lay_2 : decode cX11_lay 2 = .ok (.invokevirtual 141, 3) := by decide +kernel
theorem dX11_lay_5 : decode cX11_lay 5 = .ok (.astore 6, 2) := by decide +kernel
theorem dX11_lay_7 : decode cX11_lay 7 = .ok (.aload_n 0, 1) := by decide +kernel
theorem dX11_lay_8 : decode cX11_lay 8 = .ok (.iload_n 2, 1) := by decide +kernel
theorem dX11_lay_9 : decode cX11_lay 9 = .ok (.invokevirtual 249, 3) := by decide +kernel
theorem dX11_lay_12 : decode cX11_lay 12 = .ok (.astore 7, 2) := by decide +kernel
theorem dX11_lay_14 : decode cX11_lay 14 = .ok (.aload 6, 2) := by decide +kernel
theorem dX11_lay_16 : decode cX11_lay 16 = .ok (.ifnull 22, 3) := by decide +kernel
theorem dX11_lay_19 : decode cX11_lay 19 = .ok (.aload 7, 2) := by decide +kernel
theorem dX11_lay_21 : decode cX11_lay 21 = .ok (.ifnull 17, 3) := by decide +kernel
theorem dX11_lay_24 : decode cX11_lay 24 = .ok (.iload_n 3, 1) := by decide +kernel
theorem dX11_lay_25 : decode cX11_lay 25 = .ok (.iconst 0, 1) := by decide +kernel
theorem dX11_lay_26 : decode cX11_lay 26 = .ok (.iconst 2, 1) := by decide +kernel
theorem dX11_lay_27 : decode cX11_lay 27 = .ok (.invokestatic 109, 3) := by decide +kernel
theorem dX11_lay_30 : decode cX11_lay 30 = .ok (.ifCond .eq 8, 3) := by decide +kernel
theorem dX11_lay_33 : decode cX11_lay 33 = .ok (.iload 5, 2) := by decide +kernel
theorem dX11_lay_35 : decode cX11_lay 35 = .ok (.ifCond .ge 6, 3) := by decide +kernel
theorem dX11_lay_38 : decode cX11_lay 38 = .ok (.bipush (-2), 2) := by decide +kernel
theorem dX11_lay_40 : decode cX11_lay 40 = .ok (.ireturn, 1) := by decide +kernel
theorem dX11_lay_41 : decode cX11_lay 41 = .ok (.aload 7, 2) := by decide +kernel
theorem dX11_lay_43 : decode cX11_lay 43 = .ok (.getfield 253, 3) := by decide +kernel
theorem dX11_lay_46 : decode cX11_lay 46 = .ok (.iconst (-1), 1) := by decide +kernel
theorem dX11_lay_47 : decode cX11_lay 47 = .ok (.if_icmp .ne 6, 3) := by decide +kernel
theorem dX11_lay_50 : decode cX11_lay 50 = .ok (.bipush (-11), 2) := by decide +kernel
theorem dX11_lay_52 : decode cX11_lay 52 = .ok (.ireturn, 1) := by decide +kernel
theorem dX11_lay_53 : decode cX11_lay 53 = .ok (.aload 7, 2) := by decide +kernel
theorem dX11_lay_55 : decode cX11_lay 55 = .ok (.getfield 253, 3) := by decide +kernel
theorem dX11_lay_58 : decode cX11_lay 58 = .ok (.iload_n 3, 1) := by decide +kernel
theorem dX11_lay_59 : decode cX11_lay 59 = .ok (.if_icmp .eq 6, 3) := by decide +kernel
theorem dX11_lay_62 : decode cX11_lay 62 = .ok (.bipush (-13), 2) := by decide +kernel
theorem dX11_lay_64 : decode cX11_lay 64 = .ok (.ireturn, 1) := by decide +kernel
theorem dX11_lay_65 : decode cX11_lay 65 = .ok (.iconst 0, 1) := by decide +kernel
theorem dX11_lay_66 : decode cX11_lay 66 = .ok (.istore 8, 2) := by decide +kernel
theorem dX11_lay_68 : decode cX11_lay 68 = .ok (.iload 8, 2) := by decide +kernel
theorem dX11_lay_70 : decode cX11_lay 70 = .ok (.iload 5, 2) := by decide +kernel
theorem dX11_lay_72 : decode cX11_lay 72 = .ok (.if_icmp .ge 31, 3) := by decide +kernel
theorem dX11_lay_75 : decode cX11_lay 75 = .ok (.aload 6, 2) := by decide +kernel
theorem dX11_lay_77 : decode cX11_lay 77 = .ok (.aload 7, 2) := by decide +kernel
theorem dX11_lay_79 : decode cX11_lay 79 = .ok (.iload 4, 2) := by decide +kernel
theorem dX11_lay_81 : decode cX11_lay 81 = .ok (.iload 8, 2) := by decide +kernel
theorem dX11_lay_83 : decode cX11_lay 83 = .ok (.iadd, 1) := by decide +kernel
theorem dX11_lay_84 : decode cX11_lay 84 = .ok (.invokestatic 256, 3) := by decide +kernel
theorem dX11_lay_87 : decode cX11_lay 87 = .ok (.istore 9, 2) := by decide +kernel
theorem dX11_lay_89 : decode cX11_lay 89 = .ok (.iload 9, 2) := by decide +kernel
theorem dX11_lay_91 : decode cX11_lay 91 = .ok (.ifCond .eq 6, 3) := by decide +kernel
theorem dX11_lay_94 : decode cX11_lay 94 = .ok (.iload 9, 2) := by decide +kernel
theorem dX11_lay_96 : decode cX11_lay 96 = .ok (.ireturn, 1) := by decide +kernel
theorem dX11_lay_97 : decode cX11_lay 97 = .ok (.iinc 8 1, 3) := by decide +kernel
theorem dX11_lay_100 : decode cX11_lay 100 = .ok (.goto (-32), 3) := by decide +kernel
theorem dX11_lay_103 : decode cX11_lay 103 = .ok (.aload 6, 2) := by decide +kernel
theorem dX11_lay_105 : decode cX11_lay 105 = .ok (.getfield 171, 3) := by decide +kernel
theorem dX11_lay_108 : decode cX11_lay 108 = .ok (.ireturn, 1) := by decide +kernel
theorem dX11_right_0 : decode cX11_right 0 = .ok (.aload_n 0, 1) := by decide +kernel
theorem dX11_right_1 : decode cX11_right 1 = .ok (.iload_n 1, 1) := by decide +kernel
theorem dX11_right_2 : decode cX11_right 2 = .ok (.invokevirtual 141, 3) := by decide +kernel
theorem dX11_right_5 : decode cX11_right 5 = .ok (.astore 4, 2) := by decide +kernel
theorem dX11_right_7 : decode cX11_right 7 = .ok (.aload 4, 2) := by decide +kernel
theorem dX11_right_9 : decode cX11_right 9 = .ok (.ifnull 17, 3) := by decide +kernel
theorem dX11_right_12 : decode cX11_right 12 = .ok (.iload_n 2, 1) := by decide +kernel
theorem dX11_right_13 : decode cX11_right 13 = .ok (.invokestatic 148, 3) := by decide +kernel
theorem dX11_right_16 : decode cX11_right 16 = .ok (.ifCond .eq 10, 3) := by decide +kernel
theorem dX11_right_19 : decode cX11_right 19 = .ok (.iload_n 3, 1) := by decide +kernel
theorem dX11_right_20 : decode cX11_right 20 = .ok (.invokestatic 245, 3) := by decide +kernel
theorem dX11_right_23 : decode cX11_right 23 = .ok (.ifCond .ne 6, 3) := by decide +kernel
theorem dX11_right_26 : decode cX11_right 26 = .ok (.bipush (-2), 2) := by decide +kernel
theorem dX11_right_28 : decode cX11_right 28 = .ok (.ireturn, 1) := by decide +kernel
theorem dX11_right_29 : decode cX11_right 29 = .ok (.aload 4, 2) := by decide +kernel
theorem dX11_right_31 : decode cX11_right 31 = .ok (.iload_n 2, 1) := by decide +kernel
theorem dX11_right_32 : decode cX11_right 32 = .ok (.invokevirtual 260, 3) := by decide +kernel
theorem dX11_right_35 : decode cX11_right 35 = .ok (.istore 5, 2) := by decide +kernel
theorem dX11_right_37 : decode cX11_right 37 = .ok (.iload 5, 2) := by decide +kernel
theorem dX11_right_39 : decode cX11_right 39 = .ok (.iconst (-1), 1) := by decide +kernel
theorem dX11_right_40 : decode cX11_right 40 = .ok (.if_icmp .ne 6, 3) := by decide +kernel
theorem dX11_right_43 : decode cX11_right 43 = .ok (.bipush (-3), 2) := by decide +kernel
theorem dX11_right_45 : decode cX11_right 45 = .ok (.ireturn, 1) := by decide +kernel
theorem dX11_right_46 : decode cX11_right 46 = .ok (.aload 4, 2) := by decide +kernel
theorem dX11_right_48 : decode cX11_right 48 = .ok (.iload_n 2, 1) := by decide +kernel
theorem dX11_right_49 : decode cX11_right 49 = .ok (.iload_n 3, 1) := by decide +kernel
theorem dX11_right_50 : decode cX11_right 50 = .ok (.invokevirtual 263, 3) := by decide +kernel
theorem dX11_right_53 : decode cX11_right 53 = .ok (.iload 5, 2) := by decide +kernel
theorem dX11_right_55 : decode cX11_right 55 = .ok (.ireturn, 1) := by decide +kernel
theorem dX11_sort_0 : decode cX11_sort 0 = .ok (.aload_n 0, 1) := by decide +kernel
theorem dX11_sort_1 : decode cX11_sort 1 = .ok (.iload_n 1, 1) := by decide +kernel
theorem dX11_sort_2 : decode cX11_sort 2 = .ok (.invokevirtual 141, 3) := by decide +kernel
theorem dX11_sort_5 : decode cX11_sort 5 = .ok (.astore_n 3, 1) := by decide +kernel
theorem dX11_sort_6 : decode cX11_sort 6 = .ok (.aload_n 3, 1) := by decide +kernel
theorem dX11_sort_7 : decode cX11_sort 7 = .ok (.ifnonnull 8, 3) := by decide +kernel
theorem dX11_sort_10 : decode cX11_sort 10 = .ok (.bipush (-2), 2) := by decide +kernel
theorem dX11_sort_12 : decode cX11_sort 12 = .ok (.goto 8, 3) := by decide +kernel
theorem dX11_sort_15 : decode cX11_sort 15 = .ok (.aload_n 3, 1) := by decide +kernel
theorem dX11_sort_16 : decode cX11_sort 16 = .ok (.iload_n 2, 1) := by decide +kernel
theorem dX11_sort_17 : decode cX11_sort 17 = .ok (.invokevirtual 260, 3) := by decide +kernel
theorem dX11_sort_20 : decode cX11_sort 20 = .ok (.ireturn, 1) := by decide +kernel
theorem dX11_feed_0 : decode cX11_feed 0 = .ok (.iload_n 1, 1) := by decide +kernel
theorem dX11_feed_1 : decode cX11_feed 1 = .ok (.iconst 1, 1) := by decide +kernel
theorem dX11_feed_2 : decode cX11_feed 2 = .ok (.bipush 8, 2) := by decide +kernel
theorem dX11_feed_4 : decode cX11_feed 4 = .ok (.invokestatic 109, 3) := by decide +kernel
theorem dX11_feed_7 : decode cX11_feed 7 = .ok (.ifCond .ne 6, 3) := by decide +kernel
theorem dX11_feed_10 : decode cX11_feed 10 = .ok (.bipush (-2), 2) := by decide +kernel
theorem dX11_feed_12 : decode cX11_feed 12 = .ok (.ireturn, 1) := by decide +kernel
theorem dX11_feed_13 : decode cX11_feed 13 = .ok (.iload_n 1, 1) := by decide +kernel
theorem dX11_feed_14 : decode cX11_feed 14 = .ok (.sipush 160, 3) := by decide +kernel
theorem dX11_feed_17 : decode cX11_feed 17 = .ok (.aload_n 0, 1) := by decide +kernel
theorem dX11_feed_18 : decode cX11_feed 18 = .ok (.getfield 72, 3) := by decide +kernel
theorem dX11_feed_21 : decode cX11_feed 21 = .ok (.getfield 267, 3) := by decide +kernel
theorem dX11_feed_24 : decode cX11_feed 24 = .ok (.isub, 1) := by decide +kernel
theorem dX11_feed_25 : decode cX11_feed 25 = .ok (.if_icmp .le 6, 3) := by decide +kernel
theorem dX11_feed_28 : decode cX11_feed 28 = .ok (.bipush (-4), 2) := by decide +kernel
theorem dX11_feed_30 : decode cX11_feed 30 = .ok (.ireturn, 1) := by decide +kernel
theorem dX11_feed_31 : decode cX11_feed 31 = .ok (.iconst 0, 1) := by decide +kernel
theorem dX11_feed_32 : decode cX11_feed 32 = .ok (.istore 4, 2) := by decide +kernel
theorem dX11_feed_34 : decode cX11_feed 34 = .ok (.iload 4, 2) := by decide +kernel
theorem dX11_feed_36 : decode cX11_feed 36 = .ok (.iload_n 1, 1) := by decide +kernel
theorem dX11_feed_37 : decode cX11_feed 37 = .ok (.if_icmp .ge 28, 3) := by decide +kernel
theorem dX11_feed_40 : decode cX11_feed 40 = .ok (.aload_n 0, 1) := by decide +kernel
theorem dX11_feed_41 : decode cX11_feed 41 = .ok (.getfield 72, 3) := by decide +kernel
theorem dX11_feed_44 : decode cX11_feed 44 = .ok (.lload_n 2, 1) := by decide +kernel
theorem dX11_feed_45 : decode cX11_feed 45 = .ok (.bipush 8, 2) := by decide +kernel
theorem dX11_feed_47 : decode cX11_feed 47 = .ok (.iload 4, 2) := by decide +kernel
theorem dX11_feed_49 : decode cX11_feed 49 = .ok (.imul, 1) := by decide +kernel
theorem dX11_feed_50 : decode cX11_feed 50 = .ok (.lshr, 1) := by decide +kernel
theorem dX11_feed_51 : decode cX11_feed 51 = .ok (.l2i, 1) := by decide +kernel
theorem dX11_feed_52 : decode cX11_feed 52 = .ok (.sipush 255, 3) := by decide +kernel
theorem dX11_feed_55 : decode cX11_feed 55 = .ok (.iand, 1) := by decide +kernel
theorem dX11_feed_56 : decode cX11_feed 56 = .ok (.invokevirtual 103, 3) := by decide +kernel
theorem dX11_feed_59 : decode cX11_feed 59 = .ok (.iinc 4 1, 3) := by decide +kernel
theorem dX11_feed_62 : decode cX11_feed 62 = .ok (.goto (-28), 3) := by decide +kernel
theorem dX11_feed_65 : decode cX11_feed 65 = .ok (.aload_n 0, 1) := by decide +kernel
theorem dX11_feed_66 : decode cX11_feed 66 = .ok (.getfield 72, 3) := by decide +kernel
theorem dX11_feed_69 : decode cX11_feed 69 = .ok (.getfield 267, 3) := by decide +kernel
theorem dX11_feed_72 : decode cX11_feed 72 = .ok (.ireturn, 1) := by decide +kernel
theorem dX11_text_0 : decode cX11_text 0 = .ok (.aload_n 0, 1) := by decide +kernel
theorem dX11_text_1 : decode cX11_text 1 = .ok (.getfield 268, 3) := by decide +kernel
theorem dX11_text_4 : decode cX11_text 4 = .ok (.bipush 6, 2) := by decide +kernel
theorem dX11_text_6 : decode cX11_text 6 = .ok (.if_icmp .lt 6, 3) := by decide +kernel
theorem dX11_text_9 : decode cX11_text 9 = .ok (.bipush (-4), 2) := by decide +kernel
theorem dX11_text_11 : decode cX11_text 11 = .ok (.ireturn, 1) := by decide +kernel
theorem dX11_text_12 : decode cX11_text 12 = .ok (.aload_n 0, 1) := by decide +kernel
theorem dX11_text_13 : decode cX11_text 13 = .ok (.getfield 72, 3) := by decide +kernel
theorem dX11_text_16 : decode cX11_text 16 = .ok (.aload_n 0, 1) := by decide +kernel
theorem dX11_text_17 : decode cX11_text 17 = .ok (.getfield 79, 3) := by decide +kernel
theorem dX11_text_20 : decode cX11_text 20 = .ok (.invokevirtual 271, 3) := by decide +kernel
theorem dX11_text_23 : decode cX11_text 23 = .ok (.istore_n 1, 1) := by decide +kernel
theorem dX11_text_24 : decode cX11_text 24 = .ok (.aload_n 0, 1) := by decide +kernel
theorem dX11_text_25 : decode cX11_text 25 = .ok (.getfield 72, 3) := by decide +kernel
theorem dX11_text_28 : decode cX11_text 28 = .ok (.invokevirtual 275, 3) := by decide +kernel
theorem dX11_text_31 : decode cX11_text 31 = .ok (.iload_n 1, 1) := by decide +kernel
theorem dX11_text_32 : decode cX11_text 32 = .ok (.iconst (-1), 1) := by decide +kernel
theorem dX11_text_33 : decode cX11_text 33 = .ok (.if_icmp .eq 8, 3) := by decide +kernel
theorem dX11_text_36 : decode cX11_text 36 = .ok (.bipush (-100), 2) := by decide +kernel
theorem dX11_text_38 : decode cX11_text 38 = .ok (.iload_n 1, 1) := by decide +kernel
theorem dX11_text_39 : decode cX11_text 39 = .ok (.isub, 1) := by decide +kernel
theorem dX11_text_40 : decode cX11_text 40 = .ok (.ireturn, 1) := by decide +kernel
theorem dX11_text_41 : decode cX11_text 41 = .ok (.aload_n 0, 1) := by decide +kernel
theorem dX11_text_42 : decode cX11_text 42 = .ok (.getfield 29, 3) := by decide +kernel
theorem dX11_text_45 : decode cX11_text 45 = .ok (.aload_n 0, 1) := by decide +kernel
theorem dX11_text_46 : decode cX11_text 46 = .ok (.getfield 268, 3) := by decide +kernel
theorem dX11_text_49 : decode cX11_text 49 = .ok (.aload_n 0, 1) := by decide +kernel
theorem dX11_text_50 : decode cX11_text 50 = .ok (.getfield 79, 3) := by decide +kernel
theorem dX11_text_53 : decode cX11_text 53 = .ok (.aastore, 1) := by decide +kernel
theorem dX11_text_54 : decode cX11_text 54 = .ok (.aload_n 0, 1) := by decide +kernel
theorem dX11_text_55 : decode cX11_text 55 = .ok (.dup, 1) := by decide +kernel
theorem dX11_text_56 : decode cX11_text 56 = .ok (.getfield 268, 3) := by decide +kernel
theorem dX11_text_59 : decode cX11_text 59 = .ok (.iconst 1, 1) := by decide +kernel
theorem dX11_text_60 : decode cX11_text 60 = .ok (.iadd, 1) := by decide +kernel
theorem dX11_text_61 : decode cX11_text 61 = .ok (.putfield 268, 3) := by decide +kernel
theorem dX11_text_64 : decode cX11_text 64 = .ok (.aload_n 0, 1) := by decide +kernel
theorem dX11_text_65 : decode cX11_text 65 = .ok (.new 27, 3) := by decide +kernel
theorem dX11_text_68 : decode cX11_text 68 = .ok (.dup, 1) := by decide +kernel
theorem dX11_text_69 : decode cX11_text 69 = .ok (.aload_n 0, 1) := by decide +kernel
theorem dX11_text_70 : decode cX11_text 70 = .ok (.getfield 268, 3) := by decide +kernel
theorem dX11_text_73 : decode cX11_text 73 = .ok (.invokespecial 76, 3) := by decide +kernel
theorem dX11_text_76 : decode cX11_text 76 = .ok (.putfield 79, 3) := by decide +kernel
theorem dX11_text_79 : decode cX11_text 79 = .ok (.aload_n 0, 1) := by decide +kernel
theorem dX11_text_80 : decode cX11_text 80 = .ok (.getfield 268, 3) := by decide +kernel
theorem dX11_text_83 : decode cX11_text 83 = .ok (.iconst 1, 1) := by decide +kernel
theorem dX11_text_84 : decode cX11_text 84 = .ok (.isub, 1) := by decide +kernel
theorem dX11_text_85 : decode cX11_text 85 = .ok (.ireturn, 1) := by decide +kernel
theorem dX11_charter_0 : decode cX11_charter 0 = .ok (.aload_n 0, 1) := by decide +kernel
theorem dX11_charter_1 : decode cX11_charter 1 = .ok (.iload_n 2, 1) := by decide +kernel
theorem dX11_charter_2 : decode cX11_charter 2 = .ok (.invokevirtual 141, 3) := by decide +kernel
theorem dX11_charter_5 : decode cX11_charter 5 = .ok (.astore 8, 2) := by decide +kernel
theorem dX11_charter_7 : decode cX11_charter 7 = .ok (.aload_n 0, 1) := by decide +kernel
theorem dX11_charter_8 : decode cX11_charter 8 = .ok (.iload 5, 2) := by decide +kernel
theorem dX11_charter_10 : decode cX11_charter 10 = .ok (.invokevirtual 278, 3) := by decide +kernel
theorem dX11_charter_13 : decode cX11_charter 13 = .ok (.astore 9, 2) := by decide +kernel
theorem dX11_charter_15 : decode cX11_charter 15 = .ok (.iload_n 1, 1) := by decide +kernel
theorem dX11_charter_16 : decode cX11_charter 16 = .ok (.invokestatic 282, 3) := by decide +kernel
theorem dX11_charter_19 : decode cX11_charter 19 = .ok (.ifCond .eq 29, 3) := by decide +kernel
theorem dX11_charter_22 : decode cX11_charter 22 = .ok (.aload 8, 2) := by decide +kernel
theorem dX11_charter_24 : decode cX11_charter 24 = .ok (.ifnull 24, 3) := by decide +kernel
theorem dX11_charter_27 : decode cX11_charter 27 = .ok (.iload_n 3, 1) := by decide +kernel
theorem dX11_charter_28 : decode cX11_charter 28 = .ok (.invokestatic 148, 3) := by decide +kernel
theorem dX11_charter_31 : decode cX11_charter 31 = .ok (.ifCond .eq 17, 3) := by decide +kernel
theorem dX11_charter_34 : decode cX11_charter 34 = .ok (.iload 4, 2) := by decide +kernel
theorem dX11_charter_36 : decode cX11_charter 36 = .ok (.invokestatic 148, 3) := by decide +kernel
theorem dX11_charter_39 : decode cX11_charter 39 = .ok (.ifCond .eq 9, 3) := by decide +kernel
theorem dX11_charter_42 : decode cX11_charter 42 = .ok (.iload_n 3, 1) := by decide +kernel
theorem dX11_charter_43 : decode cX11_charter 43 = .ok (.iload 4, 2) := by decide +kernel
theorem dX11_charter_45 : decode cX11_charter 45 = .ok (.if_icmp .le 6, 3) := by decide +kernel
theorem dX11_charter_48 : decode cX11_charter 48 = .ok (.bipush (-2), 2) := by decide +kernel
theorem dX11_charter_50 : decode cX11_charter 50 = .ok (.ireturn, 1) := by decide +kernel
theorem dX11_charter_51 : decode cX11_charter 51 = .ok (.aload 9, 2) := by decide +kernel
theorem dX11_charter_53 : decode cX11_charter 53 = .ok (.ifnull 19, 3) := by decide +kernel
theorem dX11_charter_56 : decode cX11_charter 56 = .ok (.lload 6, 2) := by decide +kernel
theorem dX11_charter_58 : decode cX11_charter 58 = .ok (.lconst 0, 1) := by decide +kernel
theorem dX11_charter_59 : decode cX11_charter 59 = .ok (.lcmp, 1) := by decide +kernel
theorem dX11_charter_60 : decode cX11_charter 60 = .ok (.ifCond .lt 12, 3) := by decide +kernel
theorem dX11_charter_63 : decode cX11_charter 63 = .ok (.lload 6, 2) := by decide +kernel
theorem dX11_charter_65 : decode cX11_charter 65 = .ok (.ldc2_w 285, 3) := by decide +kernel
theorem dX11_charter_68 : decode cX11_charter 68 = .ok (.lcmp, 1) := by decide +kernel
theorem dX11_charter_69 : decode cX11_charter 69 = .ok (.ifCond .le 6, 3) := by decide +kernel
theorem dX11_charter_72 : decode cX11_charter 72 = .ok (.bipush (-2), 2) := by decide +kernel
theorem dX11_charter_74 : decode cX11_charter 74 = .ok (.ireturn, 1) := by decide +kernel
theorem dX11_charter_75 : decode cX11_charter 75 = .ok (.aload_n 0, 1) := by decide +kernel
theorem dX11_charter_76 : decode cX11_charter 76 = .ok (.aload 8, 2) := by decide +kernel
theorem dX11_charter_78 : decode cX11_charter 78 = .ok (.iload_n 3, 1) := by decide +kernel
theorem dX11_charter_79 : decode cX11_charter 79 = .ok (.iload 4, 2) := by decide +kernel
theorem dX11_charter_81 : decode cX11_charter 81 = .ok (.invokevirtual 287, 3) := by decide +kernel
theorem dX11_charter_84 : decode cX11_charter 84 = .ok (.ifCond .eq 6, 3) := by decide +kernel
theorem dX11_charter_87 : decode cX11_charter 87 = .ok (.bipush (-3), 2) := by decide +kernel
theorem dX11_charter_89 : decode cX11_charter 89 = .ok (.ireturn, 1) := by decide +kernel
theorem dX11_charter_90 : decode cX11_charter 90 = .ok (.aload_n 0, 1) := by decide +kernel
theorem dX11_charter_91 : decode cX11_charter 91 = .ok (.getfield 291, 3) := by decide +kernel
theorem dX11_charter_94 : decode cX11_charter 94 = .ok (.bipush 12, 2) := by decide +kernel
theorem dX11_charter_96 : decode cX11_charter 96 = .ok (.if_icmp .lt 6, 3) := by decide +kernel
theorem dX11_charter_99 : decode cX11_charter 99 = .ok (.bipush (-4), 2) := by decide +kernel
theorem dX11_charter_101 : decode cX11_charter 101 = .ok (.ireturn, 1) := by decide +kernel
theorem dX11_charter_102 : decode cX11_charter 102 = .ok (.aload_n 0, 1) := by decide +kernel
theorem dX11_charter_103 : decode cX11_charter 103 = .ok (.getfield 35, 3) := by decide +kernel
theorem dX11_charter_106 : decode cX11_charter 106 = .ok (.aload_n 0, 1) := by decide +kernel
theorem dX11_charter_107 : decode cX11_charter 107 = .ok (.getfield 291, 3) := by decide +kernel
theorem dX11_charter_110 : decode cX11_charter 110 = .ok (.new 33, 3) := by decide +kernel
theorem dX11_charter_113 : decode cX11_charter 113 = .ok (.dup, 1) := by decide +kernel
theorem dX11_charter_114 : decode cX11_charter 114 = .ok (.iload_n 1, 1) := by decide +kernel
theorem dX11_charter_115 : decode cX11_charter 115 = .ok (.aload 8, 2) := by decide +kernel
theorem dX11_charter_117 : decode cX11_charter 117 = .ok (.iload_n 3, 1) := by decide +kernel
theorem dX11_charter_118 : decode cX11_charter 118 = .ok (.iload 4, 2) := by decide +kernel
theorem dX11_charter_120 : decode cX11_charter 120 = .ok (.aload 9, 2) := by decide +kernel
theorem dX11_charter_122 : decode cX11_charter 122 = .ok (.lload 6, 2) := by decide +kernel
theorem dX11_charter_124 : decode cX11_charter 124 = .ok (.invokespecial 294, 3) := by decide +kernel
theorem dX11_charter_127 : decode cX11_charter 127 = .ok (.aastore, 1) := by decide +kernel
theorem dX11_charter_128 : decode cX11_charter 128 = .ok (.aload_n 0, 1) := by decide +kernel
theorem dX11_charter_129 : decode cX11_charter 129 = .ok (.dup, 1) := by decide +kernel
theorem dX11_charter_130 : decode cX11_charter 130 = .ok (.getfield 291, 3) := by decide +kernel
theorem dX11_charter_133 : decode cX11_charter 133 = .ok (.iconst 1, 1) := by decide +kernel
theorem dX11_charter_134 : decode cX11_charter 134 = .ok (.iadd, 1) := by decide +kernel
theorem dX11_charter_135 : decode cX11_charter 135 = .ok (.putfield 291, 3) := by decide +kernel
theorem dX11_charter_138 : decode cX11_charter 138 = .ok (.aload_n 0, 1) := by decide +kernel
theorem dX11_charter_139 : decode cX11_charter 139 = .ok (.getfield 291, 3) := by decide +kernel
theorem dX11_charter_142 : decode cX11_charter 142 = .ok (.iconst 1, 1) := by decide +kernel
theorem dX11_charter_143 : decode cX11_charter 143 = .ok (.isub, 1) := by decide +kernel
theorem dX11_charter_144 : decode cX11_charter 144 = .ok (.ireturn, 1) := by decide +kernel
theorem dX11_lift_0 : decode cX11_lift 0 = .ok (.aload_n 0, 1) := by decide +kernel
theorem dX11_lift_1 : decode cX11_lift 1 = .ok (.iload_n 1, 1) := by decide +kernel
theorem dX11_lift_2 : decode cX11_lift 2 = .ok (.invokevirtual 297, 3) := by decide +kernel
theorem dX11_lift_5 : decode cX11_lift 5 = .ok (.astore_n 3, 1) := by decide +kernel
theorem dX11_lift_6 : decode cX11_lift 6 = .ok (.aload_n 3, 1) := by decide +kernel
theorem dX11_lift_7 : decode cX11_lift 7 = .ok (.ifnull 11, 3) := by decide +kernel
theorem dX11_lift_10 : decode cX11_lift 10 = .ok (.aload_n 3, 1) := by decide +kernel
theorem dX11_lift_11 : decode cX11_lift 11 = .ok (.getfield 301, 3) := by decide +kernel
theorem dX11_lift_14 : decode cX11_lift 14 = .ok (.iconst 5, 1) := by decide +kernel
theorem dX11_lift_15 : decode cX11_lift 15 = .ok (.if_icmp .eq 6, 3) := by decide +kernel
theorem dX11_lift_18 : decode cX11_lift 18 = .ok (.bipush (-2), 2) := by decide +kernel
theorem dX11_lift_20 : decode cX11_lift 20 = .ok (.ireturn, 1) := by decide +kernel
theorem dX11_lift_21 : decode cX11_lift 21 = .ok (.aload_n 3, 1) := by decide +kernel
theorem dX11_lift_22 : decode cX11_lift 22 = .ok (.getfield 304, 3) := by decide +kernel
theorem dX11_lift_25 : decode cX11_lift 25 = .ok (.ifCond .eq 6, 3) := by decide +kernel
theorem dX11_lift_28 : decode cX11_lift 28 = .ok (.bipush (-3), 2) := by decide +kernel
theorem dX11_lift_30 : decode cX11_lift 30 = .ok (.ireturn, 1) := by decide +kernel
theorem dX11_lift_31 : decode cX11_lift 31 = .ok (.aload_n 3, 1) := by decide +kernel
theorem dX11_lift_32 : decode cX11_lift 32 = .ok (.iload_n 2, 1) := by decide +kernel
theorem dX11_lift_33 : decode cX11_lift 33 = .ok (.ifCond .eq 7, 3) := by decide +kernel
theorem dX11_lift_36 : decode cX11_lift 36 = .ok (.iconst 1, 1) := by decide +kernel
theorem dX11_lift_37 : decode cX11_lift 37 = .ok (.goto 4, 3) := by decide +kernel
theorem dX11_lift_40 : decode cX11_lift 40 = .ok (.iconst 2, 1) := by decide +kernel
theorem dX11_lift_41 : decode cX11_lift 41 = .ok (.putfield 304, 3) := by decide +kernel
theorem dX11_lift_44 : decode cX11_lift 44 = .ok (.iconst 1, 1) := by decide +kernel
theorem dX11_lift_45 : decode cX11_lift 45 = .ok (.ireturn, 1) := by decide +kernel
theorem dX11_charterTold_0 : decode cX11_charterTold 0 = .ok (.aload_n 0, 1) := by decide +kernel
theorem dX11_charterTold_1 : decode cX11_charterTold 1 = .ok (.iload_n 1, 1) := by decide +kernel
theorem dX11_charterTold_2 : decode cX11_charterTold 2 = .ok (.invokevirtual 297, 3) := by decide +kernel
theorem dX11_charterTold_5 : decode cX11_charterTold 5 = .ok (.astore_n 3, 1) := by decide +kernel
theorem dX11_charterTold_6 : decode cX11_charterTold 6 = .ok (.aload_n 3, 1) := by decide +kernel
theorem dX11_charterTold_7 : decode cX11_charterTold 7 = .ok (.ifnonnull 6, 3) := by decide +kernel
theorem dX11_charterTold_10 : decode cX11_charterTold 10 = .ok (.bipush (-2), 2) := by decide +kernel
theorem dX11_charterTold_12 : decode cX11_charterTold 12 = .ok (.ireturn, 1) := by decide +kernel
theorem dX11_charterTold_13 : decode cX11_charterTold 13 = .ok (.iload_n 2, 1) := by decide +kernel
theorem dX11_charterTold_14 : decode cX11_charterTold 14 = .ok (.tableswitch 95 0 8 #[50, 55, 63, 68, 73, 81, 81, 81, 90], 50) := by decide +kernel
theorem dX11_charterTold_64 : decode cX11_charterTold 64 = .ok (.aload_n 3, 1) := by decide +kernel
theorem dX11_charterTold_65 : decode cX11_charterTold 65 = .ok (.getfield 301, 3) := by decide +kernel
theorem dX11_charterTold_68 : decode cX11_charterTold 68 = .ok (.ireturn, 1) := by decide +kernel
theorem dX11_charterTold_69 : decode cX11_charterTold 69 = .ok (.aload_n 3, 1) := by decide +kernel
theorem dX11_charterTold_70 : decode cX11_charterTold 70 = .ok (.getfield 307, 3) := by decide +kernel
theorem dX11_charterTold_73 : decode cX11_charterTold 73 = .ok (.getfield 311, 3) := by decide +kernel
theorem dX11_charterTold_76 : decode cX11_charterTold 76 = .ok (.ireturn, 1) := by decide +kernel
theorem dX11_charterTold_77 : decode cX11_charterTold 77 = .ok (.aload_n 3, 1) := by decide +kernel
theorem dX11_charterTold_78 : decode cX11_charterTold 78 = .ok (.getfield 312, 3) := by decide +kernel
theorem dX11_charterTold_81 : decode cX11_charterTold 81 = .ok (.ireturn, 1) := by decide +kernel
theorem dX11_charterTold_82 : decode cX11_charterTold 82 = .ok (.aload_n 3, 1) := by decide +kernel
theorem dX11_charterTold_83 : decode cX11_charterTold 83 = .ok (.getfield 315, 3) := by decide +kernel
theorem dX11_charterTold_86 : decode cX11_charterTold 86 = .ok (.ireturn, 1) := by decide +kernel
theorem dX11_charterTold_87 : decode cX11_charterTold 87 = .ok (.aload_n 3, 1) := by decide +kernel
theorem dX11_charterTold_88 : decode cX11_charterTold 88 = .ok (.getfield 317, 3) := by decide +kernel
theorem dX11_charterTold_91 : decode cX11_charterTold 91 = .ok (.getfield 319, 3) := by decide +kernel
theorem dX11_charterTold_94 : decode cX11_charterTold 94 = .ok (.ireturn, 1) := by decide +kernel
theorem dX11_charterTold_95 : decode cX11_charterTold 95 = .ok (.aload_n 0, 1) := by decide +kernel
theorem dX11_charterTold_96 : decode cX11_charterTold 96 = .ok (.aload_n 3, 1) := by decide +kernel
theorem dX11_charterTold_97 : decode cX11_charterTold 97 = .ok (.iload_n 2, 1) := by decide +kernel
theorem dX11_charterTold_98 : decode cX11_charterTold 98 = .ok (.iconst 5, 1) := by decide +kernel
theorem dX11_charterTold_99 : decode cX11_charterTold 99 = .ok (.isub, 1) := by decide +kernel
theorem dX11_charterTold_100 : decode cX11_charterTold 100 = .ok (.invokevirtual 320, 3) := by decide +kernel
theorem dX11_charterTold_103 : decode cX11_charterTold 103 = .ok (.ireturn, 1) := by decide +kernel
theorem dX11_charterTold_104 : decode cX11_charterTold 104 = .ok (.aload_n 3, 1) := by decide +kernel
theorem dX11_charterTold_105 : decode cX11_charterTold 105 = .ok (.getfield 304, 3) := by decide +kernel
theorem dX11_charterTold_108 : decode cX11_charterTold 108 = .ok (.ireturn, 1) := by decide +kernel
theorem dX11_charterTold_109 : decode cX11_charterTold 109 = .ok (.bipush (-2), 2) := by decide +kernel
