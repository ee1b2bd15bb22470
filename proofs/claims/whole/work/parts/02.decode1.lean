theorem dX0_planWithout_34 : decode cX0_planWithout 34 = .ok (.return_, 1) := by decide +kernel
theorem dX0_planBuying_0 : decode cX0_planBuying 0 = .ok (.iconst 0, 1) := by decide +kernel
theorem dX0_planBuying_1 : decode cX0_planBuying 1 = .ok (.istore 4, 2) := by decide +kernel
theorem dX0_planBuying_3 : decode cX0_planBuying 3 = .ok (.ldc 81, 2) := by decide +kernel
theorem dX0_planBuying_5 : decode cX0_planBuying 5 = .ok (.istore 5, 2) := by decide +kernel
theorem dX0_planBuying_7 : decode cX0_planBuying 7 = .ok (.iload_n 2, 1) := by decide +kernel
theorem dX0_planBuying_8 : decode cX0_planBuying 8 = .ok (.istore 6, 2) := by decide +kernel
theorem dX0_planBuying_10 : decode cX0_planBuying 10 = .ok (.iload 6, 2) := by decide +kernel
theorem dX0_planBuying_12 : decode cX0_planBuying 12 = .ok (.ifCond .lt 94, 3) := by decide +kernel
theorem dX0_planBuying_15 : decode cX0_planBuying 15 = .ok (.aload_n 0, 1) := by decide +kernel
theorem dX0_planBuying_16 : decode cX0_planBuying 16 = .ok (.iload_n 1, 1) := by decide +kernel
theorem dX0_planBuying_17 : decode cX0_planBuying 17 = .ok (.iload 6, 2) := by decide +kernel
theorem dX0_planBuying_19 : decode cX0_planBuying 19 = .ok (.invokevirtual 85, 3) := by decide +kernel
theorem dX0_planBuying_22 : decode cX0_planBuying 22 = .ok (.istore 7, 2) := by decide +kernel
theorem dX0_planBuying_24 : decode cX0_planBuying 24 = .ok (.iload 7, 2) := by decide +kernel
theorem dX0_planBuying_26 : decode cX0_planBuying 26 = .ok (.ldc 81, 2) := by decide +kernel
theorem dX0_planBuying_28 : decode cX0_planBuying 28 = .ok (.if_icmp .ge 28, 3) := by decide +kernel
theorem dX0_planBuying_31 : decode cX0_planBuying 31 = .ok (.iload 7, 2) := by decide +kernel
theorem dX0_planBuying_33 : decode cX0_planBuying 33 = .ok (.iload 6, 2) := by decide +kernel
theorem dX0_planBuying_35 : decode cX0_planBuying 35 = .ok (.iload_n 3, 1) := by decide +kernel
theorem dX0_planBuying_36 : decode cX0_planBuying 36 = .ok (.imul, 1) := by decide +kernel
theorem dX0_planBuying_37 : decode cX0_planBuying 37 = .ok (.iadd, 1) := by decide +kernel
theorem dX0_planBuying_38 : decode cX0_planBuying 38 = .ok (.iload 5, 2) := by decide +kernel
theorem dX0_planBuying_40 : decode cX0_planBuying 40 = .ok (.if_icmp .gt 16, 3) := by decide +kernel
theorem dX0_planBuying_43 : decode cX0_planBuying 43 = .ok (.iload 7, 2) := by decide +kernel
theorem dX0_planBuying_45 : decode cX0_planBuying 45 = .ok (.iload 6, 2) := by decide +kernel
theorem dX0_planBuying_47 : decode cX0_planBuying 47 = .ok (.iload_n 3, 1) := by decide +kernel
theorem dX0_planBuying_48 : decode cX0_planBuying 48 = .ok (.imul, 1) := by decide +kernel
theorem dX0_planBuying_49 : decode cX0_planBuying 49 = .ok (.iadd, 1) := by decide +kernel
theorem dX0_planBuying_50 : decode cX0_planBuying 50 = .ok (.istore 5, 2) := by decide +kernel
theorem dX0_planBuying_52 : decode cX0_planBuying 52 = .ok (.iload 6, 2) := by decide +kernel
theorem dX0_planBuying_54 : decode cX0_planBuying 54 = .ok (.istore 4, 2) := by decide +kernel
theorem dX0_planBuying_56 : decode cX0_planBuying 56 = .ok (.aload_n 0, 1) := by decide +kernel
theorem dX0_planBuying_57 : decode cX0_planBuying 57 = .ok (.getfield 20, 3) := by decide +kernel
theorem dX0_planBuying_60 : decode cX0_planBuying 60 = .ok (.iload_n 1, 1) := by decide +kernel
theorem dX0_planBuying_61 : decode cX0_planBuying 61 = .ok (.aaload, 1) := by decide +kernel
theorem dX0_planBuying_62 : decode cX0_planBuying 62 = .ok (.iload 6, 2) := by decide +kernel
theorem dX0_planBuying_64 : decode cX0_planBuying 64 = .ok (.iload 4, 2) := by decide +kernel
theorem dX0_planBuying_66 : decode cX0_planBuying 66 = .ok (.iload 6, 2) := by decide +kernel
theorem dX0_planBuying_68 : decode cX0_planBuying 68 = .ok (.isub, 1) := by decide +kernel
theorem dX0_planBuying_69 : decode cX0_planBuying 69 = .ok (.iconst 0, 1) := by decide +kernel
theorem dX0_planBuying_70 : decode cX0_planBuying 70 = .ok (.invokestatic 88, 3) := by decide +kernel
theorem dX0_planBuying_73 : decode cX0_planBuying 73 = .ok (.iastore, 1) := by decide +kernel
theorem dX0_planBuying_74 : decode cX0_planBuying 74 = .ok (.aload_n 0, 1) := by decide +kernel
theorem dX0_planBuying_75 : decode cX0_planBuying 75 = .ok (.getfield 23, 3) := by decide +kernel
theorem dX0_planBuying_78 : decode cX0_planBuying 78 = .ok (.iload 6, 2) := by decide +kernel
theorem dX0_planBuying_80 : decode cX0_planBuying 80 = .ok (.iload 5, 2) := by decide +kernel
theorem dX0_planBuying_82 : decode cX0_planBuying 82 = .ok (.ldc 81, 2) := by decide +kernel
theorem dX0_planBuying_84 : decode cX0_planBuying 84 = .ok (.if_icmp .ge 13, 3) := by decide +kernel
theorem dX0_planBuying_87 : decode cX0_planBuying 87 = .ok (.iload 5, 2) := by decide +kernel
theorem dX0_planBuying_89 : decode cX0_planBuying 89 = .ok (.iload 6, 2) := by decide +kernel
theorem dX0_planBuying_91 : decode cX0_planBuying 91 = .ok (.iload_n 3, 1) := by decide +kernel
theorem dX0_planBuying_92 : decode cX0_planBuying 92 = .ok (.imul, 1) := by decide +kernel
theorem dX0_planBuying_93 : decode cX0_planBuying 93 = .ok (.isub, 1) := by decide +kernel
theorem dX0_planBuying_94 : decode cX0_planBuying 94 = .ok (.goto 5, 3) := by decide +kernel
theorem dX0_planBuying_97 : decode cX0_planBuying 97 = .ok (.ldc 81, 2) := by decide +kernel
theorem dX0_planBuying_99 : decode cX0_planBuying 99 = .ok (.iastore, 1) := by decide +kernel
theorem dX0_planBuying_100 : decode cX0_planBuying 100 = .ok (.iinc 6 (-1), 3) := by decide +kernel
theorem dX0_planBuying_103 : decode cX0_planBuying 103 = .ok (.goto (-93), 3) := by decide +kernel
theorem dX0_planBuying_106 : decode cX0_planBuying 106 = .ok (.return_, 1) := by decide +kernel
theorem dX0_costBehind_0 : decode cX0_costBehind 0 = .ok (.iload_n 2, 1) := by decide +kernel
theorem dX0_costBehind_1 : decode cX0_costBehind 1 = .ok (.aload_n 0, 1) := by decide +kernel
theorem dX0_costBehind_2 : decode cX0_costBehind 2 = .ok (.getfield 9, 3) := by decide +kernel
theorem dX0_costBehind_5 : decode cX0_costBehind 5 = .ok (.iload_n 1, 1) := by decide +kernel
theorem dX0_costBehind_6 : decode cX0_costBehind 6 = .ok (.iaload, 1) := by decide +kernel
theorem dX0_costBehind_7 : decode cX0_costBehind 7 = .ok (.isub, 1) := by decide +kernel
theorem dX0_costBehind_8 : decode cX0_costBehind 8 = .ok (.istore_n 3, 1) := by decide +kernel
theorem dX0_costBehind_9 : decode cX0_costBehind 9 = .ok (.iload_n 3, 1) := by decide +kernel
theorem dX0_costBehind_10 : decode cX0_costBehind 10 = .ok (.ifCond .lt 19, 3) := by decide +kernel
theorem dX0_costBehind_13 : decode cX0_costBehind 13 = .ok (.iload_n 3, 1) := by decide +kernel
theorem dX0_costBehind_14 : decode cX0_costBehind 14 = .ok (.sipush 999, 3) := by decide +kernel
theorem dX0_costBehind_17 : decode cX0_costBehind 17 = .ok (.if_icmp .gt 12, 3) := by decide +kernel
theorem dX0_costBehind_20 : decode cX0_costBehind 20 = .ok (.aload_n 0, 1) := by decide +kernel
theorem dX0_costBehind_21 : decode cX0_costBehind 21 = .ok (.getfield 26, 3) := by decide +kernel
theorem dX0_costBehind_24 : decode cX0_costBehind 24 = .ok (.iload_n 3, 1) := by decide +kernel
theorem dX0_costBehind_25 : decode cX0_costBehind 25 = .ok (.iaload, 1) := by decide +kernel
theorem dX0_costBehind_26 : decode cX0_costBehind 26 = .ok (.goto 5, 3) := by decide +kernel
theorem dX0_costBehind_29 : decode cX0_costBehind 29 = .ok (.ldc 81, 2) := by decide +kernel
theorem dX0_costBehind_31 : decode cX0_costBehind 31 = .ok (.ireturn, 1) := by decide +kernel
theorem dX0_follow_0 : decode cX0_follow 0 = .ok (.iconst 0, 1) := by decide +kernel
theorem dX0_follow_1 : decode cX0_follow 1 = .ok (.istore_n 1, 1) := by decide +kernel
theorem dX0_follow_2 : decode cX0_follow 2 = .ok (.iconst 0, 1) := by decide +kernel
theorem dX0_follow_3 : decode cX0_follow 3 = .ok (.istore_n 2, 1) := by decide +kernel
theorem dX0_follow_4 : decode cX0_follow 4 = .ok (.iload_n 2, 1) := by decide +kernel
theorem dX0_follow_5 : decode cX0_follow 5 = .ok (.aload_n 0, 1) := by decide +kernel
theorem dX0_follow_6 : decode cX0_follow 6 = .ok (.getfield 35, 3) := by decide +kernel
theorem dX0_follow_9 : decode cX0_follow 9 = .ok (.if_icmp .ge 51, 3) := by decide +kernel
theorem dX0_follow_12 : decode cX0_follow 12 = .ok (.iload_n 1, 1) := by decide +kernel
theorem dX0_follow_13 : decode cX0_follow 13 = .ok (.ifCond .lt 10, 3) := by decide +kernel
theorem dX0_follow_16 : decode cX0_follow 16 = .ok (.iload_n 1, 1) := by decide +kernel
theorem dX0_follow_17 : decode cX0_follow 17 = .ok (.sipush 999, 3) := by decide +kernel
theorem dX0_follow_20 : decode cX0_follow 20 = .ok (.if_icmp .le 4, 3) := by decide +kernel
theorem dX0_follow_23 : decode cX0_follow 23 = .ok (.return_, 1) := by decide +kernel
theorem dX0_follow_24 : decode cX0_follow 24 = .ok (.aload_n 0, 1) := by decide +kernel
theorem dX0_follow_25 : decode cX0_follow 25 = .ok (.getfield 15, 3) := by decide +kernel
theorem dX0_follow_28 : decode cX0_follow 28 = .ok (.iload_n 2, 1) := by decide +kernel
theorem dX0_follow_29 : decode cX0_follow 29 = .ok (.aload_n 0, 1) := by decide +kernel
theorem dX0_follow_30 : decode cX0_follow 30 = .ok (.getfield 20, 3) := by decide +kernel
theorem dX0_follow_33 : decode cX0_follow 33 = .ok (.iload_n 2, 1) := by decide +kernel
theorem dX0_follow_34 : decode cX0_follow 34 = .ok (.aaload, 1) := by decide +kernel
theorem dX0_follow_35 : decode cX0_follow 35 = .ok (.iload_n 1, 1) := by decide +kernel
theorem dX0_follow_36 : decode cX0_follow 36 = .ok (.iaload, 1) := by decide +kernel
theorem dX0_follow_37 : decode cX0_follow 37 = .ok (.iastore, 1) := by decide +kernel
theorem dX0_follow_38 : decode cX0_follow 38 = .ok (.iload_n 1, 1) := by decide +kernel
theorem dX0_follow_39 : decode cX0_follow 39 = .ok (.aload_n 0, 1) := by decide +kernel
theorem dX0_follow_40 : decode cX0_follow 40 = .ok (.getfield 15, 3) := by decide +kernel
theorem dX0_follow_43 : decode cX0_follow 43 = .ok (.iload_n 2, 1) := by decide +kernel
theorem dX0_follow_44 : decode cX0_follow 44 = .ok (.iaload, 1) := by decide +kernel
theorem dX0_follow_45 : decode cX0_follow 45 = .ok (.aload_n 0, 1) := by decide +kernel
theorem dX0_follow_46 : decode cX0_follow 46 = .ok (.getfield 9, 3) := by decide +kernel
theorem dX0_follow_49 : decode cX0_follow 49 = .ok (.iload_n 2, 1) := by decide +kernel
theorem dX0_follow_50 : decode cX0_follow 50 = .ok (.iaload, 1) := by decide +kernel
theorem dX0_follow_51 : decode cX0_follow 51 = .ok (.isub, 1) := by decide +kernel
theorem dX0_follow_52 : decode cX0_follow 52 = .ok (.iadd, 1) := by decide +kernel
theorem dX0_follow_53 : decode cX0_follow 53 = .ok (.istore_n 1, 1) := by decide +kernel
theorem dX0_follow_54 : decode cX0_follow 54 = .ok (.iinc 2 1, 3) := by decide +kernel
theorem dX0_follow_57 : decode cX0_follow 57 = .ok (.goto (-53), 3) := by decide +kernel
theorem dX0_follow_60 : decode cX0_follow 60 = .ok (.return_, 1) := by decide +kernel
theorem dX1_init_0 : decode cX1_init 0 = .ok (.aload_n 0, 1) := by decide +kernel
theorem dX1_init_1 : decode cX1_init 1 = .ok (.invokespecial 3, 3) := by decide +kernel
theorem dX1_init_4 : decode cX1_init 4 = .ok (.aload_n 0, 1) := by decide +kernel
theorem dX1_init_5 : decode cX1_init 5 = .ok (.iconst 0, 1) := by decide +kernel
theorem dX1_init_6 : decode cX1_init 6 = .ok (.putfield 11, 3) := by decide +kernel
theorem dX1_init_9 : decode cX1_init 9 = .ok (.aload_n 0, 1) := by decide +kernel
theorem dX1_init_10 : decode cX1_init 10 = .ok (.iload_n 1, 1) := by decide +kernel
theorem dX1_init_11 : decode cX1_init 11 = .ok (.putfield 15, 3) := by decide +kernel
theorem dX1_init_14 : decode cX1_init 14 = .ok (.aload_n 0, 1) := by decide +kernel
theorem dX1_init_15 : decode cX1_init 15 = .ok (.aload_n 2, 1) := by decide +kernel
theorem dX1_init_16 : decode cX1_init 16 = .ok (.putfield 18, 3) := by decide +kernel
theorem dX1_init_19 : decode cX1_init 19 = .ok (.aload_n 0, 1) := by decide +kernel
theorem dX1_init_20 : decode cX1_init 20 = .ok (.iload_n 3, 1) := by decide +kernel
theorem dX1_init_21 : decode cX1_init 21 = .ok (.putfield 22, 3) := by decide +kernel
theorem dX1_init_24 : decode cX1_init 24 = .ok (.aload_n 0, 1) := by decide +kernel
theorem dX1_init_25 : decode cX1_init 25 = .ok (.iload 4, 2) := by decide +kernel
theorem dX1_init_27 : decode cX1_init 27 = .ok (.putfield 25, 3) := by decide +kernel
theorem dX1_init_30 : decode cX1_init 30 = .ok (.aload_n 0, 1) := by decide +kernel
theorem dX1_init_31 : decode cX1_init 31 = .ok (.aload 5, 2) := by decide +kernel
theorem dX1_init_33 : decode cX1_init 33 = .ok (.putfield 28, 3) := by decide +kernel
theorem dX1_init_36 : decode cX1_init 36 = .ok (.aload_n 0, 1) := by decide +kernel
theorem dX1_init_37 : decode cX1_init 37 = .ok (.lload 6, 2) := by decide +kernel
theorem dX1_init_39 : decode cX1_init 39 = .ok (.ldc2_w 32, 3) := by decide +kernel
theorem dX1_init_42 : decode cX1_init 42 = .ok (.ldiv, 1) := by decide +kernel
theorem dX1_init_43 : decode cX1_init 43 = .ok (.l2i, 1) := by decide +kernel
theorem dX1_init_44 : decode cX1_init 44 = .ok (.putfield 34, 3) := by decide +kernel
theorem dX1_init_47 : decode cX1_init 47 = .ok (.aload_n 0, 1) := by decide +kernel
theorem dX1_init_48 : decode cX1_init 48 = .ok (.lload 6, 2) := by decide +kernel
theorem dX1_init_50 : decode cX1_init 50 = .ok (.ldc2_w 37, 3) := by decide +kernel
theorem dX1_init_53 : decode cX1_init 53 = .ok (.ldiv, 1) := by decide +kernel
theorem dX1_init_54 : decode cX1_init 54 = .ok (.ldc2_w 37, 3) := by decide +kernel
theorem dX1_init_57 : decode cX1_init 57 = .ok (.lrem, 1) := by decide +kernel
theorem dX1_init_58 : decode cX1_init 58 = .ok (.l2i, 1) := by decide +kernel
theorem dX1_init_59 : decode cX1_init 59 = .ok (.putfield 39, 3) := by decide +kernel
theorem dX1_init_62 : decode cX1_init 62 = .ok (.aload_n 0, 1) := by decide +kernel
theorem dX1_init_63 : decode cX1_init 63 = .ok (.lload 6, 2) := by decide +kernel
theorem dX1_init_65 : decode cX1_init 65 = .ok (.ldc2_w 37, 3) := by decide +kernel
theorem dX1_init_68 : decode cX1_init 68 = .ok (.lrem, 1) := by decide +kernel
theorem dX1_init_69 : decode cX1_init 69 = .ok (.l2i, 1) := by decide +kernel
theorem dX1_init_70 : decode cX1_init 70 = .ok (.putfield 42, 3) := by decide +kernel
theorem dX1_init_73 : decode cX1_init 73 = .ok (.return_, 1) := by decide +kernel
theorem dX1_isKind_0 : decode cX1_isKind 0 = .ok (.iload_n 0, 1) := by decide +kernel
theorem dX1_isKind_1 : decode cX1_isKind 1 = .ok (.ifCond .lt 15, 3) := by decide +kernel
theorem dX1_isKind_4 : decode cX1_isKind 4 = .ok (.iload_n 0, 1) := by decide +kernel
theorem dX1_isKind_5 : decode cX1_isKind 5 = .ok (.getstatic 45, 3) := by decide +kernel
theorem dX1_isKind_8 : decode cX1_isKind 8 = .ok (.arraylength, 1) := by decide +kernel
theorem dX1_isKind_9 : decode cX1_isKind 9 = .ok (.if_icmp .ge 7, 3) := by decide +kernel
theorem dX1_isKind_12 : decode cX1_isKind 12 = .ok (.iconst 1, 1) := by decide +kernel
theorem dX1_isKind_13 : decode cX1_isKind 13 = .ok (.goto 4, 3) := by decide +kernel
theorem dX1_isKind_16 : decode cX1_isKind 16 = .ok (.iconst 0, 1) := by decide +kernel
theorem dX1_isKind_17 : decode cX1_isKind 17 = .ok (.ireturn, 1) := by decide +kernel
theorem dX1_isOf_0 : decode cX1_isOf 0 = .ok (.aload_n 0, 1) := by decide +kernel
theorem dX1_isOf_1 : decode cX1_isOf 1 = .ok (.getfield 18, 3) := by decide +kernel
theorem dX1_isOf_4 : decode cX1_isOf 4 = .ok (.getfield 49, 3) := by decide +kernel
theorem dX1_isOf_7 : decode cX1_isOf 7 = .ok (.aload_n 1, 1) := by decide +kernel
theorem dX1_isOf_8 : decode cX1_isOf 8 = .ok (.getfield 49, 3) := by decide +kernel
theorem dX1_isOf_11 : decode cX1_isOf 11 = .ok (.if_icmp .ne 7, 3) := by decide +kernel
theorem dX1_isOf_14 : decode cX1_isOf 14 = .ok (.iconst 1, 1) := by decide +kernel
theorem dX1_isOf_15 : decode cX1_isOf 15 = .ok (.goto 4, 3) := by decide +kernel
theorem dX1_isOf_18 : decode cX1_isOf 18 = .ok (.iconst 0, 1) := by decide +kernel
theorem dX1_isOf_19 : decode cX1_isOf 19 = .ok (.ireturn, 1) := by decide +kernel
theorem dX1_has_0 : decode cX1_has 0 = .ok (.aload_n 0, 1) := by decide +kernel
theorem dX1_has_1 : decode cX1_has 1 = .ok (.getfield 11, 3) := by decide +kernel
theorem dX1_has_4 : decode cX1_has 4 = .ok (.iconst 2, 1) := by decide +kernel
theorem dX1_has_5 : decode cX1_has 5 = .ok (.if_icmp .eq 22, 3) := by decide +kernel
theorem dX1_has_8 : decode cX1_has 8 = .ok (.iload_n 1, 1) := by decide +kernel
theorem dX1_has_9 : decode cX1_has 9 = .ok (.aload_n 0, 1) := by decide +kernel
theorem dX1_has_10 : decode cX1_has 10 = .ok (.getfield 22, 3) := by decide +kernel
theorem dX1_has_13 : decode cX1_has 13 = .ok (.aload_n 0, 1) := by decide +kernel
theorem dX1_has_14 : decode cX1_has 14 = .ok (.getfield 25, 3) := by decide +kernel
theorem dX1_has_17 : decode cX1_has 17 = .ok (.invokestatic 54, 3) := by decide +kernel
theorem dX1_has_20 : decode cX1_has 20 = .ok (.ifCond .eq 7, 3) := by decide +kernel
theorem dX1_has_23 : decode cX1_has 23 = .ok (.iconst 1, 1) := by decide +kernel
theorem dX1_has_24 : decode cX1_has 24 = .ok (.goto 4, 3) := by decide +kernel
theorem dX1_has_27 : decode cX1_has 27 = .ok (.iconst 0, 1) := by decide +kernel
theorem dX1_has_28 : decode cX1_has 28 = .ok (.ireturn, 1) := by decide +kernel
theorem dX1_isUnder_0 : decode cX1_isUnder 0 = .ok (.aload_n 0, 1) := by decide +kernel
theorem dX1_isUnder_1 : decode cX1_isUnder 1 = .ok (.getfield 15, 3) := by decide +kernel
theorem dX1_isUnder_4 : decode cX1_isUnder 4 = .ok (.istore_n 2, 1) := by decide +kernel
theorem dX1_isUnder_5 : decode cX1_isUnder 5 = .ok (.iconst 0, 1) := by decide +kernel
theorem dX1_isUnder_6 : decode cX1_isUnder 6 = .ok (.istore_n 3, 1) := by decide +kernel
theorem dX1_isUnder_7 : decode cX1_isUnder 7 = .ok (.iload_n 3, 1) := by decide +kernel
theorem dX1_isUnder_8 : decode cX1_isUnder 8 = .ok (.getstatic 45, 3) := by decide +kernel
theorem dX1_isUnder_11 : decode cX1_isUnder 11 = .ok (.arraylength, 1) := by decide +kernel
theorem dX1_isUnder_12 : decode cX1_isUnder 12 = .ok (.if_icmp .ge 27, 3) := by decide +kernel
theorem dX1_isUnder_15 : decode cX1_isUnder 15 = .ok (.iload_n 2, 1) := by decide +kernel
theorem dX1_isUnder_16 : decode cX1_isUnder 16 = .ok (.invokestatic 58, 3) := by decide +kernel
theorem dX1_isUnder_19 : decode cX1_isUnder 19 = .ok (.ifCond .eq 20, 3) := by decide +kernel
theorem dX1_isUnder_22 : decode cX1_isUnder 22 = .ok (.iload_n 2, 1) := by decide +kernel
theorem dX1_isUnder_23 : decode cX1_isUnder 23 = .ok (.iload_n 1, 1) := by decide +kernel
theorem dX1_isUnder_24 : decode cX1_isUnder 24 = .ok (.if_icmp .eq 15, 3) := by decide +kernel
theorem dX1_isUnder_27 : decode cX1_isUnder 27 = .ok (.getstatic 45, 3) := by decide +kernel
theorem dX1_isUnder_30 : decode cX1_isUnder 30 = .ok (.iload_n 2, 1) := by decide +kernel
theorem dX1_isUnder_31 : decode cX1_isUnder 31 = .ok (.iaload, 1) := by decide +kernel
theorem dX1_isUnder_32 : decode cX1_isUnder 32 = .ok (.istore_n 2, 1) := by decide +kernel
theorem dX1_isUnder_33 : decode cX1_isUnder 33 = .ok (.iinc 3 1, 3) := by decide +kernel
theorem dX1_isUnder_36 : decode cX1_isUnder 36 = .ok (.goto (-29), 3) := by decide +kernel
theorem dX1_isUnder_39 : decode cX1_isUnder 39 = .ok (.iload_n 2, 1) := by decide +kernel
theorem dX1_isUnder_40 : decode cX1_isUnder 40 = .ok (.iload_n 1, 1) := by decide +kernel
theorem dX1_isUnder_41 : decode cX1_isUnder 41 = .ok (.if_icmp .ne 7, 3) := by decide +kernel
theorem dX1_isUnder_44 : decode cX1_isUnder 44 = .ok (.iconst 1, 1) := by decide +kernel
theorem dX1_isUnder_45 : decode cX1_isUnder 45 = .ok (.goto 4, 3) := by decide +kernel
theorem dX1_isUnder_48 : decode cX1_isUnder 48 = .ok (.iconst 0, 1) := by decide +kernel
theorem dX1_isUnder_49 : decode cX1_isUnder 49 = .ok (.ireturn, 1) := by decide +kernel
theorem dX1_loggedHours_0 : decode cX1_loggedHours 0 = .ok (.aload_n 0, 1) := by decide +kernel
theorem dX1_loggedHours_1 : decode cX1_loggedHours 1 = .ok (.getfield 11, 3) := by decide +kernel
theorem dX1_loggedHours_4 : decode cX1_loggedHours 4 = .ok (.iconst 2, 1) := by decide +kernel
theorem dX1_loggedHours_5 : decode cX1_loggedHours 5 = .ok (.if_icmp .ne 5, 3) := by decide +kernel
theorem dX1_loggedHours_8 : decode cX1_loggedHours 8 = .ok (.iconst 0, 1) := by decide +kernel
theorem dX1_loggedHours_9 : decode cX1_loggedHours 9 = .ok (.ireturn, 1) := by decide +kernel
theorem dX1_loggedHours_10 : decode cX1_loggedHours 10 = .ok (.aload_n 0, 1) := by decide +kernel
theorem dX1_loggedHours_11 : decode cX1_loggedHours 11 = .ok (.getfield 25, 3) := by decide +kernel
theorem dX1_loggedHours_14 : decode cX1_loggedHours 14 = .ok (.aload_n 0, 1) := by decide +kernel
theorem dX1_loggedHours_15 : decode cX1_loggedHours 15 = .ok (.getfield 18, 3) := by decide +kernel
theorem dX1_loggedHours_18 : decode cX1_loggedHours 18 = .ok (.getfield 62, 3) := by decide +kernel
theorem dX1_loggedHours_21 : decode cX1_loggedHours 21 = .ok (.iconst 1, 1) := by decide +kernel
theorem dX1_loggedHours_22 : decode cX1_loggedHours 22 = .ok (.isub, 1) := by decide +kernel
theorem dX1_loggedHours_23 : decode cX1_loggedHours 23 = .ok (.invokestatic 65, 3) := by decide +kernel
theorem dX1_loggedHours_26 : decode cX1_loggedHours 26 = .ok (.aload_n 0, 1) := by decide +kernel
theorem dX1_loggedHours_27 : decode cX1_loggedHours 27 = .ok (.getfield 22, 3) := by decide +kernel
theorem dX1_loggedHours_30 : decode cX1_loggedHours 30 = .ok (.isub, 1) := by decide +kernel
theorem dX1_loggedHours_31 : decode cX1_loggedHours 31 = .ok (.iconst 1, 1) := by decide +kernel
theorem dX1_loggedHours_32 : decode cX1_loggedHours 32 = .ok (.iadd, 1) := by decide +kernel
theorem dX1_loggedHours_33 : decode cX1_loggedHours 33 = .ok (.iconst 0, 1) := by decide +kernel
theorem dX1_loggedHours_34 : decode cX1_loggedHours 34 = .ok (.invokestatic 71, 3) := by decide +kernel
theorem dX1_loggedHours_37 : decode cX1_loggedHours 37 = .ok (.ireturn, 1) := by decide +kernel
theorem dX1_payFor_0 : decode cX1_payFor 0 = .ok (.aload_n 0, 1) := by decide +kernel
theorem dX1_payFor_1 : decode cX1_payFor 1 = .ok (.getfield 15, 3) := by decide +kernel
theorem dX1_payFor_4 : decode cX1_payFor 4 = .ok (.tableswitch 84 1 5 #[36, 42, 54, 64, 66], 36) := by decide +kernel
theorem dX1_payFor_40 : decode cX1_payFor 40 = .ok (.aload_n 0, 1) := by decide +kernel
theorem dX1_payFor_41 : decode cX1_payFor 41 = .ok (.aload_n 1, 1) := by decide +kernel
theorem dX1_payFor_42 : decode cX1_payFor 42 = .ok (.invokevirtual 74, 3) := by decide +kernel
theorem dX1_payFor_45 : decode cX1_payFor 45 = .ok (.lreturn, 1) := by decide +kernel
theorem dX1_payFor_46 : decode cX1_payFor 46 = .ok (.aload_n 0, 1) := by decide +kernel
theorem dX1_payFor_47 : decode cX1_payFor 47 = .ok (.getfield 34, 3) := by decide +kernel
theorem dX1_payFor_50 : decode cX1_payFor 50 = .ok (.i2l, 1) := by decide +kernel
theorem dX1_payFor_51 : decode cX1_payFor 51 = .ok (.aload_n 0, 1) := by decide +kernel
theorem dX1_payFor_52 : decode cX1_payFor 52 = .ok (.aload_n 1, 1) := by decide +kernel
theorem dX1_payFor_53 : decode cX1_payFor 53 = .ok (.invokevirtual 74, 3) := by decide +kernel
theorem dX1_payFor_56 : decode cX1_payFor 56 = .ok (.ladd, 1) := by decide +kernel
theorem dX1_payFor_57 : decode cX1_payFor 57 = .ok (.lreturn, 1) := by decide +kernel
theorem dX1_payFor_58 : decode cX1_payFor 58 = .ok (.ldc2_w 78, 3) := by decide +kernel
theorem dX1_payFor_61 : decode cX1_payFor 61 = .ok (.aload_n 0, 1) := by decide +kernel
theorem dX1_payFor_62 : decode cX1_payFor 62 = .ok (.aload_n 1, 1) := by decide +kernel
theorem dX1_payFor_63 : decode cX1_payFor 63 = .ok (.invokevirtual 80, 3) := by decide +kernel
theorem dX1_payFor_66 : decode cX1_payFor 66 = .ok (.lmul, 1) := by decide +kernel
theorem dX1_payFor_67 : decode cX1_payFor 67 = .ok (.lreturn, 1) := by decide +kernel
theorem dX1_payFor_68 : decode cX1_payFor 68 = .ok (.lconst 0, 1) := by decide +kernel
theorem dX1_payFor_69 : decode cX1_payFor 69 = .ok (.lreturn, 1) := by decide +kernel
theorem dX1_payFor_70 : decode cX1_payFor 70 = .ok (.aload_n 0, 1) := by decide +kernel
theorem dX1_payFor_71 : decode cX1_payFor 71 = .ok (.getfield 11, 3) := by decide +kernel
theorem dX1_payFor_74 : decode cX1_payFor 74 = .ok (.iconst 1, 1) := by decide +kernel
theorem dX1_payFor_75 : decode cX1_payFor 75 = .ok (.if_icmp .ne 11, 3) := by decide +kernel
theorem dX1_payFor_78 : decode cX1_payFor 78 = .ok (.aload_n 0, 1) := by decide +kernel
theorem dX1_payFor_79 : decode cX1_payFor 79 = .ok (.aload_n 1, 1) := by decide +kernel
theorem dX1_payFor_80 : decode cX1_payFor 80 = .ok (.invokevirtual 80, 3) := by decide +kernel
theorem dX1_payFor_83 : decode cX1_payFor 83 = .ok (.goto 4, 3) := by decide +kernel
theorem dX1_payFor_86 : decode cX1_payFor 86 = .ok (.lconst 0, 1) := by decide +kernel
theorem dX1_payFor_87 : decode cX1_payFor 87 = .ok (.lreturn, 1) := by decide +kernel
theorem dX1_payFor_88 : decode cX1_payFor 88 = .ok (.aload_n 0, 1) := by decide +kernel
theorem dX1_payFor_89 : decode cX1_payFor 89 = .ok (.aload_n 1, 1) := by decide +kernel
theorem dX1_payFor_90 : decode cX1_payFor 90 = .ok (.invokevirtual 80, 3) := by decide +kernel
theorem dX1_payFor_93 : decode cX1_payFor 93 = .ok (.lreturn, 1) := by decide +kernel
theorem dX1_voyagePay_0 : decode cX1_voyagePay 0 = .ok (.aload_n 1, 1) := by decide +kernel
theorem dX1_voyagePay_1 : decode cX1_voyagePay 1 = .ok (.getfield 83, 3) := by decide +kernel
theorem dX1_voyagePay_4 : decode cX1_voyagePay 4 = .ok (.aload_n 0, 1) := by decide +kernel
theorem dX1_voyagePay_5 : decode cX1_voyagePay 5 = .ok (.getfield 42, 3) := by decide +kernel
theorem dX1_voyagePay_8 : decode cX1_voyagePay 8 = .ok (.isub, 1) := by decide +kernel
theorem dX1_voyagePay_9 : decode cX1_voyagePay 9 = .ok (.i2l, 1) := by decide +kernel
theorem dX1_voyagePay_10 : decode cX1_voyagePay 10 = .ok (.lstore_n 2, 1) := by decide +kernel
theorem dX1_voyagePay_11 : decode cX1_voyagePay 11 = .ok (.aload_n 0, 1) := by decide +kernel
theorem dX1_voyagePay_12 : decode cX1_voyagePay 12 = .ok (.getfield 34, 3) := by decide +kernel
theorem dX1_voyagePay_15 : decode cX1_voyagePay 15 = .ok (.i2l, 1) := by decide +kernel
theorem dX1_voyagePay_16 : decode cX1_voyagePay 16 = .ok (.lload_n 2, 1) := by decide +kernel
theorem dX1_voyagePay_17 : decode cX1_voyagePay 17 = .ok (.lconst 0, 1) := by decide +kernel
theorem dX1_voyagePay_18 : decode cX1_voyagePay 18 = .ok (.lcmp, 1) := by decide +kernel
theorem dX1_voyagePay_19 : decode cX1_voyagePay 19 = .ok (.ifCond .le 13, 3) := by decide +kernel
theorem dX1_voyagePay_22 : decode cX1_voyagePay 22 = .ok (.lload_n 2, 1) := by decide +kernel
theorem dX1_voyagePay_23 : decode cX1_voyagePay 23 = .ok (.aload_n 0, 1) := by decide +kernel
theorem dX1_voyagePay_24 : decode cX1_voyagePay 24 = .ok (.getfield 39, 3) := by decide +kernel
theorem dX1_voyagePay_27 : decode cX1_voyagePay 27 = .ok (.i2l, 1) := by decide +kernel
theorem dX1_voyagePay_28 : decode cX1_voyagePay 28 = .ok (.lmul, 1) := by decide +kernel
theorem dX1_voyagePay_29 : decode cX1_voyagePay 29 = .ok (.goto 12, 3) := by decide +kernel
theorem dX1_voyagePay_32 : decode cX1_voyagePay 32 = .ok (.lload_n 2, 1) := by decide +kernel
theorem dX1_voyagePay_33 : decode cX1_voyagePay 33 = .ok (.aload_n 0, 1) := by decide +kernel
theorem dX1_voyagePay_34 : decode cX1_voyagePay 34 = .ok (.getfield 39, 3) := by decide +kernel
theorem dX1_voyagePay_37 : decode cX1_voyagePay 37 = .ok (.iconst 2, 1) := by decide +kernel
theorem dX1_voyagePay_38 : decode cX1_voyagePay 38 = .ok (.idiv, 1) := by decide +kernel
theorem dX1_voyagePay_39 : decode cX1_voyagePay 39 = .ok (.i2l, 1) := by decide +kernel
theorem dX1_voyagePay_40 : decode cX1_voyagePay 40 = .ok (.lmul, 1) := by decide +kernel
theorem dX1_voyagePay_41 : decode cX1_voyagePay 41 = .ok (.ladd, 1) := by decide +kernel
theorem dX1_voyagePay_42 : decode cX1_voyagePay 42 = .ok (.lreturn, 1) := by decide +kernel
theorem dX1_timePay_0 : decode cX1_timePay 0 = .ok (.aload_n 0, 1) := by decide +kernel
theorem dX1_timePay_1 : decode cX1_timePay 1 = .ok (.getfield 39, 3) := by decide +kernel
theorem dX1_timePay_4 : decode cX1_timePay 4 = .ok (.i2l, 1) := by decide +kernel
theorem dX1_timePay_5 : decode cX1_timePay 5 = .ok (.aload_n 1, 1) := by decide +kernel
theorem dX1_timePay_6 : decode cX1_timePay 6 = .ok (.getfield 83, 3) := by decide +kernel
theorem dX1_timePay_9 : decode cX1_timePay 9 = .ok (.aload_n 1, 1) := by decide +kernel
theorem dX1_timePay_10 : decode cX1_timePay 10 = .ok (.getfield 88, 3) := by decide +kernel
theorem dX1_timePay_13 : decode cX1_timePay 13 = .ok (.iadd, 1) := by decide +kernel
theorem dX1_timePay_14 : decode cX1_timePay 14 = .ok (.i2l, 1) := by decide +kernel
theorem dX1_timePay_15 : decode cX1_timePay 15 = .ok (.lmul, 1) := by decide +kernel
theorem dX1_timePay_16 : decode cX1_timePay 16 = .ok (.lreturn, 1) := by decide +kernel
theorem dX2_init_0 : decode cX2_init 0 = .ok (.aload_n 0, 1) := by decide +kernel
theorem dX2_init_1 : decode cX2_init 1 = .ok (.invokespecial 1, 3) := by decide +kernel
theorem dX2_init_4 : decode cX2_init 4 = .ok (.aload_n 0, 1) := by decide +kernel
theorem dX2_init_5 : decode cX2_init 5 = .ok (.aload_n 1, 1) := by decide +kernel
theorem dX2_init_6 : decode cX2_init 6 = .ok (.putfield 7, 3) := by decide +kernel
theorem dX2_init_9 : decode cX2_init 9 = .ok (.aload_n 0, 1) := by decide +kernel
theorem dX2_init_10 : decode cX2_init 10 = .ok (.aload_n 2, 1) := by decide +kernel
theorem dX2_init_11 : decode cX2_init 11 = .ok (.putfield 13, 3) := by decide +kernel
theorem dX2_init_14 : decode cX2_init 14 = .ok (.aload_n 0, 1) := by decide +kernel
theorem dX2_init_15 : decode cX2_init 15 = .ok (.iload_n 3, 1) := by decide +kernel
theorem dX2_init_16 : decode cX2_init 16 = .ok (.putfield 16, 3) := by decide +kernel
theorem dX2_init_19 : decode cX2_init 19 = .ok (.aload_n 0, 1) := by decide +kernel
theorem dX2_init_20 : decode cX2_init 20 = .ok (.iload 4, 2) := by decide +kernel
theorem dX2_init_22 : decode cX2_init 22 = .ok (.putfield 20, 3) := by decide +kernel
theorem dX2_init_25 : decode cX2_init 25 = .ok (.aload_n 0, 1) := by decide +kernel
theorem dX2_init_26 : decode cX2_init 26 = .ok (.iload 5, 2) := by decide +kernel
theorem dX2_init_28 : decode cX2_init 28 = .ok (.putfield 23, 3) := by decide +kernel
theorem dX2_init_31 : decode cX2_init 31 = .ok (.aload_n 0, 1) := by decide +kernel
theorem dX2_init_32 : decode cX2_init 32 = .ok (.iload 6, 2) := by decide +kernel
theorem dX2_init_34 : decode cX2_init 34 = .ok (.putfield 26, 3) := by decide +kernel
theorem dX2_init_37 : decode cX2_init 37 = .ok (.return_, 1) := by decide +kernel
theorem dX3_init_0 : decode cX3_init 0 = .ok (.aload_n 0, 1) := by decide +kernel
theorem dX3_init_1 : decode cX3_init 1 = .ok (.invokespecial 3, 3) := by decide +kernel
theorem dX3_init_4 : decode cX3_init 4 = .ok (.aload_n 0, 1) := by decide +kernel
theorem dX3_init_5 : decode cX3_init 5 = .ok (.bipush 8, 2) := by decide +kernel
theorem dX3_init_7 : decode cX3_init 7 = .ok (.newarray .int, 2) := by decide +kernel
theorem dX3_init_9 : decode cX3_init 9 = .ok (.putfield 9, 3) := by decide +kernel
theorem dX3_init_12 : decode cX3_init 12 = .ok (.aload_n 0, 1) := by decide +kernel
theorem dX3_init_13 : decode cX3_init 13 = .ok (.iload_n 1, 1) := by decide +kernel
theorem dX3_init_14 : decode cX3_init 14 = .ok (.putfield 15, 3) := by decide +kernel
theorem dX3_init_17 : decode cX3_init 17 = .ok (.aload_n 0, 1) := by decide +kernel
theorem dX3_init_18 : decode cX3_init 18 = .ok (.iload_n 2, 1) := by decide +kernel
theorem dX3_init_19 : decode cX3_init 19 = .ok (.putfield 19, 3) := by decide +kernel
theorem dX3_init_22 : decode cX3_init 22 = .ok (.aload_n 0, 1) := by decide +kernel
theorem dX3_init_23 : decode cX3_init 23 = .ok (.iload_n 3, 1) := by decide +kernel
theorem dX3_init_24 : decode cX3_init 24 = .ok (.putfield 22, 3) := by decide +kernel
theorem dX3_init_27 : decode cX3_init 27 = .ok (.return_, 1) := by decide +kernel
theorem dX3_milesTo_0 : decode cX3_milesTo 0 = .ok (.aload_n 1, 1) := by decide +kernel
theorem dX3_milesTo_1 : decode cX3_milesTo 1 = .ok (.getfield 15, 3) := by decide +kernel
theorem dX3_milesTo_4 : decode cX3_milesTo 4 = .ok (.istore_n 2, 1) := by decide +kernel
theorem dX3_milesTo_5 : decode cX3_milesTo 5 = .ok (.iload_n 2, 1) := by decide +kernel
theorem dX3_milesTo_6 : decode cX3_milesTo 6 = .ok (.ifCond .lt 18, 3) := by decide +kernel
theorem dX3_milesTo_9 : decode cX3_milesTo 9 = .ok (.iload_n 2, 1) := by decide +kernel
theorem dX3_milesTo_10 : decode cX3_milesTo 10 = .ok (.bipush 8, 2) := by decide +kernel
theorem dX3_milesTo_12 : decode cX3_milesTo 12 = .ok (.if_icmp .ge 12, 3) := by decide +kernel
theorem dX3_milesTo_15 : decode cX3_milesTo 15 = .ok (.aload_n 0, 1) := by decide +kernel
theorem dX3_milesTo_16 : decode cX3_milesTo 16 = .ok (.getfield 9, 3) := by decide +kernel
theorem dX3_milesTo_19 : decode cX3_milesTo 19 = .ok (.iload_n 2, 1) := by decide +kernel
theorem dX3_milesTo_20 : decode cX3_milesTo 20 = .ok (.iaload, 1) := by decide +kernel
theorem dX3_milesTo_21 : decode cX3_milesTo 21 = .ok (.goto 4, 3) := by decide +kernel
theorem dX3_milesTo_24 : decode cX3_milesTo 24 = .ok (.iconst 0, 1) := by decide +kernel
theorem dX3_milesTo_25 : decode cX3_milesTo 25 = .ok (.ireturn, 1) := by decide +kernel
theorem dX3_putMiles_0 : decode cX3_putMiles 0 = .ok (.aload_n 1, 1) := by decide +kernel
theorem dX3_putMiles_1 : decode cX3_putMiles 1 = .ok (.getfield 15, 3) := by decide +kernel
theorem dX3_putMiles_4 : decode cX3_putMiles 4 = .ok (.istore_n 3, 1) := by decide +kernel
theorem dX3_putMiles_5 : decode cX3_putMiles 5 = .ok (.iload_n 3, 1) := by decide +kernel
theorem dX3_putMiles_6 : decode cX3_putMiles 6 = .ok (.ifCond .lt 16, 3) := by decide +kernel
theorem dX3_putMiles_9 : decode cX3_putMiles 9 = .ok (.iload_n 3, 1) := by decide +kernel
theorem dX3_putMiles_10 : decode cX3_putMiles 10 = .ok (.bipush 8, 2) := by decide +kernel
theorem dX3_putMiles_12 : decode cX3_putMiles 12 = .ok (.if_icmp .ge 10, 3) := by decide +kernel
theorem dX3_putMiles_15 : decode cX3_putMiles 15 = .ok (.aload_n 0, 1) := by decide +kernel
theorem dX3_putMiles_16 : decode cX3_putMiles 16 = .ok (.getfield 9, 3) := by decide +kernel
theorem dX3_putMiles_19 : decode cX3_putMiles 19 = .ok (.iload_n 3, 1) := by decide +kernel
theorem dX3_putMiles_20 : decode cX3_putMiles 20 = .ok (.iload_n 2, 1) := by decide +kernel
theorem dX3_putMiles_21 : decode cX3_putMiles 21 = .ok (.iastore, 1) := by decide +kernel
theorem dX3_putMiles_22 : decode cX3_putMiles 22 = .ok (.return_, 1) := by decide +kernel
theorem dX3_lacksWayTo_0 : decode cX3_lacksWayTo 0 = .ok (.aload_n 1, 1) := by decide +kernel
theorem dX3_lacksWayTo_1 : decode cX3_lacksWayTo 1 = .ok (.getfield 15, 3) := by decide +kernel
theorem dX3_lacksWayTo_4 : decode cX3_lacksWayTo 4 = .ok (.aload_n 0, 1) := by decide +kernel
theorem dX3_lacksWayTo_5 : decode cX3_lacksWayTo 5 = .ok (.getfield 15, 3) := by decide +kernel
theorem dX3_lacksWayTo_8 : decode cX3_lacksWayTo 8 = .ok (.if_icmp .eq 15, 3) := by decide +kernel
theorem dX3_lacksWayTo_11 : decode cX3_lacksWayTo 11 = .ok (.aload_n 0, 1) := by decide +kernel
theorem dX3_lacksWayTo_12 : decode cX3_lacksWayTo 12 = .ok (.aload_n 1, 1) := by decide +kernel
theorem dX3_lacksWayTo_13 : decode cX3_lacksWayTo 13 = .ok (.invokevirtual 25, 3) := by decide +kernel
theorem dX3_lacksWayTo_16 : decode cX3_lacksWayTo 16 = .ok (.ifCond .ne 7, 3) := by decide +kernel
theorem dX3_lacksWayTo_19 : decode cX3_lacksWayTo 19 = .ok (.iconst 1, 1) := by decide +kernel
theorem dX3_lacksWayTo_20 : decode cX3_lacksWayTo 20 = .ok (.goto 4, 3) := by decide +kernel
theorem dX3_lacksWayTo_23 : decode cX3_lacksWayTo 23 = .ok (.iconst 0, 1) := by decide +kernel
theorem dX3_lacksWayTo_24 : decode cX3_lacksWayTo 24 = .ok (.ireturn, 1) := by decide +kernel
theorem dX4_init_0 : decode cX4_init 0 = .ok (.aload_n 0, 1) := by decide +kernel
theorem dX4_init_1 : decode cX4_init 1 = .ok (.invokespecial 3, 3) := by decide +kernel
theorem dX4_init_4 : decode cX4_init 4 = .ok (.return_, 1) := by decide +kernel
theorem dX4_reckon_0 : decode cX4_reckon 0 = .ok (.aload 4, 2) := by decide +kernel
theorem dX4_reckon_2 : decode cX4_reckon 2 = .ok (.getfield 9, 3) := by decide +kernel
theorem dX4_reckon_5 : decode cX4_reckon 5 = .ok (.astore 5, 2) := by decide +kernel
theorem dX4_reckon_7 : decode cX4_reckon 7 = .ok (.aload_n 2, 1) := by decide +kernel
theorem dX4_reckon_8 : decode cX4_reckon 8 = .ok (.aload 5, 2) := by decide +kernel
theorem dX4_reckon_10 : decode cX4_reckon 10 = .ok (.invokevirtual 15, 3) := by decide +kernel
theorem dX4_reckon_13 : decode cX4_reckon 13 = .ok (.istore 6, 2) := by decide +kernel
theorem dX4_reckon_15 : decode cX4_reckon 15 = .ok (.aload 5, 2) := by decide +kernel
theorem dX4_reckon_17 : decode cX4_reckon 17 = .ok (.aload 4, 2) := by decide +kernel
theorem dX4_reckon_19 : decode cX4_reckon 19 = .ok (.getfield 21, 3) := by decide +kernel
theorem dX4_reckon_22 : decode cX4_reckon 22 = .ok (.invokevirtual 15, 3) := by decide +kernel
theorem dX4_reckon_25 : decode cX4_reckon 25 = .ok (.istore 7, 2) := by decide +kernel
theorem dX4_reckon_27 : decode cX4_reckon 27 = .ok (.aload_n 1, 1) := by decide +kernel
theorem dX4_reckon_28 : decode cX4_reckon 28 = .ok (.iload 6, 2) := by decide +kernel
theorem dX4_reckon_30 : decode cX4_reckon 30 = .ok (.invokevirtual 24, 3) := by decide +kernel
theorem dX4_reckon_33 : decode cX4_reckon 33 = .ok (.istore 8, 2) := by decide +kernel
theorem dX4_reckon_35 : decode cX4_reckon 35 = .ok (.aload_n 1, 1) := by decide +kernel
theorem dX4_reckon_36 : decode cX4_reckon 36 = .ok (.iload 7, 2) := by decide +kernel
theorem dX4_reckon_38 : decode cX4_reckon 38 = .ok (.invokevirtual 24, 3) := by decide +kernel
theorem dX4_reckon_41 : decode cX4_reckon 41 = .ok (.istore 9, 2) := by decide +kernel
theorem dX4_reckon_43 : decode cX4_reckon 43 = .ok (.aload 4, 2) := by decide +kernel
theorem dX4_reckon_45 : decode cX4_reckon 45 = .ok (.getfield 30, 3) := by decide +kernel
theorem dX4_reckon_48 : decode cX4_reckon 48 = .ok (.aload 5, 2) := by decide +kernel
theorem dX4_reckon_50 : decode cX4_reckon 50 = .ok (.getfield 34, 3) := by decide +kernel
theorem dX4_reckon_53 : decode cX4_reckon 53 = .ok (.invokestatic 37, 3) := by decide +kernel
theorem dX4_reckon_56 : decode cX4_reckon 56 = .ok (.istore 10, 2) := by decide +kernel
theorem dX4_reckon_58 : decode cX4_reckon 58 = .ok (.aload 4, 2) := by decide +kernel
theorem dX4_reckon_60 : decode cX4_reckon 60 = .ok (.getfield 30, 3) := by decide +kernel
theorem dX4_reckon_63 : decode cX4_reckon 63 = .ok (.aload 4, 2) := by decide +kernel
theorem dX4_reckon_65 : decode cX4_reckon 65 = .ok (.getfield 21, 3) := by decide +kernel
theorem dX4_reckon_68 : decode cX4_reckon 68 = .ok (.getfield 34, 3) := by decide +kernel
theorem dX4_reckon_71 : decode cX4_reckon 71 = .ok (.invokestatic 37, 3) := by decide +kernel
theorem dX4_reckon_74 : decode cX4_reckon 74 = .ok (.istore 11, 2) := by decide +kernel
theorem dX4_reckon_76 : decode cX4_reckon 76 = .ok (.aload_n 0, 1) := by decide +kernel
theorem dX4_reckon_77 : decode cX4_reckon 77 = .ok (.iload_n 3, 1) := by decide +kernel
theorem dX4_reckon_78 : decode cX4_reckon 78 = .ok (.aload_n 1, 1) := by decide +kernel
theorem dX4_reckon_79 : decode cX4_reckon 79 = .ok (.iload 6, 2) := by decide +kernel
theorem dX4_reckon_81 : decode cX4_reckon 81 = .ok (.invokevirtual 41, 3) := by decide +kernel
theorem dX4_reckon_84 : decode cX4_reckon 84 = .ok (.iadd, 1) := by decide +kernel
theorem dX4_reckon_85 : decode cX4_reckon 85 = .ok (.aload 4, 2) := by decide +kernel
theorem dX4_reckon_87 : decode cX4_reckon 87 = .ok (.getfield 44, 3) := by decide +kernel
theorem dX4_reckon_90 : decode cX4_reckon 90 = .ok (.invokestatic 47, 3) := by decide +kernel
theorem dX4_reckon_93 : decode cX4_reckon 93 = .ok (.putfield 52, 3) := by decide +kernel
theorem dX4_reckon_96 : decode cX4_reckon 96 = .ok (.aload_n 0, 1) := by decide +kernel
theorem dX4_reckon_97 : decode cX4_reckon 97 = .ok (.aload_n 0, 1) := by decide +kernel
theorem dX4_reckon_98 : decode cX4_reckon 98 = .ok (.getfield 52, 3) := by decide +kernel
theorem dX4_reckon_101 : decode cX4_reckon 101 = .ok (.iload 10, 2) := by decide +kernel
theorem dX4_reckon_103 : decode cX4_reckon 103 = .ok (.iadd, 1) := by decide +kernel
theorem dX4_reckon_104 : decode cX4_reckon 104 = .ok (.aload_n 1, 1) := by decide +kernel
theorem dX4_reckon_105 : decode cX4_reckon 105 = .ok (.iload 7, 2) := by decide +kernel
theorem dX4_reckon_107 : decode cX4_reckon 107 = .ok (.invokevirtual 41, 3) := by decide +kernel
theorem dX4_reckon_110 : decode cX4_reckon 110 = .ok (.iadd, 1) := by decide +kernel
theorem dX4_reckon_111 : decode cX4_reckon 111 = .ok (.iload 11, 2) := by decide +kernel
theorem dX4_reckon_113 : decode cX4_reckon 113 = .ok (.iadd, 1) := by decide +kernel
theorem dX4_reckon_114 : decode cX4_reckon 114 = .ok (.putfield 57, 3) := by decide +kernel
theorem dX4_reckon_117 : decode cX4_reckon 117 = .ok (.aload_n 0, 1) := by decide +kernel
theorem dX4_reckon_118 : decode cX4_reckon 118 = .ok (.iload 8, 2) := by decide +kernel
theorem dX4_reckon_120 : decode cX4_reckon 120 = .ok (.iload 9, 2) := by decide +kernel
theorem dX4_reckon_122 : decode cX4_reckon 122 = .ok (.iadd, 1) := by decide +kernel
theorem dX4_reckon_123 : decode cX4_reckon 123 = .ok (.putfield 60, 3) := by decide +kernel
theorem dX4_reckon_126 : decode cX4_reckon 126 = .ok (.aload_n 0, 1) := by decide +kernel
theorem dX4_reckon_127 : decode cX4_reckon 127 = .ok (.aload 4, 2) := by decide +kernel
theorem dX4_reckon_129 : decode cX4_reckon 129 = .ok (.getfield 63, 3) := by decide +kernel
theorem dX4_reckon_132 : decode cX4_reckon 132 = .ok (.i2l, 1) := by decide +kernel
theorem dX4_reckon_133 : decode cX4_reckon 133 = .ok (.aload 4, 2) := by decide +kernel
theorem dX4_reckon_135 : decode cX4_reckon 135 = .ok (.getfield 30, 3) := by decide +kernel
theorem dX4_reckon_138 : decode cX4_reckon 138 = .ok (.i2l, 1) := by decide +kernel
theorem dX4_reckon_139 : decode cX4_reckon 139 = .ok (.lmul, 1) := by decide +kernel
theorem dX4_reckon_140 : decode cX4_reckon 140 = .ok (.iload 8, 2) := by decide +kernel
theorem dX4_reckon_142 : decode cX4_reckon 142 = .ok (.i2l, 1) := by decide +kernel
theorem dX4_reckon_143 : decode cX4_reckon 143 = .ok (.aload_n 2, 1) := by decide +kernel
theorem dX4_reckon_144 : decode cX4_reckon 144 = .ok (.getfield 66, 3) := by decide +kernel
theorem dX4_reckon_147 : decode cX4_reckon 147 = .ok (.i2l, 1) := by decide +kernel
theorem dX4_reckon_148 : decode cX4_reckon 148 = .ok (.lmul, 1) := by decide +kernel
theorem dX4_reckon_149 : decode cX4_reckon 149 = .ok (.lsub, 1) := by decide +kernel
theorem dX4_reckon_150 : decode cX4_reckon 150 = .ok (.iload 9, 2) := by decide +kernel
theorem dX4_reckon_152 : decode cX4_reckon 152 = .ok (.i2l, 1) := by decide +kernel
theorem dX4_reckon_153 : decode cX4_reckon 153 = .ok (.aload 5, 2) := by decide +kernel
theorem dX4_reckon_155 : decode cX4_reckon 155 = .ok (.getfield 66, 3) := by decide +kernel
theorem dX4_reckon_158 : decode cX4_reckon 158 = .ok (.i2l, 1) := by decide +kernel
theorem dX4_reckon_159 : decode cX4_reckon 159 = .ok (.lmul, 1) := by decide +kernel
theorem dX4_reckon_160 : decode cX4_reckon 160 = .ok (.lsub, 1) := by decide +kernel
theorem dX4_reckon_161 : decode cX4_reckon 161 = .ok (.putfield 69, 3) := by decide +kernel
theorem dX4_reckon_164 : decode cX4_reckon 164 = .ok (.aload_n 0, 1) := by decide +kernel
theorem dX4_reckon_165 : decode cX4_reckon 165 = .ok (.aload_n 0, 1) := by decide +kernel
theorem dX4_reckon_166 : decode cX4_reckon 166 = .ok (.aload_n 1, 1) := by decide +kernel
theorem dX4_reckon_167 : decode cX4_reckon 167 = .ok (.aload_n 2, 1) := by decide +kernel
theorem dX4_reckon_168 : decode cX4_reckon 168 = .ok (.aload 4, 2) := by decide +kernel
theorem dX4_reckon_170 : decode cX4_reckon 170 = .ok (.iload 8, 2) := by decide +kernel
theorem dX4_reckon_172 : decode cX4_reckon 172 = .ok (.iload 9, 2) := by decide +kernel
theorem dX4_reckon_174 : decode cX4_reckon 174 = .ok (.invokevirtual 73, 3) := by decide +kernel
theorem dX4_reckon_177 : decode cX4_reckon 177 = .ok (.putfield 77, 3) := by decide +kernel
theorem dX4_reckon_180 : decode cX4_reckon 180 = .ok (.return_, 1) := by decide +kernel
theorem dX4_refusal_0 : decode cX4_refusal 0 = .ok (.aload_n 3, 1) := by decide +kernel
theorem dX4_refusal_1 : decode cX4_refusal 1 = .ok (.getfield 9, 3) := by decide +kernel
theorem dX4_refusal_4 : decode cX4_refusal 4 = .ok (.astore 6, 2) := by decide +kernel
theorem dX4_refusal_6 : decode cX4_refusal 6 = .ok (.aload_n 3, 1) := by decide +kernel
theorem dX4_refusal_7 : decode cX4_refusal 7 = .ok (.getfield 30, 3) := by decide +kernel
theorem dX4_refusal_10 : decode cX4_refusal 10 = .ok (.aload_n 1, 1) := by decide +kernel
theorem dX4_refusal_11 : decode cX4_refusal 11 = .ok (.getfield 80, 3) := by decide +kernel
theorem dX4_refusal_14 : decode cX4_refusal 14 = .ok (.if_icmp .le 5, 3) := by decide +kernel
theorem dX4_refusal_17 : decode cX4_refusal 17 = .ok (.iconst 1, 1) := by decide +kernel
theorem dX4_refusal_18 : decode cX4_refusal 18 = .ok (.ireturn, 1) := by decide +kernel
theorem dX4_refusal_19 : decode cX4_refusal 19 = .ok (.aload_n 2, 1) := by decide +kernel
theorem dX4_refusal_20 : decode cX4_refusal 20 = .ok (.aload 6, 2) := by decide +kernel
theorem dX4_refusal_22 : decode cX4_refusal 22 = .ok (.invokevirtual 83, 3) := by decide +kernel
theorem dX4_refusal_25 : decode cX4_refusal 25 = .ok (.ifCond .ne 15, 3) := by decide +kernel
theorem dX4_refusal_28 : decode cX4_refusal 28 = .ok (.aload 6, 2) := by decide +kernel
theorem dX4_refusal_30 : decode cX4_refusal 30 = .ok (.aload_n 3, 1) := by decide +kernel
theorem dX4_refusal_31 : decode cX4_refusal 31 = .ok (.getfield 21, 3) := by decide +kernel
theorem dX4_refusal_34 : decode cX4_refusal 34 = .ok (.invokevirtual 83, 3) := by decide +kernel
theorem dX4_refusal_37 : decode cX4_refusal 37 = .ok (.ifCond .eq 5, 3) := by decide +kernel
theorem dX4_refusal_40 : decode cX4_refusal 40 = .ok (.iconst 2, 1) := by decide +kernel
theorem dX4_refusal_41 : decode cX4_refusal 41 = .ok (.ireturn, 1) := by decide +kernel
theorem dX4_refusal_42 : decode cX4_refusal 42 = .ok (.aload_n 0, 1) := by decide +kernel
theorem dX4_refusal_43 : decode cX4_refusal 43 = .ok (.getfield 52, 3) := by decide +kernel
theorem dX4_refusal_46 : decode cX4_refusal 46 = .ok (.aload_n 3, 1) := by decide +kernel
theorem dX4_refusal_47 : decode cX4_refusal 47 = .ok (.getfield 87, 3) := by decide +kernel
theorem dX4_refusal_50 : decode cX4_refusal 50 = .ok (.if_icmp .le 5, 3) := by decide +kernel
theorem dX4_refusal_53 : decode cX4_refusal 53 = .ok (.iconst 3, 1) := by decide +kernel
theorem dX4_refusal_54 : decode cX4_refusal 54 = .ok (.ireturn, 1) := by decide +kernel
theorem dX4_refusal_55 : decode cX4_refusal 55 = .ok (.iload 4, 2) := by decide +kernel
theorem dX4_refusal_57 : decode cX4_refusal 57 = .ok (.aload_n 1, 1) := by decide +kernel
theorem dX4_refusal_58 : decode cX4_refusal 58 = .ok (.getfield 90, 3) := by decide +kernel
theorem dX4_refusal_61 : decode cX4_refusal 61 = .ok (.if_icmp .gt 12, 3) := by decide +kernel
theorem dX4_refusal_64 : decode cX4_refusal 64 = .ok (.iload 5, 2) := by decide +kernel
theorem dX4_refusal_66 : decode cX4_refusal 66 = .ok (.aload_n 1, 1) := by decide +kernel
theorem dX4_refusal_67 : decode cX4_refusal 67 = .ok (.getfield 90, 3) := by decide +kernel
theorem dX4_refusal_70 : decode cX4_refusal 70 = .ok (.if_icmp .le 5, 3) := by decide +kernel
theorem dX4_refusal_73 : decode cX4_refusal 73 = .ok (.iconst 4, 1) := by decide +kernel
theorem dX4_refusal_74 : decode cX4_refusal 74 = .ok (.ireturn, 1) := by decide +kernel
theorem dX4_refusal_75 : decode cX4_refusal 75 = .ok (.aload_n 2, 1) := by decide +kernel
theorem dX4_refusal_76 : decode cX4_refusal 76 = .ok (.iload 4, 2) := by decide +kernel
theorem dX4_refusal_78 : decode cX4_refusal 78 = .ok (.invokestatic 93, 3) := by decide +kernel
theorem dX4_refusal_81 : decode cX4_refusal 81 = .ok (.ifCond .ne 13, 3) := by decide +kernel
theorem dX4_refusal_84 : decode cX4_refusal 84 = .ok (.aload 6, 2) := by decide +kernel
theorem dX4_refusal_86 : decode cX4_refusal 86 = .ok (.iload 5, 2) := by decide +kernel
theorem dX4_refusal_88 : decode cX4_refusal 88 = .ok (.invokestatic 93, 3) := by decide +kernel
theorem dX4_refusal_91 : decode cX4_refusal 91 = .ok (.ifCond .eq 5, 3) := by decide +kernel
theorem dX4_refusal_94 : decode cX4_refusal 94 = .ok (.iconst 5, 1) := by decide +kernel
theorem dX4_refusal_95 : decode cX4_refusal 95 = .ok (.ireturn, 1) := by decide +kernel
theorem dX4_refusal_96 : decode cX4_refusal 96 = .ok (.aload_n 0, 1) := by decide +kernel
theorem dX4_refusal_97 : decode cX4_refusal 97 = .ok (.getfield 57, 3) := by decide +kernel
theorem dX4_refusal_100 : decode cX4_refusal 100 = .ok (.sipush 9999, 3) := by decide +kernel
theorem dX4_refusal_103 : decode cX4_refusal 103 = .ok (.if_icmp .le 6, 3) := by decide +kernel
theorem dX4_refusal_106 : decode cX4_refusal 106 = .ok (.bipush 6, 2) := by decide +kernel
theorem dX4_refusal_108 : decode cX4_refusal 108 = .ok (.ireturn, 1) := by decide +kernel
theorem dX4_refusal_109 : decode cX4_refusal 109 = .ok (.aload_n 3, 1) := by decide +kernel
theorem dX4_refusal_110 : decode cX4_refusal 110 = .ok (.getfield 97, 3) := by decide +kernel
theorem dX4_refusal_113 : decode cX4_refusal 113 = .ok (.ifCond .eq 8, 3) := by decide +kernel
theorem dX4_refusal_116 : decode cX4_refusal 116 = .ok (.bipush 7, 2) := by decide +kernel
theorem dX4_refusal_118 : decode cX4_refusal 118 = .ok (.goto 4, 3) := by decide +kernel
theorem dX4_refusal_121 : decode cX4_refusal 121 = .ok (.iconst 0, 1) := by decide +kernel
theorem dX4_refusal_122 : decode cX4_refusal 122 = .ok (.ireturn, 1) := by decide +kernel
theorem dX4_lacksCoal_0 : decode cX4_lacksCoal 0 = .ok (.iload_n 1, 1) := by decide +kernel
theorem dX4_lacksCoal_1 : decode cX4_lacksCoal 1 = .ok (.ifCond .le 14, 3) := by decide +kernel
theorem dX4_lacksCoal_4 : decode cX4_lacksCoal 4 = .ok (.aload_n 0, 1) := by decide +kernel
theorem dX4_lacksCoal_5 : decode cX4_lacksCoal 5 = .ok (.getfield 66, 3) := by decide +kernel
theorem dX4_lacksCoal_8 : decode cX4_lacksCoal 8 = .ok (.ifCond .ne 7, 3) := by decide +kernel
theorem dX4_lacksCoal_11 : decode cX4_lacksCoal 11 = .ok (.iconst 1, 1) := by decide +kernel
theorem dX4_lacksCoal_12 : decode cX4_lacksCoal 12 = .ok (.goto 4, 3) := by decide +kernel
theorem dX4_lacksCoal_15 : decode cX4_lacksCoal 15 = .ok (.iconst 0, 1) := by decide +kernel
theorem dX4_lacksCoal_16 : decode cX4_lacksCoal 16 = .ok (.ireturn, 1) := by decide +kernel
theorem dX5_init_0 : decode cX5_init 0 = .ok (.aload_n 0, 1) := by decide +kernel
theorem dX5_init_1 : decode cX5_init 1 = .ok (.invokespecial 3, 3) := by decide +kernel
theorem dX5_init_4 : decode cX5_init 4 = .ok (.aload_n 0, 1) := by decide +kernel
theorem dX5_init_5 : decode cX5_init 5 = .ok (.sipush 160, 3) := by decide +kernel
theorem dX5_init_8 : decode cX5_init 8 = .ok (.newarray .int, 2) := by decide +kernel
theorem dX5_init_10 : decode cX5_init 10 = .ok (.putfield 9, 3) := by decide +kernel
theorem dX5_init_13 : decode cX5_init 13 = .ok (.aload_n 0, 1) := by decide +kernel
theorem dX5_init_14 : decode cX5_init 14 = .ok (.sipush 160, 3) := by decide +kernel
theorem dX5_init_17 : decode cX5_init 17 = .ok (.newarray .int, 2) := by decide +kernel
theorem dX5_init_19 : decode cX5_init 19 = .ok (.putfield 15, 3) := by decide +kernel
theorem dX5_init_22 : decode cX5_init 22 = .ok (.aload_n 0, 1) := by decide +kernel
theorem dX5_init_23 : decode cX5_init 23 = .ok (.sipush 160, 3) := by decide +kernel
theorem dX5_init_26 : decode cX5_init 26 = .ok (.newarray .int, 2) := by decide +kernel
theorem dX5_init_28 : decode cX5_init 28 = .ok (.putfield 18, 3) := by decide +kernel
theorem dX5_init_31 : decode cX5_init 31 = .ok (.return_, 1) := by decide +kernel
theorem dX5_append_0 : decode cX5_append 0 = .ok (.aload_n 0, 1) := by decide +kernel
theorem dX5_append_1 : decode cX5_append 1 = .ok (.getfield 21, 3) := by decide +kernel
theorem dX5_append_4 : decode cX5_append 4 = .ok (.sipush 160, 3) := by decide +kernel
theorem dX5_append_7 : decode cX5_append 7 = .ok (.if_icmp .ge 23, 3) := by decide +kernel
theorem dX5_append_10 : decode cX5_append 10 = .ok (.aload_n 0, 1) := by decide +kernel
theorem dX5_append_11 : decode cX5_append 11 = .ok (.getfield 9, 3) := by decide +kernel
theorem dX5_append_14 : decode cX5_append 14 = .ok (.aload_n 0, 1) := by decide +kernel
theorem dX5_append_15 : decode cX5_append 15 = .ok (.getfield 21, 3) := by decide +kernel
theorem dX5_append_18 : decode cX5_append 18 = .ok (.iload_n 1, 1) := by decide +kernel
theorem dX5_append_19 : decode cX5_append 19 = .ok (.iastore, 1) := by decide +kernel
theorem dX5_append_20 : decode cX5_append 20 = .ok (.aload_n 0, 1) := by decide +kernel
theorem dX5_append_21 : decode cX5_append 21 = .ok (.dup, 1) := by decide +kernel
theorem dX5_append_22 : decode cX5_append 22 = .ok (.getfield 21, 3) := by decide +kernel
theorem dX5_append_25 : decode cX5_append 25 = .ok (.iconst 1, 1) := by decide +kernel
theorem dX5_append_26 : decode cX5_append 26 = .ok (.iadd, 1) := by decide +kernel
theorem dX5_append_27 : decode cX5_append 27 = .ok (.putfield 21, 3) := by decide +kernel
theorem dX5_append_30 : decode cX5_append 30 = .ok (.return_, 1) := by decide +kernel
theorem dX5_emptyTape_0 : decode cX5_emptyTape 0 = .ok (.aload_n 0, 1) := by decide +kernel
theorem dX5_emptyTape_1 : decode cX5_emptyTape 1 = .ok (.iconst 0, 1) := by decide +kernel
theorem dX5_emptyTape_2 : decode cX5_emptyTape 2 = .ok (.putfield 21, 3) := by decide +kernel
theorem dX5_emptyTape_5 : decode cX5_emptyTape 5 = .ok (.return_, 1) := by decide +kernel
theorem dX5_read_0 : decode cX5_read 0 = .ok (.aload_n 0, 1) := by decide +kernel
theorem dX5_read_1 : decode cX5_read 1 = .ok (.invokevirtual 25, 3) := by decide +kernel
theorem dX5_read_4 : decode cX5_read 4 = .ok (.aload_n 1, 1) := by decide +kernel
theorem dX5_read_5 : decode cX5_read 5 = .ok (.invokevirtual 28, 3) := by decide +kernel
theorem dX5_read_8 : decode cX5_read 8 = .ok (.aload_n 0, 1) := by decide +kernel
theorem dX5_read_9 : decode cX5_read 9 = .ok (.iconst (-1), 1) := by decide +kernel
theorem dX5_read_10 : decode cX5_read 10 = .ok (.putfield 33, 3) := by decide +kernel
theorem dX5_read_13 : decode cX5_read 13 = .ok (.aload_n 0, 1) := by decide +kernel
theorem dX5_read_14 : decode cX5_read 14 = .ok (.iconst 0, 1) := by decide +kernel
theorem dX5_read_15 : decode cX5_read 15 = .ok (.invokevirtual 36, 3) := by decide +kernel
theorem dX5_read_18 : decode cX5_read 18 = .ok (.aload_n 0, 1) := by decide +kernel
theorem dX5_read_19 : decode cX5_read 19 = .ok (.bipush (-21), 2) := by decide +kernel
theorem dX5_read_21 : decode cX5_read 21 = .ok (.aload_n 1, 1) := by decide +kernel
theorem dX5_read_22 : decode cX5_read 22 = .ok (.invokevirtual 40, 3) := by decide +kernel
theorem dX5_read_25 : decode cX5_read 25 = .ok (.aload_n 1, 1) := by decide +kernel
theorem dX5_read_26 : decode cX5_read 26 = .ok (.invokevirtual 44, 3) := by decide +kernel
theorem dX5_read_29 : decode cX5_read 29 = .ok (.aload_n 0, 1) := by decide +kernel
theorem dX5_read_30 : decode cX5_read 30 = .ok (.bipush (-22), 2) := by decide +kernel
theorem dX5_read_32 : decode cX5_read 32 = .ok (.aload_n 1, 1) := by decide +kernel
theorem dX5_read_33 : decode cX5_read 33 = .ok (.invokevirtual 40, 3) := by decide +kernel
theorem dX5_read_36 : decode cX5_read 36 = .ok (.aload_n 0, 1) := by decide +kernel
theorem dX5_read_37 : decode cX5_read 37 = .ok (.getfield 47, 3) := by decide +kernel
theorem dX5_read_40 : decode cX5_read 40 = .ok (.bipush (-26), 2) := by decide +kernel
theorem dX5_read_42 : decode cX5_read 42 = .ok (.if_icmp .eq 7, 3) := by decide +kernel
theorem dX5_read_45 : decode cX5_read 45 = .ok (.aload_n 0, 1) := by decide +kernel
theorem dX5_read_46 : decode cX5_read 46 = .ok (.invokevirtual 50, 3) := by decide +kernel
theorem dX5_read_49 : decode cX5_read 49 = .ok (.aload_n 0, 1) := by decide +kernel
theorem dX5_read_50 : decode cX5_read 50 = .ok (.getfield 33, 3) := by decide +kernel
theorem dX5_read_53 : decode cX5_read 53 = .ok (.ireturn, 1) := by decide +kernel
theorem dX5_readPart_0 : decode cX5_readPart 0 = .ok (.aload_n 0, 1) := by decide +kernel
theorem dX5_readPart_1 : decode cX5_readPart 1 = .ok (.iload_n 1, 1) := by decide +kernel
theorem dX5_readPart_2 : decode cX5_readPart 2 = .ok (.invokevirtual 53, 3) := by decide +kernel
theorem dX5_readPart_5 : decode cX5_readPart 5 = .ok (.aload_n 0, 1) := by decide +kernel
theorem dX5_readPart_6 : decode cX5_readPart 6 = .ok (.aload_n 2, 1) := by decide +kernel
theorem dX5_readPart_7 : decode cX5_readPart 7 = .ok (.iconst 0, 1) := by decide +kernel
theorem dX5_readPart_8 : decode cX5_readPart 8 = .ok (.iconst 0, 1) := by decide +kernel
theorem dX5_readPart_9 : decode cX5_readPart 9 = .ok (.invokevirtual 56, 3) := by decide +kernel
theorem dX5_readPart_12 : decode cX5_readPart 12 = .ok (.aload_n 0, 1) := by decide +kernel
theorem dX5_readPart_13 : decode cX5_readPart 13 = .ok (.bipush (-25), 2) := by decide +kernel
theorem dX5_readPart_15 : decode cX5_readPart 15 = .ok (.invokevirtual 53, 3) := by decide +kernel
theorem dX5_readPart_18 : decode cX5_readPart 18 = .ok (.return_, 1) := by decide +kernel
theorem dX5_readLevel_0 : decode cX5_readLevel 0 = .ok (.iload_n 2, 1) := by decide +kernel
theorem dX5_readLevel_1 : decode cX5_readLevel 1 = .ok (.iconst 5, 1) := by decide +kernel
theorem dX5_readLevel_2 : decode cX5_readLevel 2 = .ok (.if_icmp .lt 10, 3) := by decide +kernel
theorem dX5_readLevel_5 : decode cX5_readLevel 5 = .ok (.aload_n 0, 1) := by decide +kernel
theorem dX5_readLevel_6 : decode cX5_readLevel 6 = .ok (.aload_n 1, 1) := by decide +kernel
theorem dX5_readLevel_7 : decode cX5_readLevel 7 = .ok (.iload_n 3, 1) := by decide +kernel
theorem dX5_readLevel_8 : decode cX5_readLevel 8 = .ok (.invokevirtual 60, 3) := by decide +kernel
theorem dX5_readLevel_11 : decode cX5_readLevel 11 = .ok (.return_, 1) := by decide +kernel
theorem dX5_readLevel_12 : decode cX5_readLevel 12 = .ok (.iload_n 2, 1) := by decide +kernel
theorem dX5_readLevel_13 : decode cX5_readLevel 13 = .ok (.iconst 2, 1) := by decide +kernel
theorem dX5_readLevel_14 : decode cX5_readLevel 14 = .ok (.if_icmp .ne 26, 3) := by decide +kernel
theorem dX5_readLevel_17 : decode cX5_readLevel 17 = .ok (.aload_n 0, 1) := by decide +kernel
theorem dX5_readLevel_18 : decode cX5_readLevel 18 = .ok (.getfield 47, 3) := by decide +kernel
theorem dX5_readLevel_21 : decode cX5_readLevel 21 = .ok (.bipush (-3), 2) := by decide +kernel
theorem dX5_readLevel_23 : decode cX5_readLevel 23 = .ok (.if_icmp .ne 17, 3) := by decide +kernel
theorem dX5_readLevel_26 : decode cX5_readLevel 26 = .ok (.aload_n 0, 1) := by decide +kernel
theorem dX5_readLevel_27 : decode cX5_readLevel 27 = .ok (.aload_n 1, 1) := by decide +kernel
theorem dX5_readLevel_28 : decode cX5_readLevel 28 = .ok (.iconst 2, 1) := by decide +kernel
theorem dX5_readLevel_29 : decode cX5_readLevel 29 = .ok (.iload_n 3, 1) := by decide +kernel
theorem dX5_readLevel_30 : decode cX5_readLevel 30 = .ok (.invokevirtual 64, 3) := by decide +kernel
theorem dX5_readLevel_33 : decode cX5_readLevel 33 = .ok (.aload_n 1, 1) := by decide +kernel
theorem dX5_readLevel_34 : decode cX5_readLevel 34 = .ok (.bipush (-3), 2) := by decide +kernel
theorem dX5_readLevel_36 : decode cX5_readLevel 36 = .ok (.invokevirtual 67, 3) := by decide +kernel
theorem dX5_readLevel_39 : decode cX5_readLevel 39 = .ok (.return_, 1) := by decide +kernel
theorem dX5_readLevel_40 : decode cX5_readLevel 40 = .ok (.aload_n 0, 1) := by decide +kernel
theorem dX5_readLevel_41 : decode cX5_readLevel 41 = .ok (.aload_n 1, 1) := by decide +kernel
theorem dX5_readLevel_42 : decode cX5_readLevel 42 = .ok (.iload_n 2, 1) := by decide +kernel
theorem dX5_readLevel_43 : decode cX5_readLevel 43 = .ok (.iconst 1, 1) := by decide +kernel
theorem dX5_readLevel_44 : decode cX5_readLevel 44 = .ok (.iadd, 1) := by decide +kernel
theorem dX5_readLevel_45 : decode cX5_readLevel 45 = .ok (.iload_n 3, 1) := by decide +kernel
theorem dX5_readLevel_46 : decode cX5_readLevel 46 = .ok (.invokevirtual 56, 3) := by decide +kernel
theorem dX5_readLevel_49 : decode cX5_readLevel 49 = .ok (.iload_n 2, 1) := by decide +kernel
theorem dX5_readLevel_50 : decode cX5_readLevel 50 = .ok (.iconst 2, 1) := by decide +kernel
theorem dX5_readLevel_51 : decode cX5_readLevel 51 = .ok (.if_icmp .ne 7, 3) := by decide +kernel
theorem dX5_readLevel_54 : decode cX5_readLevel 54 = .ok (.iconst 1, 1) := by decide +kernel
theorem dX5_readLevel_55 : decode cX5_readLevel 55 = .ok (.goto 6, 3) := by decide +kernel
theorem dX5_readLevel_58 : decode cX5_readLevel 58 = .ok (.sipush 160, 3) := by decide +kernel
theorem dX5_readLevel_61 : decode cX5_readLevel 61 = .ok (.istore 4, 2) := by decide +kernel
theorem dX5_readLevel_63 : decode cX5_readLevel 63 = .ok (.iconst 0, 1) := by decide +kernel
theorem dX5_readLevel_64 : decode cX5_readLevel 64 = .ok (.istore 5, 2) := by decide +kernel
theorem dX5_readLevel_66 : decode cX5_readLevel 66 = .ok (.iload 5, 2) := by decide +kernel
theorem dX5_readLevel_68 : decode cX5_readLevel 68 = .ok (.iload 4, 2) := by decide +kernel
theorem dX5_readLevel_70 : decode cX5_readLevel 70 = .ok (.if_icmp .ge 51, 3) := by decide +kernel
theorem dX5_readLevel_73 : decode cX5_readLevel 73 = .ok (.aload_n 0, 1) := by decide +kernel
theorem dX5_readLevel_74 : decode cX5_readLevel 74 = .ok (.getfield 47, 3) := by decide +kernel
theorem dX5_readLevel_77 : decode cX5_readLevel 77 = .ok (.invokestatic 70, 3) := by decide +kernel
theorem dX5_readLevel_80 : decode cX5_readLevel 80 = .ok (.iload_n 2, 1) := by decide +kernel
theorem dX5_readLevel_81 : decode cX5_readLevel 81 = .ok (.if_icmp .ne 40, 3) := by decide +kernel
theorem dX5_readLevel_84 : decode cX5_readLevel 84 = .ok (.aload_n 0, 1) := by decide +kernel
theorem dX5_readLevel_85 : decode cX5_readLevel 85 = .ok (.getfield 47, 3) := by decide +kernel
theorem dX5_readLevel_88 : decode cX5_readLevel 88 = .ok (.istore 6, 2) := by decide +kernel
theorem dX5_readLevel_90 : decode cX5_readLevel 90 = .ok (.aload_n 0, 1) := by decide +kernel
theorem dX5_readLevel_91 : decode cX5_readLevel 91 = .ok (.aload_n 0, 1) := by decide +kernel
theorem dX5_readLevel_92 : decode cX5_readLevel 92 = .ok (.getfield 74, 3) := by decide +kernel
theorem dX5_readLevel_95 : decode cX5_readLevel 95 = .ok (.iconst 1, 1) := by decide +kernel
theorem dX5_readLevel_96 : decode cX5_readLevel 96 = .ok (.iadd, 1) := by decide +kernel
theorem dX5_readLevel_97 : decode cX5_readLevel 97 = .ok (.invokevirtual 36, 3) := by decide +kernel
theorem dX5_readLevel_100 : decode cX5_readLevel 100 = .ok (.aload_n 0, 1) := by decide +kernel
theorem dX5_readLevel_101 : decode cX5_readLevel 101 = .ok (.aload_n 1, 1) := by decide +kernel
theorem dX5_readLevel_102 : decode cX5_readLevel 102 = .ok (.iload_n 2, 1) := by decide +kernel
theorem dX5_readLevel_103 : decode cX5_readLevel 103 = .ok (.iconst 1, 1) := by decide +kernel
theorem dX5_readLevel_104 : decode cX5_readLevel 104 = .ok (.iadd, 1) := by decide +kernel
theorem dX5_readLevel_105 : decode cX5_readLevel 105 = .ok (.iload_n 3, 1) := by decide +kernel
theorem dX5_readLevel_106 : decode cX5_readLevel 106 = .ok (.invokevirtual 56, 3) := by decide +kernel
theorem dX5_readLevel_109 : decode cX5_readLevel 109 = .ok (.aload_n 1, 1) := by decide +kernel
theorem dX5_readLevel_110 : decode cX5_readLevel 110 = .ok (.iload 6, 2) := by decide +kernel
theorem dX5_readLevel_112 : decode cX5_readLevel 112 = .ok (.invokevirtual 67, 3) := by decide +kernel
theorem dX5_readLevel_115 : decode cX5_readLevel 115 = .ok (.iinc 5 1, 3) := by decide +kernel
theorem dX5_readLevel_118 : decode cX5_readLevel 118 = .ok (.goto (-52), 3) := by decide +kernel
theorem dX5_readLevel_121 : decode cX5_readLevel 121 = .ok (.return_, 1) := by decide +kernel
theorem dX5_readOne_0 : decode cX5_readOne 0 = .ok (.aload_n 0, 1) := by decide +kernel
theorem dX5_readOne_1 : decode cX5_readOne 1 = .ok (.getfield 47, 3) := by decide +kernel
theorem dX5_readOne_4 : decode cX5_readOne 4 = .ok (.ifCond .ge 13, 3) := by decide +kernel
theorem dX5_readOne_7 : decode cX5_readOne 7 = .ok (.aload_n 0, 1) := by decide +kernel
theorem dX5_readOne_8 : decode cX5_readOne 8 = .ok (.getfield 47, 3) := by decide +kernel
theorem dX5_readOne_11 : decode cX5_readOne 11 = .ok (.invokestatic 77, 3) := by decide +kernel
theorem dX5_readOne_14 : decode cX5_readOne 14 = .ok (.ifCond .eq 24, 3) := by decide +kernel
theorem dX5_readOne_17 : decode cX5_readOne 17 = .ok (.aload_n 1, 1) := by decide +kernel
theorem dX5_readOne_18 : decode cX5_readOne 18 = .ok (.aload_n 0, 1) := by decide +kernel
theorem dX5_readOne_19 : decode cX5_readOne 19 = .ok (.getfield 47, 3) := by decide +kernel
theorem dX5_readOne_22 : decode cX5_readOne 22 = .ok (.invokevirtual 67, 3) := by decide +kernel
theorem dX5_readOne_25 : decode cX5_readOne 25 = .ok (.aload_n 0, 1) := by decide +kernel
theorem dX5_readOne_26 : decode cX5_readOne 26 = .ok (.aload_n 0, 1) := by decide +kernel
theorem dX5_readOne_27 : decode cX5_readOne 27 = .ok (.getfield 74, 3) := by decide +kernel
theorem dX5_readOne_30 : decode cX5_readOne 30 = .ok (.iconst 1, 1) := by decide +kernel
theorem dX5_readOne_31 : decode cX5_readOne 31 = .ok (.iadd, 1) := by decide +kernel
theorem dX5_readOne_32 : decode cX5_readOne 32 = .ok (.invokevirtual 36, 3) := by decide +kernel
theorem dX5_readOne_35 : decode cX5_readOne 35 = .ok (.goto 57, 3) := by decide +kernel
theorem dX5_readOne_38 : decode cX5_readOne 38 = .ok (.aload_n 0, 1) := by decide +kernel
theorem dX5_readOne_39 : decode cX5_readOne 39 = .ok (.getfield 47, 3) := by decide +kernel
theorem dX5_readOne_42 : decode cX5_readOne 42 = .ok (.bipush (-7), 2) := by decide +kernel
theorem dX5_readOne_44 : decode cX5_readOne 44 = .ok (.if_icmp .ne 19, 3) := by decide +kernel
theorem dX5_readOne_47 : decode cX5_readOne 47 = .ok (.aload_n 0, 1) := by decide +kernel
theorem dX5_readOne_48 : decode cX5_readOne 48 = .ok (.aload_n 1, 1) := by decide +kernel
theorem dX5_readOne_49 : decode cX5_readOne 49 = .ok (.iconst 5, 1) := by decide +kernel
theorem dX5_readOne_50 : decode cX5_readOne 50 = .ok (.iload_n 2, 1) := by decide +kernel
theorem dX5_readOne_51 : decode cX5_readOne 51 = .ok (.invokevirtual 64, 3) := by decide +kernel
theorem dX5_readOne_54 : decode cX5_readOne 54 = .ok (.aload_n 1, 1) := by decide +kernel
theorem dX5_readOne_55 : decode cX5_readOne 55 = .ok (.bipush (-9), 2) := by decide +kernel
theorem dX5_readOne_57 : decode cX5_readOne 57 = .ok (.invokevirtual 67, 3) := by decide +kernel
theorem dX5_readOne_60 : decode cX5_readOne 60 = .ok (.goto 32, 3) := by decide +kernel
theorem dX5_readOne_63 : decode cX5_readOne 63 = .ok (.aload_n 0, 1) := by decide +kernel
theorem dX5_readOne_64 : decode cX5_readOne 64 = .ok (.getfield 47, 3) := by decide +kernel
theorem dX5_readOne_67 : decode cX5_readOne 67 = .ok (.bipush (-23), 2) := by decide +kernel
theorem dX5_readOne_69 : decode cX5_readOne 69 = .ok (.if_icmp .ne 19, 3) := by decide +kernel
theorem dX5_readOne_72 : decode cX5_readOne 72 = .ok (.aload_n 0, 1) := by decide +kernel
theorem dX5_readOne_73 : decode cX5_readOne 73 = .ok (.aload_n 1, 1) := by decide +kernel
theorem dX5_readOne_74 : decode cX5_readOne 74 = .ok (.iconst 0, 1) := by decide +kernel
theorem dX5_readOne_75 : decode cX5_readOne 75 = .ok (.iload_n 2, 1) := by decide +kernel
theorem dX5_readOne_76 : decode cX5_readOne 76 = .ok (.invokevirtual 64, 3) := by decide +kernel
theorem dX5_readOne_79 : decode cX5_readOne 79 = .ok (.aload_n 0, 1) := by decide +kernel
theorem dX5_readOne_80 : decode cX5_readOne 80 = .ok (.bipush (-24), 2) := by decide +kernel
theorem dX5_readOne_82 : decode cX5_readOne 82 = .ok (.invokevirtual 53, 3) := by decide +kernel
theorem dX5_readOne_85 : decode cX5_readOne 85 = .ok (.goto 7, 3) := by decide +kernel
theorem dX5_readOne_88 : decode cX5_readOne 88 = .ok (.aload_n 0, 1) := by decide +kernel
theorem dX5_readOne_89 : decode cX5_readOne 89 = .ok (.invokevirtual 50, 3) := by decide +kernel
theorem dX5_readOne_92 : decode cX5_readOne 92 = .ok (.return_, 1) := by decide +kernel
theorem dX5_readInside_0 : decode cX5_readInside 0 = .ok (.iload_n 3, 1) := by decide +kernel
theorem dX5_readInside_1 : decode cX5_readInside 1 = .ok (.iconst 5, 1) := by decide +kernel
theorem dX5_readInside_2 : decode cX5_readInside 2 = .ok (.if_icmp .lt 8, 3) := by decide +kernel
theorem dX5_readInside_5 : decode cX5_readInside 5 = .ok (.aload_n 0, 1) := by decide +kernel
theorem dX5_readInside_6 : decode cX5_readInside 6 = .ok (.invokevirtual 50, 3) := by decide +kernel
theorem dX5_readInside_9 : decode cX5_readInside 9 = .ok (.return_, 1) := by decide +kernel
theorem dX5_readInside_10 : decode cX5_readInside 10 = .ok (.aload_n 0, 1) := by decide +kernel
theorem dX5_readInside_11 : decode cX5_readInside 11 = .ok (.aload_n 0, 1) := by decide +kernel
theorem dX5_readInside_12 : decode cX5_readInside 12 = .ok (.getfield 74, 3) := by decide +kernel
theorem dX5_readInside_15 : decode cX5_readInside 15 = .ok (.iconst 1, 1) := by decide +kernel
theorem dX5_readInside_16 : decode cX5_readInside 16 = .ok (.iadd, 1) := by decide +kernel
theorem dX5_readInside_17 : decode cX5_readInside 17 = .ok (.invokevirtual 36, 3) := by decide +kernel
theorem dX5_readInside_20 : decode cX5_readInside 20 = .ok (.aload_n 0, 1) := by decide +kernel
theorem dX5_readInside_21 : decode cX5_readInside 21 = .ok (.aload_n 1, 1) := by decide +kernel
theorem dX5_readInside_22 : decode cX5_readInside 22 = .ok (.iload_n 2, 1) := by decide +kernel
theorem dX5_readInside_23 : decode cX5_readInside 23 = .ok (.iload_n 3, 1) := by decide +kernel
theorem dX5_readInside_24 : decode cX5_readInside 24 = .ok (.iconst 1, 1) := by decide +kernel
theorem dX5_readInside_25 : decode cX5_readInside 25 = .ok (.iadd, 1) := by decide +kernel
theorem dX5_readInside_26 : decode cX5_readInside 26 = .ok (.invokevirtual 56, 3) := by decide +kernel
theorem dX5_readInside_29 : decode cX5_readInside 29 = .ok (.return_, 1) := by decide +kernel
theorem dX5_expect_0 : decode cX5_expect 0 = .ok (.aload_n 0, 1) := by decide +kernel
theorem dX5_expect_1 : decode cX5_expect 1 = .ok (.getfield 47, 3) := by decide +kernel
theorem dX5_expect_4 : decode cX5_expect 4 = .ok (.iload_n 1, 1) := by decide +kernel
theorem dX5_expect_5 : decode cX5_expect 5 = .ok (.if_icmp .ne 16, 3) := by decide +kernel
theorem dX5_expect_8 : decode cX5_expect 8 = .ok (.aload_n 0, 1) := by decide +kernel
theorem dX5_expect_9 : decode cX5_expect 9 = .ok (.aload_n 0, 1) := by decide +kernel
theorem dX5_expect_10 : decode cX5_expect 10 = .ok (.getfield 74, 3) := by decide +kernel
theorem dX5_expect_13 : decode cX5_expect 13 = .ok (.iconst 1, 1) := by decide +kernel
theorem dX5_expect_14 : decode cX5_expect 14 = .ok (.iadd, 1) := by decide +kernel
theorem dX5_expect_15 : decode cX5_expect 15 = .ok (.invokevirtual 36, 3) := by decide +kernel
theorem dX5_expect_18 : decode cX5_expect 18 = .ok (.goto 7, 3) := by decide +kernel
theorem dX5_expect_21 : decode cX5_expect 21 = .ok (.aload_n 0, 1) := by decide +kernel
theorem dX5_expect_22 : decode cX5_expect 22 = .ok (.invokevirtual 50, 3) := by decide +kernel
theorem dX5_expect_25 : decode cX5_expect 25 = .ok (.return_, 1) := by decide +kernel
theorem dX5_refuse_0 : decode cX5_refuse 0 = .ok (.aload_n 0, 1) := by decide +kernel
theorem dX5_refuse_1 : decode cX5_refuse 1 = .ok (.getfield 33, 3) := by decide +kernel
theorem dX5_refuse_4 : decode cX5_refuse 4 = .ok (.iconst (-1), 1) := by decide +kernel
theorem dX5_refuse_5 : decode cX5_refuse 5 = .ok (.if_icmp .ne 41, 3) := by decide +kernel
theorem dX5_refuse_8 : decode cX5_refuse 8 = .ok (.aload_n 0, 1) := by decide +kernel
theorem dX5_refuse_9 : decode cX5_refuse 9 = .ok (.aload_n 0, 1) := by decide +kernel
theorem dX5_refuse_10 : decode cX5_refuse 10 = .ok (.getfield 74, 3) := by decide +kernel
theorem dX5_refuse_13 : decode cX5_refuse 13 = .ok (.ifCond .lt 26, 3) := by decide +kernel
theorem dX5_refuse_16 : decode cX5_refuse 16 = .ok (.aload_n 0, 1) := by decide +kernel
theorem dX5_refuse_17 : decode cX5_refuse 17 = .ok (.getfield 74, 3) := by decide +kernel
theorem dX5_refuse_20 : decode cX5_refuse 20 = .ok (.aload_n 0, 1) := by decide +kernel
theorem dX5_refuse_21 : decode cX5_refuse 21 = .ok (.getfield 81, 3) := by decide +kernel
theorem dX5_refuse_24 : decode cX5_refuse 24 = .ok (.if_icmp .ge 15, 3) := by decide +kernel
theorem dX5_refuse_27 : decode cX5_refuse 27 = .ok (.aload_n 0, 1) := by decide +kernel
theorem dX5_refuse_28 : decode cX5_refuse 28 = .ok (.getfield 18, 3) := by decide +kernel
theorem dX5_refuse_31 : decode cX5_refuse 31 = .ok (.aload_n 0, 1) := by decide +kernel
theorem dX5_refuse_32 : decode cX5_refuse 32 = .ok (.getfield 74, 3) := by decide +kernel
theorem dX5_refuse_35 : decode cX5_refuse 35 = .ok (.iaload, 1) := by decide +kernel
theorem dX5_refuse_36 : decode cX5_refuse 36 = .ok (.goto 7, 3) := by decide +kernel
theorem dX5_refuse_39 : decode cX5_refuse 39 = .ok (.aload_n 0, 1) := by decide +kernel
theorem dX5_refuse_40 : decode cX5_refuse 40 = .ok (.getfield 21, 3) := by decide +kernel
theorem dX5_refuse_43 : decode cX5_refuse 43 = .ok (.putfield 33, 3) := by decide +kernel
theorem dX5_refuse_46 : decode cX5_refuse 46 = .ok (.aload_n 0, 1) := by decide +kernel
theorem dX5_refuse_47 : decode cX5_refuse 47 = .ok (.bipush (-27), 2) := by decide +kernel
theorem dX5_refuse_49 : decode cX5_refuse 49 = .ok (.putfield 47, 3) := by decide +kernel
theorem dX5_refuse_52 : decode cX5_refuse 52 = .ok (.return_, 1) := by decide +kernel
theorem dX5_stepTo_0 : decode cX5_stepTo 0 = .ok (.aload_n 0, 1) := by decide +kernel
theorem dX5_stepTo_1 : decode cX5_stepTo 1 = .ok (.iload_n 1, 1) := by decide +kernel
theorem dX5_stepTo_2 : decode cX5_stepTo 2 = .ok (.putfield 74, 3) := by decide +kernel
theorem dX5_stepTo_5 : decode cX5_stepTo 5 = .ok (.aload_n 0, 1) := by decide +kernel
theorem dX5_stepTo_6 : decode cX5_stepTo 6 = .ok (.aload_n 0, 1) := by decide +kernel
theorem dX5_stepTo_7 : decode cX5_stepTo 7 = .ok (.getfield 74, 3) := by decide +kernel
theorem dX5_stepTo_10 : decode cX5_stepTo 10 = .ok (.ifCond .lt 26, 3) := by decide +kernel
theorem dX5_stepTo_13 : decode cX5_stepTo 13 = .ok (.aload_n 0, 1) := by decide +kernel
theorem dX5_stepTo_14 : decode cX5_stepTo 14 = .ok (.getfield 74, 3) := by decide +kernel
theorem dX5_stepTo_17 : decode cX5_stepTo 17 = .ok (.aload_n 0, 1) := by decide +kernel
theorem dX5_stepTo_18 : decode cX5_stepTo 18 = .ok (.getfield 81, 3) := by decide +kernel
theorem dX5_stepTo_21 : decode cX5_stepTo 21 = .ok (.if_icmp .ge 15, 3) := by decide +kernel
theorem dX5_stepTo_24 : decode cX5_stepTo 24 = .ok (.aload_n 0, 1) := by decide +kernel
theorem dX5_stepTo_25 : decode cX5_stepTo 25 = .ok (.getfield 15, 3) := by decide +kernel
theorem dX5_stepTo_28 : decode cX5_stepTo 28 = .ok (.aload_n 0, 1) := by decide +kernel
theorem dX5_stepTo_29 : decode cX5_stepTo 29 = .ok (.getfield 74, 3) := by decide +kernel
theorem dX5_stepTo_32 : decode cX5_stepTo 32 = .ok (.iaload, 1) := by decide +kernel
theorem dX5_stepTo_33 : decode cX5_stepTo 33 = .ok (.goto 5, 3) := by decide +kernel
theorem dX5_stepTo_36 : decode cX5_stepTo 36 = .ok (.bipush (-26), 2) := by decide +kernel
theorem dX5_stepTo_38 : decode cX5_stepTo 38 = .ok (.putfield 47, 3) := by decide +kernel
theorem dX5_stepTo_41 : decode cX5_stepTo 41 = .ok (.return_, 1) := by decide +kernel
theorem dX5_levelOf_0 : decode cX5_levelOf 0 = .ok (.iload_n 0, 1) := by decide +kernel
theorem dX5_levelOf_1 : decode cX5_levelOf 1 = .ok (.tableswitch 57 (-8) (-1) #[55, 53, 53, 51, 51, 57, 49, 47], 47) := by decide +kernel
theorem dX5_levelOf_48 : decode cX5_levelOf 48 = .ok (.iconst 0, 1) := by decide +kernel
theorem dX5_levelOf_49 : decode cX5_levelOf 49 = .ok (.ireturn, 1) := by decide +kernel
theorem dX5_levelOf_50 : decode cX5_levelOf 50 = .ok (.iconst 1, 1) := by decide +kernel
theorem dX5_levelOf_51 : decode cX5_levelOf 51 = .ok (.ireturn, 1) := by decide +kernel
theorem dX5_levelOf_52 : decode cX5_levelOf 52 = .ok (.iconst 2, 1) := by decide +kernel
theorem dX5_levelOf_53 : decode cX5_levelOf 53 = .ok (.ireturn, 1) := by decide +kernel
theorem dX5_levelOf_54 : decode cX5_levelOf 54 = .ok (.iconst 3, 1) := by decide +kernel
theorem dX5_levelOf_55 : decode cX5_levelOf 55 = .ok (.ireturn, 1) := by decide +kernel
theorem dX5_levelOf_56 : decode cX5_levelOf 56 = .ok (.iconst 4, 1) := by decide +kernel
theorem dX5_levelOf_57 : decode cX5_levelOf 57 = .ok (.ireturn, 1) := by decide +kernel
theorem dX5_levelOf_58 : decode cX5_levelOf 58 = .ok (.iconst (-1), 1) := by decide +kernel
theorem dX5_levelOf_59 : decode cX5_levelOf 59 = .ok (.ireturn, 1) := by decide +kernel
theorem dX5_split_0 : decode cX5_split 0 = .ok (.aload_n 0, 1) := by decide +kernel
theorem dX5_split_1 : decode cX5_split 1 = .ok (.iconst 0, 1) := by decide +kernel
theorem dX5_split_2 : decode cX5_split 2 = .ok (.putfield 81, 3) := by decide +kernel
theorem dX5_split_5 : decode cX5_split 5 = .ok (.iconst 0, 1) := by decide +kernel
theorem dX5_split_6 : decode cX5_split 6 = .ok (.istore_n 1, 1) := by decide +kernel
theorem dX5_split_7 : decode cX5_split 7 = .ok (.iconst 0, 1) := by decide +kernel
theorem dX5_split_8 : decode cX5_split 8 = .ok (.istore_n 2, 1) := by decide +kernel
theorem dX5_split_9 : decode cX5_split 9 = .ok (.iload_n 2, 1) := by decide +kernel
theorem dX5_split_10 : decode cX5_split 10 = .ok (.sipush 160, 3) := by decide +kernel
theorem dX5_split_13 : decode cX5_split 13 = .ok (.if_icmp .ge 72, 3) := by decide +kernel
theorem dX5_split_16 : decode cX5_split 16 = .ok (.iload_n 1, 1) := by decide +kernel
theorem dX5_split_17 : decode cX5_split 17 = .ok (.aload_n 0, 1) := by decide +kernel
theorem dX5_split_18 : decode cX5_split 18 = .ok (.getfield 21, 3) := by decide +kernel
theorem dX5_split_21 : decode cX5_split 21 = .ok (.if_icmp .ge 64, 3) := by decide +kernel
theorem dX5_split_24 : decode cX5_split 24 = .ok (.aload_n 0, 1) := by decide +kernel
theorem dX5_split_25 : decode cX5_split 25 = .ok (.iload_n 1, 1) := by decide +kernel
theorem dX5_split_26 : decode cX5_split 26 = .ok (.invokevirtual 84, 3) := by decide +kernel
theorem dX5_split_29 : decode cX5_split 29 = .ok (.istore_n 3, 1) := by decide +kernel
theorem dX5_split_30 : decode cX5_split 30 = .ok (.aload_n 0, 1) := by decide +kernel
theorem dX5_split_31 : decode cX5_split 31 = .ok (.iload_n 1, 1) := by decide +kernel
theorem dX5_split_32 : decode cX5_split 32 = .ok (.invokevirtual 87, 3) := by decide +kernel
theorem dX5_split_35 : decode cX5_split 35 = .ok (.invokestatic 90, 3) := by decide +kernel
theorem dX5_split_38 : decode cX5_split 38 = .ok (.iconst 3, 1) := by decide +kernel
theorem dX5_split_39 : decode cX5_split 39 = .ok (.if_icmp .eq 38, 3) := by decide +kernel
theorem dX5_split_42 : decode cX5_split 42 = .ok (.aload_n 0, 1) := by decide +kernel
theorem dX5_split_43 : decode cX5_split 43 = .ok (.getfield 15, 3) := by decide +kernel
theorem dX5_split_46 : decode cX5_split 46 = .ok (.aload_n 0, 1) := by decide +kernel
theorem dX5_split_47 : decode cX5_split 47 = .ok (.getfield 81, 3) := by decide +kernel
theorem dX5_split_50 : decode cX5_split 50 = .ok (.aload_n 0, 1) := by decide +kernel
theorem dX5_split_51 : decode cX5_split 51 = .ok (.iload_n 1, 1) := by decide +kernel
theorem dX5_split_52 : decode cX5_split 52 = .ok (.iload_n 3, 1) := by decide +kernel
theorem dX5_split_53 : decode cX5_split 53 = .ok (.invokevirtual 93, 3) := by decide +kernel
theorem dX5_split_56 : decode cX5_split 56 = .ok (.iastore, 1) := by decide +kernel
theorem dX5_split_57 : decode cX5_split 57 = .ok (.aload_n 0, 1) := by decide +kernel
theorem dX5_split_58 : decode cX5_split 58 = .ok (.getfield 18, 3) := by decide +kernel
theorem dX5_split_61 : decode cX5_split 61 = .ok (.aload_n 0, 1) := by decide +kernel
theorem dX5_split_62 : decode cX5_split 62 = .ok (.getfield 81, 3) := by decide +kernel
theorem dX5_split_65 : decode cX5_split 65 = .ok (.iload_n 1, 1) := by decide +kernel
theorem dX5_split_66 : decode cX5_split 66 = .ok (.iastore, 1) := by decide +kernel
theorem dX5_split_67 : decode cX5_split 67 = .ok (.aload_n 0, 1) := by decide +kernel
theorem dX5_split_68 : decode cX5_split 68 = .ok (.dup, 1) := by decide +kernel
theorem dX5_split_69 : decode cX5_split 69 = .ok (.getfield 81, 3) := by decide +kernel
theorem dX5_split_72 : decode cX5_split 72 = .ok (.iconst 1, 1) := by decide +kernel
theorem dX5_split_73 : decode cX5_split 73 = .ok (.iadd, 1) := by decide +kernel
theorem dX5_split_74 : decode cX5_split 74 = .ok (.putfield 81, 3) := by decide +kernel
theorem dX5_split_77 : decode cX5_split 77 = .ok (.iload_n 3, 1) := by decide +kernel
theorem dX5_split_78 : decode cX5_split 78 = .ok (.istore_n 1, 1) := by decide +kernel
theorem dX5_split_79 : decode cX5_split 79 = .ok (.iinc 2 1, 3) := by decide +kernel
theorem dX5_split_82 : decode cX5_split 82 = .ok (.goto (-73), 3) := by decide +kernel
theorem dX5_split_85 : decode cX5_split 85 = .ok (.return_, 1) := by decide +kernel
theorem dX5_endOf_0 : decode cX5_endOf 0 = .ok (.aload_n 0, 1) := by decide +kernel
theorem dX5_endOf_1 : decode cX5_endOf 1 = .ok (.iload_n 1, 1) := by decide +kernel
theorem dX5_endOf_2 : decode cX5_endOf 2 = .ok (.invokevirtual 87, 3) := by decide +kernel
theorem dX5_endOf_5 : decode cX5_endOf 5 = .ok (.invokestatic 90, 3) := by decide +kernel
theorem dX5_endOf_8 : decode cX5_endOf 8 = .ok (.istore_n 2, 1) := by decide +kernel
theorem dX5_endOf_9 : decode cX5_endOf 9 = .ok (.iload_n 1, 1) := by decide +kernel
theorem dX5_endOf_10 : decode cX5_endOf 10 = .ok (.iconst 1, 1) := by decide +kernel
theorem dX5_endOf_11 : decode cX5_endOf 11 = .ok (.iadd, 1) := by decide +kernel
theorem dX5_endOf_12 : decode cX5_endOf 12 = .ok (.istore_n 3, 1) := by decide +kernel
theorem dX5_endOf_13 : decode cX5_endOf 13 = .ok (.iload_n 3, 1) := by decide +kernel
theorem dX5_endOf_14 : decode cX5_endOf 14 = .ok (.aload_n 0, 1) := by decide +kernel
theorem dX5_endOf_15 : decode cX5_endOf 15 = .ok (.getfield 21, 3) := by decide +kernel
theorem dX5_endOf_18 : decode cX5_endOf 18 = .ok (.if_icmp .ge 25, 3) := by decide +kernel
theorem dX5_endOf_21 : decode cX5_endOf 21 = .ok (.iload_n 2, 1) := by decide +kernel
theorem dX5_endOf_22 : decode cX5_endOf 22 = .ok (.ifCond .eq 21, 3) := by decide +kernel
theorem dX5_endOf_25 : decode cX5_endOf 25 = .ok (.aload_n 0, 1) := by decide +kernel
theorem dX5_endOf_26 : decode cX5_endOf 26 = .ok (.iload_n 3, 1) := by decide +kernel
theorem dX5_endOf_27 : decode cX5_endOf 27 = .ok (.invokevirtual 87, 3) := by decide +kernel
theorem dX5_endOf_30 : decode cX5_endOf 30 = .ok (.invokestatic 90, 3) := by decide +kernel
theorem dX5_endOf_33 : decode cX5_endOf 33 = .ok (.iload_n 2, 1) := by decide +kernel
theorem dX5_endOf_34 : decode cX5_endOf 34 = .ok (.if_icmp .ne 9, 3) := by decide +kernel
theorem dX5_endOf_37 : decode cX5_endOf 37 = .ok (.iinc 3 1, 3) := by decide +kernel
theorem dX5_endOf_40 : decode cX5_endOf 40 = .ok (.goto (-27), 3) := by decide +kernel
theorem dX5_endOf_43 : decode cX5_endOf 43 = .ok (.iload_n 3, 1) := by decide +kernel
theorem dX5_endOf_44 : decode cX5_endOf 44 = .ok (.ireturn, 1) := by decide +kernel
theorem dX5_tokenOf_0 : decode cX5_tokenOf 0 = .ok (.aload_n 0, 1) := by decide +kernel
theorem dX5_tokenOf_1 : decode cX5_tokenOf 1 = .ok (.iload_n 1, 1) := by decide +kernel
theorem dX5_tokenOf_2 : decode cX5_tokenOf 2 = .ok (.invokevirtual 87, 3) := by decide +kernel
theorem dX5_tokenOf_5 : decode cX5_tokenOf 5 = .ok (.istore_n 3, 1) := by decide +kernel
theorem dX5_tokenOf_6 : decode cX5_tokenOf 6 = .ok (.iload_n 3, 1) := by decide +kernel
theorem dX5_tokenOf_7 : decode cX5_tokenOf 7 = .ok (.invokestatic 90, 3) := by decide +kernel
theorem dX5_tokenOf_10 : decode cX5_tokenOf 10 = .ok (.lookupswitch 52 #[(1, 26), (2, 33)], 26) := by decide +kernel
theorem dX5_tokenOf_36 : decode cX5_tokenOf 36 = .ok (.aload_n 0, 1) := by decide +kernel
theorem dX5_tokenOf_37 : decode cX5_tokenOf 37 = .ok (.iload_n 1, 1) := by decide +kernel
theorem dX5_tokenOf_38 : decode cX5_tokenOf 38 = .ok (.iload_n 2, 1) := by decide +kernel
theorem dX5_tokenOf_39 : decode cX5_tokenOf 39 = .ok (.invokevirtual 97, 3) := by decide +kernel
theorem dX5_tokenOf_42 : decode cX5_tokenOf 42 = .ok (.ireturn, 1) := by decide +kernel
theorem dX5_tokenOf_43 : decode cX5_tokenOf 43 = .ok (.iload_n 2, 1) := by decide +kernel
theorem dX5_tokenOf_44 : decode cX5_tokenOf 44 = .ok (.iload_n 1, 1) := by decide +kernel
theorem dX5_tokenOf_45 : decode cX5_tokenOf 45 = .ok (.isub, 1) := by decide +kernel
theorem dX5_tokenOf_46 : decode cX5_tokenOf 46 = .ok (.iconst 4, 1) := by decide +kernel
theorem dX5_tokenOf_47 : decode cX5_tokenOf 47 = .ok (.if_icmp .le 8, 3) := by decide +kernel
theorem dX5_tokenOf_50 : decode cX5_tokenOf 50 = .ok (.bipush (-27), 2) := by decide +kernel
theorem dX5_tokenOf_52 : decode cX5_tokenOf 52 = .ok (.goto 9, 3) := by decide +kernel
theorem dX5_tokenOf_55 : decode cX5_tokenOf 55 = .ok (.aload_n 0, 1) := by decide +kernel
theorem dX5_tokenOf_56 : decode cX5_tokenOf 56 = .ok (.iload_n 1, 1) := by decide +kernel
theorem dX5_tokenOf_57 : decode cX5_tokenOf 57 = .ok (.iload_n 2, 1) := by decide +kernel
theorem dX5_tokenOf_58 : decode cX5_tokenOf 58 = .ok (.invokevirtual 100, 3) := by decide +kernel
theorem dX5_tokenOf_61 : decode cX5_tokenOf 61 = .ok (.ireturn, 1) := by decide +kernel
theorem dX5_tokenOf_62 : decode cX5_tokenOf 62 = .ok (.iload_n 3, 1) := by decide +kernel
theorem dX5_tokenOf_63 : decode cX5_tokenOf 63 = .ok (.invokestatic 103, 3) := by decide +kernel
theorem dX5_tokenOf_66 : decode cX5_tokenOf 66 = .ok (.ireturn, 1) := by decide +kernel
theorem dX5_numberToken_0 : decode cX5_numberToken 0 = .ok (.iconst 0, 1) := by decide +kernel
theorem dX5_numberToken_1 : decode cX5_numberToken 1 = .ok (.istore_n 3, 1) := by decide +kernel
theorem dX5_numberToken_2 : decode cX5_numberToken 2 = .ok (.iload_n 1, 1) := by decide +kernel
theorem dX5_numberToken_3 : decode cX5_numberToken 3 = .ok (.istore 4, 2) := by decide +kernel
theorem dX5_numberToken_5 : decode cX5_numberToken 5 = .ok (.iload 4, 2) := by decide +kernel
theorem dX5_numberToken_7 : decode cX5_numberToken 7 = .ok (.iload_n 2, 1) := by decide +kernel
theorem dX5_numberToken_8 : decode cX5_numberToken 8 = .ok (.if_icmp .ge 24, 3) := by decide +kernel
theorem dX5_numberToken_11 : decode cX5_numberToken 11 = .ok (.bipush 10, 2) := by decide +kernel
theorem dX5_numberToken_13 : decode cX5_numberToken 13 = .ok (.iload_n 3, 1) := by decide +kernel
theorem dX5_numberToken_14 : decode cX5_numberToken 14 = .ok (.imul, 1) := by decide +kernel
theorem dX5_numberToken_15 : decode cX5_numberToken 15 = .ok (.aload_n 0, 1) := by decide +kernel
theorem dX5_numberToken_16 : decode cX5_numberToken 16 = .ok (.iload 4, 2) := by decide +kernel
theorem dX5_numberToken_18 : decode cX5_numberToken 18 = .ok (.invokevirtual 87, 3) := by decide +kernel
theorem dX5_numberToken_21 : decode cX5_numberToken 21 = .ok (.iadd, 1) := by decide +kernel
theorem dX5_numberToken_22 : decode cX5_numberToken 22 = .ok (.bipush 48, 2) := by decide +kernel
theorem dX5_numberToken_24 : decode cX5_numberToken 24 = .ok (.isub, 1) := by decide +kernel
theorem dX5_numberToken_25 : decode cX5_numberToken 25 = .ok (.istore_n 3, 1) := by decide +kernel
theorem dX5_numberToken_26 : decode cX5_numberToken 26 = .ok (.iinc 4 1, 3) := by decide +kernel
theorem dX5_numberToken_29 : decode cX5_numberToken 29 = .ok (.goto (-24), 3) := by decide +kernel
theorem dX5_numberToken_32 : decode cX5_numberToken 32 = .ok (.iload_n 3, 1) := by decide +kernel
theorem dX5_numberToken_33 : decode cX5_numberToken 33 = .ok (.ireturn, 1) := by decide +kernel
theorem dX5_wordToken_0 : decode cX5_wordToken 0 = .ok (.aload_n 0, 1) := by decide +kernel
theorem dX5_wordToken_1 : decode cX5_wordToken 1 = .ok (.ldc 106, 2) := by decide +kernel
theorem dX5_wordToken_3 : decode cX5_wordToken 3 = .ok (.iload_n 1, 1) := by decide +kernel
theorem dX5_wordToken_4 : decode cX5_wordToken 4 = .ok (.iload_n 2, 1) := by decide +kernel
theorem dX5_wordToken_5 : decode cX5_wordToken 5 = .ok (.invokevirtual 108, 3) := by decide +kernel
theorem dX5_wordToken_8 : decode cX5_wordToken 8 = .ok (.ifCond .eq 6, 3) := by decide +kernel
theorem dX5_wordToken_11 : decode cX5_wordToken 11 = .ok (.bipush (-21), 2) := by decide +kernel
theorem dX5_wordToken_13 : decode cX5_wordToken 13 = .ok (.ireturn, 1) := by decide +kernel
theorem dX5_wordToken_14 : decode cX5_wordToken 14 = .ok (.aload_n 0, 1) := by decide +kernel
theorem dX5_wordToken_15 : decode cX5_wordToken 15 = .ok (.ldc 112, 2) := by decide +kernel
theorem dX5_wordToken_17 : decode cX5_wordToken 17 = .ok (.iload_n 1, 1) := by decide +kernel
theorem dX5_wordToken_18 : decode cX5_wordToken 18 = .ok (.iload_n 2, 1) := by decide +kernel
theorem dX5_wordToken_19 : decode cX5_wordToken 19 = .ok (.invokevirtual 108, 3) := by decide +kernel
theorem dX5_wordToken_22 : decode cX5_wordToken 22 = .ok (.ifCond .eq 6, 3) := by decide +kernel
theorem dX5_wordToken_25 : decode cX5_wordToken 25 = .ok (.bipush (-22), 2) := by decide +kernel
theorem dX5_wordToken_27 : decode cX5_wordToken 27 = .ok (.ireturn, 1) := by decide +kernel
theorem dX5_wordToken_28 : decode cX5_wordToken 28 = .ok (.aload_n 0, 1) := by decide +kernel
theorem dX5_wordToken_29 : decode cX5_wordToken 29 = .ok (.ldc 114, 2) := by decide +kernel
theorem dX5_wordToken_31 : decode cX5_wordToken 31 = .ok (.iload_n 1, 1) := by decide +kernel
theorem dX5_wordToken_32 : decode cX5_wordToken 32 = .ok (.iload_n 2, 1) := by decide +kernel
theorem dX5_wordToken_33 : decode cX5_wordToken 33 = .ok (.invokevirtual 108, 3) := by decide +kernel
theorem dX5_wordToken_36 : decode cX5_wordToken 36 = .ok (.ifCond .eq 5, 3) := by decide +kernel
theorem dX5_wordToken_39 : decode cX5_wordToken 39 = .ok (.iconst (-1), 1) := by decide +kernel
theorem dX5_wordToken_40 : decode cX5_wordToken 40 = .ok (.ireturn, 1) := by decide +kernel
theorem dX5_wordToken_41 : decode cX5_wordToken 41 = .ok (.aload_n 0, 1) := by decide +kernel
theorem dX5_wordToken_42 : decode cX5_wordToken 42 = .ok (.ldc 116, 2) := by decide +kernel
theorem dX5_wordToken_44 : decode cX5_wordToken 44 = .ok (.iload_n 1, 1) := by decide +kernel
theorem dX5_wordToken_45 : decode cX5_wordToken 45 = .ok (.iload_n 2, 1) := by decide +kernel
theorem dX5_wordToken_46 : decode cX5_wordToken 46 = .ok (.invokevirtual 108, 3) := by decide +kernel
theorem dX5_wordToken_49 : decode cX5_wordToken 49 = .ok (.ifCond .eq 6, 3) := by decide +kernel
theorem dX5_wordToken_52 : decode cX5_wordToken 52 = .ok (.bipush (-2), 2) := by decide +kernel
theorem dX5_wordToken_54 : decode cX5_wordToken 54 = .ok (.ireturn, 1) := by decide +kernel
theorem dX5_wordToken_55 : decode cX5_wordToken 55 = .ok (.aload_n 0, 1) := by decide +kernel
theorem dX5_wordToken_56 : decode cX5_wordToken 56 = .ok (.ldc 118, 2) := by decide +kernel
theorem dX5_wordToken_58 : decode cX5_wordToken 58 = .ok (.iload_n 1, 1) := by decide +kernel
theorem dX5_wordToken_59 : decode cX5_wordToken 59 = .ok (.iload_n 2, 1) := by decide +kernel
theorem dX5_wordToken_60 : decode cX5_wordToken 60 = .ok (.invokevirtual 108, 3) := by decide +kernel
theorem dX5_wordToken_63 : decode cX5_wordToken 63 = .ok (.ifCond .eq 6, 3) := by decide +kernel
theorem dX5_wordToken_66 : decode cX5_wordToken 66 = .ok (.bipush (-3), 2) := by decide +kernel
theorem dX5_wordToken_68 : decode cX5_wordToken 68 = .ok (.ireturn, 1) := by decide +kernel
theorem dX5_wordToken_69 : decode cX5_wordToken 69 = .ok (.aload_n 0, 1) := by decide +kernel
theorem dX5_wordToken_70 : decode cX5_wordToken 70 = .ok (.ldc 120, 2) := by decide +kernel
theorem dX5_wordToken_72 : decode cX5_wordToken 72 = .ok (.iload_n 1, 1) := by decide +kernel
theorem dX5_wordToken_73 : decode cX5_wordToken 73 = .ok (.iload_n 2, 1) := by decide +kernel
theorem dX5_wordToken_74 : decode cX5_wordToken 74 = .ok (.invokevirtual 108, 3) := by decide +kernel
theorem dX5_wordToken_77 : decode cX5_wordToken 77 = .ok (.ifCond .eq 6, 3) := by decide +kernel
theorem dX5_wordToken_80 : decode cX5_wordToken 80 = .ok (.bipush (-10), 2) := by decide +kernel
theorem dX5_wordToken_82 : decode cX5_wordToken 82 = .ok (.ireturn, 1) := by decide +kernel
theorem dX5_wordToken_83 : decode cX5_wordToken 83 = .ok (.aload_n 0, 1) := by decide +kernel
theorem dX5_wordToken_84 : decode cX5_wordToken 84 = .ok (.ldc 122, 2) := by decide +kernel
theorem dX5_wordToken_86 : decode cX5_wordToken 86 = .ok (.iload_n 1, 1) := by decide +kernel
theorem dX5_wordToken_87 : decode cX5_wordToken 87 = .ok (.iload_n 2, 1) := by decide +kernel
theorem dX5_wordToken_88 : decode cX5_wordToken 88 = .ok (.invokevirtual 108, 3) := by decide +kernel
theorem dX5_wordToken_91 : decode cX5_wordToken 91 = .ok (.ifCond .eq 6, 3) := by decide +kernel
theorem dX5_wordToken_94 : decode cX5_wordToken 94 = .ok (.bipush (-11), 2) := by decide +kernel
theorem dX5_wordToken_96 : decode cX5_wordToken 96 = .ok (.ireturn, 1) := by decide +kernel
theorem dX5_wordToken_97 : decode cX5_wordToken 97 = .ok (.aload_n 0, 1) := by decide +kernel
theorem dX5_wordToken_98 : decode cX5_wordToken 98 = .ok (.ldc 124, 2) := by decide +kernel
theorem dX5_wordToken_100 : decode cX5_wordToken 100 = .ok (.iload_n 1, 1) := by decide +kernel
theorem dX5_wordToken_101 : decode cX5_wordToken 101 = .ok (.iload_n 2, 1) := by decide +kernel
theorem dX5_wordToken_102 : decode cX5_wordToken 102 = .ok (.invokevirtual 108, 3) := by decide +kernel
theorem dX5_wordToken_105 : decode cX5_wordToken 105 = .ok (.ifCond .eq 6, 3) := by decide +kernel
theorem dX5_wordToken_108 : decode cX5_wordToken 108 = .ok (.bipush (-12), 2) := by decide +kernel
theorem dX5_wordToken_110 : decode cX5_wordToken 110 = .ok (.ireturn, 1) := by decide +kernel
theorem dX5_wordToken_111 : decode cX5_wordToken 111 = .ok (.aload_n 0, 1) := by decide +kernel
theorem dX5_wordToken_112 : decode cX5_wordToken 112 = .ok (.ldc 126, 2) := by decide +kernel
theorem dX5_wordToken_114 : decode cX5_wordToken 114 = .ok (.iload_n 1, 1) := by decide +kernel
theorem dX5_wordToken_115 : decode cX5_wordToken 115 = .ok (.iload_n 2, 1) := by decide +kernel
theorem dX5_wordToken_116 : decode cX5_wordToken 116 = .ok (.invokevirtual 108, 3) := by decide +kernel
theorem dX5_wordToken_119 : decode cX5_wordToken 119 = .ok (.ifCond .eq 6, 3) := by decide +kernel
theorem dX5_wordToken_122 : decode cX5_wordToken 122 = .ok (.bipush (-13), 2) := by decide +kernel
theorem dX5_wordToken_124 : decode cX5_wordToken 124 = .ok (.ireturn, 1) := by decide +kernel
theorem dX5_wordToken_125 : decode cX5_wordToken 125 = .ok (.aload_n 0, 1) := by decide +kernel
theorem dX5_wordToken_126 : decode cX5_wordToken 126 = .ok (.ldc 128, 2) := by decide +kernel
theorem dX5_wordToken_128 : decode cX5_wordToken 128 = .ok (.iload_n 1, 1) := by decide +kernel
theorem dX5_wordToken_129 : decode cX5_wordToken 129 = .ok (.iload_n 2, 1) := by decide +kernel
theorem dX5_wordToken_130 : decode cX5_wordToken 130 = .ok (.invokevirtual 108, 3) := by decide +kernel
theorem dX5_wordToken_133 : decode cX5_wordToken 133 = .ok (.ifCond .eq 8, 3) := by decide +kernel
theorem dX5_wordToken_136 : decode cX5_wordToken 136 = .ok (.bipush (-14), 2) := by decide +kernel
theorem dX5_wordToken_138 : decode cX5_wordToken 138 = .ok (.goto 5, 3) := by decide +kernel
theorem dX5_wordToken_141 : decode cX5_wordToken 141 = .ok (.bipush (-27), 2) := by decide +kernel
theorem dX5_wordToken_143 : decode cX5_wordToken 143 = .ok (.ireturn, 1) := by decide +kernel
theorem dX5_isWord_0 : decode cX5_isWord 0 = .ok (.iload_n 3, 1) := by decide +kernel
theorem dX5_isWord_1 : decode cX5_isWord 1 = .ok (.iload_n 2, 1) := by decide +kernel
theorem dX5_isWord_2 : decode cX5_isWord 2 = .ok (.isub, 1) := by decide +kernel
theorem dX5_isWord_3 : decode cX5_isWord 3 = .ok (.aload_n 1, 1) := by decide +kernel
theorem dX5_isWord_4 : decode cX5_isWord 4 = .ok (.invokevirtual 130, 3) := by decide +kernel
theorem dX5_isWord_7 : decode cX5_isWord 7 = .ok (.if_icmp .eq 5, 3) := by decide +kernel
theorem dX5_isWord_10 : decode cX5_isWord 10 = .ok (.iconst 0, 1) := by decide +kernel
theorem dX5_isWord_11 : decode cX5_isWord 11 = .ok (.ireturn, 1) := by decide +kernel
theorem dX5_isWord_12 : decode cX5_isWord 12 = .ok (.iconst 0, 1) := by decide +kernel
theorem dX5_isWord_13 : decode cX5_isWord 13 = .ok (.istore 4, 2) := by decide +kernel
theorem dX5_isWord_15 : decode cX5_isWord 15 = .ok (.iload 4, 2) := by decide +kernel
theorem dX5_isWord_17 : decode cX5_isWord 17 = .ok (.aload_n 1, 1) := by decide +kernel
theorem dX5_isWord_18 : decode cX5_isWord 18 = .ok (.invokevirtual 130, 3) := by decide +kernel
theorem dX5_isWord_21 : decode cX5_isWord 21 = .ok (.if_icmp .ge 28, 3) := by decide +kernel
theorem dX5_isWord_24 : decode cX5_isWord 24 = .ok (.aload_n 0, 1) := by decide +kernel
theorem dX5_isWord_25 : decode cX5_isWord 25 = .ok (.iload_n 2, 1) := by decide +kernel
theorem dX5_isWord_26 : decode cX5_isWord 26 = .ok (.iload 4, 2) := by decide +kernel
theorem dX5_isWord_28 : decode cX5_isWord 28 = .ok (.iadd, 1) := by decide +kernel
theorem dX5_isWord_29 : decode cX5_isWord 29 = .ok (.invokevirtual 87, 3) := by decide +kernel
theorem dX5_isWord_32 : decode cX5_isWord 32 = .ok (.aload_n 1, 1) := by decide +kernel
theorem dX5_isWord_33 : decode cX5_isWord 33 = .ok (.iload 4, 2) := by decide +kernel
theorem dX5_isWord_35 : decode cX5_isWord 35 = .ok (.invokevirtual 136, 3) := by decide +kernel
theorem dX5_isWord_38 : decode cX5_isWord 38 = .ok (.if_icmp .eq 5, 3) := by decide +kernel
theorem dX5_isWord_41 : decode cX5_isWord 41 = .ok (.iconst 0, 1) := by decide +kernel
theorem dX5_isWord_42 : decode cX5_isWord 42 = .ok (.ireturn, 1) := by decide +kernel
theorem dX5_isWord_43 : decode cX5_isWord 43 = .ok (.iinc 4 1, 3) := by decide +kernel
theorem dX5_isWord_46 : decode cX5_isWord 46 = .ok (.goto (-31), 3) := by decide +kernel
theorem dX5_isWord_49 : decode cX5_isWord 49 = .ok (.iconst 1, 1) := by decide +kernel
theorem dX5_isWord_50 : decode cX5_isWord 50 = .ok (.ireturn, 1) := by decide +kernel
theorem dX5_signToken_0 : decode cX5_signToken 0 = .ok (.iload_n 0, 1) := by decide +kernel
theorem dX5_signToken_1 : decode cX5_signToken 1 = .ok (.tableswitch 127 40 61 #[103, 106, 118, 112, 127, 115, 127, 127, 127, 127, 127, 127, 127, 127, 127, 127, 127, 127, 127, 109, 121, 124], 103) := by decide +kernel
theorem dX5_signToken_104 : decode cX5_signToken 104 = .ok (.bipush (-23), 2) := by decide +kernel
theorem dX5_signToken_106 : decode cX5_signToken 106 = .ok (.ireturn, 1) := by decide +kernel
theorem dX5_signToken_107 : decode cX5_signToken 107 = .ok (.bipush (-24), 2) := by decide +kernel
theorem dX5_signToken_109 : decode cX5_signToken 109 = .ok (.ireturn, 1) := by decide +kernel
theorem dX5_signToken_110 : decode cX5_signToken 110 = .ok (.bipush (-25), 2) := by decide +kernel
theorem dX5_signToken_112 : decode cX5_signToken 112 = .ok (.ireturn, 1) := by decide +kernel
theorem dX5_signToken_113 : decode cX5_signToken 113 = .ok (.bipush (-6), 2) := by decide +kernel
theorem dX5_signToken_115 : decode cX5_signToken 115 = .ok (.ireturn, 1) := by decide +kernel
theorem dX5_signToken_116 : decode cX5_signToken 116 = .ok (.bipush (-7), 2) := by decide +kernel
theorem dX5_signToken_118 : decode cX5_signToken 118 = .ok (.ireturn, 1) := by decide +kernel
theorem dX5_signToken_119 : decode cX5_signToken 119 = .ok (.bipush (-8), 2) := by decide +kernel
theorem dX5_signToken_121 : decode cX5_signToken 121 = .ok (.ireturn, 1) := by decide +kernel
theorem dX5_signToken_122 : decode cX5_signToken 122 = .ok (.bipush (-4), 2) := by decide +kernel
theorem dX5_signToken_124 : decode cX5_signToken 124 = .ok (.ireturn, 1) := by decide +kernel
theorem dX5_signToken_125 : decode cX5_signToken 125 = .ok (.bipush (-5), 2) := by decide +kernel
theorem dX5_signToken_127 : decode cX5_signToken 127 = .ok (.ireturn, 1) := by decide +kernel
theorem dX5_signToken_128 : decode cX5_signToken 128 = .ok (.bipush (-27), 2) := by decide +kernel
theorem dX5_signToken_130 : decode cX5_signToken 130 = .ok (.ireturn, 1) := by decide +kernel
theorem dX5_kindOf_0 : decode cX5_kindOf 0 = .ok (.iload_n 0, 1) := by decide +kernel
theorem dX5_kindOf_1 : decode cX5_kindOf 1 = .ok (.bipush 97, 2) := by decide +kernel
theorem dX5_kindOf_3 : decode cX5_kindOf 3 = .ok (.bipush 122, 2) := by decide +kernel
theorem dX5_kindOf_5 : decode cX5_kindOf 5 = .ok (.invokestatic 140, 3) := by decide +kernel
theorem dX5_kindOf_8 : decode cX5_kindOf 8 = .ok (.ifCond .eq 5, 3) := by decide +kernel
theorem dX5_kindOf_11 : decode cX5_kindOf 11 = .ok (.iconst 1, 1) := by decide +kernel
theorem dX5_kindOf_12 : decode cX5_kindOf 12 = .ok (.ireturn, 1) := by decide +kernel
theorem dX5_kindOf_13 : decode cX5_kindOf 13 = .ok (.iload_n 0, 1) := by decide +kernel
theorem dX5_kindOf_14 : decode cX5_kindOf 14 = .ok (.bipush 48, 2) := by decide +kernel
theorem dX5_kindOf_16 : decode cX5_kindOf 16 = .ok (.bipush 57, 2) := by decide +kernel
theorem dX5_kindOf_18 : decode cX5_kindOf 18 = .ok (.invokestatic 140, 3) := by decide +kernel
theorem dX5_kindOf_21 : decode cX5_kindOf 21 = .ok (.ifCond .eq 5, 3) := by decide +kernel
theorem dX5_kindOf_24 : decode cX5_kindOf 24 = .ok (.iconst 2, 1) := by decide +kernel
theorem dX5_kindOf_25 : decode cX5_kindOf 25 = .ok (.ireturn, 1) := by decide +kernel
theorem dX5_kindOf_26 : decode cX5_kindOf 26 = .ok (.iload_n 0, 1) := by decide +kernel
theorem dX5_kindOf_27 : decode cX5_kindOf 27 = .ok (.bipush 32, 2) := by decide +kernel
theorem dX5_kindOf_29 : decode cX5_kindOf 29 = .ok (.if_icmp .eq 9, 3) := by decide +kernel
theorem dX5_kindOf_32 : decode cX5_kindOf 32 = .ok (.iload_n 0, 1) := by decide +kernel
theorem dX5_kindOf_33 : decode cX5_kindOf 33 = .ok (.bipush 10, 2) := by decide +kernel
theorem dX5_kindOf_35 : decode cX5_kindOf 35 = .ok (.if_icmp .ne 7, 3) := by decide +kernel
theorem dX5_kindOf_38 : decode cX5_kindOf 38 = .ok (.iconst 3, 1) := by decide +kernel
theorem dX5_kindOf_39 : decode cX5_kindOf 39 = .ok (.goto 4, 3) := by decide +kernel
theorem dX5_kindOf_42 : decode cX5_kindOf 42 = .ok (.iconst 0, 1) := by decide +kernel
theorem dX5_kindOf_43 : decode cX5_kindOf 43 = .ok (.ireturn, 1) := by decide +kernel
theorem dX5_byteAt_0 : decode cX5_byteAt 0 = .ok (.iload_n 1, 1) := by decide +kernel
theorem dX5_byteAt_1 : decode cX5_byteAt 1 = .ok (.ifCond .lt 20, 3) := by decide +kernel
theorem dX5_byteAt_4 : decode cX5_byteAt 4 = .ok (.iload_n 1, 1) := by decide +kernel
theorem dX5_byteAt_5 : decode cX5_byteAt 5 = .ok (.aload_n 0, 1) := by decide +kernel
theorem dX5_byteAt_6 : decode cX5_byteAt 6 = .ok (.getfield 21, 3) := by decide +kernel
theorem dX5_byteAt_9 : decode cX5_byteAt 9 = .ok (.if_icmp .ge 12, 3) := by decide +kernel
theorem dX5_byteAt_12 : decode cX5_byteAt 12 = .ok (.aload_n 0, 1) := by decide +kernel
theorem dX5_byteAt_13 : decode cX5_byteAt 13 = .ok (.getfield 9, 3) := by decide +kernel
theorem dX5_byteAt_16 : decode cX5_byteAt 16 = .ok (.iload_n 1, 1) := by decide +kernel
theorem dX5_byteAt_17 : decode cX5_byteAt 17 = .ok (.iaload, 1) := by decide +kernel
theorem dX5_byteAt_18 : decode cX5_byteAt 18 = .ok (.goto 4, 3) := by decide +kernel
theorem dX5_byteAt_21 : decode cX5_byteAt 21 = .ok (.iconst (-1), 1) := by decide +kernel
theorem dX5_byteAt_22 : decode cX5_byteAt 22 = .ok (.ireturn, 1) := by decide +kernel
theorem dX6_init_0 : decode cX6_init 0 = .ok (.aload_n 0, 1) := by decide +kernel
theorem dX6_init_1 : decode cX6_init 1 = .ok (.invokespecial 3, 3) := by decide +kernel
theorem dX6_init_4 : decode cX6_init 4 = .ok (.aload_n 0, 1) := by decide +kernel
theorem dX6_init_5 : decode cX6_init 5 = .ok (.iconst 3, 1) := by decide +kernel
theorem dX6_init_6 : decode cX6_init 6 = .ok (.newarray .int, 2) := by decide +kernel
theorem dX6_init_8 : decode cX6_init 8 = .ok (.putfield 9, 3) := by decide +kernel
theorem dX6_init_11 : decode cX6_init 11 = .ok (.aload_n 0, 1) := by decide +kernel
theorem dX6_init_12 : decode cX6_init 12 = .ok (.iconst 3, 1) := by decide +kernel
theorem dX6_init_13 : decode cX6_init 13 = .ok (.newarray .int, 2) := by decide +kernel
theorem dX6_init_15 : decode cX6_init 15 = .ok (.putfield 15, 3) := by decide +kernel
theorem dX6_init_18 : decode cX6_init 18 = .ok (.aload_n 0, 1) := by decide +kernel
theorem dX6_init_19 : decode cX6_init 19 = .ok (.new 18, 3) := by decide +kernel
theorem dX6_init_22 : decode cX6_init 22 = .ok (.dup, 1) := by decide +kernel
theorem dX6_init_23 : decode cX6_init 23 = .ok (.invokespecial 20, 3) := by decide +kernel
theorem dX6_init_26 : decode cX6_init 26 = .ok (.putfield 21, 3) := by decide +kernel
theorem dX6_init_29 : decode cX6_init 29 = .ok (.return_, 1) := by decide +kernel
theorem dX6_run_0 : decode cX6_run 0 = .ok (.aload_n 0, 1) := by decide +kernel
theorem dX6_run_1 : decode cX6_run 1 = .ok (.iload_n 3, 1) := by decide +kernel
theorem dX6_run_2 : decode cX6_run 2 = .ok (.aload_n 2, 1) := by decide +kernel
theorem dX6_run_3 : decode cX6_run 3 = .ok (.arraylength, 1) := by decide +kernel
theorem dX6_run_4 : decode cX6_run 4 = .ok (.invokestatic 25, 3) := by decide +kernel
theorem dX6_run_7 : decode cX6_run 7 = .ok (.putfield 31, 3) := by decide +kernel
theorem dX6_run_10 : decode cX6_run 10 = .ok (.aload_n 0, 1) := by decide +kernel
theorem dX6_run_11 : decode cX6_run 11 = .ok (.iload 4, 2) := by decide +kernel
theorem dX6_run_13 : decode cX6_run 13 = .ok (.iconst 3, 1) := by decide +kernel
theorem dX6_run_14 : decode cX6_run 14 = .ok (.invokestatic 25, 3) := by decide +kernel
theorem dX6_run_17 : decode cX6_run 17 = .ok (.putfield 35, 3) := by decide +kernel
theorem dX6_run_20 : decode cX6_run 20 = .ok (.aload_n 0, 1) := by decide +kernel
theorem dX6_run_21 : decode cX6_run 21 = .ok (.iconst 0, 1) := by decide +kernel
theorem dX6_run_22 : decode cX6_run 22 = .ok (.putfield 38, 3) := by decide +kernel
theorem dX6_run_25 : decode cX6_run 25 = .ok (.aload_n 0, 1) := by decide +kernel
theorem dX6_run_26 : decode cX6_run 26 = .ok (.lconst 0, 1) := by decide +kernel
theorem dX6_run_27 : decode cX6_run 27 = .ok (.putfield 41, 3) := by decide +kernel
theorem dX6_run_30 : decode cX6_run 30 = .ok (.aload_n 0, 1) := by decide +kernel
theorem dX6_run_31 : decode cX6_run 31 = .ok (.iconst 0, 1) := by decide +kernel
theorem dX6_run_32 : decode cX6_run 32 = .ok (.putfield 45, 3) := by decide +kernel
theorem dX6_run_35 : decode cX6_run 35 = .ok (.aload_n 0, 1) := by decide +kernel
theorem dX6_run_36 : decode cX6_run 36 = .ok (.aload_n 1, 1) := by decide +kernel
theorem dX6_run_37 : decode cX6_run 37 = .ok (.aload_n 2, 1) := by decide +kernel
theorem dX6_run_38 : decode cX6_run 38 = .ok (.aload_n 1, 1) := by decide +kernel
theorem dX6_run_39 : decode cX6_run 39 = .ok (.getfield 48, 3) := by decide +kernel
theorem dX6_run_42 : decode cX6_run 42 = .ok (.aload_n 1, 1) := by decide +kernel
theorem dX6_run_43 : decode cX6_run 43 = .ok (.getfield 54, 3) := by decide +kernel
theorem dX6_run_46 : decode cX6_run 46 = .ok (.lconst 0, 1) := by decide +kernel
theorem dX6_run_47 : decode cX6_run 47 = .ok (.iconst 0, 1) := by decide +kernel
theorem dX6_run_48 : decode cX6_run 48 = .ok (.invokevirtual 57, 3) := by decide +kernel
theorem dX6_run_51 : decode cX6_run 51 = .ok (.return_, 1) := by decide +kernel
theorem dX6_link_0 : decode cX6_link 0 = .ok (.iload_n 1, 1) := by decide +kernel
theorem dX6_link_1 : decode cX6_link 1 = .ok (.ifCond .lt 20, 3) := by decide +kernel
theorem dX6_link_4 : decode cX6_link 4 = .ok (.iload_n 1, 1) := by decide +kernel
theorem dX6_link_5 : decode cX6_link 5 = .ok (.aload_n 0, 1) := by decide +kernel
theorem dX6_link_6 : decode cX6_link 6 = .ok (.getfield 38, 3) := by decide +kernel
theorem dX6_link_9 : decode cX6_link 9 = .ok (.if_icmp .ge 12, 3) := by decide +kernel
theorem dX6_link_12 : decode cX6_link 12 = .ok (.aload_n 0, 1) := by decide +kernel
theorem dX6_link_13 : decode cX6_link 13 = .ok (.getfield 9, 3) := by decide +kernel
theorem dX6_link_16 : decode cX6_link 16 = .ok (.iload_n 1, 1) := by decide +kernel
theorem dX6_link_17 : decode cX6_link 17 = .ok (.iaload, 1) := by decide +kernel
theorem dX6_link_18 : decode cX6_link 18 = .ok (.goto 4, 3) := by decide +kernel
theorem dX6_link_21 : decode cX6_link 21 = .ok (.iconst (-1), 1) := by decide +kernel
theorem dX6_link_22 : decode cX6_link 22 = .ok (.ireturn, 1) := by decide +kernel
theorem dX6_extend_0 : decode cX6_extend 0 = .ok (.iload 7, 2) := by decide +kernel
theorem dX6_extend_2 : decode cX6_extend 2 = .ok (.ifCond .lt 12, 3) := by decide +kernel
theorem dX6_extend_5 : decode cX6_extend 5 = .ok (.iload 7, 2) := by decide +kernel
theorem dX6_extend_7 : decode cX6_extend 7 = .ok (.aload_n 0, 1) := by decide +kernel
theorem dX6_extend_8 : decode cX6_extend 8 = .ok (.getfield 35, 3) := by decide +kernel
theorem dX6_extend_11 : decode cX6_extend 11 = .ok (.if_icmp .lt 4, 3) := by decide +kernel
theorem dX6_extend_14 : decode cX6_extend 14 = .ok (.return_, 1) := by decide +kernel
theorem dX6_extend_15 : decode cX6_extend 15 = .ok (.iconst 0, 1) := by decide +kernel
theorem dX6_extend_16 : decode cX6_extend 16 = .ok (.istore 8, 2) := by decide +kernel
theorem dX6_extend_18 : decode cX6_extend 18 = .ok (.iload 8, 2) := by decide +kernel
theorem dX6_extend_20 : decode cX6_extend 20 = .ok (.aload_n 0, 1) := by decide +kernel
theorem dX6_extend_21 : decode cX6_extend 21 = .ok (.getfield 31, 3) := by decide +kernel
theorem dX6_extend_24 : decode cX6_extend 24 = .ok (.if_icmp .ge 126, 3) := by decide +kernel
theorem dX6_extend_27 : decode cX6_extend 27 = .ok (.aload_n 2, 1) := by decide +kernel
theorem dX6_extend_28 : decode cX6_extend 28 = .ok (.iload 8, 2) := by decide +kernel
theorem dX6_extend_30 : decode cX6_extend 30 = .ok (.aaload, 1) := by decide +kernel
theorem dX6_extend_31 : decode cX6_extend 31 = .ok (.astore 9, 2) := by decide +kernel
theorem dX6_extend_33 : decode cX6_extend 33 = .ok (.aload 9, 2) := by decide +kernel
theorem dX6_extend_35 : decode cX6_extend 35 = .ok (.ifnull 109, 3) := by decide +kernel
theorem dX6_extend_38 : decode cX6_extend 38 = .ok (.aload_n 0, 1) := by decide +kernel
theorem dX6_extend_39 : decode cX6_extend 39 = .ok (.iload 8, 2) := by decide +kernel
theorem dX6_extend_41 : decode cX6_extend 41 = .ok (.iload 7, 2) := by decide +kernel
theorem dX6_extend_43 : decode cX6_extend 43 = .ok (.invokevirtual 61, 3) := by decide +kernel
theorem dX6_extend_46 : decode cX6_extend 46 = .ok (.ifCond .eq 6, 3) := by decide +kernel
theorem dX6_extend_49 : decode cX6_extend 49 = .ok (.goto 95, 3) := by decide +kernel
theorem dX6_extend_52 : decode cX6_extend 52 = .ok (.aload_n 0, 1) := by decide +kernel
theorem dX6_extend_53 : decode cX6_extend 53 = .ok (.getfield 21, 3) := by decide +kernel
theorem dX6_extend_56 : decode cX6_extend 56 = .ok (.aload_n 1, 1) := by decide +kernel
theorem dX6_extend_57 : decode cX6_extend 57 = .ok (.aload_n 3, 1) := by decide +kernel
theorem dX6_extend_58 : decode cX6_extend 58 = .ok (.iload 4, 2) := by decide +kernel
theorem dX6_extend_60 : decode cX6_extend 60 = .ok (.aload 9, 2) := by decide +kernel
theorem dX6_extend_62 : decode cX6_extend 62 = .ok (.invokevirtual 65, 3) := by decide +kernel
theorem dX6_extend_65 : decode cX6_extend 65 = .ok (.aload_n 0, 1) := by decide +kernel
theorem dX6_extend_66 : decode cX6_extend 66 = .ok (.getfield 21, 3) := by decide +kernel
theorem dX6_extend_69 : decode cX6_extend 69 = .ok (.getfield 69, 3) := by decide +kernel
theorem dX6_extend_72 : decode cX6_extend 72 = .ok (.ifCond .eq 6, 3) := by decide +kernel
theorem dX6_extend_75 : decode cX6_extend 75 = .ok (.goto 69, 3) := by decide +kernel
theorem dX6_extend_78 : decode cX6_extend 78 = .ok (.aload_n 0, 1) := by decide +kernel
theorem dX6_extend_79 : decode cX6_extend 79 = .ok (.getfield 21, 3) := by decide +kernel
theorem dX6_extend_82 : decode cX6_extend 82 = .ok (.getfield 72, 3) := by decide +kernel
theorem dX6_extend_85 : decode cX6_extend 85 = .ok (.istore 10, 2) := by decide +kernel
theorem dX6_extend_87 : decode cX6_extend 87 = .ok (.lload 5, 2) := by decide +kernel
theorem dX6_extend_89 : decode cX6_extend 89 = .ok (.aload_n 0, 1) := by decide +kernel
theorem dX6_extend_90 : decode cX6_extend 90 = .ok (.getfield 21, 3) := by decide +kernel
theorem dX6_extend_93 : decode cX6_extend 93 = .ok (.getfield 75, 3) := by decide +kernel
theorem dX6_extend_96 : decode cX6_extend 96 = .ok (.ladd, 1) := by decide +kernel
theorem dX6_extend_97 : decode cX6_extend 97 = .ok (.lstore 11, 2) := by decide +kernel
theorem dX6_extend_99 : decode cX6_extend 99 = .ok (.aload_n 0, 1) := by decide +kernel
theorem dX6_extend_100 : decode cX6_extend 100 = .ok (.getfield 15, 3) := by decide +kernel
theorem dX6_extend_103 : decode cX6_extend 103 = .ok (.iload 7, 2) := by decide +kernel
theorem dX6_extend_105 : decode cX6_extend 105 = .ok (.iload 8, 2) := by decide +kernel
theorem dX6_extend_107 : decode cX6_extend 107 = .ok (.iastore, 1) := by decide +kernel
theorem dX6_extend_108 : decode cX6_extend 108 = .ok (.aload_n 0, 1) := by decide +kernel
theorem dX6_extend_109 : decode cX6_extend 109 = .ok (.iload 7, 2) := by decide +kernel
theorem dX6_extend_111 : decode cX6_extend 111 = .ok (.iconst 1, 1) := by decide +kernel
theorem dX6_extend_112 : decode cX6_extend 112 = .ok (.iadd, 1) := by decide +kernel
theorem dX6_extend_113 : decode cX6_extend 113 = .ok (.lload 11, 2) := by decide +kernel
theorem dX6_extend_115 : decode cX6_extend 115 = .ok (.iload 10, 2) := by decide +kernel
theorem dX6_extend_117 : decode cX6_extend 117 = .ok (.aload_n 1, 1) := by decide +kernel
theorem dX6_extend_118 : decode cX6_extend 118 = .ok (.getfield 54, 3) := by decide +kernel
theorem dX6_extend_121 : decode cX6_extend 121 = .ok (.isub, 1) := by decide +kernel
theorem dX6_extend_122 : decode cX6_extend 122 = .ok (.invokevirtual 76, 3) := by decide +kernel
theorem dX6_extend_125 : decode cX6_extend 125 = .ok (.aload_n 0, 1) := by decide +kernel
theorem dX6_extend_126 : decode cX6_extend 126 = .ok (.aload_n 1, 1) := by decide +kernel
theorem dX6_extend_127 : decode cX6_extend 127 = .ok (.aload_n 2, 1) := by decide +kernel
theorem dX6_extend_128 : decode cX6_extend 128 = .ok (.aload 9, 2) := by decide +kernel
theorem dX6_extend_130 : decode cX6_extend 130 = .ok (.getfield 80, 3) := by decide +kernel
theorem dX6_extend_133 : decode cX6_extend 133 = .ok (.iload 10, 2) := by decide +kernel
theorem dX6_extend_135 : decode cX6_extend 135 = .ok (.lload 11, 2) := by decide +kernel
theorem dX6_extend_137 : decode cX6_extend 137 = .ok (.iload 7, 2) := by decide +kernel
theorem dX6_extend_139 : decode cX6_extend 139 = .ok (.iconst 1, 1) := by decide +kernel
theorem dX6_extend_140 : decode cX6_extend 140 = .ok (.iadd, 1) := by decide +kernel
theorem dX6_extend_141 : decode cX6_extend 141 = .ok (.invokevirtual 57, 3) := by decide +kernel
theorem dX6_extend_144 : decode cX6_extend 144 = .ok (.iinc 8 1, 3) := by decide +kernel
theorem dX6_extend_147 : decode cX6_extend 147 = .ok (.goto (-129), 3) := by decide +kernel
theorem dX6_extend_150 : decode cX6_extend 150 = .ok (.return_, 1) := by decide +kernel
theorem dX6_isTried_0 : decode cX6_isTried 0 = .ok (.iconst 0, 1) := by decide +kernel
theorem dX6_isTried_1 : decode cX6_isTried 1 = .ok (.istore_n 3, 1) := by decide +kernel
theorem dX6_isTried_2 : decode cX6_isTried 2 = .ok (.iload_n 3, 1) := by decide +kernel
theorem dX6_isTried_3 : decode cX6_isTried 3 = .ok (.iload_n 2, 1) := by decide +kernel
theorem dX6_isTried_4 : decode cX6_isTried 4 = .ok (.if_icmp .ge 21, 3) := by decide +kernel
theorem dX6_isTried_7 : decode cX6_isTried 7 = .ok (.aload_n 0, 1) := by decide +kernel
theorem dX6_isTried_8 : decode cX6_isTried 8 = .ok (.getfield 15, 3) := by decide +kernel
theorem dX6_isTried_11 : decode cX6_isTried 11 = .ok (.iload_n 3, 1) := by decide +kernel
theorem dX6_isTried_12 : decode cX6_isTried 12 = .ok (.iaload, 1) := by decide +kernel
theorem dX6_isTried_13 : decode cX6_isTried 13 = .ok (.iload_n 1, 1) := by decide +kernel
theorem dX6_isTried_14 : decode cX6_isTried 14 = .ok (.if_icmp .ne 5, 3) := by decide +kernel
theorem dX6_isTried_17 : decode cX6_isTried 17 = .ok (.iconst 1, 1) := by decide +kernel
theorem dX6_isTried_18 : decode cX6_isTried 18 = .ok (.ireturn, 1) := by decide +kernel
theorem dX6_isTried_19 : decode cX6_isTried 19 = .ok (.iinc 3 1, 3) := by decide +kernel
theorem dX6_isTried_22 : decode cX6_isTried 22 = .ok (.goto (-20), 3) := by decide +kernel
theorem dX6_isTried_25 : decode cX6_isTried 25 = .ok (.iconst 0, 1) := by decide +kernel
theorem dX6_isTried_26 : decode cX6_isTried 26 = .ok (.ireturn, 1) := by decide +kernel
theorem dX6_keepIfBetter_0 : decode cX6_keepIfBetter 0 = .ok (.lload_n 2, 1) := by decide +kernel
theorem dX6_keepIfBetter_1 : decode cX6_keepIfBetter 1 = .ok (.aload_n 0, 1) := by decide +kernel
theorem dX6_keepIfBetter_2 : decode cX6_keepIfBetter 2 = .ok (.getfield 45, 3) := by decide +kernel
theorem dX6_keepIfBetter_5 : decode cX6_keepIfBetter 5 = .ok (.i2l, 1) := by decide +kernel
theorem dX6_keepIfBetter_6 : decode cX6_keepIfBetter 6 = .ok (.lmul, 1) := by decide +kernel
theorem dX6_keepIfBetter_7 : decode cX6_keepIfBetter 7 = .ok (.aload_n 0, 1) := by decide +kernel
theorem dX6_keepIfBetter_8 : decode cX6_keepIfBetter 8 = .ok (.getfield 41, 3) := by decide +kernel
theorem dX6_keepIfBetter_11 : decode cX6_keepIfBetter 11 = .ok (.iload 4, 2) := by decide +kernel
theorem dX6_keepIfBetter_13 : decode cX6_keepIfBetter 13 = .ok (.i2l, 1) := by decide +kernel
theorem dX6_keepIfBetter_14 : decode cX6_keepIfBetter 14 = .ok (.lmul, 1) := by decide +kernel
theorem dX6_keepIfBetter_15 : decode cX6_keepIfBetter 15 = .ok (.lsub, 1) := by decide +kernel
theorem dX6_keepIfBetter_16 : decode cX6_keepIfBetter 16 = .ok (.lstore 5, 2) := by decide +kernel
theorem dX6_keepIfBetter_18 : decode cX6_keepIfBetter 18 = .ok (.aload_n 0, 1) := by decide +kernel
theorem dX6_keepIfBetter_19 : decode cX6_keepIfBetter 19 = .ok (.getfield 38, 3) := by decide +kernel
theorem dX6_keepIfBetter_22 : decode cX6_keepIfBetter 22 = .ok (.ifCond .eq 25, 3) := by decide +kernel
theorem dX6_keepIfBetter_25 : decode cX6_keepIfBetter 25 = .ok (.lload 5, 2) := by decide +kernel
theorem dX6_keepIfBetter_27 : decode cX6_keepIfBetter 27 = .ok (.lconst 0, 1) := by decide +kernel
theorem dX6_keepIfBetter_28 : decode cX6_keepIfBetter 28 = .ok (.lcmp, 1) := by decide +kernel
theorem dX6_keepIfBetter_29 : decode cX6_keepIfBetter 29 = .ok (.ifCond .gt 18, 3) := by decide +kernel
theorem dX6_keepIfBetter_32 : decode cX6_keepIfBetter 32 = .ok (.lload 5, 2) := by decide +kernel
theorem dX6_keepIfBetter_34 : decode cX6_keepIfBetter 34 = .ok (.lconst 0, 1) := by decide +kernel
theorem dX6_keepIfBetter_35 : decode cX6_keepIfBetter 35 = .ok (.lcmp, 1) := by decide +kernel
theorem dX6_keepIfBetter_36 : decode cX6_keepIfBetter 36 = .ok (.ifCond .ne 41, 3) := by decide +kernel
theorem dX6_keepIfBetter_39 : decode cX6_keepIfBetter 39 = .ok (.iload_n 1, 1) := by decide +kernel
theorem dX6_keepIfBetter_40 : decode cX6_keepIfBetter 40 = .ok (.aload_n 0, 1) := by decide +kernel
theorem dX6_keepIfBetter_41 : decode cX6_keepIfBetter 41 = .ok (.getfield 38, 3) := by decide +kernel
theorem dX6_keepIfBetter_44 : decode cX6_keepIfBetter 44 = .ok (.if_icmp .ge 33, 3) := by decide +kernel
theorem dX6_keepIfBetter_47 : decode cX6_keepIfBetter 47 = .ok (.aload_n 0, 1) := by decide +kernel
theorem dX6_keepIfBetter_48 : decode cX6_keepIfBetter 48 = .ok (.iload_n 1, 1) := by decide +kernel
theorem dX6_keepIfBetter_49 : decode cX6_keepIfBetter 49 = .ok (.putfield 38, 3) := by decide +kernel
theorem dX6_keepIfBetter_52 : decode cX6_keepIfBetter 52 = .ok (.aload_n 0, 1) := by decide +kernel
theorem dX6_keepIfBetter_53 : decode cX6_keepIfBetter 53 = .ok (.lload_n 2, 1) := by decide +kernel
theorem dX6_keepIfBetter_54 : decode cX6_keepIfBetter 54 = .ok (.putfield 41, 3) := by decide +kernel
theorem dX6_keepIfBetter_57 : decode cX6_keepIfBetter 57 = .ok (.aload_n 0, 1) := by decide +kernel
theorem dX6_keepIfBetter_58 : decode cX6_keepIfBetter 58 = .ok (.iload 4, 2) := by decide +kernel
theorem dX6_keepIfBetter_60 : decode cX6_keepIfBetter 60 = .ok (.putfield 45, 3) := by decide +kernel
theorem dX6_keepIfBetter_63 : decode cX6_keepIfBetter 63 = .ok (.aload_n 0, 1) := by decide +kernel
theorem dX6_keepIfBetter_64 : decode cX6_keepIfBetter 64 = .ok (.getfield 15, 3) := by decide +kernel
theorem dX6_keepIfBetter_67 : decode cX6_keepIfBetter 67 = .ok (.iconst 0, 1) := by decide +kernel
theorem dX6_keepIfBetter_68 : decode cX6_keepIfBetter 68 = .ok (.aload_n 0, 1) := by decide +kernel
theorem dX6_keepIfBetter_69 : decode cX6_keepIfBetter 69 = .ok (.getfield 9, 3) := by decide +kernel
theorem dX6_keepIfBetter_72 : decode cX6_keepIfBetter 72 = .ok (.iconst 0, 1) := by decide +kernel
theorem dX6_keepIfBetter_73 : decode cX6_keepIfBetter 73 = .ok (.iload_n 1, 1) := by decide +kernel
theorem dX6_keepIfBetter_74 : decode cX6_keepIfBetter 74 = .ok (.invokestatic 85, 3) := by decide +kernel
theorem dX6_keepIfBetter_77 : decode cX6_keepIfBetter 77 = .ok (.return_, 1) := by decide +kernel
theorem dX7_init_0 : decode cX7_init 0 = .ok (.aload_n 0, 1) := by decide +kernel
theorem dX7_init_1 : decode cX7_init 1 = .ok (.invokespecial 3, 3) := by decide +kernel
theorem dX7_init_4 : decode cX7_init 4 = .ok (.aload_n 0, 1) := by decide +kernel
theorem dX7_init_5 : decode cX7_init 5 = .ok (.iconst (-1), 1) := by decide +kernel
theorem dX7_init_6 : decode cX7_init 6 = .ok (.putfield 11, 3) := by decide +kernel
theorem dX7_init_9 : decode cX7_init 9 = .ok (.aload_n 0, 1) := by decide +kernel
theorem dX7_init_10 : decode cX7_init 10 = .ok (.bipush 40, 2) := by decide +kernel
theorem dX7_init_12 : decode cX7_init 12 = .ok (.newarray .int, 2) := by decide +kernel
theorem dX7_init_14 : decode cX7_init 14 = .ok (.putfield 15, 3) := by decide +kernel
theorem dX7_init_17 : decode cX7_init 17 = .ok (.return_, 1) := by decide +kernel
theorem dX7_become_0 : decode cX7_become 0 = .ok (.aload_n 0, 1) := by decide +kernel
theorem dX7_become_1 : decode cX7_become 1 = .ok (.iload_n 1, 1) := by decide +kernel
theorem dX7_become_2 : decode cX7_become 2 = .ok (.putfield 11, 3) := by decide +kernel
theorem dX7_become_5 : decode cX7_become 5 = .ok (.aload_n 0, 1) := by decide +kernel
theorem dX7_become_6 : decode cX7_become 6 = .ok (.iload_n 2, 1) := by decide +kernel
theorem dX7_become_7 : decode cX7_become 7 = .ok (.bipush 40, 2) := by decide +kernel
theorem dX7_become_9 : decode cX7_become 9 = .ok (.invokestatic 19, 3) := by decide +kernel
theorem dX7_become_12 : decode cX7_become 12 = .ok (.iconst 0, 1) := by decide +kernel
theorem dX7_become_13 : decode cX7_become 13 = .ok (.invokestatic 25, 3) := by decide +kernel
theorem dX7_become_16 : decode cX7_become 16 = .ok (.putfield 28, 3) := by decide +kernel
theorem dX7_become_19 : decode cX7_become 19 = .ok (.aload_n 0, 1) := by decide +kernel
theorem dX7_become_20 : decode cX7_become 20 = .ok (.getfield 15, 3) := by decide +kernel
theorem dX7_become_23 : decode cX7_become 23 = .ok (.iconst 0, 1) := by decide +kernel
theorem dX7_become_24 : decode cX7_become 24 = .ok (.invokestatic 31, 3) := by decide +kernel
theorem dX7_become_27 : decode cX7_become 27 = .ok (.return_, 1) := by decide +kernel
theorem dX7_has_0 : decode cX7_has 0 = .ok (.iload_n 1, 1) := by decide +kernel
theorem dX7_has_1 : decode cX7_has 1 = .ok (.ifCond .lt 15, 3) := by decide +kernel
theorem dX7_has_4 : decode cX7_has 4 = .ok (.iload_n 1, 1) := by decide +kernel
theorem dX7_has_5 : decode cX7_has 5 = .ok (.aload_n 0, 1) := by decide +kernel
theorem dX7_has_6 : decode cX7_has 6 = .ok (.getfield 28, 3) := by decide +kernel
theorem dX7_has_9 : decode cX7_has 9 = .ok (.if_icmp .ge 7, 3) := by decide +kernel
theorem dX7_has_12 : decode cX7_has 12 = .ok (.iconst 1, 1) := by decide +kernel
theorem dX7_has_13 : decode cX7_has 13 = .ok (.goto 4, 3) := by decide +kernel
theorem dX7_has_16 : decode cX7_has 16 = .ok (.iconst 0, 1) := by decide +kernel
theorem dX7_has_17 : decode cX7_has 17 = .ok (.ireturn, 1) := by decide +kernel
theorem dX7_item_0 : decode cX7_item 0 = .ok (.aload_n 0, 1) := by decide +kernel
theorem dX7_item_1 : decode cX7_item 1 = .ok (.iload_n 1, 1) := by decide +kernel
theorem dX7_item_2 : decode cX7_item 2 = .ok (.invokevirtual 37, 3) := by decide +kernel
theorem dX7_item_5 : decode cX7_item 5 = .ok (.ifCond .eq 12, 3) := by decide +kernel
theorem dX7_item_8 : decode cX7_item 8 = .ok (.aload_n 0, 1) := by decide +kernel
theorem dX7_item_9 : decode cX7_item 9 = .ok (.getfield 15, 3) := by decide +kernel
theorem dX7_item_12 : decode cX7_item 12 = .ok (.iload_n 1, 1) := by decide +kernel
theorem dX7_item_13 : decode cX7_item 13 = .ok (.iaload, 1) := by decide +kernel
theorem dX7_item_14 : decode cX7_item 14 = .ok (.goto 4, 3) := by decide +kernel
theorem dX7_item_17 : decode cX7_item 17 = .ok (.iconst 0, 1) := by decide +kernel
theorem dX7_item_18 : decode cX7_item 18 = .ok (.ireturn, 1) := by decide +kernel
theorem dX7_write_0 : decode cX7_write 0 = .ok (.aload_n 0, 1) := by decide +kernel
theorem dX7_write_1 : decode cX7_write 1 = .ok (.iload_n 1, 1) := by decide +kernel
theorem dX7_write_2 : decode cX7_write 2 = .ok (.invokevirtual 37, 3) := by decide +kernel
theorem dX7_write_5 : decode cX7_write 5 = .ok (.ifCond .eq 35, 3) := by decide +kernel
theorem dX7_write_8 : decode cX7_write 8 = .ok (.aload_n 0, 1) := by decide +kernel
theorem dX7_write_9 : decode cX7_write 9 = .ok (.getfield 15, 3) := by decide +kernel
theorem dX7_write_12 : decode cX7_write 12 = .ok (.iload_n 1, 1) := by decide +kernel
theorem dX7_write_13 : decode cX7_write 13 = .ok (.aload_n 0, 1) := by decide +kernel
theorem dX7_write_14 : decode cX7_write 14 = .ok (.getfield 11, 3) := by decide +kernel
theorem dX7_write_17 : decode cX7_write 17 = .ok (.ifCond .ne 8, 3) := by decide +kernel
theorem dX7_write_20 : decode cX7_write 20 = .ok (.iload_n 2, 1) := by decide +kernel
theorem dX7_write_21 : decode cX7_write 21 = .ok (.i2b, 1) := by decide +kernel
theorem dX7_write_22 : decode cX7_write 22 = .ok (.goto 17, 3) := by decide +kernel
theorem dX7_write_25 : decode cX7_write 25 = .ok (.aload_n 0, 1) := by decide +kernel
theorem dX7_write_26 : decode cX7_write 26 = .ok (.getfield 11, 3) := by decide +kernel
theorem dX7_write_29 : decode cX7_write 29 = .ok (.iconst 1, 1) := by decide +kernel
theorem dX7_write_30 : decode cX7_write 30 = .ok (.if_icmp .ne 8, 3) := by decide +kernel
theorem dX7_write_33 : decode cX7_write 33 = .ok (.iload_n 2, 1) := by decide +kernel
theorem dX7_write_34 : decode cX7_write 34 = .ok (.i2s, 1) := by decide +kernel
theorem dX7_write_35 : decode cX7_write 35 = .ok (.goto 4, 3) := by decide +kernel
theorem dX7_write_38 : decode cX7_write 38 = .ok (.iload_n 2, 1) := by decide +kernel
theorem dX7_write_39 : decode cX7_write 39 = .ok (.iastore, 1) := by decide +kernel
theorem dX7_write_40 : decode cX7_write 40 = .ok (.return_, 1) := by decide +kernel
theorem dX8_init_0 : decode cX8_init 0 = .ok (.aload_n 0, 1) := by decide +kernel
theorem dX8_init_1 : decode cX8_init 1 = .ok (.invokespecial 3, 3) := by decide +kernel
theorem dX8_init_4 : decode cX8_init 4 = .ok (.aload_n 0, 1) := by decide +kernel
theorem dX8_init_5 : decode cX8_init 5 = .ok (.bipush 10, 2) := by decide +kernel
theorem dX8_init_7 : decode cX8_init 7 = .ok (.putfield 9, 3) := by decide +kernel
theorem dX8_init_10 : decode cX8_init 10 = .ok (.aload_n 0, 1) := by decide +kernel
theorem dX8_init_11 : decode cX8_init 11 = .ok (.sipush 2000, 3) := by decide +kernel
theorem dX8_init_14 : decode cX8_init 14 = .ok (.newarray .byte, 2) := by decide +kernel
theorem dX8_init_16 : decode cX8_init 16 = .ok (.putfield 15, 3) := by decide +kernel
theorem dX8_init_19 : decode cX8_init 19 = .ok (.aload_n 0, 1) := by decide +kernel
theorem dX8_init_20 : decode cX8_init 20 = .ok (.iload_n 1, 1) := by decide +kernel
theorem dX8_init_21 : decode cX8_init 21 = .ok (.putfield 19, 3) := by decide +kernel
theorem dX8_init_24 : decode cX8_init 24 = .ok (.aload_n 0, 1) := by decide +kernel
theorem dX8_init_25 : decode cX8_init 25 = .ok (.aload_n 2, 1) := by decide +kernel
theorem dX8_init_26 : decode cX8_init 26 = .ok (.putfield 22, 3) := by decide +kernel
theorem dX8_init_29 : decode cX8_init 29 = .ok (.aload_n 0, 1) := by decide +kernel
theorem dX8_init_30 : decode cX8_init 30 = .ok (.iload_n 3, 1) := by decide +kernel
theorem dX8_init_31 : decode cX8_init 31 = .ok (.putfield 26, 3) := by decide +kernel
theorem dX8_init_34 : decode cX8_init 34 = .ok (.aload_n 0, 1) := by decide +kernel
theorem dX8_init_35 : decode cX8_init 35 = .ok (.iload 4, 2) := by decide +kernel
theorem dX8_init_37 : decode cX8_init 37 = .ok (.putfield 29, 3) := by decide +kernel
theorem dX8_init_40 : decode cX8_init 40 = .ok (.aload_n 0, 1) := by decide +kernel
theorem dX8_init_41 : decode cX8_init 41 = .ok (.iload 5, 2) := by decide +kernel
theorem dX8_init_43 : decode cX8_init 43 = .ok (.putfield 32, 3) := by decide +kernel
theorem dX8_init_46 : decode cX8_init 46 = .ok (.return_, 1) := by decide +kernel
theorem dX8_hoursFor_0 : decode cX8_hoursFor 0 = .ok (.iload_n 1, 1) := by decide +kernel
theorem dX8_hoursFor_1 : decode cX8_hoursFor 1 = .ok (.aload_n 0, 1) := by decide +kernel
