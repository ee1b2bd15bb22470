theorem dX12_offer_173 : decode cX12_offer 173 = .ok (.ireturn, 1) := by decide +kernel
theorem dX12_begins_0 : decode cX12_begins 0 = .ok (.iload 4, 2) := by decide +kernel
theorem dX12_begins_2 : decode cX12_begins 2 = .ok (.aload_n 0, 1) := by decide +kernel
theorem dX12_begins_3 : decode cX12_begins 3 = .ok (.iload_n 1, 1) := by decide +kernel
theorem dX12_begins_4 : decode cX12_begins 4 = .ok (.iload_n 3, 1) := by decide +kernel
theorem dX12_begins_5 : decode cX12_begins 5 = .ok (.aload_n 0, 1) := by decide +kernel
theorem dX12_begins_6 : decode cX12_begins 6 = .ok (.getfield 44, 3) := by decide +kernel
theorem dX12_begins_9 : decode cX12_begins 9 = .ok (.iload_n 2, 1) := by decide +kernel
theorem dX12_begins_10 : decode cX12_begins 10 = .ok (.iaload, 1) := by decide +kernel
theorem dX12_begins_11 : decode cX12_begins 11 = .ok (.invokevirtual 173, 3) := by decide +kernel
theorem dX12_begins_14 : decode cX12_begins 14 = .ok (.iadd, 1) := by decide +kernel
theorem dX12_begins_15 : decode cX12_begins 15 = .ok (.istore 5, 2) := by decide +kernel
theorem dX12_begins_17 : decode cX12_begins 17 = .ok (.iload 5, 2) := by decide +kernel
theorem dX12_begins_19 : decode cX12_begins 19 = .ok (.aload_n 0, 1) := by decide +kernel
theorem dX12_begins_20 : decode cX12_begins 20 = .ok (.getfield 56, 3) := by decide +kernel
theorem dX12_begins_23 : decode cX12_begins 23 = .ok (.iload_n 2, 1) := by decide +kernel
theorem dX12_begins_24 : decode cX12_begins 24 = .ok (.iaload, 1) := by decide +kernel
theorem dX12_begins_25 : decode cX12_begins 25 = .ok (.if_icmp .le 8, 3) := by decide +kernel
theorem dX12_begins_28 : decode cX12_begins 28 = .ok (.iload 5, 2) := by decide +kernel
theorem dX12_begins_30 : decode cX12_begins 30 = .ok (.goto 9, 3) := by decide +kernel
theorem dX12_begins_33 : decode cX12_begins 33 = .ok (.aload_n 0, 1) := by decide +kernel
theorem dX12_begins_34 : decode cX12_begins 34 = .ok (.getfield 56, 3) := by decide +kernel
theorem dX12_begins_37 : decode cX12_begins 37 = .ok (.iload_n 2, 1) := by decide +kernel
theorem dX12_begins_38 : decode cX12_begins 38 = .ok (.iaload, 1) := by decide +kernel
theorem dX12_begins_39 : decode cX12_begins 39 = .ok (.ireturn, 1) := by decide +kernel
theorem dX12_ends_0 : decode cX12_ends 0 = .ok (.aload_n 0, 1) := by decide +kernel
theorem dX12_ends_1 : decode cX12_ends 1 = .ok (.iload_n 1, 1) := by decide +kernel
theorem dX12_ends_2 : decode cX12_ends 2 = .ok (.iload_n 2, 1) := by decide +kernel
theorem dX12_ends_3 : decode cX12_ends 3 = .ok (.iload_n 3, 1) := by decide +kernel
theorem dX12_ends_4 : decode cX12_ends 4 = .ok (.iload 4, 2) := by decide +kernel
theorem dX12_ends_6 : decode cX12_ends 6 = .ok (.invokevirtual 177, 3) := by decide +kernel
theorem dX12_ends_9 : decode cX12_ends 9 = .ok (.aload_n 0, 1) := by decide +kernel
theorem dX12_ends_10 : decode cX12_ends 10 = .ok (.getfield 50, 3) := by decide +kernel
theorem dX12_ends_13 : decode cX12_ends 13 = .ok (.iload_n 2, 1) := by decide +kernel
theorem dX12_ends_14 : decode cX12_ends 14 = .ok (.iaload, 1) := by decide +kernel
theorem dX12_ends_15 : decode cX12_ends 15 = .ok (.aload_n 0, 1) := by decide +kernel
theorem dX12_ends_16 : decode cX12_ends 16 = .ok (.getfield 7, 3) := by decide +kernel
theorem dX12_ends_19 : decode cX12_ends 19 = .ok (.aload_n 0, 1) := by decide +kernel
theorem dX12_ends_20 : decode cX12_ends 20 = .ok (.getfield 44, 3) := by decide +kernel
theorem dX12_ends_23 : decode cX12_ends 23 = .ok (.iload_n 2, 1) := by decide +kernel
theorem dX12_ends_24 : decode cX12_ends 24 = .ok (.iaload, 1) := by decide +kernel
theorem dX12_ends_25 : decode cX12_ends 25 = .ok (.iaload, 1) := by decide +kernel
theorem dX12_ends_26 : decode cX12_ends 26 = .ok (.invokestatic 169, 3) := by decide +kernel
theorem dX12_ends_29 : decode cX12_ends 29 = .ok (.iadd, 1) := by decide +kernel
theorem dX12_ends_30 : decode cX12_ends 30 = .ok (.aload_n 0, 1) := by decide +kernel
theorem dX12_ends_31 : decode cX12_ends 31 = .ok (.iload_n 1, 1) := by decide +kernel
theorem dX12_ends_32 : decode cX12_ends 32 = .ok (.aload_n 0, 1) := by decide +kernel
theorem dX12_ends_33 : decode cX12_ends 33 = .ok (.getfield 44, 3) := by decide +kernel
theorem dX12_ends_36 : decode cX12_ends 36 = .ok (.iload_n 2, 1) := by decide +kernel
theorem dX12_ends_37 : decode cX12_ends 37 = .ok (.iaload, 1) := by decide +kernel
theorem dX12_ends_38 : decode cX12_ends 38 = .ok (.aload_n 0, 1) := by decide +kernel
theorem dX12_ends_39 : decode cX12_ends 39 = .ok (.getfield 47, 3) := by decide +kernel
theorem dX12_ends_42 : decode cX12_ends 42 = .ok (.iload_n 2, 1) := by decide +kernel
theorem dX12_ends_43 : decode cX12_ends 43 = .ok (.iaload, 1) := by decide +kernel
theorem dX12_ends_44 : decode cX12_ends 44 = .ok (.invokevirtual 173, 3) := by decide +kernel
theorem dX12_ends_47 : decode cX12_ends 47 = .ok (.iadd, 1) := by decide +kernel
theorem dX12_ends_48 : decode cX12_ends 48 = .ok (.aload_n 0, 1) := by decide +kernel
theorem dX12_ends_49 : decode cX12_ends 49 = .ok (.getfield 50, 3) := by decide +kernel
theorem dX12_ends_52 : decode cX12_ends 52 = .ok (.iload_n 2, 1) := by decide +kernel
theorem dX12_ends_53 : decode cX12_ends 53 = .ok (.iaload, 1) := by decide +kernel
theorem dX12_ends_54 : decode cX12_ends 54 = .ok (.aload_n 0, 1) := by decide +kernel
theorem dX12_ends_55 : decode cX12_ends 55 = .ok (.getfield 7, 3) := by decide +kernel
theorem dX12_ends_58 : decode cX12_ends 58 = .ok (.aload_n 0, 1) := by decide +kernel
theorem dX12_ends_59 : decode cX12_ends 59 = .ok (.getfield 47, 3) := by decide +kernel
theorem dX12_ends_62 : decode cX12_ends 62 = .ok (.iload_n 2, 1) := by decide +kernel
theorem dX12_ends_63 : decode cX12_ends 63 = .ok (.iaload, 1) := by decide +kernel
theorem dX12_ends_64 : decode cX12_ends 64 = .ok (.iaload, 1) := by decide +kernel
theorem dX12_ends_65 : decode cX12_ends 65 = .ok (.invokestatic 169, 3) := by decide +kernel
theorem dX12_ends_68 : decode cX12_ends 68 = .ok (.iadd, 1) := by decide +kernel
theorem dX12_ends_69 : decode cX12_ends 69 = .ok (.ireturn, 1) := by decide +kernel
theorem dX12_burnt_0 : decode cX12_burnt 0 = .ok (.aload_n 0, 1) := by decide +kernel
theorem dX12_burnt_1 : decode cX12_burnt 1 = .ok (.iload_n 1, 1) := by decide +kernel
theorem dX12_burnt_2 : decode cX12_burnt 2 = .ok (.iload_n 3, 1) := by decide +kernel
theorem dX12_burnt_3 : decode cX12_burnt 3 = .ok (.aload_n 0, 1) := by decide +kernel
theorem dX12_burnt_4 : decode cX12_burnt 4 = .ok (.getfield 44, 3) := by decide +kernel
theorem dX12_burnt_7 : decode cX12_burnt 7 = .ok (.iload_n 2, 1) := by decide +kernel
theorem dX12_burnt_8 : decode cX12_burnt 8 = .ok (.iaload, 1) := by decide +kernel
theorem dX12_burnt_9 : decode cX12_burnt 9 = .ok (.invokevirtual 181, 3) := by decide +kernel
theorem dX12_burnt_12 : decode cX12_burnt 12 = .ok (.aload_n 0, 1) := by decide +kernel
theorem dX12_burnt_13 : decode cX12_burnt 13 = .ok (.iload_n 1, 1) := by decide +kernel
theorem dX12_burnt_14 : decode cX12_burnt 14 = .ok (.aload_n 0, 1) := by decide +kernel
theorem dX12_burnt_15 : decode cX12_burnt 15 = .ok (.getfield 44, 3) := by decide +kernel
theorem dX12_burnt_18 : decode cX12_burnt 18 = .ok (.iload_n 2, 1) := by decide +kernel
theorem dX12_burnt_19 : decode cX12_burnt 19 = .ok (.iaload, 1) := by decide +kernel
theorem dX12_burnt_20 : decode cX12_burnt 20 = .ok (.aload_n 0, 1) := by decide +kernel
theorem dX12_burnt_21 : decode cX12_burnt 21 = .ok (.getfield 47, 3) := by decide +kernel
theorem dX12_burnt_24 : decode cX12_burnt 24 = .ok (.iload_n 2, 1) := by decide +kernel
theorem dX12_burnt_25 : decode cX12_burnt 25 = .ok (.iaload, 1) := by decide +kernel
theorem dX12_burnt_26 : decode cX12_burnt 26 = .ok (.invokevirtual 181, 3) := by decide +kernel
theorem dX12_burnt_29 : decode cX12_burnt 29 = .ok (.iadd, 1) := by decide +kernel
theorem dX12_burnt_30 : decode cX12_burnt 30 = .ok (.ireturn, 1) := by decide +kernel
theorem dX12_earns_0 : decode cX12_earns 0 = .ok (.aload_n 0, 1) := by decide +kernel
theorem dX12_earns_1 : decode cX12_earns 1 = .ok (.getfield 53, 3) := by decide +kernel
theorem dX12_earns_4 : decode cX12_earns 4 = .ok (.iload_n 2, 1) := by decide +kernel
theorem dX12_earns_5 : decode cX12_earns 5 = .ok (.iaload, 1) := by decide +kernel
theorem dX12_earns_6 : decode cX12_earns 6 = .ok (.i2l, 1) := by decide +kernel
theorem dX12_earns_7 : decode cX12_earns 7 = .ok (.aload_n 0, 1) := by decide +kernel
theorem dX12_earns_8 : decode cX12_earns 8 = .ok (.getfield 50, 3) := by decide +kernel
theorem dX12_earns_11 : decode cX12_earns 11 = .ok (.iload_n 2, 1) := by decide +kernel
theorem dX12_earns_12 : decode cX12_earns 12 = .ok (.iaload, 1) := by decide +kernel
theorem dX12_earns_13 : decode cX12_earns 13 = .ok (.i2l, 1) := by decide +kernel
theorem dX12_earns_14 : decode cX12_earns 14 = .ok (.lmul, 1) := by decide +kernel
theorem dX12_earns_15 : decode cX12_earns 15 = .ok (.aload_n 0, 1) := by decide +kernel
theorem dX12_earns_16 : decode cX12_earns 16 = .ok (.iload_n 1, 1) := by decide +kernel
theorem dX12_earns_17 : decode cX12_earns 17 = .ok (.iload_n 3, 1) := by decide +kernel
theorem dX12_earns_18 : decode cX12_earns 18 = .ok (.aload_n 0, 1) := by decide +kernel
theorem dX12_earns_19 : decode cX12_earns 19 = .ok (.getfield 44, 3) := by decide +kernel
theorem dX12_earns_22 : decode cX12_earns 22 = .ok (.iload_n 2, 1) := by decide +kernel
theorem dX12_earns_23 : decode cX12_earns 23 = .ok (.iaload, 1) := by decide +kernel
theorem dX12_earns_24 : decode cX12_earns 24 = .ok (.invokevirtual 181, 3) := by decide +kernel
theorem dX12_earns_27 : decode cX12_earns 27 = .ok (.i2l, 1) := by decide +kernel
theorem dX12_earns_28 : decode cX12_earns 28 = .ok (.aload_n 0, 1) := by decide +kernel
theorem dX12_earns_29 : decode cX12_earns 29 = .ok (.getfield 13, 3) := by decide +kernel
theorem dX12_earns_32 : decode cX12_earns 32 = .ok (.iload_n 3, 1) := by decide +kernel
theorem dX12_earns_33 : decode cX12_earns 33 = .ok (.iaload, 1) := by decide +kernel
theorem dX12_earns_34 : decode cX12_earns 34 = .ok (.i2l, 1) := by decide +kernel
theorem dX12_earns_35 : decode cX12_earns 35 = .ok (.lmul, 1) := by decide +kernel
theorem dX12_earns_36 : decode cX12_earns 36 = .ok (.lsub, 1) := by decide +kernel
theorem dX12_earns_37 : decode cX12_earns 37 = .ok (.aload_n 0, 1) := by decide +kernel
theorem dX12_earns_38 : decode cX12_earns 38 = .ok (.iload_n 1, 1) := by decide +kernel
theorem dX12_earns_39 : decode cX12_earns 39 = .ok (.aload_n 0, 1) := by decide +kernel
theorem dX12_earns_40 : decode cX12_earns 40 = .ok (.getfield 44, 3) := by decide +kernel
theorem dX12_earns_43 : decode cX12_earns 43 = .ok (.iload_n 2, 1) := by decide +kernel
theorem dX12_earns_44 : decode cX12_earns 44 = .ok (.iaload, 1) := by decide +kernel
theorem dX12_earns_45 : decode cX12_earns 45 = .ok (.aload_n 0, 1) := by decide +kernel
theorem dX12_earns_46 : decode cX12_earns 46 = .ok (.getfield 47, 3) := by decide +kernel
theorem dX12_earns_49 : decode cX12_earns 49 = .ok (.iload_n 2, 1) := by decide +kernel
theorem dX12_earns_50 : decode cX12_earns 50 = .ok (.iaload, 1) := by decide +kernel
theorem dX12_earns_51 : decode cX12_earns 51 = .ok (.invokevirtual 181, 3) := by decide +kernel
theorem dX12_earns_54 : decode cX12_earns 54 = .ok (.i2l, 1) := by decide +kernel
theorem dX12_earns_55 : decode cX12_earns 55 = .ok (.aload_n 0, 1) := by decide +kernel
theorem dX12_earns_56 : decode cX12_earns 56 = .ok (.getfield 13, 3) := by decide +kernel
theorem dX12_earns_59 : decode cX12_earns 59 = .ok (.aload_n 0, 1) := by decide +kernel
theorem dX12_earns_60 : decode cX12_earns 60 = .ok (.getfield 44, 3) := by decide +kernel
theorem dX12_earns_63 : decode cX12_earns 63 = .ok (.iload_n 2, 1) := by decide +kernel
theorem dX12_earns_64 : decode cX12_earns 64 = .ok (.iaload, 1) := by decide +kernel
theorem dX12_earns_65 : decode cX12_earns 65 = .ok (.iaload, 1) := by decide +kernel
theorem dX12_earns_66 : decode cX12_earns 66 = .ok (.i2l, 1) := by decide +kernel
theorem dX12_earns_67 : decode cX12_earns 67 = .ok (.lmul, 1) := by decide +kernel
theorem dX12_earns_68 : decode cX12_earns 68 = .ok (.lsub, 1) := by decide +kernel
theorem dX12_earns_69 : decode cX12_earns 69 = .ok (.lreturn, 1) := by decide +kernel
theorem dX12_hinders_0 : decode cX12_hinders 0 = .ok (.aload_n 0, 1) := by decide +kernel
theorem dX12_hinders_1 : decode cX12_hinders 1 = .ok (.getfield 50, 3) := by decide +kernel
theorem dX12_hinders_4 : decode cX12_hinders 4 = .ok (.iload_n 2, 1) := by decide +kernel
theorem dX12_hinders_5 : decode cX12_hinders 5 = .ok (.iaload, 1) := by decide +kernel
theorem dX12_hinders_6 : decode cX12_hinders 6 = .ok (.aload_n 0, 1) := by decide +kernel
theorem dX12_hinders_7 : decode cX12_hinders 7 = .ok (.getfield 25, 3) := by decide +kernel
theorem dX12_hinders_10 : decode cX12_hinders 10 = .ok (.iload_n 1, 1) := by decide +kernel
theorem dX12_hinders_11 : decode cX12_hinders 11 = .ok (.iaload, 1) := by decide +kernel
theorem dX12_hinders_12 : decode cX12_hinders 12 = .ok (.if_icmp .le 5, 3) := by decide +kernel
theorem dX12_hinders_15 : decode cX12_hinders 15 = .ok (.iconst 1, 1) := by decide +kernel
theorem dX12_hinders_16 : decode cX12_hinders 16 = .ok (.ireturn, 1) := by decide +kernel
theorem dX12_hinders_17 : decode cX12_hinders 17 = .ok (.aload_n 0, 1) := by decide +kernel
theorem dX12_hinders_18 : decode cX12_hinders 18 = .ok (.iload_n 3, 1) := by decide +kernel
theorem dX12_hinders_19 : decode cX12_hinders 19 = .ok (.aload_n 0, 1) := by decide +kernel
theorem dX12_hinders_20 : decode cX12_hinders 20 = .ok (.getfield 44, 3) := by decide +kernel
theorem dX12_hinders_23 : decode cX12_hinders 23 = .ok (.iload_n 2, 1) := by decide +kernel
theorem dX12_hinders_24 : decode cX12_hinders 24 = .ok (.iaload, 1) := by decide +kernel
theorem dX12_hinders_25 : decode cX12_hinders 25 = .ok (.invokevirtual 184, 3) := by decide +kernel
theorem dX12_hinders_28 : decode cX12_hinders 28 = .ok (.ifCond .ne 22, 3) := by decide +kernel
theorem dX12_hinders_31 : decode cX12_hinders 31 = .ok (.aload_n 0, 1) := by decide +kernel
theorem dX12_hinders_32 : decode cX12_hinders 32 = .ok (.aload_n 0, 1) := by decide +kernel
theorem dX12_hinders_33 : decode cX12_hinders 33 = .ok (.getfield 44, 3) := by decide +kernel
theorem dX12_hinders_36 : decode cX12_hinders 36 = .ok (.iload_n 2, 1) := by decide +kernel
theorem dX12_hinders_37 : decode cX12_hinders 37 = .ok (.iaload, 1) := by decide +kernel
theorem dX12_hinders_38 : decode cX12_hinders 38 = .ok (.aload_n 0, 1) := by decide +kernel
theorem dX12_hinders_39 : decode cX12_hinders 39 = .ok (.getfield 47, 3) := by decide +kernel
theorem dX12_hinders_42 : decode cX12_hinders 42 = .ok (.iload_n 2, 1) := by decide +kernel
theorem dX12_hinders_43 : decode cX12_hinders 43 = .ok (.iaload, 1) := by decide +kernel
theorem dX12_hinders_44 : decode cX12_hinders 44 = .ok (.invokevirtual 184, 3) := by decide +kernel
theorem dX12_hinders_47 : decode cX12_hinders 47 = .ok (.ifCond .eq 5, 3) := by decide +kernel
theorem dX12_hinders_50 : decode cX12_hinders 50 = .ok (.iconst 2, 1) := by decide +kernel
theorem dX12_hinders_51 : decode cX12_hinders 51 = .ok (.ireturn, 1) := by decide +kernel
theorem dX12_hinders_52 : decode cX12_hinders 52 = .ok (.aload_n 0, 1) := by decide +kernel
theorem dX12_hinders_53 : decode cX12_hinders 53 = .ok (.iload_n 1, 1) := by decide +kernel
theorem dX12_hinders_54 : decode cX12_hinders 54 = .ok (.iload_n 2, 1) := by decide +kernel
theorem dX12_hinders_55 : decode cX12_hinders 55 = .ok (.iload_n 3, 1) := by decide +kernel
theorem dX12_hinders_56 : decode cX12_hinders 56 = .ok (.iload 4, 2) := by decide +kernel
theorem dX12_hinders_58 : decode cX12_hinders 58 = .ok (.invokevirtual 177, 3) := by decide +kernel
theorem dX12_hinders_61 : decode cX12_hinders 61 = .ok (.aload_n 0, 1) := by decide +kernel
theorem dX12_hinders_62 : decode cX12_hinders 62 = .ok (.getfield 59, 3) := by decide +kernel
theorem dX12_hinders_65 : decode cX12_hinders 65 = .ok (.iload_n 2, 1) := by decide +kernel
theorem dX12_hinders_66 : decode cX12_hinders 66 = .ok (.iaload, 1) := by decide +kernel
theorem dX12_hinders_67 : decode cX12_hinders 67 = .ok (.if_icmp .le 5, 3) := by decide +kernel
theorem dX12_hinders_70 : decode cX12_hinders 70 = .ok (.iconst 3, 1) := by decide +kernel
theorem dX12_hinders_71 : decode cX12_hinders 71 = .ok (.ireturn, 1) := by decide +kernel
theorem dX12_hinders_72 : decode cX12_hinders 72 = .ok (.aload_n 0, 1) := by decide +kernel
theorem dX12_hinders_73 : decode cX12_hinders 73 = .ok (.iload_n 1, 1) := by decide +kernel
theorem dX12_hinders_74 : decode cX12_hinders 74 = .ok (.iload_n 3, 1) := by decide +kernel
theorem dX12_hinders_75 : decode cX12_hinders 75 = .ok (.aload_n 0, 1) := by decide +kernel
theorem dX12_hinders_76 : decode cX12_hinders 76 = .ok (.getfield 44, 3) := by decide +kernel
theorem dX12_hinders_79 : decode cX12_hinders 79 = .ok (.iload_n 2, 1) := by decide +kernel
theorem dX12_hinders_80 : decode cX12_hinders 80 = .ok (.iaload, 1) := by decide +kernel
theorem dX12_hinders_81 : decode cX12_hinders 81 = .ok (.invokevirtual 181, 3) := by decide +kernel
theorem dX12_hinders_84 : decode cX12_hinders 84 = .ok (.istore 5, 2) := by decide +kernel
theorem dX12_hinders_86 : decode cX12_hinders 86 = .ok (.aload_n 0, 1) := by decide +kernel
theorem dX12_hinders_87 : decode cX12_hinders 87 = .ok (.iload_n 1, 1) := by decide +kernel
theorem dX12_hinders_88 : decode cX12_hinders 88 = .ok (.aload_n 0, 1) := by decide +kernel
theorem dX12_hinders_89 : decode cX12_hinders 89 = .ok (.getfield 44, 3) := by decide +kernel
theorem dX12_hinders_92 : decode cX12_hinders 92 = .ok (.iload_n 2, 1) := by decide +kernel
theorem dX12_hinders_93 : decode cX12_hinders 93 = .ok (.iaload, 1) := by decide +kernel
theorem dX12_hinders_94 : decode cX12_hinders 94 = .ok (.aload_n 0, 1) := by decide +kernel
theorem dX12_hinders_95 : decode cX12_hinders 95 = .ok (.getfield 47, 3) := by decide +kernel
theorem dX12_hinders_98 : decode cX12_hinders 98 = .ok (.iload_n 2, 1) := by decide +kernel
theorem dX12_hinders_99 : decode cX12_hinders 99 = .ok (.iaload, 1) := by decide +kernel
theorem dX12_hinders_100 : decode cX12_hinders 100 = .ok (.invokevirtual 181, 3) := by decide +kernel
theorem dX12_hinders_103 : decode cX12_hinders 103 = .ok (.istore 6, 2) := by decide +kernel
theorem dX12_hinders_105 : decode cX12_hinders 105 = .ok (.iload 5, 2) := by decide +kernel
theorem dX12_hinders_107 : decode cX12_hinders 107 = .ok (.aload_n 0, 1) := by decide +kernel
theorem dX12_hinders_108 : decode cX12_hinders 108 = .ok (.getfield 28, 3) := by decide +kernel
theorem dX12_hinders_111 : decode cX12_hinders 111 = .ok (.iload_n 1, 1) := by decide +kernel
theorem dX12_hinders_112 : decode cX12_hinders 112 = .ok (.iaload, 1) := by decide +kernel
theorem dX12_hinders_113 : decode cX12_hinders 113 = .ok (.if_icmp .gt 14, 3) := by decide +kernel
theorem dX12_hinders_116 : decode cX12_hinders 116 = .ok (.iload 6, 2) := by decide +kernel
theorem dX12_hinders_118 : decode cX12_hinders 118 = .ok (.aload_n 0, 1) := by decide +kernel
theorem dX12_hinders_119 : decode cX12_hinders 119 = .ok (.getfield 28, 3) := by decide +kernel
theorem dX12_hinders_122 : decode cX12_hinders 122 = .ok (.iload_n 1, 1) := by decide +kernel
theorem dX12_hinders_123 : decode cX12_hinders 123 = .ok (.iaload, 1) := by decide +kernel
theorem dX12_hinders_124 : decode cX12_hinders 124 = .ok (.if_icmp .le 5, 3) := by decide +kernel
theorem dX12_hinders_127 : decode cX12_hinders 127 = .ok (.iconst 4, 1) := by decide +kernel
theorem dX12_hinders_128 : decode cX12_hinders 128 = .ok (.ireturn, 1) := by decide +kernel
theorem dX12_hinders_129 : decode cX12_hinders 129 = .ok (.iload 5, 2) := by decide +kernel
theorem dX12_hinders_131 : decode cX12_hinders 131 = .ok (.ifCond .le 12, 3) := by decide +kernel
theorem dX12_hinders_134 : decode cX12_hinders 134 = .ok (.aload_n 0, 1) := by decide +kernel
theorem dX12_hinders_135 : decode cX12_hinders 135 = .ok (.getfield 13, 3) := by decide +kernel
theorem dX12_hinders_138 : decode cX12_hinders 138 = .ok (.iload_n 3, 1) := by decide +kernel
theorem dX12_hinders_139 : decode cX12_hinders 139 = .ok (.iaload, 1) := by decide +kernel
theorem dX12_hinders_140 : decode cX12_hinders 140 = .ok (.ifCond .eq 22, 3) := by decide +kernel
theorem dX12_hinders_143 : decode cX12_hinders 143 = .ok (.iload 6, 2) := by decide +kernel
theorem dX12_hinders_145 : decode cX12_hinders 145 = .ok (.ifCond .le 19, 3) := by decide +kernel
theorem dX12_hinders_148 : decode cX12_hinders 148 = .ok (.aload_n 0, 1) := by decide +kernel
theorem dX12_hinders_149 : decode cX12_hinders 149 = .ok (.getfield 13, 3) := by decide +kernel
theorem dX12_hinders_152 : decode cX12_hinders 152 = .ok (.aload_n 0, 1) := by decide +kernel
theorem dX12_hinders_153 : decode cX12_hinders 153 = .ok (.getfield 44, 3) := by decide +kernel
theorem dX12_hinders_156 : decode cX12_hinders 156 = .ok (.iload_n 2, 1) := by decide +kernel
theorem dX12_hinders_157 : decode cX12_hinders 157 = .ok (.iaload, 1) := by decide +kernel
theorem dX12_hinders_158 : decode cX12_hinders 158 = .ok (.iaload, 1) := by decide +kernel
theorem dX12_hinders_159 : decode cX12_hinders 159 = .ok (.ifCond .ne 5, 3) := by decide +kernel
theorem dX12_hinders_162 : decode cX12_hinders 162 = .ok (.iconst 5, 1) := by decide +kernel
theorem dX12_hinders_163 : decode cX12_hinders 163 = .ok (.ireturn, 1) := by decide +kernel
theorem dX12_hinders_164 : decode cX12_hinders 164 = .ok (.aload_n 0, 1) := by decide +kernel
theorem dX12_hinders_165 : decode cX12_hinders 165 = .ok (.iload_n 1, 1) := by decide +kernel
theorem dX12_hinders_166 : decode cX12_hinders 166 = .ok (.iload_n 2, 1) := by decide +kernel
theorem dX12_hinders_167 : decode cX12_hinders 167 = .ok (.iload_n 3, 1) := by decide +kernel
theorem dX12_hinders_168 : decode cX12_hinders 168 = .ok (.iload 4, 2) := by decide +kernel
theorem dX12_hinders_170 : decode cX12_hinders 170 = .ok (.invokevirtual 188, 3) := by decide +kernel
theorem dX12_hinders_173 : decode cX12_hinders 173 = .ok (.sipush 9999, 3) := by decide +kernel
theorem dX12_hinders_176 : decode cX12_hinders 176 = .ok (.if_icmp .le 8, 3) := by decide +kernel
theorem dX12_hinders_179 : decode cX12_hinders 179 = .ok (.bipush 6, 2) := by decide +kernel
theorem dX12_hinders_181 : decode cX12_hinders 181 = .ok (.goto 18, 3) := by decide +kernel
theorem dX12_hinders_184 : decode cX12_hinders 184 = .ok (.aload_n 0, 1) := by decide +kernel
theorem dX12_hinders_185 : decode cX12_hinders 185 = .ok (.getfield 62, 3) := by decide +kernel
theorem dX12_hinders_188 : decode cX12_hinders 188 = .ok (.iload_n 2, 1) := by decide +kernel
theorem dX12_hinders_189 : decode cX12_hinders 189 = .ok (.baload, 1) := by decide +kernel
theorem dX12_hinders_190 : decode cX12_hinders 190 = .ok (.ifCond .eq 8, 3) := by decide +kernel
theorem dX12_hinders_193 : decode cX12_hinders 193 = .ok (.bipush 7, 2) := by decide +kernel
theorem dX12_hinders_195 : decode cX12_hinders 195 = .ok (.goto 4, 3) := by decide +kernel
theorem dX12_hinders_198 : decode cX12_hinders 198 = .ok (.iconst 0, 1) := by decide +kernel
theorem dX12_hinders_199 : decode cX12_hinders 199 = .ok (.ireturn, 1) := by decide +kernel
theorem dX12_why_0 : decode cX12_why 0 = .ok (.aload_n 0, 1) := by decide +kernel
theorem dX12_why_1 : decode cX12_why 1 = .ok (.iload_n 1, 1) := by decide +kernel
theorem dX12_why_2 : decode cX12_why 2 = .ok (.invokevirtual 163, 3) := by decide +kernel
theorem dX12_why_5 : decode cX12_why 5 = .ok (.ifCond .eq 32, 3) := by decide +kernel
theorem dX12_why_8 : decode cX12_why 8 = .ok (.aload_n 0, 1) := by decide +kernel
theorem dX12_why_9 : decode cX12_why 9 = .ok (.iload_n 2, 1) := by decide +kernel
theorem dX12_why_10 : decode cX12_why 10 = .ok (.invokevirtual 191, 3) := by decide +kernel
theorem dX12_why_13 : decode cX12_why 13 = .ok (.ifCond .eq 24, 3) := by decide +kernel
theorem dX12_why_16 : decode cX12_why 16 = .ok (.aload_n 0, 1) := by decide +kernel
theorem dX12_why_17 : decode cX12_why 17 = .ok (.iload_n 1, 1) := by decide +kernel
theorem dX12_why_18 : decode cX12_why 18 = .ok (.iload_n 2, 1) := by decide +kernel
theorem dX12_why_19 : decode cX12_why 19 = .ok (.aload_n 0, 1) := by decide +kernel
theorem dX12_why_20 : decode cX12_why 20 = .ok (.getfield 19, 3) := by decide +kernel
theorem dX12_why_23 : decode cX12_why 23 = .ok (.iload_n 1, 1) := by decide +kernel
theorem dX12_why_24 : decode cX12_why 24 = .ok (.iaload, 1) := by decide +kernel
theorem dX12_why_25 : decode cX12_why 25 = .ok (.aload_n 0, 1) := by decide +kernel
theorem dX12_why_26 : decode cX12_why 26 = .ok (.getfield 22, 3) := by decide +kernel
theorem dX12_why_29 : decode cX12_why 29 = .ok (.iload_n 1, 1) := by decide +kernel
theorem dX12_why_30 : decode cX12_why 30 = .ok (.iaload, 1) := by decide +kernel
theorem dX12_why_31 : decode cX12_why 31 = .ok (.invokevirtual 194, 3) := by decide +kernel
theorem dX12_why_34 : decode cX12_why 34 = .ok (.goto 5, 3) := by decide +kernel
theorem dX12_why_37 : decode cX12_why 37 = .ok (.bipush (-2), 2) := by decide +kernel
theorem dX12_why_39 : decode cX12_why 39 = .ok (.ireturn, 1) := by decide +kernel
theorem dX12_estimate_0 : decode cX12_estimate 0 = .ok (.aload_n 0, 1) := by decide +kernel
theorem dX12_estimate_1 : decode cX12_estimate 1 = .ok (.iload_n 1, 1) := by decide +kernel
theorem dX12_estimate_2 : decode cX12_estimate 2 = .ok (.invokevirtual 163, 3) := by decide +kernel
theorem dX12_estimate_5 : decode cX12_estimate 5 = .ok (.ifCond .eq 41, 3) := by decide +kernel
theorem dX12_estimate_8 : decode cX12_estimate 8 = .ok (.aload_n 0, 1) := by decide +kernel
theorem dX12_estimate_9 : decode cX12_estimate 9 = .ok (.iload_n 2, 1) := by decide +kernel
theorem dX12_estimate_10 : decode cX12_estimate 10 = .ok (.invokevirtual 191, 3) := by decide +kernel
theorem dX12_estimate_13 : decode cX12_estimate 13 = .ok (.ifCond .eq 33, 3) := by decide +kernel
theorem dX12_estimate_16 : decode cX12_estimate 16 = .ok (.iload_n 3, 1) := by decide +kernel
theorem dX12_estimate_17 : decode cX12_estimate 17 = .ok (.iconst 0, 1) := by decide +kernel
theorem dX12_estimate_18 : decode cX12_estimate 18 = .ok (.iconst 3, 1) := by decide +kernel
theorem dX12_estimate_19 : decode cX12_estimate 19 = .ok (.invokestatic 149, 3) := by decide +kernel
theorem dX12_estimate_22 : decode cX12_estimate 22 = .ok (.ifCond .eq 24, 3) := by decide +kernel
theorem dX12_estimate_25 : decode cX12_estimate 25 = .ok (.aload_n 0, 1) := by decide +kernel
theorem dX12_estimate_26 : decode cX12_estimate 26 = .ok (.iload_n 1, 1) := by decide +kernel
theorem dX12_estimate_27 : decode cX12_estimate 27 = .ok (.iload_n 2, 1) := by decide +kernel
theorem dX12_estimate_28 : decode cX12_estimate 28 = .ok (.aload_n 0, 1) := by decide +kernel
theorem dX12_estimate_29 : decode cX12_estimate 29 = .ok (.getfield 19, 3) := by decide +kernel
theorem dX12_estimate_32 : decode cX12_estimate 32 = .ok (.iload_n 1, 1) := by decide +kernel
theorem dX12_estimate_33 : decode cX12_estimate 33 = .ok (.iaload, 1) := by decide +kernel
theorem dX12_estimate_34 : decode cX12_estimate 34 = .ok (.aload_n 0, 1) := by decide +kernel
theorem dX12_estimate_35 : decode cX12_estimate 35 = .ok (.getfield 22, 3) := by decide +kernel
theorem dX12_estimate_38 : decode cX12_estimate 38 = .ok (.iload_n 1, 1) := by decide +kernel
theorem dX12_estimate_39 : decode cX12_estimate 39 = .ok (.iaload, 1) := by decide +kernel
theorem dX12_estimate_40 : decode cX12_estimate 40 = .ok (.invokevirtual 194, 3) := by decide +kernel
theorem dX12_estimate_43 : decode cX12_estimate 43 = .ok (.ifCond .eq 7, 3) := by decide +kernel
theorem dX12_estimate_46 : decode cX12_estimate 46 = .ok (.ldc2_w 197, 3) := by decide +kernel
theorem dX12_estimate_49 : decode cX12_estimate 49 = .ok (.lreturn, 1) := by decide +kernel
theorem dX12_estimate_50 : decode cX12_estimate 50 = .ok (.aload_n 0, 1) := by decide +kernel
theorem dX12_estimate_51 : decode cX12_estimate 51 = .ok (.getfield 19, 3) := by decide +kernel
theorem dX12_estimate_54 : decode cX12_estimate 54 = .ok (.iload_n 1, 1) := by decide +kernel
theorem dX12_estimate_55 : decode cX12_estimate 55 = .ok (.iaload, 1) := by decide +kernel
theorem dX12_estimate_56 : decode cX12_estimate 56 = .ok (.istore 4, 2) := by decide +kernel
theorem dX12_estimate_58 : decode cX12_estimate 58 = .ok (.aload_n 0, 1) := by decide +kernel
theorem dX12_estimate_59 : decode cX12_estimate 59 = .ok (.getfield 22, 3) := by decide +kernel
theorem dX12_estimate_62 : decode cX12_estimate 62 = .ok (.iload_n 1, 1) := by decide +kernel
theorem dX12_estimate_63 : decode cX12_estimate 63 = .ok (.iaload, 1) := by decide +kernel
theorem dX12_estimate_64 : decode cX12_estimate 64 = .ok (.istore 5, 2) := by decide +kernel
theorem dX12_estimate_66 : decode cX12_estimate 66 = .ok (.iload_n 3, 1) := by decide +kernel
theorem dX12_estimate_67 : decode cX12_estimate 67 = .ok (.ifCond .ne 17, 3) := by decide +kernel
theorem dX12_estimate_70 : decode cX12_estimate 70 = .ok (.aload_n 0, 1) := by decide +kernel
theorem dX12_estimate_71 : decode cX12_estimate 71 = .ok (.iload_n 1, 1) := by decide +kernel
theorem dX12_estimate_72 : decode cX12_estimate 72 = .ok (.iload_n 2, 1) := by decide +kernel
theorem dX12_estimate_73 : decode cX12_estimate 73 = .ok (.iload 4, 2) := by decide +kernel
theorem dX12_estimate_75 : decode cX12_estimate 75 = .ok (.iload 5, 2) := by decide +kernel
theorem dX12_estimate_77 : decode cX12_estimate 77 = .ok (.invokevirtual 177, 3) := by decide +kernel
theorem dX12_estimate_80 : decode cX12_estimate 80 = .ok (.i2l, 1) := by decide +kernel
theorem dX12_estimate_81 : decode cX12_estimate 81 = .ok (.goto 47, 3) := by decide +kernel
theorem dX12_estimate_84 : decode cX12_estimate 84 = .ok (.iload_n 3, 1) := by decide +kernel
theorem dX12_estimate_85 : decode cX12_estimate 85 = .ok (.iconst 1, 1) := by decide +kernel
theorem dX12_estimate_86 : decode cX12_estimate 86 = .ok (.if_icmp .ne 17, 3) := by decide +kernel
theorem dX12_estimate_89 : decode cX12_estimate 89 = .ok (.aload_n 0, 1) := by decide +kernel
theorem dX12_estimate_90 : decode cX12_estimate 90 = .ok (.iload_n 1, 1) := by decide +kernel
theorem dX12_estimate_91 : decode cX12_estimate 91 = .ok (.iload_n 2, 1) := by decide +kernel
theorem dX12_estimate_92 : decode cX12_estimate 92 = .ok (.iload 4, 2) := by decide +kernel
theorem dX12_estimate_94 : decode cX12_estimate 94 = .ok (.iload 5, 2) := by decide +kernel
theorem dX12_estimate_96 : decode cX12_estimate 96 = .ok (.invokevirtual 188, 3) := by decide +kernel
theorem dX12_estimate_99 : decode cX12_estimate 99 = .ok (.i2l, 1) := by decide +kernel
theorem dX12_estimate_100 : decode cX12_estimate 100 = .ok (.goto 28, 3) := by decide +kernel
theorem dX12_estimate_103 : decode cX12_estimate 103 = .ok (.iload_n 3, 1) := by decide +kernel
theorem dX12_estimate_104 : decode cX12_estimate 104 = .ok (.iconst 2, 1) := by decide +kernel
theorem dX12_estimate_105 : decode cX12_estimate 105 = .ok (.if_icmp .ne 15, 3) := by decide +kernel
theorem dX12_estimate_108 : decode cX12_estimate 108 = .ok (.aload_n 0, 1) := by decide +kernel
theorem dX12_estimate_109 : decode cX12_estimate 109 = .ok (.iload_n 1, 1) := by decide +kernel
theorem dX12_estimate_110 : decode cX12_estimate 110 = .ok (.iload_n 2, 1) := by decide +kernel
theorem dX12_estimate_111 : decode cX12_estimate 111 = .ok (.iload 4, 2) := by decide +kernel
theorem dX12_estimate_113 : decode cX12_estimate 113 = .ok (.invokevirtual 199, 3) := by decide +kernel
theorem dX12_estimate_116 : decode cX12_estimate 116 = .ok (.i2l, 1) := by decide +kernel
theorem dX12_estimate_117 : decode cX12_estimate 117 = .ok (.goto 11, 3) := by decide +kernel
theorem dX12_estimate_120 : decode cX12_estimate 120 = .ok (.aload_n 0, 1) := by decide +kernel
theorem dX12_estimate_121 : decode cX12_estimate 121 = .ok (.iload_n 1, 1) := by decide +kernel
theorem dX12_estimate_122 : decode cX12_estimate 122 = .ok (.iload_n 2, 1) := by decide +kernel
theorem dX12_estimate_123 : decode cX12_estimate 123 = .ok (.iload 4, 2) := by decide +kernel
theorem dX12_estimate_125 : decode cX12_estimate 125 = .ok (.invokevirtual 202, 3) := by decide +kernel
theorem dX12_estimate_128 : decode cX12_estimate 128 = .ok (.lreturn, 1) := by decide +kernel
theorem dX12_chains_0 : decode cX12_chains 0 = .ok (.iload 5, 2) := by decide +kernel
theorem dX12_chains_2 : decode cX12_chains 2 = .ok (.aload_n 0, 1) := by decide +kernel
theorem dX12_chains_3 : decode cX12_chains 3 = .ok (.getfield 22, 3) := by decide +kernel
theorem dX12_chains_6 : decode cX12_chains 6 = .ok (.iload_n 1, 1) := by decide +kernel
theorem dX12_chains_7 : decode cX12_chains 7 = .ok (.iaload, 1) := by decide +kernel
theorem dX12_chains_8 : decode cX12_chains 8 = .ok (.isub, 1) := by decide +kernel
theorem dX12_chains_9 : decode cX12_chains 9 = .ok (.istore 8, 2) := by decide +kernel
theorem dX12_chains_11 : decode cX12_chains 11 = .ok (.iload_n 2, 1) := by decide +kernel
theorem dX12_chains_12 : decode cX12_chains 12 = .ok (.ifCond .le 97, 3) := by decide +kernel
theorem dX12_chains_15 : decode cX12_chains 15 = .ok (.lload 6, 2) := by decide +kernel
theorem dX12_chains_17 : decode cX12_chains 17 = .ok (.aload_n 0, 1) := by decide +kernel
theorem dX12_chains_18 : decode cX12_chains 18 = .ok (.getfield 206, 3) := by decide +kernel
theorem dX12_chains_21 : decode cX12_chains 21 = .ok (.i2l, 1) := by decide +kernel
theorem dX12_chains_22 : decode cX12_chains 22 = .ok (.lmul, 1) := by decide +kernel
theorem dX12_chains_23 : decode cX12_chains 23 = .ok (.aload_n 0, 1) := by decide +kernel
theorem dX12_chains_24 : decode cX12_chains 24 = .ok (.getfield 209, 3) := by decide +kernel
theorem dX12_chains_27 : decode cX12_chains 27 = .ok (.iload 8, 2) := by decide +kernel
theorem dX12_chains_29 : decode cX12_chains 29 = .ok (.i2l, 1) := by decide +kernel
theorem dX12_chains_30 : decode cX12_chains 30 = .ok (.lmul, 1) := by decide +kernel
theorem dX12_chains_31 : decode cX12_chains 31 = .ok (.lsub, 1) := by decide +kernel
theorem dX12_chains_32 : decode cX12_chains 32 = .ok (.lstore 9, 2) := by decide +kernel
theorem dX12_chains_34 : decode cX12_chains 34 = .ok (.aload_n 0, 1) := by decide +kernel
theorem dX12_chains_35 : decode cX12_chains 35 = .ok (.getfield 213, 3) := by decide +kernel
theorem dX12_chains_38 : decode cX12_chains 38 = .ok (.ifCond .eq 25, 3) := by decide +kernel
theorem dX12_chains_41 : decode cX12_chains 41 = .ok (.lload 9, 2) := by decide +kernel
theorem dX12_chains_43 : decode cX12_chains 43 = .ok (.lconst 0, 1) := by decide +kernel
theorem dX12_chains_44 : decode cX12_chains 44 = .ok (.lcmp, 1) := by decide +kernel
theorem dX12_chains_45 : decode cX12_chains 45 = .ok (.ifCond .gt 18, 3) := by decide +kernel
theorem dX12_chains_48 : decode cX12_chains 48 = .ok (.lload 9, 2) := by decide +kernel
theorem dX12_chains_50 : decode cX12_chains 50 = .ok (.lconst 0, 1) := by decide +kernel
theorem dX12_chains_51 : decode cX12_chains 51 = .ok (.lcmp, 1) := by decide +kernel
theorem dX12_chains_52 : decode cX12_chains 52 = .ok (.ifCond .ne 57, 3) := by decide +kernel
theorem dX12_chains_55 : decode cX12_chains 55 = .ok (.iload_n 2, 1) := by decide +kernel
theorem dX12_chains_56 : decode cX12_chains 56 = .ok (.aload_n 0, 1) := by decide +kernel
theorem dX12_chains_57 : decode cX12_chains 57 = .ok (.getfield 213, 3) := by decide +kernel
theorem dX12_chains_60 : decode cX12_chains 60 = .ok (.if_icmp .ge 49, 3) := by decide +kernel
theorem dX12_chains_63 : decode cX12_chains 63 = .ok (.aload_n 0, 1) := by decide +kernel
theorem dX12_chains_64 : decode cX12_chains 64 = .ok (.iload_n 2, 1) := by decide +kernel
theorem dX12_chains_65 : decode cX12_chains 65 = .ok (.putfield 213, 3) := by decide +kernel
theorem dX12_chains_68 : decode cX12_chains 68 = .ok (.aload_n 0, 1) := by decide +kernel
theorem dX12_chains_69 : decode cX12_chains 69 = .ok (.lload 6, 2) := by decide +kernel
theorem dX12_chains_71 : decode cX12_chains 71 = .ok (.putfield 209, 3) := by decide +kernel
theorem dX12_chains_74 : decode cX12_chains 74 = .ok (.aload_n 0, 1) := by decide +kernel
theorem dX12_chains_75 : decode cX12_chains 75 = .ok (.iload 8, 2) := by decide +kernel
theorem dX12_chains_77 : decode cX12_chains 77 = .ok (.putfield 206, 3) := by decide +kernel
theorem dX12_chains_80 : decode cX12_chains 80 = .ok (.iconst 0, 1) := by decide +kernel
theorem dX12_chains_81 : decode cX12_chains 81 = .ok (.istore 11, 2) := by decide +kernel
theorem dX12_chains_83 : decode cX12_chains 83 = .ok (.iload 11, 2) := by decide +kernel
theorem dX12_chains_85 : decode cX12_chains 85 = .ok (.iload_n 2, 1) := by decide +kernel
theorem dX12_chains_86 : decode cX12_chains 86 = .ok (.if_icmp .ge 23, 3) := by decide +kernel
theorem dX12_chains_89 : decode cX12_chains 89 = .ok (.aload_n 0, 1) := by decide +kernel
theorem dX12_chains_90 : decode cX12_chains 90 = .ok (.getfield 120, 3) := by decide +kernel
theorem dX12_chains_93 : decode cX12_chains 93 = .ok (.iload 11, 2) := by decide +kernel
theorem dX12_chains_95 : decode cX12_chains 95 = .ok (.aload_n 0, 1) := by decide +kernel
theorem dX12_chains_96 : decode cX12_chains 96 = .ok (.getfield 123, 3) := by decide +kernel
theorem dX12_chains_99 : decode cX12_chains 99 = .ok (.iload 11, 2) := by decide +kernel
theorem dX12_chains_101 : decode cX12_chains 101 = .ok (.iaload, 1) := by decide +kernel
theorem dX12_chains_102 : decode cX12_chains 102 = .ok (.iastore, 1) := by decide +kernel
theorem dX12_chains_103 : decode cX12_chains 103 = .ok (.iinc 11 1, 3) := by decide +kernel
theorem dX12_chains_106 : decode cX12_chains 106 = .ok (.goto (-23), 3) := by decide +kernel
theorem dX12_chains_109 : decode cX12_chains 109 = .ok (.iconst 0, 1) := by decide +kernel
theorem dX12_chains_110 : decode cX12_chains 110 = .ok (.istore 9, 2) := by decide +kernel
theorem dX12_chains_112 : decode cX12_chains 112 = .ok (.iload 9, 2) := by decide +kernel
theorem dX12_chains_114 : decode cX12_chains 114 = .ok (.aload_n 0, 1) := by decide +kernel
theorem dX12_chains_115 : decode cX12_chains 115 = .ok (.getfield 156, 3) := by decide +kernel
theorem dX12_chains_118 : decode cX12_chains 118 = .ok (.if_icmp .ge 122, 3) := by decide +kernel
theorem dX12_chains_121 : decode cX12_chains 121 = .ok (.iload_n 2, 1) := by decide +kernel
theorem dX12_chains_122 : decode cX12_chains 122 = .ok (.iload_n 3, 1) := by decide +kernel
theorem dX12_chains_123 : decode cX12_chains 123 = .ok (.if_icmp .ge 117, 3) := by decide +kernel
theorem dX12_chains_126 : decode cX12_chains 126 = .ok (.iconst 0, 1) := by decide +kernel
theorem dX12_chains_127 : decode cX12_chains 127 = .ok (.istore 10, 2) := by decide +kernel
theorem dX12_chains_129 : decode cX12_chains 129 = .ok (.iconst 0, 1) := by decide +kernel
theorem dX12_chains_130 : decode cX12_chains 130 = .ok (.istore 11, 2) := by decide +kernel
theorem dX12_chains_132 : decode cX12_chains 132 = .ok (.iload 11, 2) := by decide +kernel
theorem dX12_chains_134 : decode cX12_chains 134 = .ok (.iload_n 2, 1) := by decide +kernel
theorem dX12_chains_135 : decode cX12_chains 135 = .ok (.if_icmp .ge 33, 3) := by decide +kernel
theorem dX12_chains_138 : decode cX12_chains 138 = .ok (.iload 10, 2) := by decide +kernel
theorem dX12_chains_140 : decode cX12_chains 140 = .ok (.ifCond .ne 15, 3) := by decide +kernel
theorem dX12_chains_143 : decode cX12_chains 143 = .ok (.aload_n 0, 1) := by decide +kernel
theorem dX12_chains_144 : decode cX12_chains 144 = .ok (.getfield 123, 3) := by decide +kernel
theorem dX12_chains_147 : decode cX12_chains 147 = .ok (.iload 11, 2) := by decide +kernel
theorem dX12_chains_149 : decode cX12_chains 149 = .ok (.iaload, 1) := by decide +kernel
theorem dX12_chains_150 : decode cX12_chains 150 = .ok (.iload 9, 2) := by decide +kernel
theorem dX12_chains_152 : decode cX12_chains 152 = .ok (.if_icmp .ne 7, 3) := by decide +kernel
theorem dX12_chains_155 : decode cX12_chains 155 = .ok (.iconst 1, 1) := by decide +kernel
theorem dX12_chains_156 : decode cX12_chains 156 = .ok (.goto 4, 3) := by decide +kernel
theorem dX12_chains_159 : decode cX12_chains 159 = .ok (.iconst 0, 1) := by decide +kernel
theorem dX12_chains_160 : decode cX12_chains 160 = .ok (.istore 10, 2) := by decide +kernel
theorem dX12_chains_162 : decode cX12_chains 162 = .ok (.iinc 11 1, 3) := by decide +kernel
theorem dX12_chains_165 : decode cX12_chains 165 = .ok (.goto (-33), 3) := by decide +kernel
theorem dX12_chains_168 : decode cX12_chains 168 = .ok (.iload 10, 2) := by decide +kernel
theorem dX12_chains_170 : decode cX12_chains 170 = .ok (.ifCond .ne 64, 3) := by decide +kernel
theorem dX12_chains_173 : decode cX12_chains 173 = .ok (.aload_n 0, 1) := by decide +kernel
theorem dX12_chains_174 : decode cX12_chains 174 = .ok (.iload_n 1, 1) := by decide +kernel
theorem dX12_chains_175 : decode cX12_chains 175 = .ok (.iload 9, 2) := by decide +kernel
theorem dX12_chains_177 : decode cX12_chains 177 = .ok (.iload 4, 2) := by decide +kernel
theorem dX12_chains_179 : decode cX12_chains 179 = .ok (.iload 5, 2) := by decide +kernel
theorem dX12_chains_181 : decode cX12_chains 181 = .ok (.invokevirtual 194, 3) := by decide +kernel
theorem dX12_chains_184 : decode cX12_chains 184 = .ok (.ifCond .ne 50, 3) := by decide +kernel
theorem dX12_chains_187 : decode cX12_chains 187 = .ok (.aload_n 0, 1) := by decide +kernel
theorem dX12_chains_188 : decode cX12_chains 188 = .ok (.getfield 123, 3) := by decide +kernel
theorem dX12_chains_191 : decode cX12_chains 191 = .ok (.iload_n 2, 1) := by decide +kernel
theorem dX12_chains_192 : decode cX12_chains 192 = .ok (.iload 9, 2) := by decide +kernel
theorem dX12_chains_194 : decode cX12_chains 194 = .ok (.iastore, 1) := by decide +kernel
theorem dX12_chains_195 : decode cX12_chains 195 = .ok (.aload_n 0, 1) := by decide +kernel
theorem dX12_chains_196 : decode cX12_chains 196 = .ok (.iload_n 1, 1) := by decide +kernel
theorem dX12_chains_197 : decode cX12_chains 197 = .ok (.iload_n 2, 1) := by decide +kernel
theorem dX12_chains_198 : decode cX12_chains 198 = .ok (.iconst 1, 1) := by decide +kernel
theorem dX12_chains_199 : decode cX12_chains 199 = .ok (.iadd, 1) := by decide +kernel
theorem dX12_chains_200 : decode cX12_chains 200 = .ok (.iload_n 3, 1) := by decide +kernel
theorem dX12_chains_201 : decode cX12_chains 201 = .ok (.aload_n 0, 1) := by decide +kernel
theorem dX12_chains_202 : decode cX12_chains 202 = .ok (.getfield 47, 3) := by decide +kernel
theorem dX12_chains_205 : decode cX12_chains 205 = .ok (.iload 9, 2) := by decide +kernel
theorem dX12_chains_207 : decode cX12_chains 207 = .ok (.iaload, 1) := by decide +kernel
theorem dX12_chains_208 : decode cX12_chains 208 = .ok (.aload_n 0, 1) := by decide +kernel
theorem dX12_chains_209 : decode cX12_chains 209 = .ok (.iload_n 1, 1) := by decide +kernel
theorem dX12_chains_210 : decode cX12_chains 210 = .ok (.iload 9, 2) := by decide +kernel
theorem dX12_chains_212 : decode cX12_chains 212 = .ok (.iload 4, 2) := by decide +kernel
theorem dX12_chains_214 : decode cX12_chains 214 = .ok (.iload 5, 2) := by decide +kernel
theorem dX12_chains_216 : decode cX12_chains 216 = .ok (.invokevirtual 188, 3) := by decide +kernel
theorem dX12_chains_219 : decode cX12_chains 219 = .ok (.lload 6, 2) := by decide +kernel
theorem dX12_chains_221 : decode cX12_chains 221 = .ok (.aload_n 0, 1) := by decide +kernel
theorem dX12_chains_222 : decode cX12_chains 222 = .ok (.iload_n 1, 1) := by decide +kernel
theorem dX12_chains_223 : decode cX12_chains 223 = .ok (.iload 9, 2) := by decide +kernel
theorem dX12_chains_225 : decode cX12_chains 225 = .ok (.iload 4, 2) := by decide +kernel
theorem dX12_chains_227 : decode cX12_chains 227 = .ok (.invokevirtual 202, 3) := by decide +kernel
theorem dX12_chains_230 : decode cX12_chains 230 = .ok (.ladd, 1) := by decide +kernel
theorem dX12_chains_231 : decode cX12_chains 231 = .ok (.invokevirtual 216, 3) := by decide +kernel
theorem dX12_chains_234 : decode cX12_chains 234 = .ok (.iinc 9 1, 3) := by decide +kernel
theorem dX12_chains_237 : decode cX12_chains 237 = .ok (.goto (-125), 3) := by decide +kernel
theorem dX12_chains_240 : decode cX12_chains 240 = .ok (.return_, 1) := by decide +kernel
theorem dX12_seeks_0 : decode cX12_seeks 0 = .ok (.aload_n 0, 1) := by decide +kernel
theorem dX12_seeks_1 : decode cX12_seeks 1 = .ok (.iconst 0, 1) := by decide +kernel
theorem dX12_seeks_2 : decode cX12_seeks 2 = .ok (.putfield 213, 3) := by decide +kernel
theorem dX12_seeks_5 : decode cX12_seeks 5 = .ok (.aload_n 0, 1) := by decide +kernel
theorem dX12_seeks_6 : decode cX12_seeks 6 = .ok (.iload_n 1, 1) := by decide +kernel
theorem dX12_seeks_7 : decode cX12_seeks 7 = .ok (.iconst 0, 1) := by decide +kernel
theorem dX12_seeks_8 : decode cX12_seeks 8 = .ok (.iload_n 2, 1) := by decide +kernel
theorem dX12_seeks_9 : decode cX12_seeks 9 = .ok (.aload_n 0, 1) := by decide +kernel
theorem dX12_seeks_10 : decode cX12_seeks 10 = .ok (.getfield 19, 3) := by decide +kernel
theorem dX12_seeks_13 : decode cX12_seeks 13 = .ok (.iload_n 1, 1) := by decide +kernel
theorem dX12_seeks_14 : decode cX12_seeks 14 = .ok (.iaload, 1) := by decide +kernel
theorem dX12_seeks_15 : decode cX12_seeks 15 = .ok (.aload_n 0, 1) := by decide +kernel
theorem dX12_seeks_16 : decode cX12_seeks 16 = .ok (.getfield 22, 3) := by decide +kernel
theorem dX12_seeks_19 : decode cX12_seeks 19 = .ok (.iload_n 1, 1) := by decide +kernel
theorem dX12_seeks_20 : decode cX12_seeks 20 = .ok (.iaload, 1) := by decide +kernel
theorem dX12_seeks_21 : decode cX12_seeks 21 = .ok (.lconst 0, 1) := by decide +kernel
theorem dX12_seeks_22 : decode cX12_seeks 22 = .ok (.invokevirtual 216, 3) := by decide +kernel
theorem dX12_seeks_25 : decode cX12_seeks 25 = .ok (.return_, 1) := by decide +kernel
theorem dX12_best_0 : decode cX12_best 0 = .ok (.aload_n 0, 1) := by decide +kernel
theorem dX12_best_1 : decode cX12_best 1 = .ok (.iload_n 1, 1) := by decide +kernel
theorem dX12_best_2 : decode cX12_best 2 = .ok (.invokevirtual 163, 3) := by decide +kernel
theorem dX12_best_5 : decode cX12_best 5 = .ok (.ifCond .eq 21, 3) := by decide +kernel
theorem dX12_best_8 : decode cX12_best 8 = .ok (.iload_n 2, 1) := by decide +kernel
theorem dX12_best_9 : decode cX12_best 9 = .ok (.iconst 1, 1) := by decide +kernel
theorem dX12_best_10 : decode cX12_best 10 = .ok (.iconst 3, 1) := by decide +kernel
theorem dX12_best_11 : decode cX12_best 11 = .ok (.invokestatic 149, 3) := by decide +kernel
theorem dX12_best_14 : decode cX12_best 14 = .ok (.ifCond .eq 12, 3) := by decide +kernel
theorem dX12_best_17 : decode cX12_best 17 = .ok (.iload_n 3, 1) := by decide +kernel
theorem dX12_best_18 : decode cX12_best 18 = .ok (.iconst 0, 1) := by decide +kernel
theorem dX12_best_19 : decode cX12_best 19 = .ok (.iconst 2, 1) := by decide +kernel
theorem dX12_best_20 : decode cX12_best 20 = .ok (.invokestatic 149, 3) := by decide +kernel
theorem dX12_best_23 : decode cX12_best 23 = .ok (.ifCond .ne 7, 3) := by decide +kernel
theorem dX12_best_26 : decode cX12_best 26 = .ok (.ldc2_w 197, 3) := by decide +kernel
theorem dX12_best_29 : decode cX12_best 29 = .ok (.lreturn, 1) := by decide +kernel
theorem dX12_best_30 : decode cX12_best 30 = .ok (.aload_n 0, 1) := by decide +kernel
theorem dX12_best_31 : decode cX12_best 31 = .ok (.iload_n 1, 1) := by decide +kernel
theorem dX12_best_32 : decode cX12_best 32 = .ok (.iload_n 2, 1) := by decide +kernel
theorem dX12_best_33 : decode cX12_best 33 = .ok (.invokevirtual 220, 3) := by decide +kernel
theorem dX12_best_36 : decode cX12_best 36 = .ok (.aload_n 0, 1) := by decide +kernel
theorem dX12_best_37 : decode cX12_best 37 = .ok (.getfield 213, 3) := by decide +kernel
theorem dX12_best_40 : decode cX12_best 40 = .ok (.ifCond .ne 9, 3) := by decide +kernel
theorem dX12_best_43 : decode cX12_best 43 = .ok (.ldc2_w 197, 3) := by decide +kernel
theorem dX12_best_46 : decode cX12_best 46 = .ok (.goto 32, 3) := by decide +kernel
theorem dX12_best_49 : decode cX12_best 49 = .ok (.iload_n 3, 1) := by decide +kernel
theorem dX12_best_50 : decode cX12_best 50 = .ok (.ifCond .ne 10, 3) := by decide +kernel
theorem dX12_best_53 : decode cX12_best 53 = .ok (.aload_n 0, 1) := by decide +kernel
theorem dX12_best_54 : decode cX12_best 54 = .ok (.getfield 209, 3) := by decide +kernel
theorem dX12_best_57 : decode cX12_best 57 = .ok (.goto 21, 3) := by decide +kernel
theorem dX12_best_60 : decode cX12_best 60 = .ok (.iload_n 3, 1) := by decide +kernel
theorem dX12_best_61 : decode cX12_best 61 = .ok (.iconst 1, 1) := by decide +kernel
theorem dX12_best_62 : decode cX12_best 62 = .ok (.if_icmp .ne 11, 3) := by decide +kernel
theorem dX12_best_65 : decode cX12_best 65 = .ok (.aload_n 0, 1) := by decide +kernel
theorem dX12_best_66 : decode cX12_best 66 = .ok (.getfield 206, 3) := by decide +kernel
theorem dX12_best_69 : decode cX12_best 69 = .ok (.i2l, 1) := by decide +kernel
theorem dX12_best_70 : decode cX12_best 70 = .ok (.goto 8, 3) := by decide +kernel
theorem dX12_best_73 : decode cX12_best 73 = .ok (.aload_n 0, 1) := by decide +kernel
theorem dX12_best_74 : decode cX12_best 74 = .ok (.getfield 213, 3) := by decide +kernel
theorem dX12_best_77 : decode cX12_best 77 = .ok (.i2l, 1) := by decide +kernel
theorem dX12_best_78 : decode cX12_best 78 = .ok (.lreturn, 1) := by decide +kernel
theorem dX12_chain_0 : decode cX12_chain 0 = .ok (.aload_n 0, 1) := by decide +kernel
theorem dX12_chain_1 : decode cX12_chain 1 = .ok (.iload_n 1, 1) := by decide +kernel
theorem dX12_chain_2 : decode cX12_chain 2 = .ok (.invokevirtual 163, 3) := by decide +kernel
theorem dX12_chain_5 : decode cX12_chain 5 = .ok (.ifCond .eq 12, 3) := by decide +kernel
theorem dX12_chain_8 : decode cX12_chain 8 = .ok (.iload_n 2, 1) := by decide +kernel
theorem dX12_chain_9 : decode cX12_chain 9 = .ok (.iconst 1, 1) := by decide +kernel
theorem dX12_chain_10 : decode cX12_chain 10 = .ok (.iconst 3, 1) := by decide +kernel
theorem dX12_chain_11 : decode cX12_chain 11 = .ok (.invokestatic 149, 3) := by decide +kernel
theorem dX12_chain_14 : decode cX12_chain 14 = .ok (.ifCond .ne 6, 3) := by decide +kernel
theorem dX12_chain_17 : decode cX12_chain 17 = .ok (.bipush (-2), 2) := by decide +kernel
theorem dX12_chain_19 : decode cX12_chain 19 = .ok (.ireturn, 1) := by decide +kernel
theorem dX12_chain_20 : decode cX12_chain 20 = .ok (.aload_n 0, 1) := by decide +kernel
theorem dX12_chain_21 : decode cX12_chain 21 = .ok (.iload_n 1, 1) := by decide +kernel
theorem dX12_chain_22 : decode cX12_chain 22 = .ok (.iload_n 2, 1) := by decide +kernel
theorem dX12_chain_23 : decode cX12_chain 23 = .ok (.invokevirtual 220, 3) := by decide +kernel
theorem dX12_chain_26 : decode cX12_chain 26 = .ok (.iload_n 3, 1) := by decide +kernel
theorem dX12_chain_27 : decode cX12_chain 27 = .ok (.iconst 0, 1) := by decide +kernel
theorem dX12_chain_28 : decode cX12_chain 28 = .ok (.aload_n 0, 1) := by decide +kernel
theorem dX12_chain_29 : decode cX12_chain 29 = .ok (.getfield 213, 3) := by decide +kernel
theorem dX12_chain_32 : decode cX12_chain 32 = .ok (.iconst 1, 1) := by decide +kernel
theorem dX12_chain_33 : decode cX12_chain 33 = .ok (.isub, 1) := by decide +kernel
theorem dX12_chain_34 : decode cX12_chain 34 = .ok (.invokestatic 149, 3) := by decide +kernel
theorem dX12_chain_37 : decode cX12_chain 37 = .ok (.ifCond .eq 12, 3) := by decide +kernel
theorem dX12_chain_40 : decode cX12_chain 40 = .ok (.aload_n 0, 1) := by decide +kernel
theorem dX12_chain_41 : decode cX12_chain 41 = .ok (.getfield 120, 3) := by decide +kernel
theorem dX12_chain_44 : decode cX12_chain 44 = .ok (.iload_n 3, 1) := by decide +kernel
theorem dX12_chain_45 : decode cX12_chain 45 = .ok (.iaload, 1) := by decide +kernel
theorem dX12_chain_46 : decode cX12_chain 46 = .ok (.goto 4, 3) := by decide +kernel
theorem dX12_chain_49 : decode cX12_chain 49 = .ok (.iconst (-1), 1) := by decide +kernel
theorem dX12_chain_50 : decode cX12_chain 50 = .ok (.ireturn, 1) := by decide +kernel
theorem dX12_fix_0 : decode cX12_fix 0 = .ok (.aload_n 0, 1) := by decide +kernel
theorem dX12_fix_1 : decode cX12_fix 1 = .ok (.iload_n 1, 1) := by decide +kernel
theorem dX12_fix_2 : decode cX12_fix 2 = .ok (.invokevirtual 163, 3) := by decide +kernel
theorem dX12_fix_5 : decode cX12_fix 5 = .ok (.ifCond .eq 11, 3) := by decide +kernel
theorem dX12_fix_8 : decode cX12_fix 8 = .ok (.aload_n 0, 1) := by decide +kernel
theorem dX12_fix_9 : decode cX12_fix 9 = .ok (.iload_n 2, 1) := by decide +kernel
theorem dX12_fix_10 : decode cX12_fix 10 = .ok (.invokevirtual 191, 3) := by decide +kernel
theorem dX12_fix_13 : decode cX12_fix 13 = .ok (.ifCond .ne 6, 3) := by decide +kernel
theorem dX12_fix_16 : decode cX12_fix 16 = .ok (.bipush (-2), 2) := by decide +kernel
theorem dX12_fix_18 : decode cX12_fix 18 = .ok (.ireturn, 1) := by decide +kernel
theorem dX12_fix_19 : decode cX12_fix 19 = .ok (.aload_n 0, 1) := by decide +kernel
theorem dX12_fix_20 : decode cX12_fix 20 = .ok (.iload_n 1, 1) := by decide +kernel
theorem dX12_fix_21 : decode cX12_fix 21 = .ok (.iload_n 2, 1) := by decide +kernel
theorem dX12_fix_22 : decode cX12_fix 22 = .ok (.aload_n 0, 1) := by decide +kernel
theorem dX12_fix_23 : decode cX12_fix 23 = .ok (.getfield 19, 3) := by decide +kernel
theorem dX12_fix_26 : decode cX12_fix 26 = .ok (.iload_n 1, 1) := by decide +kernel
theorem dX12_fix_27 : decode cX12_fix 27 = .ok (.iaload, 1) := by decide +kernel
theorem dX12_fix_28 : decode cX12_fix 28 = .ok (.aload_n 0, 1) := by decide +kernel
theorem dX12_fix_29 : decode cX12_fix 29 = .ok (.getfield 22, 3) := by decide +kernel
theorem dX12_fix_32 : decode cX12_fix 32 = .ok (.iload_n 1, 1) := by decide +kernel
theorem dX12_fix_33 : decode cX12_fix 33 = .ok (.iaload, 1) := by decide +kernel
theorem dX12_fix_34 : decode cX12_fix 34 = .ok (.invokevirtual 194, 3) := by decide +kernel
theorem dX12_fix_37 : decode cX12_fix 37 = .ok (.istore_n 3, 1) := by decide +kernel
theorem dX12_fix_38 : decode cX12_fix 38 = .ok (.iload_n 3, 1) := by decide +kernel
theorem dX12_fix_39 : decode cX12_fix 39 = .ok (.ifCond .eq 8, 3) := by decide +kernel
theorem dX12_fix_42 : decode cX12_fix 42 = .ok (.bipush (-20), 2) := by decide +kernel
theorem dX12_fix_44 : decode cX12_fix 44 = .ok (.iload_n 3, 1) := by decide +kernel
theorem dX12_fix_45 : decode cX12_fix 45 = .ok (.isub, 1) := by decide +kernel
theorem dX12_fix_46 : decode cX12_fix 46 = .ok (.ireturn, 1) := by decide +kernel
theorem dX12_fix_47 : decode cX12_fix 47 = .ok (.aload_n 0, 1) := by decide +kernel
theorem dX12_fix_48 : decode cX12_fix 48 = .ok (.getfield 22, 3) := by decide +kernel
theorem dX12_fix_51 : decode cX12_fix 51 = .ok (.iload_n 1, 1) := by decide +kernel
theorem dX12_fix_52 : decode cX12_fix 52 = .ok (.aload_n 0, 1) := by decide +kernel
theorem dX12_fix_53 : decode cX12_fix 53 = .ok (.iload_n 1, 1) := by decide +kernel
theorem dX12_fix_54 : decode cX12_fix 54 = .ok (.iload_n 2, 1) := by decide +kernel
theorem dX12_fix_55 : decode cX12_fix 55 = .ok (.aload_n 0, 1) := by decide +kernel
theorem dX12_fix_56 : decode cX12_fix 56 = .ok (.getfield 19, 3) := by decide +kernel
theorem dX12_fix_59 : decode cX12_fix 59 = .ok (.iload_n 1, 1) := by decide +kernel
theorem dX12_fix_60 : decode cX12_fix 60 = .ok (.iaload, 1) := by decide +kernel
theorem dX12_fix_61 : decode cX12_fix 61 = .ok (.aload_n 0, 1) := by decide +kernel
theorem dX12_fix_62 : decode cX12_fix 62 = .ok (.getfield 22, 3) := by decide +kernel
theorem dX12_fix_65 : decode cX12_fix 65 = .ok (.iload_n 1, 1) := by decide +kernel
theorem dX12_fix_66 : decode cX12_fix 66 = .ok (.iaload, 1) := by decide +kernel
theorem dX12_fix_67 : decode cX12_fix 67 = .ok (.invokevirtual 188, 3) := by decide +kernel
theorem dX12_fix_70 : decode cX12_fix 70 = .ok (.iastore, 1) := by decide +kernel
theorem dX12_fix_71 : decode cX12_fix 71 = .ok (.aload_n 0, 1) := by decide +kernel
theorem dX12_fix_72 : decode cX12_fix 72 = .ok (.getfield 19, 3) := by decide +kernel
theorem dX12_fix_75 : decode cX12_fix 75 = .ok (.iload_n 1, 1) := by decide +kernel
theorem dX12_fix_76 : decode cX12_fix 76 = .ok (.aload_n 0, 1) := by decide +kernel
theorem dX12_fix_77 : decode cX12_fix 77 = .ok (.getfield 47, 3) := by decide +kernel
theorem dX12_fix_80 : decode cX12_fix 80 = .ok (.iload_n 2, 1) := by decide +kernel
theorem dX12_fix_81 : decode cX12_fix 81 = .ok (.iaload, 1) := by decide +kernel
theorem dX12_fix_82 : decode cX12_fix 82 = .ok (.iastore, 1) := by decide +kernel
theorem dX12_fix_83 : decode cX12_fix 83 = .ok (.aload_n 0, 1) := by decide +kernel
theorem dX12_fix_84 : decode cX12_fix 84 = .ok (.getfield 62, 3) := by decide +kernel
theorem dX12_fix_87 : decode cX12_fix 87 = .ok (.iload_n 2, 1) := by decide +kernel
theorem dX12_fix_88 : decode cX12_fix 88 = .ok (.iconst 1, 1) := by decide +kernel
theorem dX12_fix_89 : decode cX12_fix 89 = .ok (.bastore, 1) := by decide +kernel
theorem dX12_fix_90 : decode cX12_fix 90 = .ok (.iconst 1, 1) := by decide +kernel
theorem dX12_fix_91 : decode cX12_fix 91 = .ok (.ireturn, 1) := by decide +kernel
theorem dX12_go_0 : decode cX12_go 0 = .ok (.aload_n 0, 1) := by decide +kernel
theorem dX12_go_1 : decode cX12_go 1 = .ok (.iload_n 1, 1) := by decide +kernel
theorem dX12_go_2 : decode cX12_go 2 = .ok (.invokevirtual 159, 3) := by decide +kernel
theorem dX12_go_5 : decode cX12_go 5 = .ok (.ifCond .eq 25, 3) := by decide +kernel
theorem dX12_go_8 : decode cX12_go 8 = .ok (.aload_n 0, 1) := by decide +kernel
theorem dX12_go_9 : decode cX12_go 9 = .ok (.getfield 224, 3) := by decide +kernel
theorem dX12_go_12 : decode cX12_go 12 = .ok (.ifCond .le 21, 3) := by decide +kernel
theorem dX12_go_15 : decode cX12_go 15 = .ok (.aload_n 0, 1) := by decide +kernel
theorem dX12_go_16 : decode cX12_go 16 = .ok (.getfield 66, 3) := by decide +kernel
theorem dX12_go_19 : decode cX12_go 19 = .ok (.aload_n 0, 1) := by decide +kernel
theorem dX12_go_20 : decode cX12_go 20 = .ok (.getfield 224, 3) := by decide +kernel
theorem dX12_go_23 : decode cX12_go 23 = .ok (.iconst 1, 1) := by decide +kernel
theorem dX12_go_24 : decode cX12_go 24 = .ok (.isub, 1) := by decide +kernel
theorem dX12_go_25 : decode cX12_go 25 = .ok (.iaload, 1) := by decide +kernel
theorem dX12_go_26 : decode cX12_go 26 = .ok (.iload_n 1, 1) := by decide +kernel
theorem dX12_go_27 : decode cX12_go 27 = .ok (.if_icmp .ne 6, 3) := by decide +kernel
theorem dX12_go_30 : decode cX12_go 30 = .ok (.bipush (-2), 2) := by decide +kernel
theorem dX12_go_32 : decode cX12_go 32 = .ok (.ireturn, 1) := by decide +kernel
theorem dX12_go_33 : decode cX12_go 33 = .ok (.aload_n 0, 1) := by decide +kernel
theorem dX12_go_34 : decode cX12_go 34 = .ok (.getfield 224, 3) := by decide +kernel
theorem dX12_go_37 : decode cX12_go 37 = .ok (.bipush 6, 2) := by decide +kernel
theorem dX12_go_39 : decode cX12_go 39 = .ok (.if_icmp .ne 6, 3) := by decide +kernel
theorem dX12_go_42 : decode cX12_go 42 = .ok (.bipush (-4), 2) := by decide +kernel
theorem dX12_go_44 : decode cX12_go 44 = .ok (.ireturn, 1) := by decide +kernel
theorem dX12_go_45 : decode cX12_go 45 = .ok (.aload_n 0, 1) := by decide +kernel
theorem dX12_go_46 : decode cX12_go 46 = .ok (.getfield 66, 3) := by decide +kernel
theorem dX12_go_49 : decode cX12_go 49 = .ok (.aload_n 0, 1) := by decide +kernel
theorem dX12_go_50 : decode cX12_go 50 = .ok (.getfield 224, 3) := by decide +kernel
theorem dX12_go_53 : decode cX12_go 53 = .ok (.iload_n 1, 1) := by decide +kernel
theorem dX12_go_54 : decode cX12_go 54 = .ok (.iastore, 1) := by decide +kernel
theorem dX12_go_55 : decode cX12_go 55 = .ok (.aload_n 0, 1) := by decide +kernel
theorem dX12_go_56 : decode cX12_go 56 = .ok (.dup, 1) := by decide +kernel
theorem dX12_go_57 : decode cX12_go 57 = .ok (.getfield 224, 3) := by decide +kernel
theorem dX12_go_60 : decode cX12_go 60 = .ok (.iconst 1, 1) := by decide +kernel
theorem dX12_go_61 : decode cX12_go 61 = .ok (.iadd, 1) := by decide +kernel
theorem dX12_go_62 : decode cX12_go 62 = .ok (.putfield 224, 3) := by decide +kernel
theorem dX12_go_65 : decode cX12_go 65 = .ok (.aload_n 0, 1) := by decide +kernel
theorem dX12_go_66 : decode cX12_go 66 = .ok (.getfield 224, 3) := by decide +kernel
theorem dX12_go_69 : decode cX12_go 69 = .ok (.ireturn, 1) := by decide +kernel
theorem dX12_clear_0 : decode cX12_clear 0 = .ok (.aload_n 0, 1) := by decide +kernel
theorem dX12_clear_1 : decode cX12_clear 1 = .ok (.getfield 224, 3) := by decide +kernel
theorem dX12_clear_4 : decode cX12_clear 4 = .ok (.istore_n 1, 1) := by decide +kernel
theorem dX12_clear_5 : decode cX12_clear 5 = .ok (.aload_n 0, 1) := by decide +kernel
theorem dX12_clear_6 : decode cX12_clear 6 = .ok (.iconst 0, 1) := by decide +kernel
theorem dX12_clear_7 : decode cX12_clear 7 = .ok (.putfield 224, 3) := by decide +kernel
theorem dX12_clear_10 : decode cX12_clear 10 = .ok (.iload_n 1, 1) := by decide +kernel
theorem dX12_clear_11 : decode cX12_clear 11 = .ok (.ireturn, 1) := by decide +kernel
theorem dX12_behind_0 : decode cX12_behind 0 = .ok (.aload_n 0, 1) := by decide +kernel
theorem dX12_behind_1 : decode cX12_behind 1 = .ok (.iload_n 1, 1) := by decide +kernel
theorem dX12_behind_2 : decode cX12_behind 2 = .ok (.aload_n 0, 1) := by decide +kernel
theorem dX12_behind_3 : decode cX12_behind 3 = .ok (.getfield 66, 3) := by decide +kernel
theorem dX12_behind_6 : decode cX12_behind 6 = .ok (.iload_n 2, 1) := by decide +kernel
theorem dX12_behind_7 : decode cX12_behind 7 = .ok (.iaload, 1) := by decide +kernel
theorem dX12_behind_8 : decode cX12_behind 8 = .ok (.aload_n 0, 1) := by decide +kernel
theorem dX12_behind_9 : decode cX12_behind 9 = .ok (.getfield 66, 3) := by decide +kernel
theorem dX12_behind_12 : decode cX12_behind 12 = .ok (.iload_n 2, 1) := by decide +kernel
theorem dX12_behind_13 : decode cX12_behind 13 = .ok (.iconst 1, 1) := by decide +kernel
theorem dX12_behind_14 : decode cX12_behind 14 = .ok (.iadd, 1) := by decide +kernel
theorem dX12_behind_15 : decode cX12_behind 15 = .ok (.iaload, 1) := by decide +kernel
theorem dX12_behind_16 : decode cX12_behind 16 = .ok (.invokevirtual 181, 3) := by decide +kernel
theorem dX12_behind_19 : decode cX12_behind 19 = .ok (.istore 4, 2) := by decide +kernel
theorem dX12_behind_21 : decode cX12_behind 21 = .ok (.iload_n 3, 1) := by decide +kernel
theorem dX12_behind_22 : decode cX12_behind 22 = .ok (.iload 4, 2) := by decide +kernel
theorem dX12_behind_24 : decode cX12_behind 24 = .ok (.if_icmp .ge 7, 3) := by decide +kernel
theorem dX12_behind_27 : decode cX12_behind 27 = .ok (.iconst (-1), 1) := by decide +kernel
theorem dX12_behind_28 : decode cX12_behind 28 = .ok (.goto 34, 3) := by decide +kernel
theorem dX12_behind_31 : decode cX12_behind 31 = .ok (.iload_n 2, 1) := by decide +kernel
theorem dX12_behind_32 : decode cX12_behind 32 = .ok (.iconst 2, 1) := by decide +kernel
theorem dX12_behind_33 : decode cX12_behind 33 = .ok (.iadd, 1) := by decide +kernel
theorem dX12_behind_34 : decode cX12_behind 34 = .ok (.aload_n 0, 1) := by decide +kernel
theorem dX12_behind_35 : decode cX12_behind 35 = .ok (.getfield 224, 3) := by decide +kernel
theorem dX12_behind_38 : decode cX12_behind 38 = .ok (.if_icmp .ne 7, 3) := by decide +kernel
theorem dX12_behind_41 : decode cX12_behind 41 = .ok (.iconst 0, 1) := by decide +kernel
theorem dX12_behind_42 : decode cX12_behind 42 = .ok (.goto 20, 3) := by decide +kernel
theorem dX12_behind_45 : decode cX12_behind 45 = .ok (.aload_n 0, 1) := by decide +kernel
theorem dX12_behind_46 : decode cX12_behind 46 = .ok (.getfield 126, 3) := by decide +kernel
theorem dX12_behind_49 : decode cX12_behind 49 = .ok (.sipush 1000, 3) := by decide +kernel
theorem dX12_behind_52 : decode cX12_behind 52 = .ok (.iload_n 2, 1) := by decide +kernel
theorem dX12_behind_53 : decode cX12_behind 53 = .ok (.iconst 1, 1) := by decide +kernel
theorem dX12_behind_54 : decode cX12_behind 54 = .ok (.iadd, 1) := by decide +kernel
theorem dX12_behind_55 : decode cX12_behind 55 = .ok (.imul, 1) := by decide +kernel
theorem dX12_behind_56 : decode cX12_behind 56 = .ok (.iload_n 3, 1) := by decide +kernel
theorem dX12_behind_57 : decode cX12_behind 57 = .ok (.iadd, 1) := by decide +kernel
theorem dX12_behind_58 : decode cX12_behind 58 = .ok (.iload 4, 2) := by decide +kernel
theorem dX12_behind_60 : decode cX12_behind 60 = .ok (.isub, 1) := by decide +kernel
theorem dX12_behind_61 : decode cX12_behind 61 = .ok (.iaload, 1) := by decide +kernel
theorem dX12_behind_62 : decode cX12_behind 62 = .ok (.ireturn, 1) := by decide +kernel
theorem dX12_reckons_0 : decode cX12_reckons 0 = .ok (.aload_n 0, 1) := by decide +kernel
theorem dX12_reckons_1 : decode cX12_reckons 1 = .ok (.getfield 224, 3) := by decide +kernel
theorem dX12_reckons_4 : decode cX12_reckons 4 = .ok (.iconst 2, 1) := by decide +kernel
theorem dX12_reckons_5 : decode cX12_reckons 5 = .ok (.if_icmp .lt 7, 3) := by decide +kernel
theorem dX12_reckons_8 : decode cX12_reckons 8 = .ok (.iconst 1, 1) := by decide +kernel
theorem dX12_reckons_9 : decode cX12_reckons 9 = .ok (.goto 4, 3) := by decide +kernel
theorem dX12_reckons_12 : decode cX12_reckons 12 = .ok (.iconst 0, 1) := by decide +kernel
theorem dX12_reckons_13 : decode cX12_reckons 13 = .ok (.istore_n 2, 1) := by decide +kernel
theorem dX12_reckons_14 : decode cX12_reckons 14 = .ok (.iconst 0, 1) := by decide +kernel
theorem dX12_reckons_15 : decode cX12_reckons 15 = .ok (.istore_n 3, 1) := by decide +kernel
theorem dX12_reckons_16 : decode cX12_reckons 16 = .ok (.iload_n 3, 1) := by decide +kernel
theorem dX12_reckons_17 : decode cX12_reckons 17 = .ok (.iconst 1, 1) := by decide +kernel
theorem dX12_reckons_18 : decode cX12_reckons 18 = .ok (.iadd, 1) := by decide +kernel
theorem dX12_reckons_19 : decode cX12_reckons 19 = .ok (.aload_n 0, 1) := by decide +kernel
theorem dX12_reckons_20 : decode cX12_reckons 20 = .ok (.getfield 224, 3) := by decide +kernel
theorem dX12_reckons_23 : decode cX12_reckons 23 = .ok (.if_icmp .ge 40, 3) := by decide +kernel
theorem dX12_reckons_26 : decode cX12_reckons 26 = .ok (.iload_n 2, 1) := by decide +kernel
theorem dX12_reckons_27 : decode cX12_reckons 27 = .ok (.ifCond .eq 28, 3) := by decide +kernel
theorem dX12_reckons_30 : decode cX12_reckons 30 = .ok (.aload_n 0, 1) := by decide +kernel
theorem dX12_reckons_31 : decode cX12_reckons 31 = .ok (.aload_n 0, 1) := by decide +kernel
theorem dX12_reckons_32 : decode cX12_reckons 32 = .ok (.getfield 66, 3) := by decide +kernel
theorem dX12_reckons_35 : decode cX12_reckons 35 = .ok (.iload_n 3, 1) := by decide +kernel
theorem dX12_reckons_36 : decode cX12_reckons 36 = .ok (.iaload, 1) := by decide +kernel
theorem dX12_reckons_37 : decode cX12_reckons 37 = .ok (.aload_n 0, 1) := by decide +kernel
theorem dX12_reckons_38 : decode cX12_reckons 38 = .ok (.getfield 66, 3) := by decide +kernel
theorem dX12_reckons_41 : decode cX12_reckons 41 = .ok (.iload_n 3, 1) := by decide +kernel
theorem dX12_reckons_42 : decode cX12_reckons 42 = .ok (.iconst 1, 1) := by decide +kernel
theorem dX12_reckons_43 : decode cX12_reckons 43 = .ok (.iadd, 1) := by decide +kernel
theorem dX12_reckons_44 : decode cX12_reckons 44 = .ok (.iaload, 1) := by decide +kernel
theorem dX12_reckons_45 : decode cX12_reckons 45 = .ok (.invokevirtual 184, 3) := by decide +kernel
theorem dX12_reckons_48 : decode cX12_reckons 48 = .ok (.ifCond .ne 7, 3) := by decide +kernel
theorem dX12_reckons_51 : decode cX12_reckons 51 = .ok (.iconst 1, 1) := by decide +kernel
theorem dX12_reckons_52 : decode cX12_reckons 52 = .ok (.goto 4, 3) := by decide +kernel
theorem dX12_reckons_55 : decode cX12_reckons 55 = .ok (.iconst 0, 1) := by decide +kernel
theorem dX12_reckons_56 : decode cX12_reckons 56 = .ok (.istore_n 2, 1) := by decide +kernel
theorem dX12_reckons_57 : decode cX12_reckons 57 = .ok (.iinc 3 1, 3) := by decide +kernel
theorem dX12_reckons_60 : decode cX12_reckons 60 = .ok (.goto (-44), 3) := by decide +kernel
theorem dX12_reckons_63 : decode cX12_reckons 63 = .ok (.aload_n 0, 1) := by decide +kernel
theorem dX12_reckons_64 : decode cX12_reckons 64 = .ok (.getfield 224, 3) := by decide +kernel
theorem dX12_reckons_67 : decode cX12_reckons 67 = .ok (.iconst 2, 1) := by decide +kernel
theorem dX12_reckons_68 : decode cX12_reckons 68 = .ok (.isub, 1) := by decide +kernel
theorem dX12_reckons_69 : decode cX12_reckons 69 = .ok (.istore_n 3, 1) := by decide +kernel
theorem dX12_reckons_70 : decode cX12_reckons 70 = .ok (.iload_n 3, 1) := by decide +kernel
theorem dX12_reckons_71 : decode cX12_reckons 71 = .ok (.ifCond .lt 147, 3) := by decide +kernel
theorem dX12_reckons_74 : decode cX12_reckons 74 = .ok (.iload_n 2, 1) := by decide +kernel
theorem dX12_reckons_75 : decode cX12_reckons 75 = .ok (.ifCond .eq 143, 3) := by decide +kernel
theorem dX12_reckons_78 : decode cX12_reckons 78 = .ok (.aload_n 0, 1) := by decide +kernel
theorem dX12_reckons_79 : decode cX12_reckons 79 = .ok (.getfield 13, 3) := by decide +kernel
theorem dX12_reckons_82 : decode cX12_reckons 82 = .ok (.aload_n 0, 1) := by decide +kernel
theorem dX12_reckons_83 : decode cX12_reckons 83 = .ok (.getfield 66, 3) := by decide +kernel
theorem dX12_reckons_86 : decode cX12_reckons 86 = .ok (.iload_n 3, 1) := by decide +kernel
theorem dX12_reckons_87 : decode cX12_reckons 87 = .ok (.iaload, 1) := by decide +kernel
theorem dX12_reckons_88 : decode cX12_reckons 88 = .ok (.iaload, 1) := by decide +kernel
theorem dX12_reckons_89 : decode cX12_reckons 89 = .ok (.istore 4, 2) := by decide +kernel
theorem dX12_reckons_91 : decode cX12_reckons 91 = .ok (.iconst (-1), 1) := by decide +kernel
theorem dX12_reckons_92 : decode cX12_reckons 92 = .ok (.istore 5, 2) := by decide +kernel
theorem dX12_reckons_94 : decode cX12_reckons 94 = .ok (.aload_n 0, 1) := by decide +kernel
theorem dX12_reckons_95 : decode cX12_reckons 95 = .ok (.getfield 28, 3) := by decide +kernel
theorem dX12_reckons_98 : decode cX12_reckons 98 = .ok (.iload_n 1, 1) := by decide +kernel
theorem dX12_reckons_99 : decode cX12_reckons 99 = .ok (.iaload, 1) := by decide +kernel
theorem dX12_reckons_100 : decode cX12_reckons 100 = .ok (.istore 6, 2) := by decide +kernel
theorem dX12_reckons_102 : decode cX12_reckons 102 = .ok (.iload 6, 2) := by decide +kernel
theorem dX12_reckons_104 : decode cX12_reckons 104 = .ok (.ifCond .lt 108, 3) := by decide +kernel
theorem dX12_reckons_107 : decode cX12_reckons 107 = .ok (.aload_n 0, 1) := by decide +kernel
theorem dX12_reckons_108 : decode cX12_reckons 108 = .ok (.iload_n 1, 1) := by decide +kernel
theorem dX12_reckons_109 : decode cX12_reckons 109 = .ok (.iload_n 3, 1) := by decide +kernel
theorem dX12_reckons_110 : decode cX12_reckons 110 = .ok (.iload 6, 2) := by decide +kernel
theorem dX12_reckons_112 : decode cX12_reckons 112 = .ok (.invokevirtual 227, 3) := by decide +kernel
theorem dX12_reckons_115 : decode cX12_reckons 115 = .ok (.istore 7, 2) := by decide +kernel
theorem dX12_reckons_117 : decode cX12_reckons 117 = .ok (.iload 7, 2) := by decide +kernel
theorem dX12_reckons_119 : decode cX12_reckons 119 = .ok (.iconst (-1), 1) := by decide +kernel
theorem dX12_reckons_120 : decode cX12_reckons 120 = .ok (.if_icmp .ne 7, 3) := by decide +kernel
theorem dX12_reckons_123 : decode cX12_reckons 123 = .ok (.iconst (-1), 1) := by decide +kernel
theorem dX12_reckons_124 : decode cX12_reckons 124 = .ok (.goto 11, 3) := by decide +kernel
theorem dX12_reckons_127 : decode cX12_reckons 127 = .ok (.iload 7, 2) := by decide +kernel
theorem dX12_reckons_129 : decode cX12_reckons 129 = .ok (.iload 6, 2) := by decide +kernel
theorem dX12_reckons_131 : decode cX12_reckons 131 = .ok (.iload 4, 2) := by decide +kernel
theorem dX12_reckons_133 : decode cX12_reckons 133 = .ok (.imul, 1) := by decide +kernel
theorem dX12_reckons_134 : decode cX12_reckons 134 = .ok (.iadd, 1) := by decide +kernel
theorem dX12_reckons_135 : decode cX12_reckons 135 = .ok (.istore 8, 2) := by decide +kernel
theorem dX12_reckons_137 : decode cX12_reckons 137 = .ok (.iload 4, 2) := by decide +kernel
theorem dX12_reckons_139 : decode cX12_reckons 139 = .ok (.ifCond .ne 8, 3) := by decide +kernel
theorem dX12_reckons_142 : decode cX12_reckons 142 = .ok (.iload 8, 2) := by decide +kernel
theorem dX12_reckons_144 : decode cX12_reckons 144 = .ok (.goto 29, 3) := by decide +kernel
theorem dX12_reckons_147 : decode cX12_reckons 147 = .ok (.iload 8, 2) := by decide +kernel
theorem dX12_reckons_149 : decode cX12_reckons 149 = .ok (.iconst (-1), 1) := by decide +kernel
theorem dX12_reckons_150 : decode cX12_reckons 150 = .ok (.if_icmp .eq 21, 3) := by decide +kernel
theorem dX12_reckons_153 : decode cX12_reckons 153 = .ok (.iload 5, 2) := by decide +kernel
theorem dX12_reckons_155 : decode cX12_reckons 155 = .ok (.iconst (-1), 1) := by decide +kernel
theorem dX12_reckons_156 : decode cX12_reckons 156 = .ok (.if_icmp .eq 10, 3) := by decide +kernel
theorem dX12_reckons_159 : decode cX12_reckons 159 = .ok (.iload 8, 2) := by decide +kernel
theorem dX12_reckons_161 : decode cX12_reckons 161 = .ok (.iload 5, 2) := by decide +kernel
theorem dX12_reckons_163 : decode cX12_reckons 163 = .ok (.if_icmp .ge 8, 3) := by decide +kernel
theorem dX12_reckons_166 : decode cX12_reckons 166 = .ok (.iload 8, 2) := by decide +kernel
theorem dX12_reckons_168 : decode cX12_reckons 168 = .ok (.goto 5, 3) := by decide +kernel
theorem dX12_reckons_171 : decode cX12_reckons 171 = .ok (.iload 5, 2) := by decide +kernel
theorem dX12_reckons_173 : decode cX12_reckons 173 = .ok (.istore 5, 2) := by decide +kernel
theorem dX12_reckons_175 : decode cX12_reckons 175 = .ok (.aload_n 0, 1) := by decide +kernel
theorem dX12_reckons_176 : decode cX12_reckons 176 = .ok (.getfield 126, 3) := by decide +kernel
theorem dX12_reckons_179 : decode cX12_reckons 179 = .ok (.sipush 1000, 3) := by decide +kernel
theorem dX12_reckons_182 : decode cX12_reckons 182 = .ok (.iload_n 3, 1) := by decide +kernel
theorem dX12_reckons_183 : decode cX12_reckons 183 = .ok (.imul, 1) := by decide +kernel
theorem dX12_reckons_184 : decode cX12_reckons 184 = .ok (.iload 6, 2) := by decide +kernel
theorem dX12_reckons_186 : decode cX12_reckons 186 = .ok (.iadd, 1) := by decide +kernel
theorem dX12_reckons_187 : decode cX12_reckons 187 = .ok (.iload 5, 2) := by decide +kernel
theorem dX12_reckons_189 : decode cX12_reckons 189 = .ok (.iconst (-1), 1) := by decide +kernel
theorem dX12_reckons_190 : decode cX12_reckons 190 = .ok (.if_icmp .ne 7, 3) := by decide +kernel
theorem dX12_reckons_193 : decode cX12_reckons 193 = .ok (.iconst (-1), 1) := by decide +kernel
theorem dX12_reckons_194 : decode cX12_reckons 194 = .ok (.goto 11, 3) := by decide +kernel
theorem dX12_reckons_197 : decode cX12_reckons 197 = .ok (.iload 5, 2) := by decide +kernel
theorem dX12_reckons_199 : decode cX12_reckons 199 = .ok (.iload 6, 2) := by decide +kernel
theorem dX12_reckons_201 : decode cX12_reckons 201 = .ok (.iload 4, 2) := by decide +kernel
theorem dX12_reckons_203 : decode cX12_reckons 203 = .ok (.imul, 1) := by decide +kernel
theorem dX12_reckons_204 : decode cX12_reckons 204 = .ok (.isub, 1) := by decide +kernel
theorem dX12_reckons_205 : decode cX12_reckons 205 = .ok (.iastore, 1) := by decide +kernel
theorem dX12_reckons_206 : decode cX12_reckons 206 = .ok (.iinc 6 (-1), 3) := by decide +kernel
theorem dX12_reckons_209 : decode cX12_reckons 209 = .ok (.goto (-107), 3) := by decide +kernel
theorem dX12_reckons_212 : decode cX12_reckons 212 = .ok (.iinc 3 (-1), 3) := by decide +kernel
theorem dX12_reckons_215 : decode cX12_reckons 215 = .ok (.goto (-145), 3) := by decide +kernel
theorem dX12_reckons_218 : decode cX12_reckons 218 = .ok (.iload_n 2, 1) := by decide +kernel
theorem dX12_reckons_219 : decode cX12_reckons 219 = .ok (.ifCond .eq 17, 3) := by decide +kernel
theorem dX12_reckons_222 : decode cX12_reckons 222 = .ok (.aload_n 0, 1) := by decide +kernel
theorem dX12_reckons_223 : decode cX12_reckons 223 = .ok (.getfield 126, 3) := by decide +kernel
theorem dX12_reckons_226 : decode cX12_reckons 226 = .ok (.iconst 0, 1) := by decide +kernel
theorem dX12_reckons_227 : decode cX12_reckons 227 = .ok (.iaload, 1) := by decide +kernel
theorem dX12_reckons_228 : decode cX12_reckons 228 = .ok (.iconst (-1), 1) := by decide +kernel
theorem dX12_reckons_229 : decode cX12_reckons 229 = .ok (.if_icmp .eq 7, 3) := by decide +kernel
theorem dX12_reckons_232 : decode cX12_reckons 232 = .ok (.iconst 1, 1) := by decide +kernel
theorem dX12_reckons_233 : decode cX12_reckons 233 = .ok (.goto 4, 3) := by decide +kernel
theorem dX12_reckons_236 : decode cX12_reckons 236 = .ok (.iconst 0, 1) := by decide +kernel
theorem dX12_reckons_237 : decode cX12_reckons 237 = .ok (.ireturn, 1) := by decide +kernel
theorem dX12_bunker_0 : decode cX12_bunker 0 = .ok (.aload_n 0, 1) := by decide +kernel
theorem dX12_bunker_1 : decode cX12_bunker 1 = .ok (.iload_n 1, 1) := by decide +kernel
theorem dX12_bunker_2 : decode cX12_bunker 2 = .ok (.invokevirtual 163, 3) := by decide +kernel
theorem dX12_bunker_5 : decode cX12_bunker 5 = .ok (.ifCond .ne 6, 3) := by decide +kernel
theorem dX12_bunker_8 : decode cX12_bunker 8 = .ok (.bipush (-2), 2) := by decide +kernel
theorem dX12_bunker_10 : decode cX12_bunker 10 = .ok (.ireturn, 1) := by decide +kernel
theorem dX12_bunker_11 : decode cX12_bunker 11 = .ok (.aload_n 0, 1) := by decide +kernel
theorem dX12_bunker_12 : decode cX12_bunker 12 = .ok (.iload_n 1, 1) := by decide +kernel
theorem dX12_bunker_13 : decode cX12_bunker 13 = .ok (.invokevirtual 230, 3) := by decide +kernel
theorem dX12_bunker_16 : decode cX12_bunker 16 = .ok (.ifCond .eq 12, 3) := by decide +kernel
theorem dX12_bunker_19 : decode cX12_bunker 19 = .ok (.aload_n 0, 1) := by decide +kernel
theorem dX12_bunker_20 : decode cX12_bunker 20 = .ok (.getfield 126, 3) := by decide +kernel
theorem dX12_bunker_23 : decode cX12_bunker 23 = .ok (.iconst 0, 1) := by decide +kernel
theorem dX12_bunker_24 : decode cX12_bunker 24 = .ok (.iaload, 1) := by decide +kernel
theorem dX12_bunker_25 : decode cX12_bunker 25 = .ok (.goto 4, 3) := by decide +kernel
theorem dX12_bunker_28 : decode cX12_bunker 28 = .ok (.iconst (-1), 1) := by decide +kernel
theorem dX12_bunker_29 : decode cX12_bunker 29 = .ok (.ireturn, 1) := by decide +kernel
theorem dX12_bought_0 : decode cX12_bought 0 = .ok (.aload_n 0, 1) := by decide +kernel
theorem dX12_bought_1 : decode cX12_bought 1 = .ok (.iload_n 1, 1) := by decide +kernel
theorem dX12_bought_2 : decode cX12_bought 2 = .ok (.invokevirtual 163, 3) := by decide +kernel
theorem dX12_bought_5 : decode cX12_bought 5 = .ok (.ifCond .ne 6, 3) := by decide +kernel
theorem dX12_bought_8 : decode cX12_bought 8 = .ok (.bipush (-2), 2) := by decide +kernel
theorem dX12_bought_10 : decode cX12_bought 10 = .ok (.ireturn, 1) := by decide +kernel
theorem dX12_bought_11 : decode cX12_bought 11 = .ok (.aload_n 0, 1) := by decide +kernel
theorem dX12_bought_12 : decode cX12_bought 12 = .ok (.iload_n 1, 1) := by decide +kernel
theorem dX12_bought_13 : decode cX12_bought 13 = .ok (.invokevirtual 230, 3) := by decide +kernel
theorem dX12_bought_16 : decode cX12_bought 16 = .ok (.ifCond .eq 17, 3) := by decide +kernel
theorem dX12_bought_19 : decode cX12_bought 19 = .ok (.iload_n 2, 1) := by decide +kernel
theorem dX12_bought_20 : decode cX12_bought 20 = .ok (.iconst 0, 1) := by decide +kernel
theorem dX12_bought_21 : decode cX12_bought 21 = .ok (.aload_n 0, 1) := by decide +kernel
theorem dX12_bought_22 : decode cX12_bought 22 = .ok (.getfield 224, 3) := by decide +kernel
theorem dX12_bought_25 : decode cX12_bought 25 = .ok (.iconst 2, 1) := by decide +kernel
theorem dX12_bought_26 : decode cX12_bought 26 = .ok (.isub, 1) := by decide +kernel
theorem dX12_bought_27 : decode cX12_bought 27 = .ok (.invokestatic 149, 3) := by decide +kernel
theorem dX12_bought_30 : decode cX12_bought 30 = .ok (.ifCond .ne 5, 3) := by decide +kernel
theorem dX12_bought_33 : decode cX12_bought 33 = .ok (.iconst (-1), 1) := by decide +kernel
theorem dX12_bought_34 : decode cX12_bought 34 = .ok (.ireturn, 1) := by decide +kernel
theorem dX12_bought_35 : decode cX12_bought 35 = .ok (.iconst 0, 1) := by decide +kernel
theorem dX12_bought_36 : decode cX12_bought 36 = .ok (.istore_n 3, 1) := by decide +kernel
theorem dX12_bought_37 : decode cX12_bought 37 = .ok (.iconst 0, 1) := by decide +kernel
theorem dX12_bought_38 : decode cX12_bought 38 = .ok (.istore 4, 2) := by decide +kernel
theorem dX12_bought_40 : decode cX12_bought 40 = .ok (.iconst 0, 1) := by decide +kernel
theorem dX12_bought_41 : decode cX12_bought 41 = .ok (.istore 5, 2) := by decide +kernel
theorem dX12_bought_43 : decode cX12_bought 43 = .ok (.iload 5, 2) := by decide +kernel
theorem dX12_bought_45 : decode cX12_bought 45 = .ok (.iload_n 2, 1) := by decide +kernel
theorem dX12_bought_46 : decode cX12_bought 46 = .ok (.if_icmp .gt 107, 3) := by decide +kernel
theorem dX12_bought_49 : decode cX12_bought 49 = .ok (.aload_n 0, 1) := by decide +kernel
theorem dX12_bought_50 : decode cX12_bought 50 = .ok (.getfield 13, 3) := by decide +kernel
theorem dX12_bought_53 : decode cX12_bought 53 = .ok (.aload_n 0, 1) := by decide +kernel
theorem dX12_bought_54 : decode cX12_bought 54 = .ok (.getfield 66, 3) := by decide +kernel
theorem dX12_bought_57 : decode cX12_bought 57 = .ok (.iload 5, 2) := by decide +kernel
theorem dX12_bought_59 : decode cX12_bought 59 = .ok (.iaload, 1) := by decide +kernel
theorem dX12_bought_60 : decode cX12_bought 60 = .ok (.iaload, 1) := by decide +kernel
theorem dX12_bought_61 : decode cX12_bought 61 = .ok (.istore 6, 2) := by decide +kernel
theorem dX12_bought_63 : decode cX12_bought 63 = .ok (.iconst 0, 1) := by decide +kernel
theorem dX12_bought_64 : decode cX12_bought 64 = .ok (.istore 4, 2) := by decide +kernel
theorem dX12_bought_66 : decode cX12_bought 66 = .ok (.aload_n 0, 1) := by decide +kernel
theorem dX12_bought_67 : decode cX12_bought 67 = .ok (.iload_n 1, 1) := by decide +kernel
theorem dX12_bought_68 : decode cX12_bought 68 = .ok (.iload 5, 2) := by decide +kernel
theorem dX12_bought_70 : decode cX12_bought 70 = .ok (.iload_n 3, 1) := by decide +kernel
theorem dX12_bought_71 : decode cX12_bought 71 = .ok (.iload 4, 2) := by decide +kernel
theorem dX12_bought_73 : decode cX12_bought 73 = .ok (.iadd, 1) := by decide +kernel
theorem dX12_bought_74 : decode cX12_bought 74 = .ok (.invokevirtual 227, 3) := by decide +kernel
theorem dX12_bought_77 : decode cX12_bought 77 = .ok (.iconst (-1), 1) := by decide +kernel
theorem dX12_bought_78 : decode cX12_bought 78 = .ok (.if_icmp .eq 36, 3) := by decide +kernel
theorem dX12_bought_81 : decode cX12_bought 81 = .ok (.aload_n 0, 1) := by decide +kernel
theorem dX12_bought_82 : decode cX12_bought 82 = .ok (.iload_n 1, 1) := by decide +kernel
theorem dX12_bought_83 : decode cX12_bought 83 = .ok (.iload 5, 2) := by decide +kernel
theorem dX12_bought_85 : decode cX12_bought 85 = .ok (.iload_n 3, 1) := by decide +kernel
theorem dX12_bought_86 : decode cX12_bought 86 = .ok (.iload 4, 2) := by decide +kernel
theorem dX12_bought_88 : decode cX12_bought 88 = .ok (.iadd, 1) := by decide +kernel
theorem dX12_bought_89 : decode cX12_bought 89 = .ok (.invokevirtual 227, 3) := by decide +kernel
theorem dX12_bought_92 : decode cX12_bought 92 = .ok (.iload 4, 2) := by decide +kernel
theorem dX12_bought_94 : decode cX12_bought 94 = .ok (.iload 6, 2) := by decide +kernel
theorem dX12_bought_96 : decode cX12_bought 96 = .ok (.imul, 1) := by decide +kernel
theorem dX12_bought_97 : decode cX12_bought 97 = .ok (.iadd, 1) := by decide +kernel
theorem dX12_bought_98 : decode cX12_bought 98 = .ok (.aload_n 0, 1) := by decide +kernel
theorem dX12_bought_99 : decode cX12_bought 99 = .ok (.getfield 126, 3) := by decide +kernel
theorem dX12_bought_102 : decode cX12_bought 102 = .ok (.sipush 1000, 3) := by decide +kernel
theorem dX12_bought_105 : decode cX12_bought 105 = .ok (.iload 5, 2) := by decide +kernel
theorem dX12_bought_107 : decode cX12_bought 107 = .ok (.imul, 1) := by decide +kernel
theorem dX12_bought_108 : decode cX12_bought 108 = .ok (.iload_n 3, 1) := by decide +kernel
theorem dX12_bought_109 : decode cX12_bought 109 = .ok (.iadd, 1) := by decide +kernel
theorem dX12_bought_110 : decode cX12_bought 110 = .ok (.iaload, 1) := by decide +kernel
theorem dX12_bought_111 : decode cX12_bought 111 = .ok (.if_icmp .eq 9, 3) := by decide +kernel
theorem dX12_bought_114 : decode cX12_bought 114 = .ok (.iinc 4 1, 3) := by decide +kernel
theorem dX12_bought_117 : decode cX12_bought 117 = .ok (.goto (-51), 3) := by decide +kernel
theorem dX12_bought_120 : decode cX12_bought 120 = .ok (.iload_n 3, 1) := by decide +kernel
theorem dX12_bought_121 : decode cX12_bought 121 = .ok (.iload 4, 2) := by decide +kernel
theorem dX12_bought_123 : decode cX12_bought 123 = .ok (.aload_n 0, 1) := by decide +kernel
theorem dX12_bought_124 : decode cX12_bought 124 = .ok (.iload_n 1, 1) := by decide +kernel
theorem dX12_bought_125 : decode cX12_bought 125 = .ok (.aload_n 0, 1) := by decide +kernel
theorem dX12_bought_126 : decode cX12_bought 126 = .ok (.getfield 66, 3) := by decide +kernel
theorem dX12_bought_129 : decode cX12_bought 129 = .ok (.iload 5, 2) := by decide +kernel
theorem dX12_bought_131 : decode cX12_bought 131 = .ok (.iaload, 1) := by decide +kernel
theorem dX12_bought_132 : decode cX12_bought 132 = .ok (.aload_n 0, 1) := by decide +kernel
theorem dX12_bought_133 : decode cX12_bought 133 = .ok (.getfield 66, 3) := by decide +kernel
theorem dX12_bought_136 : decode cX12_bought 136 = .ok (.iload 5, 2) := by decide +kernel
theorem dX12_bought_138 : decode cX12_bought 138 = .ok (.iconst 1, 1) := by decide +kernel
theorem dX12_bought_139 : decode cX12_bought 139 = .ok (.iadd, 1) := by decide +kernel
theorem dX12_bought_140 : decode cX12_bought 140 = .ok (.iaload, 1) := by decide +kernel
theorem dX12_bought_141 : decode cX12_bought 141 = .ok (.invokevirtual 181, 3) := by decide +kernel
theorem dX12_bought_144 : decode cX12_bought 144 = .ok (.isub, 1) := by decide +kernel
theorem dX12_bought_145 : decode cX12_bought 145 = .ok (.iadd, 1) := by decide +kernel
theorem dX12_bought_146 : decode cX12_bought 146 = .ok (.istore_n 3, 1) := by decide +kernel
theorem dX12_bought_147 : decode cX12_bought 147 = .ok (.iinc 5 1, 3) := by decide +kernel
theorem dX12_bought_150 : decode cX12_bought 150 = .ok (.goto (-107), 3) := by decide +kernel
theorem dX12_bought_153 : decode cX12_bought 153 = .ok (.iload 4, 2) := by decide +kernel
theorem dX12_bought_155 : decode cX12_bought 155 = .ok (.ireturn, 1) := by decide +kernel
theorem dX12_isSort_0 : decode cX12_isSort 0 = .ok (.iload_n 0, 1) := by decide +kernel
theorem dX12_isSort_1 : decode cX12_isSort 1 = .ok (.iconst 0, 1) := by decide +kernel
theorem dX12_isSort_2 : decode cX12_isSort 2 = .ok (.iconst 5, 1) := by decide +kernel
theorem dX12_isSort_3 : decode cX12_isSort 3 = .ok (.invokestatic 149, 3) := by decide +kernel
theorem dX12_isSort_6 : decode cX12_isSort 6 = .ok (.ireturn, 1) := by decide +kernel
theorem dX12_log_0 : decode cX12_log 0 = .ok (.aload_n 0, 1) := by decide +kernel
theorem dX12_log_1 : decode cX12_log 1 = .ok (.iload_n 1, 1) := by decide +kernel
theorem dX12_log_2 : decode cX12_log 2 = .ok (.invokevirtual 163, 3) := by decide +kernel
theorem dX12_log_5 : decode cX12_log 5 = .ok (.ifCond .eq 21, 3) := by decide +kernel
theorem dX12_log_8 : decode cX12_log 8 = .ok (.iload_n 2, 1) := by decide +kernel
theorem dX12_log_9 : decode cX12_log 9 = .ok (.invokestatic 233, 3) := by decide +kernel
theorem dX12_log_12 : decode cX12_log 12 = .ok (.ifCond .eq 14, 3) := by decide +kernel
theorem dX12_log_15 : decode cX12_log 15 = .ok (.iload_n 3, 1) := by decide +kernel
theorem dX12_log_16 : decode cX12_log 16 = .ok (.iconst 1, 1) := by decide +kernel
theorem dX12_log_17 : decode cX12_log 17 = .ok (.sipush 500, 3) := by decide +kernel
theorem dX12_log_20 : decode cX12_log 20 = .ok (.invokestatic 149, 3) := by decide +kernel
theorem dX12_log_23 : decode cX12_log 23 = .ok (.ifCond .ne 6, 3) := by decide +kernel
theorem dX12_log_26 : decode cX12_log 26 = .ok (.bipush (-2), 2) := by decide +kernel
theorem dX12_log_28 : decode cX12_log 28 = .ok (.ireturn, 1) := by decide +kernel
theorem dX12_log_29 : decode cX12_log 29 = .ok (.aload_n 0, 1) := by decide +kernel
theorem dX12_log_30 : decode cX12_log 30 = .ok (.getfield 37, 3) := by decide +kernel
theorem dX12_log_33 : decode cX12_log 33 = .ok (.iload_n 1, 1) := by decide +kernel
theorem dX12_log_34 : decode cX12_log 34 = .ok (.iaload, 1) := by decide +kernel
theorem dX12_log_35 : decode cX12_log 35 = .ok (.iload_n 3, 1) := by decide +kernel
theorem dX12_log_36 : decode cX12_log 36 = .ok (.iadd, 1) := by decide +kernel
theorem dX12_log_37 : decode cX12_log 37 = .ok (.sipush 2000, 3) := by decide +kernel
theorem dX12_log_40 : decode cX12_log 40 = .ok (.if_icmp .le 6, 3) := by decide +kernel
theorem dX12_log_43 : decode cX12_log 43 = .ok (.bipush (-4), 2) := by decide +kernel
theorem dX12_log_45 : decode cX12_log 45 = .ok (.ireturn, 1) := by decide +kernel
theorem dX12_log_46 : decode cX12_log 46 = .ok (.iconst 0, 1) := by decide +kernel
theorem dX12_log_47 : decode cX12_log 47 = .ok (.istore 4, 2) := by decide +kernel
theorem dX12_log_49 : decode cX12_log 49 = .ok (.iload 4, 2) := by decide +kernel
theorem dX12_log_51 : decode cX12_log 51 = .ok (.iload_n 3, 1) := by decide +kernel
theorem dX12_log_52 : decode cX12_log 52 = .ok (.if_icmp .ge 38, 3) := by decide +kernel
theorem dX12_log_55 : decode cX12_log 55 = .ok (.aload_n 0, 1) := by decide +kernel
theorem dX12_log_56 : decode cX12_log 56 = .ok (.getfield 40, 3) := by decide +kernel
theorem dX12_log_59 : decode cX12_log 59 = .ok (.sipush 2000, 3) := by decide +kernel
theorem dX12_log_62 : decode cX12_log 62 = .ok (.iload_n 1, 1) := by decide +kernel
theorem dX12_log_63 : decode cX12_log 63 = .ok (.imul, 1) := by decide +kernel
theorem dX12_log_64 : decode cX12_log 64 = .ok (.aload_n 0, 1) := by decide +kernel
theorem dX12_log_65 : decode cX12_log 65 = .ok (.getfield 37, 3) := by decide +kernel
theorem dX12_log_68 : decode cX12_log 68 = .ok (.iload_n 1, 1) := by decide +kernel
theorem dX12_log_69 : decode cX12_log 69 = .ok (.iaload, 1) := by decide +kernel
theorem dX12_log_70 : decode cX12_log 70 = .ok (.iadd, 1) := by decide +kernel
theorem dX12_log_71 : decode cX12_log 71 = .ok (.iload_n 2, 1) := by decide +kernel
theorem dX12_log_72 : decode cX12_log 72 = .ok (.i2b, 1) := by decide +kernel
theorem dX12_log_73 : decode cX12_log 73 = .ok (.bastore, 1) := by decide +kernel
theorem dX12_log_74 : decode cX12_log 74 = .ok (.aload_n 0, 1) := by decide +kernel
theorem dX12_log_75 : decode cX12_log 75 = .ok (.getfield 37, 3) := by decide +kernel
theorem dX12_log_78 : decode cX12_log 78 = .ok (.iload_n 1, 1) := by decide +kernel
theorem dX12_log_79 : decode cX12_log 79 = .ok (.dup2, 1) := by decide +kernel
theorem dX12_log_80 : decode cX12_log 80 = .ok (.iaload, 1) := by decide +kernel
theorem dX12_log_81 : decode cX12_log 81 = .ok (.iconst 1, 1) := by decide +kernel
theorem dX12_log_82 : decode cX12_log 82 = .ok (.iadd, 1) := by decide +kernel
theorem dX12_log_83 : decode cX12_log 83 = .ok (.iastore, 1) := by decide +kernel
theorem dX12_log_84 : decode cX12_log 84 = .ok (.iinc 4 1, 3) := by decide +kernel
theorem dX12_log_87 : decode cX12_log 87 = .ok (.goto (-38), 3) := by decide +kernel
theorem dX12_log_90 : decode cX12_log 90 = .ok (.aload_n 0, 1) := by decide +kernel
theorem dX12_log_91 : decode cX12_log 91 = .ok (.getfield 37, 3) := by decide +kernel
theorem dX12_log_94 : decode cX12_log 94 = .ok (.iload_n 1, 1) := by decide +kernel
theorem dX12_log_95 : decode cX12_log 95 = .ok (.iaload, 1) := by decide +kernel
theorem dX12_log_96 : decode cX12_log 96 = .ok (.ireturn, 1) := by decide +kernel
theorem dX12_lay_0 : decode cX12_lay 0 = .ok (.aload_n 0, 1) := by decide +kernel
theorem dX12_lay_1 : decode cX12_lay 1 = .ok (.iload_n 1, 1) := by decide +kernel
theorem dX12_lay_2 : decode cX12_lay 2 = .ok (.invokevirtual 163, 3) := by decide +kernel
theorem dX12_lay_5 : decode cX12_lay 5 = .ok (.ifCond .eq 24, 3) := by decide +kernel
theorem dX12_lay_8 : decode cX12_lay 8 = .ok (.iload_n 2, 1) := by decide +kernel
theorem dX12_lay_9 : decode cX12_lay 9 = .ok (.invokestatic 236, 3) := by decide +kernel
theorem dX12_lay_12 : decode cX12_lay 12 = .ok (.ifCond .eq 17, 3) := by decide +kernel
theorem dX12_lay_15 : decode cX12_lay 15 = .ok (.iload_n 3, 1) := by decide +kernel
theorem dX12_lay_16 : decode cX12_lay 16 = .ok (.iconst 0, 1) := by decide +kernel
theorem dX12_lay_17 : decode cX12_lay 17 = .ok (.iconst 2, 1) := by decide +kernel
theorem dX12_lay_18 : decode cX12_lay 18 = .ok (.invokestatic 149, 3) := by decide +kernel
theorem dX12_lay_21 : decode cX12_lay 21 = .ok (.ifCond .eq 8, 3) := by decide +kernel
theorem dX12_lay_24 : decode cX12_lay 24 = .ok (.iload 5, 2) := by decide +kernel
theorem dX12_lay_26 : decode cX12_lay 26 = .ok (.ifCond .ge 6, 3) := by decide +kernel
theorem dX12_lay_29 : decode cX12_lay 29 = .ok (.bipush (-2), 2) := by decide +kernel
theorem dX12_lay_31 : decode cX12_lay 31 = .ok (.ireturn, 1) := by decide +kernel
theorem dX12_lay_32 : decode cX12_lay 32 = .ok (.aload_n 0, 1) := by decide +kernel
theorem dX12_lay_33 : decode cX12_lay 33 = .ok (.getfield 108, 3) := by decide +kernel
theorem dX12_lay_36 : decode cX12_lay 36 = .ok (.iload_n 2, 1) := by decide +kernel
theorem dX12_lay_37 : decode cX12_lay 37 = .ok (.iaload, 1) := by decide +kernel
theorem dX12_lay_38 : decode cX12_lay 38 = .ok (.iconst (-1), 1) := by decide +kernel
theorem dX12_lay_39 : decode cX12_lay 39 = .ok (.if_icmp .eq 16, 3) := by decide +kernel
theorem dX12_lay_42 : decode cX12_lay 42 = .ok (.aload_n 0, 1) := by decide +kernel
theorem dX12_lay_43 : decode cX12_lay 43 = .ok (.getfield 108, 3) := by decide +kernel
theorem dX12_lay_46 : decode cX12_lay 46 = .ok (.iload_n 2, 1) := by decide +kernel
theorem dX12_lay_47 : decode cX12_lay 47 = .ok (.iaload, 1) := by decide +kernel
theorem dX12_lay_48 : decode cX12_lay 48 = .ok (.iload_n 3, 1) := by decide +kernel
theorem dX12_lay_49 : decode cX12_lay 49 = .ok (.if_icmp .eq 6, 3) := by decide +kernel
theorem dX12_lay_52 : decode cX12_lay 52 = .ok (.bipush (-13), 2) := by decide +kernel
theorem dX12_lay_54 : decode cX12_lay 54 = .ok (.ireturn, 1) := by decide +kernel
theorem dX12_lay_55 : decode cX12_lay 55 = .ok (.aload_n 0, 1) := by decide +kernel
theorem dX12_lay_56 : decode cX12_lay 56 = .ok (.getfield 108, 3) := by decide +kernel
theorem dX12_lay_59 : decode cX12_lay 59 = .ok (.iload_n 2, 1) := by decide +kernel
theorem dX12_lay_60 : decode cX12_lay 60 = .ok (.iaload, 1) := by decide +kernel
theorem dX12_lay_61 : decode cX12_lay 61 = .ok (.iconst (-1), 1) := by decide +kernel
theorem dX12_lay_62 : decode cX12_lay 62 = .ok (.if_icmp .ne 6, 3) := by decide +kernel
theorem dX12_lay_65 : decode cX12_lay 65 = .ok (.bipush (-11), 2) := by decide +kernel
theorem dX12_lay_67 : decode cX12_lay 67 = .ok (.ireturn, 1) := by decide +kernel
theorem dX12_lay_68 : decode cX12_lay 68 = .ok (.iconst 0, 1) := by decide +kernel
theorem dX12_lay_69 : decode cX12_lay 69 = .ok (.istore 6, 2) := by decide +kernel
theorem dX12_lay_71 : decode cX12_lay 71 = .ok (.iload 6, 2) := by decide +kernel
theorem dX12_lay_73 : decode cX12_lay 73 = .ok (.iload 5, 2) := by decide +kernel
theorem dX12_lay_75 : decode cX12_lay 75 = .ok (.if_icmp .ge 106, 3) := by decide +kernel
theorem dX12_lay_78 : decode cX12_lay 78 = .ok (.iload 4, 2) := by decide +kernel
theorem dX12_lay_80 : decode cX12_lay 80 = .ok (.iload 6, 2) := by decide +kernel
theorem dX12_lay_82 : decode cX12_lay 82 = .ok (.iadd, 1) := by decide +kernel
theorem dX12_lay_83 : decode cX12_lay 83 = .ok (.istore 7, 2) := by decide +kernel
theorem dX12_lay_85 : decode cX12_lay 85 = .ok (.iload 7, 2) := by decide +kernel
theorem dX12_lay_87 : decode cX12_lay 87 = .ok (.iconst 0, 1) := by decide +kernel
theorem dX12_lay_88 : decode cX12_lay 88 = .ok (.aload_n 0, 1) := by decide +kernel
theorem dX12_lay_89 : decode cX12_lay 89 = .ok (.getfield 111, 3) := by decide +kernel
theorem dX12_lay_92 : decode cX12_lay 92 = .ok (.iload_n 2, 1) := by decide +kernel
theorem dX12_lay_93 : decode cX12_lay 93 = .ok (.iaload, 1) := by decide +kernel
theorem dX12_lay_94 : decode cX12_lay 94 = .ok (.iconst 1, 1) := by decide +kernel
theorem dX12_lay_95 : decode cX12_lay 95 = .ok (.isub, 1) := by decide +kernel
theorem dX12_lay_96 : decode cX12_lay 96 = .ok (.invokestatic 149, 3) := by decide +kernel
theorem dX12_lay_99 : decode cX12_lay 99 = .ok (.ifCond .ne 6, 3) := by decide +kernel
theorem dX12_lay_102 : decode cX12_lay 102 = .ok (.bipush (-12), 2) := by decide +kernel
theorem dX12_lay_104 : decode cX12_lay 104 = .ok (.ireturn, 1) := by decide +kernel
theorem dX12_lay_105 : decode cX12_lay 105 = .ok (.aload_n 0, 1) := by decide +kernel
theorem dX12_lay_106 : decode cX12_lay 106 = .ok (.getfield 114, 3) := by decide +kernel
theorem dX12_lay_109 : decode cX12_lay 109 = .ok (.bipush 40, 2) := by decide +kernel
theorem dX12_lay_111 : decode cX12_lay 111 = .ok (.iload_n 2, 1) := by decide +kernel
theorem dX12_lay_112 : decode cX12_lay 112 = .ok (.imul, 1) := by decide +kernel
theorem dX12_lay_113 : decode cX12_lay 113 = .ok (.iload 7, 2) := by decide +kernel
theorem dX12_lay_115 : decode cX12_lay 115 = .ok (.iadd, 1) := by decide +kernel
theorem dX12_lay_116 : decode cX12_lay 116 = .ok (.iaload, 1) := by decide +kernel
theorem dX12_lay_117 : decode cX12_lay 117 = .ok (.istore 8, 2) := by decide +kernel
theorem dX12_lay_119 : decode cX12_lay 119 = .ok (.iload 8, 2) := by decide +kernel
theorem dX12_lay_121 : decode cX12_lay 121 = .ok (.invokestatic 233, 3) := by decide +kernel
theorem dX12_lay_124 : decode cX12_lay 124 = .ok (.ifCond .ne 6, 3) := by decide +kernel
theorem dX12_lay_127 : decode cX12_lay 127 = .ok (.bipush (-2), 2) := by decide +kernel
theorem dX12_lay_129 : decode cX12_lay 129 = .ok (.ireturn, 1) := by decide +kernel
theorem dX12_lay_130 : decode cX12_lay 130 = .ok (.aload_n 0, 1) := by decide +kernel
theorem dX12_lay_131 : decode cX12_lay 131 = .ok (.getfield 37, 3) := by decide +kernel
theorem dX12_lay_134 : decode cX12_lay 134 = .ok (.iload_n 1, 1) := by decide +kernel
theorem dX12_lay_135 : decode cX12_lay 135 = .ok (.iaload, 1) := by decide +kernel
theorem dX12_lay_136 : decode cX12_lay 136 = .ok (.sipush 2000, 3) := by decide +kernel
theorem dX12_lay_139 : decode cX12_lay 139 = .ok (.if_icmp .ne 6, 3) := by decide +kernel
theorem dX12_lay_142 : decode cX12_lay 142 = .ok (.bipush (-4), 2) := by decide +kernel
theorem dX12_lay_144 : decode cX12_lay 144 = .ok (.ireturn, 1) := by decide +kernel
theorem dX12_lay_145 : decode cX12_lay 145 = .ok (.aload_n 0, 1) := by decide +kernel
theorem dX12_lay_146 : decode cX12_lay 146 = .ok (.getfield 40, 3) := by decide +kernel
theorem dX12_lay_149 : decode cX12_lay 149 = .ok (.sipush 2000, 3) := by decide +kernel
theorem dX12_lay_152 : decode cX12_lay 152 = .ok (.iload_n 1, 1) := by decide +kernel
theorem dX12_lay_153 : decode cX12_lay 153 = .ok (.imul, 1) := by decide +kernel
theorem dX12_lay_154 : decode cX12_lay 154 = .ok (.aload_n 0, 1) := by decide +kernel
theorem dX12_lay_155 : decode cX12_lay 155 = .ok (.getfield 37, 3) := by decide +kernel
theorem dX12_lay_158 : decode cX12_lay 158 = .ok (.iload_n 1, 1) := by decide +kernel
theorem dX12_lay_159 : decode cX12_lay 159 = .ok (.iaload, 1) := by decide +kernel
theorem dX12_lay_160 : decode cX12_lay 160 = .ok (.iadd, 1) := by decide +kernel
theorem dX12_lay_161 : decode cX12_lay 161 = .ok (.iload 8, 2) := by decide +kernel
theorem dX12_lay_163 : decode cX12_lay 163 = .ok (.i2b, 1) := by decide +kernel
theorem dX12_lay_164 : decode cX12_lay 164 = .ok (.bastore, 1) := by decide +kernel
theorem dX12_lay_165 : decode cX12_lay 165 = .ok (.aload_n 0, 1) := by decide +kernel
theorem dX12_lay_166 : decode cX12_lay 166 = .ok (.getfield 37, 3) := by decide +kernel
theorem dX12_lay_169 : decode cX12_lay 169 = .ok (.iload_n 1, 1) := by decide +kernel
theorem dX12_lay_170 : decode cX12_lay 170 = .ok (.dup2, 1) := by decide +kernel
theorem dX12_lay_171 : decode cX12_lay 171 = .ok (.iaload, 1) := by decide +kernel
theorem dX12_lay_172 : decode cX12_lay 172 = .ok (.iconst 1, 1) := by decide +kernel
theorem dX12_lay_173 : decode cX12_lay 173 = .ok (.iadd, 1) := by decide +kernel
theorem dX12_lay_174 : decode cX12_lay 174 = .ok (.iastore, 1) := by decide +kernel
theorem dX12_lay_175 : decode cX12_lay 175 = .ok (.iinc 6 1, 3) := by decide +kernel
theorem dX12_lay_178 : decode cX12_lay 178 = .ok (.goto (-107), 3) := by decide +kernel
theorem dX12_lay_181 : decode cX12_lay 181 = .ok (.aload_n 0, 1) := by decide +kernel
theorem dX12_lay_182 : decode cX12_lay 182 = .ok (.getfield 37, 3) := by decide +kernel
theorem dX12_lay_185 : decode cX12_lay 185 = .ok (.iload_n 1, 1) := by decide +kernel
theorem dX12_lay_186 : decode cX12_lay 186 = .ok (.iaload, 1) := by decide +kernel
theorem dX12_lay_187 : decode cX12_lay 187 = .ok (.ireturn, 1) := by decide +kernel
theorem dX12_right_0 : decode cX12_right 0 = .ok (.aload_n 0, 1) := by decide +kernel
theorem dX12_right_1 : decode cX12_right 1 = .ok (.iload_n 1, 1) := by decide +kernel
theorem dX12_right_2 : decode cX12_right 2 = .ok (.invokevirtual 163, 3) := by decide +kernel
theorem dX12_right_5 : decode cX12_right 5 = .ok (.ifCond .eq 17, 3) := by decide +kernel
theorem dX12_right_8 : decode cX12_right 8 = .ok (.iload_n 2, 1) := by decide +kernel
theorem dX12_right_9 : decode cX12_right 9 = .ok (.invokestatic 166, 3) := by decide +kernel
theorem dX12_right_12 : decode cX12_right 12 = .ok (.ifCond .eq 10, 3) := by decide +kernel
theorem dX12_right_15 : decode cX12_right 15 = .ok (.iload_n 3, 1) := by decide +kernel
theorem dX12_right_16 : decode cX12_right 16 = .ok (.invokestatic 233, 3) := by decide +kernel
theorem dX12_right_19 : decode cX12_right 19 = .ok (.ifCond .ne 6, 3) := by decide +kernel
theorem dX12_right_22 : decode cX12_right 22 = .ok (.bipush (-2), 2) := by decide +kernel
theorem dX12_right_24 : decode cX12_right 24 = .ok (.ireturn, 1) := by decide +kernel
theorem dX12_right_25 : decode cX12_right 25 = .ok (.iload_n 2, 1) := by decide +kernel
theorem dX12_right_26 : decode cX12_right 26 = .ok (.aload_n 0, 1) := by decide +kernel
theorem dX12_right_27 : decode cX12_right 27 = .ok (.getfield 37, 3) := by decide +kernel
theorem dX12_right_30 : decode cX12_right 30 = .ok (.iload_n 1, 1) := by decide +kernel
theorem dX12_right_31 : decode cX12_right 31 = .ok (.iaload, 1) := by decide +kernel
theorem dX12_right_32 : decode cX12_right 32 = .ok (.if_icmp .lt 6, 3) := by decide +kernel
theorem dX12_right_35 : decode cX12_right 35 = .ok (.bipush (-3), 2) := by decide +kernel
theorem dX12_right_37 : decode cX12_right 37 = .ok (.ireturn, 1) := by decide +kernel
theorem dX12_right_38 : decode cX12_right 38 = .ok (.aload_n 0, 1) := by decide +kernel
theorem dX12_right_39 : decode cX12_right 39 = .ok (.getfield 40, 3) := by decide +kernel
theorem dX12_right_42 : decode cX12_right 42 = .ok (.sipush 2000, 3) := by decide +kernel
theorem dX12_right_45 : decode cX12_right 45 = .ok (.iload_n 1, 1) := by decide +kernel
theorem dX12_right_46 : decode cX12_right 46 = .ok (.imul, 1) := by decide +kernel
theorem dX12_right_47 : decode cX12_right 47 = .ok (.iload_n 2, 1) := by decide +kernel
theorem dX12_right_48 : decode cX12_right 48 = .ok (.iadd, 1) := by decide +kernel
theorem dX12_right_49 : decode cX12_right 49 = .ok (.baload, 1) := by decide +kernel
theorem dX12_right_50 : decode cX12_right 50 = .ok (.istore 4, 2) := by decide +kernel
theorem dX12_right_52 : decode cX12_right 52 = .ok (.aload_n 0, 1) := by decide +kernel
theorem dX12_right_53 : decode cX12_right 53 = .ok (.getfield 40, 3) := by decide +kernel
theorem dX12_right_56 : decode cX12_right 56 = .ok (.sipush 2000, 3) := by decide +kernel
theorem dX12_right_59 : decode cX12_right 59 = .ok (.iload_n 1, 1) := by decide +kernel
theorem dX12_right_60 : decode cX12_right 60 = .ok (.imul, 1) := by decide +kernel
theorem dX12_right_61 : decode cX12_right 61 = .ok (.iload_n 2, 1) := by decide +kernel
theorem dX12_right_62 : decode cX12_right 62 = .ok (.iadd, 1) := by decide +kernel
theorem dX12_right_63 : decode cX12_right 63 = .ok (.iload_n 3, 1) := by decide +kernel
theorem dX12_right_64 : decode cX12_right 64 = .ok (.i2b, 1) := by decide +kernel
theorem dX12_right_65 : decode cX12_right 65 = .ok (.bastore, 1) := by decide +kernel
theorem dX12_right_66 : decode cX12_right 66 = .ok (.iload 4, 2) := by decide +kernel
theorem dX12_right_68 : decode cX12_right 68 = .ok (.ireturn, 1) := by decide +kernel
theorem dX12_sort_0 : decode cX12_sort 0 = .ok (.aload_n 0, 1) := by decide +kernel
theorem dX12_sort_1 : decode cX12_sort 1 = .ok (.iload_n 1, 1) := by decide +kernel
theorem dX12_sort_2 : decode cX12_sort 2 = .ok (.invokevirtual 163, 3) := by decide +kernel
theorem dX12_sort_5 : decode cX12_sort 5 = .ok (.ifCond .ne 6, 3) := by decide +kernel
theorem dX12_sort_8 : decode cX12_sort 8 = .ok (.bipush (-2), 2) := by decide +kernel
theorem dX12_sort_10 : decode cX12_sort 10 = .ok (.ireturn, 1) := by decide +kernel
theorem dX12_sort_11 : decode cX12_sort 11 = .ok (.iload_n 2, 1) := by decide +kernel
theorem dX12_sort_12 : decode cX12_sort 12 = .ok (.iconst 0, 1) := by decide +kernel
theorem dX12_sort_13 : decode cX12_sort 13 = .ok (.aload_n 0, 1) := by decide +kernel
theorem dX12_sort_14 : decode cX12_sort 14 = .ok (.getfield 37, 3) := by decide +kernel
theorem dX12_sort_17 : decode cX12_sort 17 = .ok (.iload_n 1, 1) := by decide +kernel
theorem dX12_sort_18 : decode cX12_sort 18 = .ok (.iaload, 1) := by decide +kernel
theorem dX12_sort_19 : decode cX12_sort 19 = .ok (.iconst 1, 1) := by decide +kernel
theorem dX12_sort_20 : decode cX12_sort 20 = .ok (.isub, 1) := by decide +kernel
theorem dX12_sort_21 : decode cX12_sort 21 = .ok (.invokestatic 149, 3) := by decide +kernel
theorem dX12_sort_24 : decode cX12_sort 24 = .ok (.ifCond .eq 18, 3) := by decide +kernel
theorem dX12_sort_27 : decode cX12_sort 27 = .ok (.aload_n 0, 1) := by decide +kernel
theorem dX12_sort_28 : decode cX12_sort 28 = .ok (.getfield 40, 3) := by decide +kernel
theorem dX12_sort_31 : decode cX12_sort 31 = .ok (.sipush 2000, 3) := by decide +kernel
theorem dX12_sort_34 : decode cX12_sort 34 = .ok (.iload_n 1, 1) := by decide +kernel
theorem dX12_sort_35 : decode cX12_sort 35 = .ok (.imul, 1) := by decide +kernel
theorem dX12_sort_36 : decode cX12_sort 36 = .ok (.iload_n 2, 1) := by decide +kernel
theorem dX12_sort_37 : decode cX12_sort 37 = .ok (.iadd, 1) := by decide +kernel
theorem dX12_sort_38 : decode cX12_sort 38 = .ok (.baload, 1) := by decide +kernel
theorem dX12_sort_39 : decode cX12_sort 39 = .ok (.goto 4, 3) := by decide +kernel
theorem dX12_sort_42 : decode cX12_sort 42 = .ok (.iconst (-1), 1) := by decide +kernel
theorem dX12_sort_43 : decode cX12_sort 43 = .ok (.ireturn, 1) := by decide +kernel
theorem dX12_byteAt_0 : decode cX12_byteAt 0 = .ok (.iload_n 1, 1) := by decide +kernel
theorem dX12_byteAt_1 : decode cX12_byteAt 1 = .ok (.aload_n 0, 1) := by decide +kernel
theorem dX12_byteAt_2 : decode cX12_byteAt 2 = .ok (.getfield 135, 3) := by decide +kernel
theorem dX12_byteAt_5 : decode cX12_byteAt 5 = .ok (.if_icmp .ge 12, 3) := by decide +kernel
theorem dX12_byteAt_8 : decode cX12_byteAt 8 = .ok (.aload_n 0, 1) := by decide +kernel
theorem dX12_byteAt_9 : decode cX12_byteAt 9 = .ok (.getfield 69, 3) := by decide +kernel
theorem dX12_byteAt_12 : decode cX12_byteAt 12 = .ok (.iload_n 1, 1) := by decide +kernel
theorem dX12_byteAt_13 : decode cX12_byteAt 13 = .ok (.iaload, 1) := by decide +kernel
theorem dX12_byteAt_14 : decode cX12_byteAt 14 = .ok (.goto 4, 3) := by decide +kernel
theorem dX12_byteAt_17 : decode cX12_byteAt 17 = .ok (.iconst (-1), 1) := by decide +kernel
theorem dX12_byteAt_18 : decode cX12_byteAt 18 = .ok (.ireturn, 1) := by decide +kernel
theorem dX12_isLetter_0 : decode cX12_isLetter 0 = .ok (.iload_n 0, 1) := by decide +kernel
theorem dX12_isLetter_1 : decode cX12_isLetter 1 = .ok (.bipush 97, 2) := by decide +kernel
theorem dX12_isLetter_3 : decode cX12_isLetter 3 = .ok (.if_icmp .lt 13, 3) := by decide +kernel
theorem dX12_isLetter_6 : decode cX12_isLetter 6 = .ok (.iload_n 0, 1) := by decide +kernel
theorem dX12_isLetter_7 : decode cX12_isLetter 7 = .ok (.bipush 122, 2) := by decide +kernel
theorem dX12_isLetter_9 : decode cX12_isLetter 9 = .ok (.if_icmp .gt 7, 3) := by decide +kernel
theorem dX12_isLetter_12 : decode cX12_isLetter 12 = .ok (.iconst 1, 1) := by decide +kernel
theorem dX12_isLetter_13 : decode cX12_isLetter 13 = .ok (.goto 4, 3) := by decide +kernel
theorem dX12_isLetter_16 : decode cX12_isLetter 16 = .ok (.iconst 0, 1) := by decide +kernel
theorem dX12_isLetter_17 : decode cX12_isLetter 17 = .ok (.ireturn, 1) := by decide +kernel
theorem dX12_isDigit_0 : decode cX12_isDigit 0 = .ok (.iload_n 0, 1) := by decide +kernel
theorem dX12_isDigit_1 : decode cX12_isDigit 1 = .ok (.bipush 48, 2) := by decide +kernel
theorem dX12_isDigit_3 : decode cX12_isDigit 3 = .ok (.if_icmp .lt 13, 3) := by decide +kernel
theorem dX12_isDigit_6 : decode cX12_isDigit 6 = .ok (.iload_n 0, 1) := by decide +kernel
theorem dX12_isDigit_7 : decode cX12_isDigit 7 = .ok (.bipush 57, 2) := by decide +kernel
theorem dX12_isDigit_9 : decode cX12_isDigit 9 = .ok (.if_icmp .gt 7, 3) := by decide +kernel
theorem dX12_isDigit_12 : decode cX12_isDigit 12 = .ok (.iconst 1, 1) := by decide +kernel
theorem dX12_isDigit_13 : decode cX12_isDigit 13 = .ok (.goto 4, 3) := by decide +kernel
theorem dX12_isDigit_16 : decode cX12_isDigit 16 = .ok (.iconst 0, 1) := by decide +kernel
theorem dX12_isDigit_17 : decode cX12_isDigit 17 = .ok (.ireturn, 1) := by decide +kernel
theorem dX12_next_0 : decode cX12_next 0 = .ok (.aload_n 0, 1) := by decide +kernel
theorem dX12_next_1 : decode cX12_next 1 = .ok (.aload_n 0, 1) := by decide +kernel
theorem dX12_next_2 : decode cX12_next 2 = .ok (.getfield 239, 3) := by decide +kernel
theorem dX12_next_5 : decode cX12_next 5 = .ok (.invokevirtual 242, 3) := by decide +kernel
theorem dX12_next_8 : decode cX12_next 8 = .ok (.bipush 32, 2) := by decide +kernel
theorem dX12_next_10 : decode cX12_next 10 = .ok (.if_icmp .eq 16, 3) := by decide +kernel
theorem dX12_next_13 : decode cX12_next 13 = .ok (.aload_n 0, 1) := by decide +kernel
theorem dX12_next_14 : decode cX12_next 14 = .ok (.aload_n 0, 1) := by decide +kernel
theorem dX12_next_15 : decode cX12_next 15 = .ok (.getfield 239, 3) := by decide +kernel
theorem dX12_next_18 : decode cX12_next 18 = .ok (.invokevirtual 242, 3) := by decide +kernel
theorem dX12_next_21 : decode cX12_next 21 = .ok (.bipush 10, 2) := by decide +kernel
theorem dX12_next_23 : decode cX12_next 23 = .ok (.if_icmp .ne 16, 3) := by decide +kernel
theorem dX12_next_26 : decode cX12_next 26 = .ok (.aload_n 0, 1) := by decide +kernel
theorem dX12_next_27 : decode cX12_next 27 = .ok (.dup, 1) := by decide +kernel
theorem dX12_next_28 : decode cX12_next 28 = .ok (.getfield 239, 3) := by decide +kernel
theorem dX12_next_31 : decode cX12_next 31 = .ok (.iconst 1, 1) := by decide +kernel
theorem dX12_next_32 : decode cX12_next 32 = .ok (.iadd, 1) := by decide +kernel
theorem dX12_next_33 : decode cX12_next 33 = .ok (.putfield 239, 3) := by decide +kernel
theorem dX12_next_36 : decode cX12_next 36 = .ok (.goto (-36), 3) := by decide +kernel
theorem dX12_next_39 : decode cX12_next 39 = .ok (.aload_n 0, 1) := by decide +kernel
theorem dX12_next_40 : decode cX12_next 40 = .ok (.aload_n 0, 1) := by decide +kernel
theorem dX12_next_41 : decode cX12_next 41 = .ok (.getfield 239, 3) := by decide +kernel
theorem dX12_next_44 : decode cX12_next 44 = .ok (.putfield 246, 3) := by decide +kernel
theorem dX12_next_47 : decode cX12_next 47 = .ok (.aload_n 0, 1) := by decide +kernel
theorem dX12_next_48 : decode cX12_next 48 = .ok (.aload_n 0, 1) := by decide +kernel
theorem dX12_next_49 : decode cX12_next 49 = .ok (.getfield 239, 3) := by decide +kernel
theorem dX12_next_52 : decode cX12_next 52 = .ok (.invokevirtual 242, 3) := by decide +kernel
theorem dX12_next_55 : decode cX12_next 55 = .ok (.istore_n 1, 1) := by decide +kernel
theorem dX12_next_56 : decode cX12_next 56 = .ok (.iload_n 1, 1) := by decide +kernel
theorem dX12_next_57 : decode cX12_next 57 = .ok (.iconst (-1), 1) := by decide +kernel
theorem dX12_next_58 : decode cX12_next 58 = .ok (.if_icmp .ne 11, 3) := by decide +kernel
theorem dX12_next_61 : decode cX12_next 61 = .ok (.aload_n 0, 1) := by decide +kernel
theorem dX12_next_62 : decode cX12_next 62 = .ok (.iconst 0, 1) := by decide +kernel
theorem dX12_next_63 : decode cX12_next 63 = .ok (.putfield 249, 3) := by decide +kernel
theorem dX12_next_66 : decode cX12_next 66 = .ok (.goto 108, 3) := by decide +kernel
theorem dX12_next_69 : decode cX12_next 69 = .ok (.iload_n 1, 1) := by decide +kernel
theorem dX12_next_70 : decode cX12_next 70 = .ok (.invokestatic 252, 3) := by decide +kernel
theorem dX12_next_73 : decode cX12_next 73 = .ok (.ifCond .eq 10, 3) := by decide +kernel
theorem dX12_next_76 : decode cX12_next 76 = .ok (.aload_n 0, 1) := by decide +kernel
theorem dX12_next_77 : decode cX12_next 77 = .ok (.invokevirtual 255, 3) := by decide +kernel
theorem dX12_next_80 : decode cX12_next 80 = .ok (.goto 94, 3) := by decide +kernel
theorem dX12_next_83 : decode cX12_next 83 = .ok (.iload_n 1, 1) := by decide +kernel
theorem dX12_next_84 : decode cX12_next 84 = .ok (.invokestatic 258, 3) := by decide +kernel
theorem dX12_next_87 : decode cX12_next 87 = .ok (.ifCond .eq 10, 3) := by decide +kernel
theorem dX12_next_90 : decode cX12_next 90 = .ok (.aload_n 0, 1) := by decide +kernel
theorem dX12_next_91 : decode cX12_next 91 = .ok (.invokevirtual 261, 3) := by decide +kernel
theorem dX12_next_94 : decode cX12_next 94 = .ok (.goto 80, 3) := by decide +kernel
theorem dX12_next_97 : decode cX12_next 97 = .ok (.iload_n 1, 1) := by decide +kernel
theorem dX12_next_98 : decode cX12_next 98 = .ok (.bipush 40, 2) := by decide +kernel
theorem dX12_next_100 : decode cX12_next 100 = .ok (.if_icmp .eq 45, 3) := by decide +kernel
theorem dX12_next_103 : decode cX12_next 103 = .ok (.iload_n 1, 1) := by decide +kernel
theorem dX12_next_104 : decode cX12_next 104 = .ok (.bipush 41, 2) := by decide +kernel
theorem dX12_next_106 : decode cX12_next 106 = .ok (.if_icmp .eq 39, 3) := by decide +kernel
theorem dX12_next_109 : decode cX12_next 109 = .ok (.iload_n 1, 1) := by decide +kernel
theorem dX12_next_110 : decode cX12_next 110 = .ok (.bipush 59, 2) := by decide +kernel
theorem dX12_next_112 : decode cX12_next 112 = .ok (.if_icmp .eq 33, 3) := by decide +kernel
theorem dX12_next_115 : decode cX12_next 115 = .ok (.iload_n 1, 1) := by decide +kernel
theorem dX12_next_116 : decode cX12_next 116 = .ok (.bipush 43, 2) := by decide +kernel
theorem dX12_next_118 : decode cX12_next 118 = .ok (.if_icmp .eq 27, 3) := by decide +kernel
theorem dX12_next_121 : decode cX12_next 121 = .ok (.iload_n 1, 1) := by decide +kernel
theorem dX12_next_122 : decode cX12_next 122 = .ok (.bipush 45, 2) := by decide +kernel
theorem dX12_next_124 : decode cX12_next 124 = .ok (.if_icmp .eq 21, 3) := by decide +kernel
theorem dX12_next_127 : decode cX12_next 127 = .ok (.iload_n 1, 1) := by decide +kernel
theorem dX12_next_128 : decode cX12_next 128 = .ok (.bipush 42, 2) := by decide +kernel
theorem dX12_next_130 : decode cX12_next 130 = .ok (.if_icmp .eq 15, 3) := by decide +kernel
theorem dX12_next_133 : decode cX12_next 133 = .ok (.iload_n 1, 1) := by decide +kernel
theorem dX12_next_134 : decode cX12_next 134 = .ok (.bipush 60, 2) := by decide +kernel
theorem dX12_next_136 : decode cX12_next 136 = .ok (.if_icmp .eq 9, 3) := by decide +kernel
theorem dX12_next_139 : decode cX12_next 139 = .ok (.iload_n 1, 1) := by decide +kernel
theorem dX12_next_140 : decode cX12_next 140 = .ok (.bipush 61, 2) := by decide +kernel
theorem dX12_next_142 : decode cX12_next 142 = .ok (.if_icmp .ne 7, 3) := by decide +kernel
theorem dX12_next_145 : decode cX12_next 145 = .ok (.iconst 1, 1) := by decide +kernel
theorem dX12_next_146 : decode cX12_next 146 = .ok (.goto 4, 3) := by decide +kernel
theorem dX12_next_149 : decode cX12_next 149 = .ok (.iconst 0, 1) := by decide +kernel
theorem dX12_next_150 : decode cX12_next 150 = .ok (.istore_n 2, 1) := by decide +kernel
theorem dX12_next_151 : decode cX12_next 151 = .ok (.aload_n 0, 1) := by decide +kernel
theorem dX12_next_152 : decode cX12_next 152 = .ok (.iload_n 2, 1) := by decide +kernel
theorem dX12_next_153 : decode cX12_next 153 = .ok (.ifCond .eq 7, 3) := by decide +kernel
theorem dX12_next_156 : decode cX12_next 156 = .ok (.iload_n 1, 1) := by decide +kernel
theorem dX12_next_157 : decode cX12_next 157 = .ok (.goto 4, 3) := by decide +kernel
theorem dX12_next_160 : decode cX12_next 160 = .ok (.iconst 2, 1) := by decide +kernel
theorem dX12_next_161 : decode cX12_next 161 = .ok (.putfield 249, 3) := by decide +kernel
theorem dX12_next_164 : decode cX12_next 164 = .ok (.aload_n 0, 1) := by decide +kernel
theorem dX12_next_165 : decode cX12_next 165 = .ok (.dup, 1) := by decide +kernel
theorem dX12_next_166 : decode cX12_next 166 = .ok (.getfield 239, 3) := by decide +kernel
theorem dX12_next_169 : decode cX12_next 169 = .ok (.iconst 1, 1) := by decide +kernel
theorem dX12_next_170 : decode cX12_next 170 = .ok (.iadd, 1) := by decide +kernel
theorem dX12_next_171 : decode cX12_next 171 = .ok (.putfield 239, 3) := by decide +kernel
theorem dX12_next_174 : decode cX12_next 174 = .ok (.return_, 1) := by decide +kernel
theorem dX12_number_0 : decode cX12_number 0 = .ok (.aload_n 0, 1) := by decide +kernel
theorem dX12_number_1 : decode cX12_number 1 = .ok (.iconst 0, 1) := by decide +kernel
theorem dX12_number_2 : decode cX12_number 2 = .ok (.putfield 264, 3) := by decide +kernel
theorem dX12_number_5 : decode cX12_number 5 = .ok (.aload_n 0, 1) := by decide +kernel
theorem dX12_number_6 : decode cX12_number 6 = .ok (.aload_n 0, 1) := by decide +kernel
theorem dX12_number_7 : decode cX12_number 7 = .ok (.getfield 239, 3) := by decide +kernel
theorem dX12_number_10 : decode cX12_number 10 = .ok (.invokevirtual 242, 3) := by decide +kernel
theorem dX12_number_13 : decode cX12_number 13 = .ok (.invokestatic 258, 3) := by decide +kernel
theorem dX12_number_16 : decode cX12_number 16 = .ok (.ifCond .eq 59, 3) := by decide +kernel
theorem dX12_number_19 : decode cX12_number 19 = .ok (.aload_n 0, 1) := by decide +kernel
theorem dX12_number_20 : decode cX12_number 20 = .ok (.aload_n 0, 1) := by decide +kernel
theorem dX12_number_21 : decode cX12_number 21 = .ok (.getfield 239, 3) := by decide +kernel
theorem dX12_number_24 : decode cX12_number 24 = .ok (.aload_n 0, 1) := by decide +kernel
theorem dX12_number_25 : decode cX12_number 25 = .ok (.getfield 246, 3) := by decide +kernel
theorem dX12_number_28 : decode cX12_number 28 = .ok (.isub, 1) := by decide +kernel
theorem dX12_number_29 : decode cX12_number 29 = .ok (.iconst 4, 1) := by decide +kernel
theorem dX12_number_30 : decode cX12_number 30 = .ok (.if_icmp .ge 25, 3) := by decide +kernel
theorem dX12_number_33 : decode cX12_number 33 = .ok (.bipush 10, 2) := by decide +kernel
theorem dX12_number_35 : decode cX12_number 35 = .ok (.aload_n 0, 1) := by decide +kernel
theorem dX12_number_36 : decode cX12_number 36 = .ok (.getfield 264, 3) := by decide +kernel
theorem dX12_number_39 : decode cX12_number 39 = .ok (.imul, 1) := by decide +kernel
theorem dX12_number_40 : decode cX12_number 40 = .ok (.aload_n 0, 1) := by decide +kernel
theorem dX12_number_41 : decode cX12_number 41 = .ok (.aload_n 0, 1) := by decide +kernel
theorem dX12_number_42 : decode cX12_number 42 = .ok (.getfield 239, 3) := by decide +kernel
theorem dX12_number_45 : decode cX12_number 45 = .ok (.invokevirtual 242, 3) := by decide +kernel
theorem dX12_number_48 : decode cX12_number 48 = .ok (.iadd, 1) := by decide +kernel
theorem dX12_number_49 : decode cX12_number 49 = .ok (.bipush 48, 2) := by decide +kernel
theorem dX12_number_51 : decode cX12_number 51 = .ok (.isub, 1) := by decide +kernel
theorem dX12_number_52 : decode cX12_number 52 = .ok (.goto 7, 3) := by decide +kernel
theorem dX12_number_55 : decode cX12_number 55 = .ok (.aload_n 0, 1) := by decide +kernel
theorem dX12_number_56 : decode cX12_number 56 = .ok (.getfield 264, 3) := by decide +kernel
theorem dX12_number_59 : decode cX12_number 59 = .ok (.putfield 264, 3) := by decide +kernel
theorem dX12_number_62 : decode cX12_number 62 = .ok (.aload_n 0, 1) := by decide +kernel
theorem dX12_number_63 : decode cX12_number 63 = .ok (.dup, 1) := by decide +kernel
theorem dX12_number_64 : decode cX12_number 64 = .ok (.getfield 239, 3) := by decide +kernel
theorem dX12_number_67 : decode cX12_number 67 = .ok (.iconst 1, 1) := by decide +kernel
theorem dX12_number_68 : decode cX12_number 68 = .ok (.iadd, 1) := by decide +kernel
theorem dX12_number_69 : decode cX12_number 69 = .ok (.putfield 239, 3) := by decide +kernel
theorem dX12_number_72 : decode cX12_number 72 = .ok (.goto (-67), 3) := by decide +kernel
theorem dX12_number_75 : decode cX12_number 75 = .ok (.aload_n 0, 1) := by decide +kernel
theorem dX12_number_76 : decode cX12_number 76 = .ok (.aload_n 0, 1) := by decide +kernel
theorem dX12_number_77 : decode cX12_number 77 = .ok (.getfield 239, 3) := by decide +kernel
theorem dX12_number_80 : decode cX12_number 80 = .ok (.aload_n 0, 1) := by decide +kernel
theorem dX12_number_81 : decode cX12_number 81 = .ok (.getfield 246, 3) := by decide +kernel
theorem dX12_number_84 : decode cX12_number 84 = .ok (.isub, 1) := by decide +kernel
theorem dX12_number_85 : decode cX12_number 85 = .ok (.iconst 4, 1) := by decide +kernel
theorem dX12_number_86 : decode cX12_number 86 = .ok (.if_icmp .le 7, 3) := by decide +kernel
theorem dX12_number_89 : decode cX12_number 89 = .ok (.iconst 2, 1) := by decide +kernel
theorem dX12_number_90 : decode cX12_number 90 = .ok (.goto 4, 3) := by decide +kernel
theorem dX12_number_93 : decode cX12_number 93 = .ok (.iconst 1, 1) := by decide +kernel
theorem dX12_number_94 : decode cX12_number 94 = .ok (.putfield 249, 3) := by decide +kernel
theorem dX12_number_97 : decode cX12_number 97 = .ok (.return_, 1) := by decide +kernel
theorem dX12_spelled_0 : decode cX12_spelled 0 = .ok (.aload_n 0, 1) := by decide +kernel
theorem dX12_spelled_1 : decode cX12_spelled 1 = .ok (.aload_n 0, 1) := by decide +kernel
theorem dX12_spelled_2 : decode cX12_spelled 2 = .ok (.getfield 239, 3) := by decide +kernel
theorem dX12_spelled_5 : decode cX12_spelled 5 = .ok (.invokevirtual 242, 3) := by decide +kernel
theorem dX12_spelled_8 : decode cX12_spelled 8 = .ok (.invokestatic 252, 3) := by decide +kernel
theorem dX12_spelled_11 : decode cX12_spelled 11 = .ok (.ifCond .eq 16, 3) := by decide +kernel
theorem dX12_spelled_14 : decode cX12_spelled 14 = .ok (.aload_n 0, 1) := by decide +kernel
theorem dX12_spelled_15 : decode cX12_spelled 15 = .ok (.dup, 1) := by decide +kernel
theorem dX12_spelled_16 : decode cX12_spelled 16 = .ok (.getfield 239, 3) := by decide +kernel
theorem dX12_spelled_19 : decode cX12_spelled 19 = .ok (.iconst 1, 1) := by decide +kernel
theorem dX12_spelled_20 : decode cX12_spelled 20 = .ok (.iadd, 1) := by decide +kernel
theorem dX12_spelled_21 : decode cX12_spelled 21 = .ok (.putfield 239, 3) := by decide +kernel
theorem dX12_spelled_24 : decode cX12_spelled 24 = .ok (.goto (-24), 3) := by decide +kernel
theorem dX12_spelled_27 : decode cX12_spelled 27 = .ok (.iconst 0, 1) := by decide +kernel
theorem dX12_spelled_28 : decode cX12_spelled 28 = .ok (.istore_n 1, 1) := by decide +kernel
theorem dX12_spelled_29 : decode cX12_spelled 29 = .ok (.iconst 0, 1) := by decide +kernel
theorem dX12_spelled_30 : decode cX12_spelled 30 = .ok (.istore_n 2, 1) := by decide +kernel
theorem dX12_spelled_31 : decode cX12_spelled 31 = .ok (.iconst 1, 1) := by decide +kernel
theorem dX12_spelled_32 : decode cX12_spelled 32 = .ok (.istore_n 3, 1) := by decide +kernel
theorem dX12_spelled_33 : decode cX12_spelled 33 = .ok (.aload_n 0, 1) := by decide +kernel
theorem dX12_spelled_34 : decode cX12_spelled 34 = .ok (.iconst 2, 1) := by decide +kernel
theorem dX12_spelled_35 : decode cX12_spelled 35 = .ok (.putfield 249, 3) := by decide +kernel
theorem dX12_spelled_38 : decode cX12_spelled 38 = .ok (.iconst 0, 1) := by decide +kernel
theorem dX12_spelled_39 : decode cX12_spelled 39 = .ok (.istore 4, 2) := by decide +kernel
theorem dX12_spelled_41 : decode cX12_spelled 41 = .ok (.iload 4, 2) := by decide +kernel
theorem dX12_spelled_43 : decode cX12_spelled 43 = .ok (.aload_n 0, 1) := by decide +kernel
theorem dX12_spelled_44 : decode cX12_spelled 44 = .ok (.getfield 129, 3) := by decide +kernel
theorem dX12_spelled_47 : decode cX12_spelled 47 = .ok (.arraylength, 1) := by decide +kernel
theorem dX12_spelled_48 : decode cX12_spelled 48 = .ok (.if_icmp .ge 117, 3) := by decide +kernel
theorem dX12_spelled_51 : decode cX12_spelled 51 = .ok (.aload_n 0, 1) := by decide +kernel
theorem dX12_spelled_52 : decode cX12_spelled 52 = .ok (.getfield 129, 3) := by decide +kernel
theorem dX12_spelled_55 : decode cX12_spelled 55 = .ok (.iload 4, 2) := by decide +kernel
theorem dX12_spelled_57 : decode cX12_spelled 57 = .ok (.iaload, 1) := by decide +kernel
theorem dX12_spelled_58 : decode cX12_spelled 58 = .ok (.ifCond .ne 55, 3) := by decide +kernel
theorem dX12_spelled_61 : decode cX12_spelled 61 = .ok (.iload_n 3, 1) := by decide +kernel
theorem dX12_spelled_62 : decode cX12_spelled 62 = .ok (.ifCond .eq 41, 3) := by decide +kernel
theorem dX12_spelled_65 : decode cX12_spelled 65 = .ok (.iload_n 2, 1) := by decide +kernel
theorem dX12_spelled_66 : decode cX12_spelled 66 = .ok (.aload_n 0, 1) := by decide +kernel
theorem dX12_spelled_67 : decode cX12_spelled 67 = .ok (.getfield 239, 3) := by decide +kernel
theorem dX12_spelled_70 : decode cX12_spelled 70 = .ok (.aload_n 0, 1) := by decide +kernel
theorem dX12_spelled_71 : decode cX12_spelled 71 = .ok (.getfield 246, 3) := by decide +kernel
theorem dX12_spelled_74 : decode cX12_spelled 74 = .ok (.isub, 1) := by decide +kernel
theorem dX12_spelled_75 : decode cX12_spelled 75 = .ok (.if_icmp .ne 28, 3) := by decide +kernel
theorem dX12_spelled_78 : decode cX12_spelled 78 = .ok (.aload_n 0, 1) := by decide +kernel
theorem dX12_spelled_79 : decode cX12_spelled 79 = .ok (.iload_n 1, 1) := by decide +kernel
theorem dX12_spelled_80 : decode cX12_spelled 80 = .ok (.iconst 5, 1) := by decide +kernel
theorem dX12_spelled_81 : decode cX12_spelled 81 = .ok (.if_icmp .ge 7, 3) := by decide +kernel
theorem dX12_spelled_84 : decode cX12_spelled 84 = .ok (.iconst 3, 1) := by decide +kernel
theorem dX12_spelled_85 : decode cX12_spelled 85 = .ok (.goto 10, 3) := by decide +kernel
theorem dX12_spelled_88 : decode cX12_spelled 88 = .ok (.sipush 300, 3) := by decide +kernel
theorem dX12_spelled_91 : decode cX12_spelled 91 = .ok (.iload_n 1, 1) := by decide +kernel
theorem dX12_spelled_92 : decode cX12_spelled 92 = .ok (.iadd, 1) := by decide +kernel
theorem dX12_spelled_93 : decode cX12_spelled 93 = .ok (.iconst 5, 1) := by decide +kernel
theorem dX12_spelled_94 : decode cX12_spelled 94 = .ok (.isub, 1) := by decide +kernel
theorem dX12_spelled_95 : decode cX12_spelled 95 = .ok (.putfield 249, 3) := by decide +kernel
theorem dX12_spelled_98 : decode cX12_spelled 98 = .ok (.aload_n 0, 1) := by decide +kernel
theorem dX12_spelled_99 : decode cX12_spelled 99 = .ok (.iload_n 1, 1) := by decide +kernel
theorem dX12_spelled_100 : decode cX12_spelled 100 = .ok (.putfield 264, 3) := by decide +kernel
theorem dX12_spelled_103 : decode cX12_spelled 103 = .ok (.iinc 1 1, 3) := by decide +kernel
theorem dX12_spelled_106 : decode cX12_spelled 106 = .ok (.iconst 0, 1) := by decide +kernel
theorem dX12_spelled_107 : decode cX12_spelled 107 = .ok (.istore_n 2, 1) := by decide +kernel
theorem dX12_spelled_108 : decode cX12_spelled 108 = .ok (.iconst 1, 1) := by decide +kernel
theorem dX12_spelled_109 : decode cX12_spelled 109 = .ok (.istore_n 3, 1) := by decide +kernel
theorem dX12_spelled_110 : decode cX12_spelled 110 = .ok (.goto 49, 3) := by decide +kernel
theorem dX12_spelled_113 : decode cX12_spelled 113 = .ok (.iload_n 3, 1) := by decide +kernel
