theorem dX11_charterTold_111 : decode cX11_charterTold 111 = .ok (.ireturn, 1) := by decide +kernel
theorem dX11_pays_0 : decode cX11_pays 0 = .ok (.aload_n 0, 1) := by decide +kernel
theorem dX11_pays_1 : decode cX11_pays 1 = .ok (.iload_n 1, 1) := by decide +kernel
theorem dX11_pays_2 : decode cX11_pays 2 = .ok (.invokevirtual 297, 3) := by decide +kernel
theorem dX11_pays_5 : decode cX11_pays 5 = .ok (.astore_n 2, 1) := by decide +kernel
theorem dX11_pays_6 : decode cX11_pays 6 = .ok (.aload_n 2, 1) := by decide +kernel
theorem dX11_pays_7 : decode cX11_pays 7 = .ok (.ifnonnull 7, 3) := by decide +kernel
theorem dX11_pays_10 : decode cX11_pays 10 = .ok (.ldc2_w 194, 3) := by decide +kernel
theorem dX11_pays_13 : decode cX11_pays 13 = .ok (.lreturn, 1) := by decide +kernel
theorem dX11_pays_14 : decode cX11_pays 14 = .ok (.aload_n 0, 1) := by decide +kernel
theorem dX11_pays_15 : decode cX11_pays 15 = .ok (.getfield 86, 3) := by decide +kernel
theorem dX11_pays_18 : decode cX11_pays 18 = .ok (.aload_n 2, 1) := by decide +kernel
theorem dX11_pays_19 : decode cX11_pays 19 = .ok (.aload_n 2, 1) := by decide +kernel
theorem dX11_pays_20 : decode cX11_pays 20 = .ok (.getfield 315, 3) := by decide +kernel
theorem dX11_pays_23 : decode cX11_pays 23 = .ok (.invokevirtual 324, 3) := by decide +kernel
theorem dX11_pays_26 : decode cX11_pays 26 = .ok (.pop, 1) := by decide +kernel
theorem dX11_pays_27 : decode cX11_pays 27 = .ok (.aload_n 2, 1) := by decide +kernel
theorem dX11_pays_28 : decode cX11_pays 28 = .ok (.aload_n 0, 1) := by decide +kernel
theorem dX11_pays_29 : decode cX11_pays 29 = .ok (.getfield 86, 3) := by decide +kernel
theorem dX11_pays_32 : decode cX11_pays 32 = .ok (.invokevirtual 326, 3) := by decide +kernel
theorem dX11_pays_35 : decode cX11_pays 35 = .ok (.lreturn, 1) := by decide +kernel
theorem dX11_counts_0 : decode cX11_counts 0 = .ok (.aload_n 0, 1) := by decide +kernel
theorem dX11_counts_1 : decode cX11_counts 1 = .ok (.iload_n 1, 1) := by decide +kernel
theorem dX11_counts_2 : decode cX11_counts 2 = .ok (.invokevirtual 297, 3) := by decide +kernel
theorem dX11_counts_5 : decode cX11_counts 5 = .ok (.astore_n 3, 1) := by decide +kernel
theorem dX11_counts_6 : decode cX11_counts 6 = .ok (.aload_n 3, 1) := by decide +kernel
theorem dX11_counts_7 : decode cX11_counts 7 = .ok (.ifnonnull 6, 3) := by decide +kernel
theorem dX11_counts_10 : decode cX11_counts 10 = .ok (.bipush (-2), 2) := by decide +kernel
theorem dX11_counts_12 : decode cX11_counts 12 = .ok (.ireturn, 1) := by decide +kernel
theorem dX11_counts_13 : decode cX11_counts 13 = .ok (.aload_n 3, 1) := by decide +kernel
theorem dX11_counts_14 : decode cX11_counts 14 = .ok (.iload_n 2, 1) := by decide +kernel
theorem dX11_counts_15 : decode cX11_counts 15 = .ok (.invokevirtual 330, 3) := by decide +kernel
theorem dX11_counts_18 : decode cX11_counts 18 = .ok (.ifCond .eq 15, 3) := by decide +kernel
theorem dX11_counts_21 : decode cX11_counts 21 = .ok (.aload_n 3, 1) := by decide +kernel
theorem dX11_counts_22 : decode cX11_counts 22 = .ok (.getfield 307, 3) := by decide +kernel
theorem dX11_counts_25 : decode cX11_counts 25 = .ok (.iload_n 2, 1) := by decide +kernel
theorem dX11_counts_26 : decode cX11_counts 26 = .ok (.invokevirtual 260, 3) := by decide +kernel
theorem dX11_counts_29 : decode cX11_counts 29 = .ok (.iconst (-1), 1) := by decide +kernel
theorem dX11_counts_30 : decode cX11_counts 30 = .ok (.if_icmp .ne 5, 3) := by decide +kernel
theorem dX11_counts_33 : decode cX11_counts 33 = .ok (.iconst (-1), 1) := by decide +kernel
theorem dX11_counts_34 : decode cX11_counts 34 = .ok (.ireturn, 1) := by decide +kernel
theorem dX11_counts_35 : decode cX11_counts 35 = .ok (.aload_n 0, 1) := by decide +kernel
theorem dX11_counts_36 : decode cX11_counts 36 = .ok (.getfield 86, 3) := by decide +kernel
theorem dX11_counts_39 : decode cX11_counts 39 = .ok (.aload_n 3, 1) := by decide +kernel
theorem dX11_counts_40 : decode cX11_counts 40 = .ok (.iload_n 2, 1) := by decide +kernel
theorem dX11_counts_41 : decode cX11_counts 41 = .ok (.invokevirtual 324, 3) := by decide +kernel
theorem dX11_counts_44 : decode cX11_counts 44 = .ok (.ireturn, 1) := by decide +kernel
theorem dX11_account_0 : decode cX11_account 0 = .ok (.aload_n 0, 1) := by decide +kernel
theorem dX11_account_1 : decode cX11_account 1 = .ok (.iload_n 1, 1) := by decide +kernel
theorem dX11_account_2 : decode cX11_account 2 = .ok (.invokevirtual 141, 3) := by decide +kernel
theorem dX11_account_5 : decode cX11_account 5 = .ok (.astore_n 3, 1) := by decide +kernel
theorem dX11_account_6 : decode cX11_account 6 = .ok (.aload_n 3, 1) := by decide +kernel
theorem dX11_account_7 : decode cX11_account 7 = .ok (.ifnull 10, 3) := by decide +kernel
theorem dX11_account_10 : decode cX11_account 10 = .ok (.iload_n 2, 1) := by decide +kernel
theorem dX11_account_11 : decode cX11_account 11 = .ok (.invokestatic 148, 3) := by decide +kernel
theorem dX11_account_14 : decode cX11_account 14 = .ok (.ifCond .ne 6, 3) := by decide +kernel
theorem dX11_account_17 : decode cX11_account 17 = .ok (.bipush (-2), 2) := by decide +kernel
theorem dX11_account_19 : decode cX11_account 19 = .ok (.ireturn, 1) := by decide +kernel
theorem dX11_account_20 : decode cX11_account 20 = .ok (.iconst 0, 1) := by decide +kernel
theorem dX11_account_21 : decode cX11_account 21 = .ok (.istore 4, 2) := by decide +kernel
theorem dX11_account_23 : decode cX11_account 23 = .ok (.iload 4, 2) := by decide +kernel
theorem dX11_account_25 : decode cX11_account 25 = .ok (.aload_n 0, 1) := by decide +kernel
theorem dX11_account_26 : decode cX11_account 26 = .ok (.getfield 291, 3) := by decide +kernel
theorem dX11_account_29 : decode cX11_account 29 = .ok (.if_icmp .ge 43, 3) := by decide +kernel
theorem dX11_account_32 : decode cX11_account 32 = .ok (.aload_n 0, 1) := by decide +kernel
theorem dX11_account_33 : decode cX11_account 33 = .ok (.iload 4, 2) := by decide +kernel
theorem dX11_account_35 : decode cX11_account 35 = .ok (.invokevirtual 297, 3) := by decide +kernel
theorem dX11_account_38 : decode cX11_account 38 = .ok (.astore 5, 2) := by decide +kernel
theorem dX11_account_40 : decode cX11_account 40 = .ok (.aload 5, 2) := by decide +kernel
theorem dX11_account_42 : decode cX11_account 42 = .ok (.ifnull 24, 3) := by decide +kernel
theorem dX11_account_45 : decode cX11_account 45 = .ok (.aload 5, 2) := by decide +kernel
theorem dX11_account_47 : decode cX11_account 47 = .ok (.aload_n 3, 1) := by decide +kernel
theorem dX11_account_48 : decode cX11_account 48 = .ok (.invokevirtual 333, 3) := by decide +kernel
theorem dX11_account_51 : decode cX11_account 51 = .ok (.ifCond .eq 15, 3) := by decide +kernel
theorem dX11_account_54 : decode cX11_account 54 = .ok (.aload 5, 2) := by decide +kernel
theorem dX11_account_56 : decode cX11_account 56 = .ok (.iload_n 2, 1) := by decide +kernel
theorem dX11_account_57 : decode cX11_account 57 = .ok (.invokevirtual 330, 3) := by decide +kernel
theorem dX11_account_60 : decode cX11_account 60 = .ok (.ifCond .eq 6, 3) := by decide +kernel
theorem dX11_account_63 : decode cX11_account 63 = .ok (.iload 4, 2) := by decide +kernel
theorem dX11_account_65 : decode cX11_account 65 = .ok (.ireturn, 1) := by decide +kernel
theorem dX11_account_66 : decode cX11_account 66 = .ok (.iinc 4 1, 3) := by decide +kernel
theorem dX11_account_69 : decode cX11_account 69 = .ok (.goto (-46), 3) := by decide +kernel
theorem dX11_account_72 : decode cX11_account 72 = .ok (.iconst (-1), 1) := by decide +kernel
theorem dX11_account_73 : decode cX11_account 73 = .ok (.ireturn, 1) := by decide +kernel
theorem dX11_owners_0 : decode cX11_owners 0 = .ok (.aload_n 0, 1) := by decide +kernel
theorem dX11_owners_1 : decode cX11_owners 1 = .ok (.iload_n 1, 1) := by decide +kernel
theorem dX11_owners_2 : decode cX11_owners 2 = .ok (.invokevirtual 141, 3) := by decide +kernel
theorem dX11_owners_5 : decode cX11_owners 5 = .ok (.astore_n 2, 1) := by decide +kernel
theorem dX11_owners_6 : decode cX11_owners 6 = .ok (.aload_n 2, 1) := by decide +kernel
theorem dX11_owners_7 : decode cX11_owners 7 = .ok (.ifnonnull 6, 3) := by decide +kernel
theorem dX11_owners_10 : decode cX11_owners 10 = .ok (.bipush (-2), 2) := by decide +kernel
theorem dX11_owners_12 : decode cX11_owners 12 = .ok (.ireturn, 1) := by decide +kernel
theorem dX11_owners_13 : decode cX11_owners 13 = .ok (.aload_n 2, 1) := by decide +kernel
theorem dX11_owners_14 : decode cX11_owners 14 = .ok (.getfield 171, 3) := by decide +kernel
theorem dX11_owners_17 : decode cX11_owners 17 = .ok (.istore_n 3, 1) := by decide +kernel
theorem dX11_owners_18 : decode cX11_owners 18 = .ok (.iconst 0, 1) := by decide +kernel
theorem dX11_owners_19 : decode cX11_owners 19 = .ok (.istore 4, 2) := by decide +kernel
theorem dX11_owners_21 : decode cX11_owners 21 = .ok (.iload 4, 2) := by decide +kernel
theorem dX11_owners_23 : decode cX11_owners 23 = .ok (.aload_n 0, 1) := by decide +kernel
theorem dX11_owners_24 : decode cX11_owners 24 = .ok (.getfield 291, 3) := by decide +kernel
theorem dX11_owners_27 : decode cX11_owners 27 = .ok (.if_icmp .ge 39, 3) := by decide +kernel
theorem dX11_owners_30 : decode cX11_owners 30 = .ok (.aload_n 0, 1) := by decide +kernel
theorem dX11_owners_31 : decode cX11_owners 31 = .ok (.iload 4, 2) := by decide +kernel
theorem dX11_owners_33 : decode cX11_owners 33 = .ok (.invokevirtual 297, 3) := by decide +kernel
theorem dX11_owners_36 : decode cX11_owners 36 = .ok (.astore 5, 2) := by decide +kernel
theorem dX11_owners_38 : decode cX11_owners 38 = .ok (.aload 5, 2) := by decide +kernel
theorem dX11_owners_40 : decode cX11_owners 40 = .ok (.ifnull 20, 3) := by decide +kernel
theorem dX11_owners_43 : decode cX11_owners 43 = .ok (.aload 5, 2) := by decide +kernel
theorem dX11_owners_45 : decode cX11_owners 45 = .ok (.aload_n 2, 1) := by decide +kernel
theorem dX11_owners_46 : decode cX11_owners 46 = .ok (.invokevirtual 333, 3) := by decide +kernel
theorem dX11_owners_49 : decode cX11_owners 49 = .ok (.ifCond .eq 11, 3) := by decide +kernel
theorem dX11_owners_52 : decode cX11_owners 52 = .ok (.iload_n 3, 1) := by decide +kernel
theorem dX11_owners_53 : decode cX11_owners 53 = .ok (.aload 5, 2) := by decide +kernel
theorem dX11_owners_55 : decode cX11_owners 55 = .ok (.invokevirtual 337, 3) := by decide +kernel
theorem dX11_owners_58 : decode cX11_owners 58 = .ok (.isub, 1) := by decide +kernel
theorem dX11_owners_59 : decode cX11_owners 59 = .ok (.istore_n 3, 1) := by decide +kernel
theorem dX11_owners_60 : decode cX11_owners 60 = .ok (.iinc 4 1, 3) := by decide +kernel
theorem dX11_owners_63 : decode cX11_owners 63 = .ok (.goto (-42), 3) := by decide +kernel
theorem dX11_owners_66 : decode cX11_owners 66 = .ok (.iload_n 3, 1) := by decide +kernel
theorem dX11_owners_67 : decode cX11_owners 67 = .ok (.ireturn, 1) := by decide +kernel
theorem dX11_count_0 : decode cX11_count 0 = .ok (.iload_n 1, 1) := by decide +kernel
theorem dX11_count_1 : decode cX11_count 1 = .ok (.tableswitch 81 0 6 #[43, 48, 53, 58, 63, 68, 76], 43) := by decide +kernel
theorem dX11_count_44 : decode cX11_count 44 = .ok (.aload_n 0, 1) := by decide +kernel
theorem dX11_count_45 : decode cX11_count 45 = .ok (.getfield 113, 3) := by decide +kernel
theorem dX11_count_48 : decode cX11_count 48 = .ok (.ireturn, 1) := by decide +kernel
theorem dX11_count_49 : decode cX11_count 49 = .ok (.aload_n 0, 1) := by decide +kernel
theorem dX11_count_50 : decode cX11_count 50 = .ok (.getfield 135, 3) := by decide +kernel
theorem dX11_count_53 : decode cX11_count 53 = .ok (.ireturn, 1) := by decide +kernel
theorem dX11_count_54 : decode cX11_count 54 = .ok (.aload_n 0, 1) := by decide +kernel
theorem dX11_count_55 : decode cX11_count 55 = .ok (.getfield 174, 3) := by decide +kernel
theorem dX11_count_58 : decode cX11_count 58 = .ok (.ireturn, 1) := by decide +kernel
theorem dX11_count_59 : decode cX11_count 59 = .ok (.aload_n 0, 1) := by decide +kernel
theorem dX11_count_60 : decode cX11_count 60 = .ok (.getfield 268, 3) := by decide +kernel
theorem dX11_count_63 : decode cX11_count 63 = .ok (.ireturn, 1) := by decide +kernel
theorem dX11_count_64 : decode cX11_count 64 = .ok (.aload_n 0, 1) := by decide +kernel
theorem dX11_count_65 : decode cX11_count 65 = .ok (.getfield 291, 3) := by decide +kernel
theorem dX11_count_68 : decode cX11_count 68 = .ok (.ireturn, 1) := by decide +kernel
theorem dX11_count_69 : decode cX11_count 69 = .ok (.aload_n 0, 1) := by decide +kernel
theorem dX11_count_70 : decode cX11_count 70 = .ok (.getfield 72, 3) := by decide +kernel
theorem dX11_count_73 : decode cX11_count 73 = .ok (.getfield 267, 3) := by decide +kernel
theorem dX11_count_76 : decode cX11_count 76 = .ok (.ireturn, 1) := by decide +kernel
theorem dX11_count_77 : decode cX11_count 77 = .ok (.aload_n 0, 1) := by decide +kernel
theorem dX11_count_78 : decode cX11_count 78 = .ok (.getfield 235, 3) := by decide +kernel
theorem dX11_count_81 : decode cX11_count 81 = .ok (.ireturn, 1) := by decide +kernel
theorem dX11_count_82 : decode cX11_count 82 = .ok (.bipush (-2), 2) := by decide +kernel
theorem dX11_count_84 : decode cX11_count 84 = .ok (.ireturn, 1) := by decide +kernel
theorem dX11_sheet_0 : decode cX11_sheet 0 = .ok (.aload_n 0, 1) := by decide +kernel
theorem dX11_sheet_1 : decode cX11_sheet 1 = .ok (.iload_n 1, 1) := by decide +kernel
theorem dX11_sheet_2 : decode cX11_sheet 2 = .ok (.invokevirtual 249, 3) := by decide +kernel
theorem dX11_sheet_5 : decode cX11_sheet 5 = .ok (.astore 4, 2) := by decide +kernel
theorem dX11_sheet_7 : decode cX11_sheet 7 = .ok (.aload 4, 2) := by decide +kernel
theorem dX11_sheet_9 : decode cX11_sheet 9 = .ok (.ifnull 12, 3) := by decide +kernel
theorem dX11_sheet_12 : decode cX11_sheet 12 = .ok (.iload_n 2, 1) := by decide +kernel
theorem dX11_sheet_13 : decode cX11_sheet 13 = .ok (.iconst (-1), 1) := by decide +kernel
theorem dX11_sheet_14 : decode cX11_sheet 14 = .ok (.iconst 2, 1) := by decide +kernel
theorem dX11_sheet_15 : decode cX11_sheet 15 = .ok (.invokestatic 109, 3) := by decide +kernel
theorem dX11_sheet_18 : decode cX11_sheet 18 = .ok (.ifCond .ne 6, 3) := by decide +kernel
theorem dX11_sheet_21 : decode cX11_sheet 21 = .ok (.bipush (-2), 2) := by decide +kernel
theorem dX11_sheet_23 : decode cX11_sheet 23 = .ok (.ireturn, 1) := by decide +kernel
theorem dX11_sheet_24 : decode cX11_sheet 24 = .ok (.iload_n 2, 1) := by decide +kernel
theorem dX11_sheet_25 : decode cX11_sheet 25 = .ok (.iconst (-1), 1) := by decide +kernel
theorem dX11_sheet_26 : decode cX11_sheet 26 = .ok (.if_icmp .ne 12, 3) := by decide +kernel
theorem dX11_sheet_29 : decode cX11_sheet 29 = .ok (.aload 4, 2) := by decide +kernel
theorem dX11_sheet_31 : decode cX11_sheet 31 = .ok (.iload_n 2, 1) := by decide +kernel
theorem dX11_sheet_32 : decode cX11_sheet 32 = .ok (.iconst 0, 1) := by decide +kernel
theorem dX11_sheet_33 : decode cX11_sheet 33 = .ok (.invokevirtual 340, 3) := by decide +kernel
theorem dX11_sheet_36 : decode cX11_sheet 36 = .ok (.iconst 1, 1) := by decide +kernel
theorem dX11_sheet_37 : decode cX11_sheet 37 = .ok (.ireturn, 1) := by decide +kernel
theorem dX11_sheet_38 : decode cX11_sheet 38 = .ok (.iload_n 3, 1) := by decide +kernel
theorem dX11_sheet_39 : decode cX11_sheet 39 = .ok (.bipush 40, 2) := by decide +kernel
theorem dX11_sheet_41 : decode cX11_sheet 41 = .ok (.if_icmp .le 6, 3) := by decide +kernel
theorem dX11_sheet_44 : decode cX11_sheet 44 = .ok (.bipush (-2), 2) := by decide +kernel
theorem dX11_sheet_46 : decode cX11_sheet 46 = .ok (.ireturn, 1) := by decide +kernel
theorem dX11_sheet_47 : decode cX11_sheet 47 = .ok (.iload_n 3, 1) := by decide +kernel
theorem dX11_sheet_48 : decode cX11_sheet 48 = .ok (.ifCond .ge 6, 3) := by decide +kernel
theorem dX11_sheet_51 : decode cX11_sheet 51 = .ok (.bipush (-14), 2) := by decide +kernel
theorem dX11_sheet_53 : decode cX11_sheet 53 = .ok (.ireturn, 1) := by decide +kernel
theorem dX11_sheet_54 : decode cX11_sheet 54 = .ok (.aload 4, 2) := by decide +kernel
theorem dX11_sheet_56 : decode cX11_sheet 56 = .ok (.iload_n 2, 1) := by decide +kernel
theorem dX11_sheet_57 : decode cX11_sheet 57 = .ok (.iload_n 3, 1) := by decide +kernel
theorem dX11_sheet_58 : decode cX11_sheet 58 = .ok (.invokevirtual 340, 3) := by decide +kernel
theorem dX11_sheet_61 : decode cX11_sheet 61 = .ok (.iconst 1, 1) := by decide +kernel
theorem dX11_sheet_62 : decode cX11_sheet 62 = .ok (.ireturn, 1) := by decide +kernel
theorem dX11_cell_0 : decode cX11_cell 0 = .ok (.aload_n 0, 1) := by decide +kernel
theorem dX11_cell_1 : decode cX11_cell 1 = .ok (.iload_n 1, 1) := by decide +kernel
theorem dX11_cell_2 : decode cX11_cell 2 = .ok (.invokevirtual 249, 3) := by decide +kernel
theorem dX11_cell_5 : decode cX11_cell 5 = .ok (.astore 4, 2) := by decide +kernel
theorem dX11_cell_7 : decode cX11_cell 7 = .ok (.aload 4, 2) := by decide +kernel
theorem dX11_cell_9 : decode cX11_cell 9 = .ok (.ifnonnull 6, 3) := by decide +kernel
theorem dX11_cell_12 : decode cX11_cell 12 = .ok (.bipush (-2), 2) := by decide +kernel
theorem dX11_cell_14 : decode cX11_cell 14 = .ok (.ireturn, 1) := by decide +kernel
theorem dX11_cell_15 : decode cX11_cell 15 = .ok (.aload 4, 2) := by decide +kernel
theorem dX11_cell_17 : decode cX11_cell 17 = .ok (.getfield 253, 3) := by decide +kernel
theorem dX11_cell_20 : decode cX11_cell 20 = .ok (.iconst (-1), 1) := by decide +kernel
theorem dX11_cell_21 : decode cX11_cell 21 = .ok (.if_icmp .ne 6, 3) := by decide +kernel
theorem dX11_cell_24 : decode cX11_cell 24 = .ok (.bipush (-11), 2) := by decide +kernel
theorem dX11_cell_26 : decode cX11_cell 26 = .ok (.ireturn, 1) := by decide +kernel
theorem dX11_cell_27 : decode cX11_cell 27 = .ok (.aload 4, 2) := by decide +kernel
theorem dX11_cell_29 : decode cX11_cell 29 = .ok (.iload_n 2, 1) := by decide +kernel
theorem dX11_cell_30 : decode cX11_cell 30 = .ok (.invokevirtual 343, 3) := by decide +kernel
theorem dX11_cell_33 : decode cX11_cell 33 = .ok (.ifCond .ne 6, 3) := by decide +kernel
theorem dX11_cell_36 : decode cX11_cell 36 = .ok (.bipush (-12), 2) := by decide +kernel
theorem dX11_cell_38 : decode cX11_cell 38 = .ok (.ireturn, 1) := by decide +kernel
theorem dX11_cell_39 : decode cX11_cell 39 = .ok (.aload 4, 2) := by decide +kernel
theorem dX11_cell_41 : decode cX11_cell 41 = .ok (.iload_n 2, 1) := by decide +kernel
theorem dX11_cell_42 : decode cX11_cell 42 = .ok (.iload_n 3, 1) := by decide +kernel
theorem dX11_cell_43 : decode cX11_cell 43 = .ok (.invokevirtual 344, 3) := by decide +kernel
theorem dX11_cell_46 : decode cX11_cell 46 = .ok (.iconst 1, 1) := by decide +kernel
theorem dX11_cell_47 : decode cX11_cell 47 = .ok (.ireturn, 1) := by decide +kernel
theorem dX11_taken_0 : decode cX11_taken 0 = .ok (.iload_n 2, 1) := by decide +kernel
theorem dX11_taken_1 : decode cX11_taken 1 = .ok (.invokestatic 282, 3) := by decide +kernel
theorem dX11_taken_4 : decode cX11_taken 4 = .ok (.ifCond .ne 6, 3) := by decide +kernel
theorem dX11_taken_7 : decode cX11_taken 7 = .ok (.bipush (-2), 2) := by decide +kernel
theorem dX11_taken_9 : decode cX11_taken 9 = .ok (.ireturn, 1) := by decide +kernel
theorem dX11_taken_10 : decode cX11_taken 10 = .ok (.aload_n 0, 1) := by decide +kernel
theorem dX11_taken_11 : decode cX11_taken 11 = .ok (.iload_n 1, 1) := by decide +kernel
theorem dX11_taken_12 : decode cX11_taken 12 = .ok (.invokevirtual 297, 3) := by decide +kernel
theorem dX11_taken_15 : decode cX11_taken 15 = .ok (.astore_n 3, 1) := by decide +kernel
theorem dX11_taken_16 : decode cX11_taken 16 = .ok (.aload_n 3, 1) := by decide +kernel
theorem dX11_taken_17 : decode cX11_taken 17 = .ok (.ifnonnull 6, 3) := by decide +kernel
theorem dX11_taken_20 : decode cX11_taken 20 = .ok (.bipush (-11), 2) := by decide +kernel
theorem dX11_taken_22 : decode cX11_taken 22 = .ok (.ireturn, 1) := by decide +kernel
theorem dX11_taken_23 : decode cX11_taken 23 = .ok (.aload_n 3, 1) := by decide +kernel
theorem dX11_taken_24 : decode cX11_taken 24 = .ok (.iload_n 2, 1) := by decide +kernel
theorem dX11_taken_25 : decode cX11_taken 25 = .ok (.invokevirtual 347, 3) := by decide +kernel
theorem dX11_taken_28 : decode cX11_taken 28 = .ok (.ifCond .eq 13, 3) := by decide +kernel
theorem dX11_taken_31 : decode cX11_taken 31 = .ok (.aload_n 3, 1) := by decide +kernel
theorem dX11_taken_32 : decode cX11_taken 32 = .ok (.getfield 307, 3) := by decide +kernel
theorem dX11_taken_35 : decode cX11_taken 35 = .ok (.getfield 311, 3) := by decide +kernel
theorem dX11_taken_38 : decode cX11_taken 38 = .ok (.goto 5, 3) := by decide +kernel
theorem dX11_taken_41 : decode cX11_taken 41 = .ok (.bipush (-13), 2) := by decide +kernel
theorem dX11_taken_43 : decode cX11_taken 43 = .ok (.ireturn, 1) := by decide +kernel
theorem dX11_within_0 : decode cX11_within 0 = .ok (.iload_n 0, 1) := by decide +kernel
theorem dX11_within_1 : decode cX11_within 1 = .ok (.iload_n 1, 1) := by decide +kernel
theorem dX11_within_2 : decode cX11_within 2 = .ok (.if_icmp .lt 12, 3) := by decide +kernel
theorem dX11_within_5 : decode cX11_within 5 = .ok (.iload_n 0, 1) := by decide +kernel
theorem dX11_within_6 : decode cX11_within 6 = .ok (.iload_n 2, 1) := by decide +kernel
theorem dX11_within_7 : decode cX11_within 7 = .ok (.if_icmp .gt 7, 3) := by decide +kernel
theorem dX11_within_10 : decode cX11_within 10 = .ok (.iconst 1, 1) := by decide +kernel
theorem dX11_within_11 : decode cX11_within 11 = .ok (.goto 4, 3) := by decide +kernel
theorem dX11_within_14 : decode cX11_within 14 = .ok (.iconst 0, 1) := by decide +kernel
theorem dX11_within_15 : decode cX11_within 15 = .ok (.ireturn, 1) := by decide +kernel
theorem dX11_isHour_0 : decode cX11_isHour 0 = .ok (.iload_n 0, 1) := by decide +kernel
theorem dX11_isHour_1 : decode cX11_isHour 1 = .ok (.iconst 0, 1) := by decide +kernel
theorem dX11_isHour_2 : decode cX11_isHour 2 = .ok (.sipush 9999, 3) := by decide +kernel
theorem dX11_isHour_5 : decode cX11_isHour 5 = .ok (.invokestatic 109, 3) := by decide +kernel
theorem dX11_isHour_8 : decode cX11_isHour 8 = .ok (.ireturn, 1) := by decide +kernel
theorem dX11_isSort_0 : decode cX11_isSort 0 = .ok (.iload_n 0, 1) := by decide +kernel
theorem dX11_isSort_1 : decode cX11_isSort 1 = .ok (.iconst 0, 1) := by decide +kernel
theorem dX11_isSort_2 : decode cX11_isSort 2 = .ok (.iconst 5, 1) := by decide +kernel
theorem dX11_isSort_3 : decode cX11_isSort 3 = .ok (.invokestatic 109, 3) := by decide +kernel
theorem dX11_isSort_6 : decode cX11_isSort 6 = .ok (.ireturn, 1) := by decide +kernel
theorem dX11_roundedUp_0 : decode cX11_roundedUp 0 = .ok (.iload_n 1, 1) := by decide +kernel
theorem dX11_roundedUp_1 : decode cX11_roundedUp 1 = .ok (.iconst 1, 1) := by decide +kernel
theorem dX11_roundedUp_2 : decode cX11_roundedUp 2 = .ok (.if_icmp .ge 7, 3) := by decide +kernel
theorem dX11_roundedUp_5 : decode cX11_roundedUp 5 = .ok (.iconst 0, 1) := by decide +kernel
theorem dX11_roundedUp_6 : decode cX11_roundedUp 6 = .ok (.goto 10, 3) := by decide +kernel
theorem dX11_roundedUp_9 : decode cX11_roundedUp 9 = .ok (.iload_n 0, 1) := by decide +kernel
theorem dX11_roundedUp_10 : decode cX11_roundedUp 10 = .ok (.iload_n 1, 1) := by decide +kernel
theorem dX11_roundedUp_11 : decode cX11_roundedUp 11 = .ok (.iadd, 1) := by decide +kernel
theorem dX11_roundedUp_12 : decode cX11_roundedUp 12 = .ok (.iconst 1, 1) := by decide +kernel
theorem dX11_roundedUp_13 : decode cX11_roundedUp 13 = .ok (.isub, 1) := by decide +kernel
theorem dX11_roundedUp_14 : decode cX11_roundedUp 14 = .ok (.iload_n 1, 1) := by decide +kernel
theorem dX11_roundedUp_15 : decode cX11_roundedUp 15 = .ok (.idiv, 1) := by decide +kernel
theorem dX11_roundedUp_16 : decode cX11_roundedUp 16 = .ok (.ireturn, 1) := by decide +kernel
theorem dX11_portAt_0 : decode cX11_portAt 0 = .ok (.iload_n 1, 1) := by decide +kernel
theorem dX11_portAt_1 : decode cX11_portAt 1 = .ok (.ifCond .lt 20, 3) := by decide +kernel
theorem dX11_portAt_4 : decode cX11_portAt 4 = .ok (.iload_n 1, 1) := by decide +kernel
theorem dX11_portAt_5 : decode cX11_portAt 5 = .ok (.aload_n 0, 1) := by decide +kernel
theorem dX11_portAt_6 : decode cX11_portAt 6 = .ok (.getfield 113, 3) := by decide +kernel
theorem dX11_portAt_9 : decode cX11_portAt 9 = .ok (.if_icmp .ge 12, 3) := by decide +kernel
theorem dX11_portAt_12 : decode cX11_portAt 12 = .ok (.aload_n 0, 1) := by decide +kernel
theorem dX11_portAt_13 : decode cX11_portAt 13 = .ok (.getfield 11, 3) := by decide +kernel
theorem dX11_portAt_16 : decode cX11_portAt 16 = .ok (.iload_n 1, 1) := by decide +kernel
theorem dX11_portAt_17 : decode cX11_portAt 17 = .ok (.aaload, 1) := by decide +kernel
theorem dX11_portAt_18 : decode cX11_portAt 18 = .ok (.goto 4, 3) := by decide +kernel
theorem dX11_portAt_21 : decode cX11_portAt 21 = .ok (.aconst_null, 1) := by decide +kernel
theorem dX11_portAt_22 : decode cX11_portAt 22 = .ok (.areturn, 1) := by decide +kernel
theorem dX11_shipAt_0 : decode cX11_shipAt 0 = .ok (.iload_n 1, 1) := by decide +kernel
theorem dX11_shipAt_1 : decode cX11_shipAt 1 = .ok (.ifCond .lt 20, 3) := by decide +kernel
theorem dX11_shipAt_4 : decode cX11_shipAt 4 = .ok (.iload_n 1, 1) := by decide +kernel
theorem dX11_shipAt_5 : decode cX11_shipAt 5 = .ok (.aload_n 0, 1) := by decide +kernel
theorem dX11_shipAt_6 : decode cX11_shipAt 6 = .ok (.getfield 135, 3) := by decide +kernel
theorem dX11_shipAt_9 : decode cX11_shipAt 9 = .ok (.if_icmp .ge 12, 3) := by decide +kernel
theorem dX11_shipAt_12 : decode cX11_shipAt 12 = .ok (.aload_n 0, 1) := by decide +kernel
theorem dX11_shipAt_13 : decode cX11_shipAt 13 = .ok (.getfield 17, 3) := by decide +kernel
theorem dX11_shipAt_16 : decode cX11_shipAt 16 = .ok (.iload_n 1, 1) := by decide +kernel
theorem dX11_shipAt_17 : decode cX11_shipAt 17 = .ok (.aaload, 1) := by decide +kernel
theorem dX11_shipAt_18 : decode cX11_shipAt 18 = .ok (.goto 4, 3) := by decide +kernel
theorem dX11_shipAt_21 : decode cX11_shipAt 21 = .ok (.aconst_null, 1) := by decide +kernel
theorem dX11_shipAt_22 : decode cX11_shipAt 22 = .ok (.areturn, 1) := by decide +kernel
theorem dX11_offerAt_0 : decode cX11_offerAt 0 = .ok (.iload_n 1, 1) := by decide +kernel
theorem dX11_offerAt_1 : decode cX11_offerAt 1 = .ok (.ifCond .lt 20, 3) := by decide +kernel
theorem dX11_offerAt_4 : decode cX11_offerAt 4 = .ok (.iload_n 1, 1) := by decide +kernel
theorem dX11_offerAt_5 : decode cX11_offerAt 5 = .ok (.aload_n 0, 1) := by decide +kernel
theorem dX11_offerAt_6 : decode cX11_offerAt 6 = .ok (.getfield 174, 3) := by decide +kernel
theorem dX11_offerAt_9 : decode cX11_offerAt 9 = .ok (.if_icmp .ge 12, 3) := by decide +kernel
theorem dX11_offerAt_12 : decode cX11_offerAt 12 = .ok (.aload_n 0, 1) := by decide +kernel
theorem dX11_offerAt_13 : decode cX11_offerAt 13 = .ok (.getfield 23, 3) := by decide +kernel
theorem dX11_offerAt_16 : decode cX11_offerAt 16 = .ok (.iload_n 1, 1) := by decide +kernel
theorem dX11_offerAt_17 : decode cX11_offerAt 17 = .ok (.aaload, 1) := by decide +kernel
theorem dX11_offerAt_18 : decode cX11_offerAt 18 = .ok (.goto 4, 3) := by decide +kernel
theorem dX11_offerAt_21 : decode cX11_offerAt 21 = .ok (.aconst_null, 1) := by decide +kernel
theorem dX11_offerAt_22 : decode cX11_offerAt 22 = .ok (.areturn, 1) := by decide +kernel
theorem dX11_textAt_0 : decode cX11_textAt 0 = .ok (.iload_n 1, 1) := by decide +kernel
theorem dX11_textAt_1 : decode cX11_textAt 1 = .ok (.ifCond .lt 20, 3) := by decide +kernel
theorem dX11_textAt_4 : decode cX11_textAt 4 = .ok (.iload_n 1, 1) := by decide +kernel
theorem dX11_textAt_5 : decode cX11_textAt 5 = .ok (.aload_n 0, 1) := by decide +kernel
theorem dX11_textAt_6 : decode cX11_textAt 6 = .ok (.getfield 268, 3) := by decide +kernel
theorem dX11_textAt_9 : decode cX11_textAt 9 = .ok (.if_icmp .ge 12, 3) := by decide +kernel
theorem dX11_textAt_12 : decode cX11_textAt 12 = .ok (.aload_n 0, 1) := by decide +kernel
theorem dX11_textAt_13 : decode cX11_textAt 13 = .ok (.getfield 29, 3) := by decide +kernel
theorem dX11_textAt_16 : decode cX11_textAt 16 = .ok (.iload_n 1, 1) := by decide +kernel
theorem dX11_textAt_17 : decode cX11_textAt 17 = .ok (.aaload, 1) := by decide +kernel
theorem dX11_textAt_18 : decode cX11_textAt 18 = .ok (.goto 4, 3) := by decide +kernel
theorem dX11_textAt_21 : decode cX11_textAt 21 = .ok (.aconst_null, 1) := by decide +kernel
theorem dX11_textAt_22 : decode cX11_textAt 22 = .ok (.areturn, 1) := by decide +kernel
theorem dX11_charterAt_0 : decode cX11_charterAt 0 = .ok (.iload_n 1, 1) := by decide +kernel
theorem dX11_charterAt_1 : decode cX11_charterAt 1 = .ok (.ifCond .lt 20, 3) := by decide +kernel
theorem dX11_charterAt_4 : decode cX11_charterAt 4 = .ok (.iload_n 1, 1) := by decide +kernel
theorem dX11_charterAt_5 : decode cX11_charterAt 5 = .ok (.aload_n 0, 1) := by decide +kernel
theorem dX11_charterAt_6 : decode cX11_charterAt 6 = .ok (.getfield 291, 3) := by decide +kernel
theorem dX11_charterAt_9 : decode cX11_charterAt 9 = .ok (.if_icmp .ge 12, 3) := by decide +kernel
theorem dX11_charterAt_12 : decode cX11_charterAt 12 = .ok (.aload_n 0, 1) := by decide +kernel
theorem dX11_charterAt_13 : decode cX11_charterAt 13 = .ok (.getfield 35, 3) := by decide +kernel
theorem dX11_charterAt_16 : decode cX11_charterAt 16 = .ok (.iload_n 1, 1) := by decide +kernel
theorem dX11_charterAt_17 : decode cX11_charterAt 17 = .ok (.aaload, 1) := by decide +kernel
theorem dX11_charterAt_18 : decode cX11_charterAt 18 = .ok (.goto 4, 3) := by decide +kernel
theorem dX11_charterAt_21 : decode cX11_charterAt 21 = .ok (.aconst_null, 1) := by decide +kernel
theorem dX11_charterAt_22 : decode cX11_charterAt 22 = .ok (.areturn, 1) := by decide +kernel
theorem dX11_sheetAt_0 : decode cX11_sheetAt 0 = .ok (.iload_n 1, 1) := by decide +kernel
theorem dX11_sheetAt_1 : decode cX11_sheetAt 1 = .ok (.ifCond .lt 17, 3) := by decide +kernel
theorem dX11_sheetAt_4 : decode cX11_sheetAt 4 = .ok (.iload_n 1, 1) := by decide +kernel
theorem dX11_sheetAt_5 : decode cX11_sheetAt 5 = .ok (.iconst 4, 1) := by decide +kernel
theorem dX11_sheetAt_6 : decode cX11_sheetAt 6 = .ok (.if_icmp .ge 12, 3) := by decide +kernel
theorem dX11_sheetAt_9 : decode cX11_sheetAt 9 = .ok (.aload_n 0, 1) := by decide +kernel
theorem dX11_sheetAt_10 : decode cX11_sheetAt 10 = .ok (.getfield 41, 3) := by decide +kernel
theorem dX11_sheetAt_13 : decode cX11_sheetAt 13 = .ok (.iload_n 1, 1) := by decide +kernel
theorem dX11_sheetAt_14 : decode cX11_sheetAt 14 = .ok (.aaload, 1) := by decide +kernel
theorem dX11_sheetAt_15 : decode cX11_sheetAt 15 = .ok (.goto 4, 3) := by decide +kernel
theorem dX11_sheetAt_18 : decode cX11_sheetAt 18 = .ok (.aconst_null, 1) := by decide +kernel
theorem dX11_sheetAt_19 : decode cX11_sheetAt 19 = .ok (.areturn, 1) := by decide +kernel
theorem dX11_endsRoute_0 : decode cX11_endsRoute 0 = .ok (.aload_n 0, 1) := by decide +kernel
theorem dX11_endsRoute_1 : decode cX11_endsRoute 1 = .ok (.getfield 235, 3) := by decide +kernel
theorem dX11_endsRoute_4 : decode cX11_endsRoute 4 = .ok (.iconst 1, 1) := by decide +kernel
theorem dX11_endsRoute_5 : decode cX11_endsRoute 5 = .ok (.if_icmp .ge 5, 3) := by decide +kernel
theorem dX11_endsRoute_8 : decode cX11_endsRoute 8 = .ok (.iconst 0, 1) := by decide +kernel
theorem dX11_endsRoute_9 : decode cX11_endsRoute 9 = .ok (.ireturn, 1) := by decide +kernel
theorem dX11_endsRoute_10 : decode cX11_endsRoute 10 = .ok (.aload_n 0, 1) := by decide +kernel
theorem dX11_endsRoute_11 : decode cX11_endsRoute 11 = .ok (.getfield 45, 3) := by decide +kernel
theorem dX11_endsRoute_14 : decode cX11_endsRoute 14 = .ok (.aload_n 0, 1) := by decide +kernel
theorem dX11_endsRoute_15 : decode cX11_endsRoute 15 = .ok (.getfield 235, 3) := by decide +kernel
theorem dX11_endsRoute_18 : decode cX11_endsRoute 18 = .ok (.iconst 1, 1) := by decide +kernel
theorem dX11_endsRoute_19 : decode cX11_endsRoute 19 = .ok (.isub, 1) := by decide +kernel
theorem dX11_endsRoute_20 : decode cX11_endsRoute 20 = .ok (.aaload, 1) := by decide +kernel
theorem dX11_endsRoute_21 : decode cX11_endsRoute 21 = .ok (.astore_n 2, 1) := by decide +kernel
theorem dX11_endsRoute_22 : decode cX11_endsRoute 22 = .ok (.aload_n 2, 1) := by decide +kernel
theorem dX11_endsRoute_23 : decode cX11_endsRoute 23 = .ok (.ifnull 18, 3) := by decide +kernel
theorem dX11_endsRoute_26 : decode cX11_endsRoute 26 = .ok (.aload_n 2, 1) := by decide +kernel
theorem dX11_endsRoute_27 : decode cX11_endsRoute 27 = .ok (.getfield 159, 3) := by decide +kernel
theorem dX11_endsRoute_30 : decode cX11_endsRoute 30 = .ok (.aload_n 1, 1) := by decide +kernel
theorem dX11_endsRoute_31 : decode cX11_endsRoute 31 = .ok (.getfield 159, 3) := by decide +kernel
theorem dX11_endsRoute_34 : decode cX11_endsRoute 34 = .ok (.if_icmp .ne 7, 3) := by decide +kernel
theorem dX11_endsRoute_37 : decode cX11_endsRoute 37 = .ok (.iconst 1, 1) := by decide +kernel
theorem dX11_endsRoute_38 : decode cX11_endsRoute 38 = .ok (.goto 4, 3) := by decide +kernel
theorem dX11_endsRoute_41 : decode cX11_endsRoute 41 = .ok (.iconst 0, 1) := by decide +kernel
theorem dX11_endsRoute_42 : decode cX11_endsRoute 42 = .ok (.ireturn, 1) := by decide +kernel
theorem dX11_layItem_0 : decode cX11_layItem 0 = .ok (.aload_n 1, 1) := by decide +kernel
theorem dX11_layItem_1 : decode cX11_layItem 1 = .ok (.iload_n 2, 1) := by decide +kernel
theorem dX11_layItem_2 : decode cX11_layItem 2 = .ok (.invokevirtual 343, 3) := by decide +kernel
theorem dX11_layItem_5 : decode cX11_layItem 5 = .ok (.ifCond .ne 6, 3) := by decide +kernel
theorem dX11_layItem_8 : decode cX11_layItem 8 = .ok (.bipush (-12), 2) := by decide +kernel
theorem dX11_layItem_10 : decode cX11_layItem 10 = .ok (.ireturn, 1) := by decide +kernel
theorem dX11_layItem_11 : decode cX11_layItem 11 = .ok (.aload_n 1, 1) := by decide +kernel
theorem dX11_layItem_12 : decode cX11_layItem 12 = .ok (.iload_n 2, 1) := by decide +kernel
theorem dX11_layItem_13 : decode cX11_layItem 13 = .ok (.invokevirtual 350, 3) := by decide +kernel
theorem dX11_layItem_16 : decode cX11_layItem 16 = .ok (.istore_n 3, 1) := by decide +kernel
theorem dX11_layItem_17 : decode cX11_layItem 17 = .ok (.iload_n 3, 1) := by decide +kernel
theorem dX11_layItem_18 : decode cX11_layItem 18 = .ok (.invokestatic 245, 3) := by decide +kernel
theorem dX11_layItem_21 : decode cX11_layItem 21 = .ok (.ifCond .ne 6, 3) := by decide +kernel
theorem dX11_layItem_24 : decode cX11_layItem 24 = .ok (.bipush (-2), 2) := by decide +kernel
theorem dX11_layItem_26 : decode cX11_layItem 26 = .ok (.ireturn, 1) := by decide +kernel
theorem dX11_layItem_27 : decode cX11_layItem 27 = .ok (.aload_n 0, 1) := by decide +kernel
theorem dX11_layItem_28 : decode cX11_layItem 28 = .ok (.getfield 171, 3) := by decide +kernel
theorem dX11_layItem_31 : decode cX11_layItem 31 = .ok (.sipush 2000, 3) := by decide +kernel
theorem dX11_layItem_34 : decode cX11_layItem 34 = .ok (.if_icmp .lt 6, 3) := by decide +kernel
theorem dX11_layItem_37 : decode cX11_layItem 37 = .ok (.bipush (-4), 2) := by decide +kernel
theorem dX11_layItem_39 : decode cX11_layItem 39 = .ok (.ireturn, 1) := by decide +kernel
theorem dX11_layItem_40 : decode cX11_layItem 40 = .ok (.aload_n 0, 1) := by decide +kernel
theorem dX11_layItem_41 : decode cX11_layItem 41 = .ok (.iload_n 3, 1) := by decide +kernel
theorem dX11_layItem_42 : decode cX11_layItem 42 = .ok (.invokevirtual 248, 3) := by decide +kernel
theorem dX11_layItem_45 : decode cX11_layItem 45 = .ok (.iconst 0, 1) := by decide +kernel
theorem dX11_layItem_46 : decode cX11_layItem 46 = .ok (.ireturn, 1) := by decide +kernel
theorem dX11_meets_0 : decode cX11_meets 0 = .ok (.iconst 0, 1) := by decide +kernel
theorem dX11_meets_1 : decode cX11_meets 1 = .ok (.istore 4, 2) := by decide +kernel
theorem dX11_meets_3 : decode cX11_meets 3 = .ok (.iload 4, 2) := by decide +kernel
theorem dX11_meets_5 : decode cX11_meets 5 = .ok (.aload_n 0, 1) := by decide +kernel
theorem dX11_meets_6 : decode cX11_meets 6 = .ok (.getfield 291, 3) := by decide +kernel
theorem dX11_meets_9 : decode cX11_meets 9 = .ok (.if_icmp .ge 60, 3) := by decide +kernel
theorem dX11_meets_12 : decode cX11_meets 12 = .ok (.aload_n 0, 1) := by decide +kernel
theorem dX11_meets_13 : decode cX11_meets 13 = .ok (.iload 4, 2) := by decide +kernel
theorem dX11_meets_15 : decode cX11_meets 15 = .ok (.invokevirtual 297, 3) := by decide +kernel
theorem dX11_meets_18 : decode cX11_meets 18 = .ok (.astore 5, 2) := by decide +kernel
theorem dX11_meets_20 : decode cX11_meets 20 = .ok (.aload 5, 2) := by decide +kernel
theorem dX11_meets_22 : decode cX11_meets 22 = .ok (.ifnull 41, 3) := by decide +kernel
theorem dX11_meets_25 : decode cX11_meets 25 = .ok (.aload 5, 2) := by decide +kernel
theorem dX11_meets_27 : decode cX11_meets 27 = .ok (.aload_n 1, 1) := by decide +kernel
theorem dX11_meets_28 : decode cX11_meets 28 = .ok (.invokevirtual 333, 3) := by decide +kernel
theorem dX11_meets_31 : decode cX11_meets 31 = .ok (.ifCond .eq 32, 3) := by decide +kernel
theorem dX11_meets_34 : decode cX11_meets 34 = .ok (.aload 5, 2) := by decide +kernel
theorem dX11_meets_36 : decode cX11_meets 36 = .ok (.getfield 304, 3) := by decide +kernel
theorem dX11_meets_39 : decode cX11_meets 39 = .ok (.iconst 2, 1) := by decide +kernel
theorem dX11_meets_40 : decode cX11_meets 40 = .ok (.if_icmp .eq 23, 3) := by decide +kernel
theorem dX11_meets_43 : decode cX11_meets 43 = .ok (.aload 5, 2) := by decide +kernel
theorem dX11_meets_45 : decode cX11_meets 45 = .ok (.getfield 312, 3) := by decide +kernel
theorem dX11_meets_48 : decode cX11_meets 48 = .ok (.iload_n 3, 1) := by decide +kernel
theorem dX11_meets_49 : decode cX11_meets 49 = .ok (.if_icmp .gt 14, 3) := by decide +kernel
theorem dX11_meets_52 : decode cX11_meets 52 = .ok (.iload_n 2, 1) := by decide +kernel
theorem dX11_meets_53 : decode cX11_meets 53 = .ok (.aload 5, 2) := by decide +kernel
theorem dX11_meets_55 : decode cX11_meets 55 = .ok (.getfield 315, 3) := by decide +kernel
theorem dX11_meets_58 : decode cX11_meets 58 = .ok (.if_icmp .gt 5, 3) := by decide +kernel
theorem dX11_meets_61 : decode cX11_meets 61 = .ok (.iconst 1, 1) := by decide +kernel
theorem dX11_meets_62 : decode cX11_meets 62 = .ok (.ireturn, 1) := by decide +kernel
theorem dX11_meets_63 : decode cX11_meets 63 = .ok (.iinc 4 1, 3) := by decide +kernel
theorem dX11_meets_66 : decode cX11_meets 66 = .ok (.goto (-63), 3) := by decide +kernel
theorem dX11_meets_69 : decode cX11_meets 69 = .ok (.iconst 0, 1) := by decide +kernel
theorem dX11_meets_70 : decode cX11_meets 70 = .ok (.ireturn, 1) := by decide +kernel
theorem dX11_hoursOf_0 : decode cX11_hoursOf 0 = .ok (.aload_n 0, 1) := by decide +kernel
theorem dX11_hoursOf_1 : decode cX11_hoursOf 1 = .ok (.getfield 86, 3) := by decide +kernel
theorem dX11_hoursOf_4 : decode cX11_hoursOf 4 = .ok (.aload_n 1, 1) := by decide +kernel
theorem dX11_hoursOf_5 : decode cX11_hoursOf 5 = .ok (.aload_n 1, 1) := by decide +kernel
theorem dX11_hoursOf_6 : decode cX11_hoursOf 6 = .ok (.getfield 315, 3) := by decide +kernel
theorem dX11_hoursOf_9 : decode cX11_hoursOf 9 = .ok (.invokevirtual 324, 3) := by decide +kernel
theorem dX11_hoursOf_12 : decode cX11_hoursOf 12 = .ok (.pop, 1) := by decide +kernel
theorem dX11_hoursOf_13 : decode cX11_hoursOf 13 = .ok (.iload_n 2, 1) := by decide +kernel
theorem dX11_hoursOf_14 : decode cX11_hoursOf 14 = .ok (.lookupswitch 42 #[(0, 26), (1, 34)], 26) := by decide +kernel
theorem dX11_hoursOf_40 : decode cX11_hoursOf 40 = .ok (.aload_n 0, 1) := by decide +kernel
theorem dX11_hoursOf_41 : decode cX11_hoursOf 41 = .ok (.getfield 86, 3) := by decide +kernel
theorem dX11_hoursOf_44 : decode cX11_hoursOf 44 = .ok (.getfield 353, 3) := by decide +kernel
theorem dX11_hoursOf_47 : decode cX11_hoursOf 47 = .ok (.ireturn, 1) := by decide +kernel
theorem dX11_hoursOf_48 : decode cX11_hoursOf 48 = .ok (.aload_n 0, 1) := by decide +kernel
theorem dX11_hoursOf_49 : decode cX11_hoursOf 49 = .ok (.getfield 86, 3) := by decide +kernel
theorem dX11_hoursOf_52 : decode cX11_hoursOf 52 = .ok (.getfield 356, 3) := by decide +kernel
theorem dX11_hoursOf_55 : decode cX11_hoursOf 55 = .ok (.ireturn, 1) := by decide +kernel
theorem dX11_hoursOf_56 : decode cX11_hoursOf 56 = .ok (.aload_n 0, 1) := by decide +kernel
theorem dX11_hoursOf_57 : decode cX11_hoursOf 57 = .ok (.getfield 86, 3) := by decide +kernel
theorem dX11_hoursOf_60 : decode cX11_hoursOf 60 = .ok (.getfield 359, 3) := by decide +kernel
theorem dX11_hoursOf_63 : decode cX11_hoursOf 63 = .ok (.ireturn, 1) := by decide +kernel
theorem dX12_init_0 : decode cX12_init 0 = .ok (.aload_n 0, 1) := by decide +kernel
theorem dX12_init_1 : decode cX12_init 1 = .ok (.invokespecial 1, 3) := by decide +kernel
theorem dX12_init_4 : decode cX12_init 4 = .ok (.aload_n 0, 1) := by decide +kernel
theorem dX12_init_5 : decode cX12_init 5 = .ok (.bipush 8, 2) := by decide +kernel
theorem dX12_init_7 : decode cX12_init 7 = .ok (.newarray .int, 2) := by decide +kernel
theorem dX12_init_9 : decode cX12_init 9 = .ok (.putfield 7, 3) := by decide +kernel
theorem dX12_init_12 : decode cX12_init 12 = .ok (.aload_n 0, 1) := by decide +kernel
theorem dX12_init_13 : decode cX12_init 13 = .ok (.bipush 8, 2) := by decide +kernel
theorem dX12_init_15 : decode cX12_init 15 = .ok (.newarray .int, 2) := by decide +kernel
theorem dX12_init_17 : decode cX12_init 17 = .ok (.putfield 13, 3) := by decide +kernel
theorem dX12_init_20 : decode cX12_init 20 = .ok (.aload_n 0, 1) := by decide +kernel
theorem dX12_init_21 : decode cX12_init 21 = .ok (.bipush 64, 2) := by decide +kernel
theorem dX12_init_23 : decode cX12_init 23 = .ok (.newarray .int, 2) := by decide +kernel
theorem dX12_init_25 : decode cX12_init 25 = .ok (.putfield 16, 3) := by decide +kernel
theorem dX12_init_28 : decode cX12_init 28 = .ok (.aload_n 0, 1) := by decide +kernel
theorem dX12_init_29 : decode cX12_init 29 = .ok (.iconst 5, 1) := by decide +kernel
theorem dX12_init_30 : decode cX12_init 30 = .ok (.newarray .int, 2) := by decide +kernel
theorem dX12_init_32 : decode cX12_init 32 = .ok (.putfield 19, 3) := by decide +kernel
theorem dX12_init_35 : decode cX12_init 35 = .ok (.aload_n 0, 1) := by decide +kernel
theorem dX12_init_36 : decode cX12_init 36 = .ok (.iconst 5, 1) := by decide +kernel
theorem dX12_init_37 : decode cX12_init 37 = .ok (.newarray .int, 2) := by decide +kernel
theorem dX12_init_39 : decode cX12_init 39 = .ok (.putfield 22, 3) := by decide +kernel
theorem dX12_init_42 : decode cX12_init 42 = .ok (.aload_n 0, 1) := by decide +kernel
theorem dX12_init_43 : decode cX12_init 43 = .ok (.iconst 5, 1) := by decide +kernel
theorem dX12_init_44 : decode cX12_init 44 = .ok (.newarray .int, 2) := by decide +kernel
theorem dX12_init_46 : decode cX12_init 46 = .ok (.putfield 25, 3) := by decide +kernel
theorem dX12_init_49 : decode cX12_init 49 = .ok (.aload_n 0, 1) := by decide +kernel
theorem dX12_init_50 : decode cX12_init 50 = .ok (.iconst 5, 1) := by decide +kernel
theorem dX12_init_51 : decode cX12_init 51 = .ok (.newarray .int, 2) := by decide +kernel
theorem dX12_init_53 : decode cX12_init 53 = .ok (.putfield 28, 3) := by decide +kernel
theorem dX12_init_56 : decode cX12_init 56 = .ok (.aload_n 0, 1) := by decide +kernel
theorem dX12_init_57 : decode cX12_init 57 = .ok (.iconst 5, 1) := by decide +kernel
theorem dX12_init_58 : decode cX12_init 58 = .ok (.newarray .int, 2) := by decide +kernel
theorem dX12_init_60 : decode cX12_init 60 = .ok (.putfield 31, 3) := by decide +kernel
theorem dX12_init_63 : decode cX12_init 63 = .ok (.aload_n 0, 1) := by decide +kernel
theorem dX12_init_64 : decode cX12_init 64 = .ok (.iconst 5, 1) := by decide +kernel
theorem dX12_init_65 : decode cX12_init 65 = .ok (.newarray .int, 2) := by decide +kernel
theorem dX12_init_67 : decode cX12_init 67 = .ok (.putfield 34, 3) := by decide +kernel
theorem dX12_init_70 : decode cX12_init 70 = .ok (.aload_n 0, 1) := by decide +kernel
theorem dX12_init_71 : decode cX12_init 71 = .ok (.iconst 5, 1) := by decide +kernel
theorem dX12_init_72 : decode cX12_init 72 = .ok (.newarray .int, 2) := by decide +kernel
theorem dX12_init_74 : decode cX12_init 74 = .ok (.putfield 37, 3) := by decide +kernel
theorem dX12_init_77 : decode cX12_init 77 = .ok (.aload_n 0, 1) := by decide +kernel
theorem dX12_init_78 : decode cX12_init 78 = .ok (.sipush 10000, 3) := by decide +kernel
theorem dX12_init_81 : decode cX12_init 81 = .ok (.newarray .byte, 2) := by decide +kernel
theorem dX12_init_83 : decode cX12_init 83 = .ok (.putfield 40, 3) := by decide +kernel
theorem dX12_init_86 : decode cX12_init 86 = .ok (.aload_n 0, 1) := by decide +kernel
theorem dX12_init_87 : decode cX12_init 87 = .ok (.bipush 10, 2) := by decide +kernel
theorem dX12_init_89 : decode cX12_init 89 = .ok (.newarray .int, 2) := by decide +kernel
theorem dX12_init_91 : decode cX12_init 91 = .ok (.putfield 44, 3) := by decide +kernel
theorem dX12_init_94 : decode cX12_init 94 = .ok (.aload_n 0, 1) := by decide +kernel
theorem dX12_init_95 : decode cX12_init 95 = .ok (.bipush 10, 2) := by decide +kernel
theorem dX12_init_97 : decode cX12_init 97 = .ok (.newarray .int, 2) := by decide +kernel
theorem dX12_init_99 : decode cX12_init 99 = .ok (.putfield 47, 3) := by decide +kernel
theorem dX12_init_102 : decode cX12_init 102 = .ok (.aload_n 0, 1) := by decide +kernel
theorem dX12_init_103 : decode cX12_init 103 = .ok (.bipush 10, 2) := by decide +kernel
theorem dX12_init_105 : decode cX12_init 105 = .ok (.newarray .int, 2) := by decide +kernel
theorem dX12_init_107 : decode cX12_init 107 = .ok (.putfield 50, 3) := by decide +kernel
theorem dX12_init_110 : decode cX12_init 110 = .ok (.aload_n 0, 1) := by decide +kernel
theorem dX12_init_111 : decode cX12_init 111 = .ok (.bipush 10, 2) := by decide +kernel
theorem dX12_init_113 : decode cX12_init 113 = .ok (.newarray .int, 2) := by decide +kernel
theorem dX12_init_115 : decode cX12_init 115 = .ok (.putfield 53, 3) := by decide +kernel
theorem dX12_init_118 : decode cX12_init 118 = .ok (.aload_n 0, 1) := by decide +kernel
theorem dX12_init_119 : decode cX12_init 119 = .ok (.bipush 10, 2) := by decide +kernel
theorem dX12_init_121 : decode cX12_init 121 = .ok (.newarray .int, 2) := by decide +kernel
theorem dX12_init_123 : decode cX12_init 123 = .ok (.putfield 56, 3) := by decide +kernel
theorem dX12_init_126 : decode cX12_init 126 = .ok (.aload_n 0, 1) := by decide +kernel
theorem dX12_init_127 : decode cX12_init 127 = .ok (.bipush 10, 2) := by decide +kernel
theorem dX12_init_129 : decode cX12_init 129 = .ok (.newarray .int, 2) := by decide +kernel
theorem dX12_init_131 : decode cX12_init 131 = .ok (.putfield 59, 3) := by decide +kernel
theorem dX12_init_134 : decode cX12_init 134 = .ok (.aload_n 0, 1) := by decide +kernel
theorem dX12_init_135 : decode cX12_init 135 = .ok (.bipush 10, 2) := by decide +kernel
theorem dX12_init_137 : decode cX12_init 137 = .ok (.newarray .boolean, 2) := by decide +kernel
theorem dX12_init_139 : decode cX12_init 139 = .ok (.putfield 62, 3) := by decide +kernel
theorem dX12_init_142 : decode cX12_init 142 = .ok (.aload_n 0, 1) := by decide +kernel
theorem dX12_init_143 : decode cX12_init 143 = .ok (.bipush 6, 2) := by decide +kernel
theorem dX12_init_145 : decode cX12_init 145 = .ok (.newarray .int, 2) := by decide +kernel
theorem dX12_init_147 : decode cX12_init 147 = .ok (.putfield 66, 3) := by decide +kernel
theorem dX12_init_150 : decode cX12_init 150 = .ok (.aload_n 0, 1) := by decide +kernel
theorem dX12_init_151 : decode cX12_init 151 = .ok (.sipush 160, 3) := by decide +kernel
theorem dX12_init_154 : decode cX12_init 154 = .ok (.newarray .int, 2) := by decide +kernel
theorem dX12_init_156 : decode cX12_init 156 = .ok (.putfield 69, 3) := by decide +kernel
theorem dX12_init_159 : decode cX12_init 159 = .ok (.aload_n 0, 1) := by decide +kernel
theorem dX12_init_160 : decode cX12_init 160 = .ok (.sipush 1120, 3) := by decide +kernel
theorem dX12_init_163 : decode cX12_init 163 = .ok (.newarray .int, 2) := by decide +kernel
theorem dX12_init_165 : decode cX12_init 165 = .ok (.putfield 72, 3) := by decide +kernel
theorem dX12_init_168 : decode cX12_init 168 = .ok (.aload_n 0, 1) := by decide +kernel
theorem dX12_init_169 : decode cX12_init 169 = .ok (.sipush 1120, 3) := by decide +kernel
theorem dX12_init_172 : decode cX12_init 172 = .ok (.newarray .int, 2) := by decide +kernel
theorem dX12_init_174 : decode cX12_init 174 = .ok (.putfield 75, 3) := by decide +kernel
theorem dX12_init_177 : decode cX12_init 177 = .ok (.aload_n 0, 1) := by decide +kernel
theorem dX12_init_178 : decode cX12_init 178 = .ok (.bipush 21, 2) := by decide +kernel
theorem dX12_init_180 : decode cX12_init 180 = .ok (.newarray .int, 2) := by decide +kernel
theorem dX12_init_182 : decode cX12_init 182 = .ok (.putfield 78, 3) := by decide +kernel
theorem dX12_init_185 : decode cX12_init 185 = .ok (.aload_n 0, 1) := by decide +kernel
theorem dX12_init_186 : decode cX12_init 186 = .ok (.bipush 12, 2) := by decide +kernel
theorem dX12_init_188 : decode cX12_init 188 = .ok (.newarray .int, 2) := by decide +kernel
theorem dX12_init_190 : decode cX12_init 190 = .ok (.putfield 81, 3) := by decide +kernel
theorem dX12_init_193 : decode cX12_init 193 = .ok (.aload_n 0, 1) := by decide +kernel
theorem dX12_init_194 : decode cX12_init 194 = .ok (.bipush 12, 2) := by decide +kernel
theorem dX12_init_196 : decode cX12_init 196 = .ok (.newarray .int, 2) := by decide +kernel
theorem dX12_init_198 : decode cX12_init 198 = .ok (.putfield 84, 3) := by decide +kernel
theorem dX12_init_201 : decode cX12_init 201 = .ok (.aload_n 0, 1) := by decide +kernel
theorem dX12_init_202 : decode cX12_init 202 = .ok (.bipush 12, 2) := by decide +kernel
theorem dX12_init_204 : decode cX12_init 204 = .ok (.newarray .int, 2) := by decide +kernel
theorem dX12_init_206 : decode cX12_init 206 = .ok (.putfield 87, 3) := by decide +kernel
theorem dX12_init_209 : decode cX12_init 209 = .ok (.aload_n 0, 1) := by decide +kernel
theorem dX12_init_210 : decode cX12_init 210 = .ok (.bipush 12, 2) := by decide +kernel
theorem dX12_init_212 : decode cX12_init 212 = .ok (.newarray .int, 2) := by decide +kernel
theorem dX12_init_214 : decode cX12_init 214 = .ok (.putfield 90, 3) := by decide +kernel
theorem dX12_init_217 : decode cX12_init 217 = .ok (.aload_n 0, 1) := by decide +kernel
theorem dX12_init_218 : decode cX12_init 218 = .ok (.bipush 12, 2) := by decide +kernel
theorem dX12_init_220 : decode cX12_init 220 = .ok (.newarray .int, 2) := by decide +kernel
theorem dX12_init_222 : decode cX12_init 222 = .ok (.putfield 93, 3) := by decide +kernel
theorem dX12_init_225 : decode cX12_init 225 = .ok (.aload_n 0, 1) := by decide +kernel
theorem dX12_init_226 : decode cX12_init 226 = .ok (.bipush 12, 2) := by decide +kernel
theorem dX12_init_228 : decode cX12_init 228 = .ok (.newarray .int, 2) := by decide +kernel
theorem dX12_init_230 : decode cX12_init 230 = .ok (.putfield 96, 3) := by decide +kernel
theorem dX12_init_233 : decode cX12_init 233 = .ok (.aload_n 0, 1) := by decide +kernel
theorem dX12_init_234 : decode cX12_init 234 = .ok (.bipush 12, 2) := by decide +kernel
theorem dX12_init_236 : decode cX12_init 236 = .ok (.newarray .int, 2) := by decide +kernel
theorem dX12_init_238 : decode cX12_init 238 = .ok (.putfield 99, 3) := by decide +kernel
theorem dX12_init_241 : decode cX12_init 241 = .ok (.aload_n 0, 1) := by decide +kernel
theorem dX12_init_242 : decode cX12_init 242 = .ok (.bipush 12, 2) := by decide +kernel
theorem dX12_init_244 : decode cX12_init 244 = .ok (.newarray .int, 2) := by decide +kernel
theorem dX12_init_246 : decode cX12_init 246 = .ok (.putfield 102, 3) := by decide +kernel
theorem dX12_init_249 : decode cX12_init 249 = .ok (.aload_n 0, 1) := by decide +kernel
theorem dX12_init_250 : decode cX12_init 250 = .ok (.bipush 12, 2) := by decide +kernel
theorem dX12_init_252 : decode cX12_init 252 = .ok (.newarray .int, 2) := by decide +kernel
theorem dX12_init_254 : decode cX12_init 254 = .ok (.putfield 105, 3) := by decide +kernel
theorem dX12_init_257 : decode cX12_init 257 = .ok (.aload_n 0, 1) := by decide +kernel
theorem dX12_init_258 : decode cX12_init 258 = .ok (.iconst 4, 1) := by decide +kernel
theorem dX12_init_259 : decode cX12_init 259 = .ok (.newarray .int, 2) := by decide +kernel
theorem dX12_init_261 : decode cX12_init 261 = .ok (.putfield 108, 3) := by decide +kernel
theorem dX12_init_264 : decode cX12_init 264 = .ok (.aload_n 0, 1) := by decide +kernel
theorem dX12_init_265 : decode cX12_init 265 = .ok (.iconst 4, 1) := by decide +kernel
theorem dX12_init_266 : decode cX12_init 266 = .ok (.newarray .int, 2) := by decide +kernel
theorem dX12_init_268 : decode cX12_init 268 = .ok (.putfield 111, 3) := by decide +kernel
theorem dX12_init_271 : decode cX12_init 271 = .ok (.aload_n 0, 1) := by decide +kernel
theorem dX12_init_272 : decode cX12_init 272 = .ok (.sipush 160, 3) := by decide +kernel
theorem dX12_init_275 : decode cX12_init 275 = .ok (.newarray .int, 2) := by decide +kernel
theorem dX12_init_277 : decode cX12_init 277 = .ok (.putfield 114, 3) := by decide +kernel
theorem dX12_init_280 : decode cX12_init 280 = .ok (.aload_n 0, 1) := by decide +kernel
theorem dX12_init_281 : decode cX12_init 281 = .ok (.bipush 32, 2) := by decide +kernel
theorem dX12_init_283 : decode cX12_init 283 = .ok (.newarray .int, 2) := by decide +kernel
theorem dX12_init_285 : decode cX12_init 285 = .ok (.dup, 1) := by decide +kernel
theorem dX12_init_286 : decode cX12_init 286 = .ok (.iconst 0, 1) := by decide +kernel
theorem dX12_init_287 : decode cX12_init 287 = .ok (.bipush 108, 2) := by decide +kernel
theorem dX12_init_289 : decode cX12_init 289 = .ok (.iastore, 1) := by decide +kernel
theorem dX12_init_290 : decode cX12_init 290 = .ok (.dup, 1) := by decide +kernel
theorem dX12_init_291 : decode cX12_init 291 = .ok (.iconst 1, 1) := by decide +kernel
theorem dX12_init_292 : decode cX12_init 292 = .ok (.bipush 97, 2) := by decide +kernel
theorem dX12_init_294 : decode cX12_init 294 = .ok (.iastore, 1) := by decide +kernel
theorem dX12_init_295 : decode cX12_init 295 = .ok (.dup, 1) := by decide +kernel
theorem dX12_init_296 : decode cX12_init 296 = .ok (.iconst 2, 1) := by decide +kernel
theorem dX12_init_297 : decode cX12_init 297 = .ok (.bipush 121, 2) := by decide +kernel
theorem dX12_init_299 : decode cX12_init 299 = .ok (.iastore, 1) := by decide +kernel
theorem dX12_init_300 : decode cX12_init 300 = .ok (.dup, 1) := by decide +kernel
theorem dX12_init_301 : decode cX12_init 301 = .ok (.iconst 3, 1) := by decide +kernel
theorem dX12_init_302 : decode cX12_init 302 = .ok (.bipush 32, 2) := by decide +kernel
theorem dX12_init_304 : decode cX12_init 304 = .ok (.iastore, 1) := by decide +kernel
theorem dX12_init_305 : decode cX12_init 305 = .ok (.dup, 1) := by decide +kernel
theorem dX12_init_306 : decode cX12_init 306 = .ok (.iconst 4, 1) := by decide +kernel
theorem dX12_init_307 : decode cX12_init 307 = .ok (.bipush 115, 2) := by decide +kernel
theorem dX12_init_309 : decode cX12_init 309 = .ok (.iastore, 1) := by decide +kernel
theorem dX12_init_310 : decode cX12_init 310 = .ok (.dup, 1) := by decide +kernel
theorem dX12_init_311 : decode cX12_init 311 = .ok (.iconst 5, 1) := by decide +kernel
theorem dX12_init_312 : decode cX12_init 312 = .ok (.bipush 111, 2) := by decide +kernel
theorem dX12_init_314 : decode cX12_init 314 = .ok (.iastore, 1) := by decide +kernel
theorem dX12_init_315 : decode cX12_init 315 = .ok (.dup, 1) := by decide +kernel
theorem dX12_init_316 : decode cX12_init 316 = .ok (.bipush 6, 2) := by decide +kernel
theorem dX12_init_318 : decode cX12_init 318 = .ok (.bipush 114, 2) := by decide +kernel
theorem dX12_init_320 : decode cX12_init 320 = .ok (.iastore, 1) := by decide +kernel
theorem dX12_init_321 : decode cX12_init 321 = .ok (.dup, 1) := by decide +kernel
theorem dX12_init_322 : decode cX12_init 322 = .ok (.bipush 7, 2) := by decide +kernel
theorem dX12_init_324 : decode cX12_init 324 = .ok (.bipush 116, 2) := by decide +kernel
theorem dX12_init_326 : decode cX12_init 326 = .ok (.iastore, 1) := by decide +kernel
theorem dX12_init_327 : decode cX12_init 327 = .ok (.dup, 1) := by decide +kernel
theorem dX12_init_328 : decode cX12_init 328 = .ok (.bipush 8, 2) := by decide +kernel
theorem dX12_init_330 : decode cX12_init 330 = .ok (.bipush 61, 2) := by decide +kernel
theorem dX12_init_332 : decode cX12_init 332 = .ok (.iastore, 1) := by decide +kernel
theorem dX12_init_333 : decode cX12_init 333 = .ok (.dup, 1) := by decide +kernel
theorem dX12_init_334 : decode cX12_init 334 = .ok (.bipush 9, 2) := by decide +kernel
theorem dX12_init_336 : decode cX12_init 336 = .ok (.bipush 49, 2) := by decide +kernel
theorem dX12_init_338 : decode cX12_init 338 = .ok (.iastore, 1) := by decide +kernel
theorem dX12_init_339 : decode cX12_init 339 = .ok (.dup, 1) := by decide +kernel
theorem dX12_init_340 : decode cX12_init 340 = .ok (.bipush 10, 2) := by decide +kernel
theorem dX12_init_342 : decode cX12_init 342 = .ok (.bipush 32, 2) := by decide +kernel
theorem dX12_init_344 : decode cX12_init 344 = .ok (.iastore, 1) := by decide +kernel
theorem dX12_init_345 : decode cX12_init 345 = .ok (.dup, 1) := by decide +kernel
theorem dX12_init_346 : decode cX12_init 346 = .ok (.bipush 11, 2) := by decide +kernel
theorem dX12_init_348 : decode cX12_init 348 = .ok (.bipush 111, 2) := by decide +kernel
theorem dX12_init_350 : decode cX12_init 350 = .ok (.iastore, 1) := by decide +kernel
theorem dX12_init_351 : decode cX12_init 351 = .ok (.dup, 1) := by decide +kernel
theorem dX12_init_352 : decode cX12_init 352 = .ok (.bipush 12, 2) := by decide +kernel
theorem dX12_init_354 : decode cX12_init 354 = .ok (.bipush 114, 2) := by decide +kernel
theorem dX12_init_356 : decode cX12_init 356 = .ok (.iastore, 1) := by decide +kernel
theorem dX12_init_357 : decode cX12_init 357 = .ok (.dup, 1) := by decide +kernel
theorem dX12_init_358 : decode cX12_init 358 = .ok (.bipush 13, 2) := by decide +kernel
theorem dX12_init_360 : decode cX12_init 360 = .ok (.bipush 32, 2) := by decide +kernel
theorem dX12_init_362 : decode cX12_init 362 = .ok (.iastore, 1) := by decide +kernel
theorem dX12_init_363 : decode cX12_init 363 = .ok (.dup, 1) := by decide +kernel
theorem dX12_init_364 : decode cX12_init 364 = .ok (.bipush 14, 2) := by decide +kernel
theorem dX12_init_366 : decode cX12_init 366 = .ok (.bipush 115, 2) := by decide +kernel
theorem dX12_init_368 : decode cX12_init 368 = .ok (.iastore, 1) := by decide +kernel
theorem dX12_init_369 : decode cX12_init 369 = .ok (.dup, 1) := by decide +kernel
theorem dX12_init_370 : decode cX12_init 370 = .ok (.bipush 15, 2) := by decide +kernel
theorem dX12_init_372 : decode cX12_init 372 = .ok (.bipush 111, 2) := by decide +kernel
theorem dX12_init_374 : decode cX12_init 374 = .ok (.iastore, 1) := by decide +kernel
theorem dX12_init_375 : decode cX12_init 375 = .ok (.dup, 1) := by decide +kernel
theorem dX12_init_376 : decode cX12_init 376 = .ok (.bipush 16, 2) := by decide +kernel
theorem dX12_init_378 : decode cX12_init 378 = .ok (.bipush 114, 2) := by decide +kernel
theorem dX12_init_380 : decode cX12_init 380 = .ok (.iastore, 1) := by decide +kernel
theorem dX12_init_381 : decode cX12_init 381 = .ok (.dup, 1) := by decide +kernel
theorem dX12_init_382 : decode cX12_init 382 = .ok (.bipush 17, 2) := by decide +kernel
theorem dX12_init_384 : decode cX12_init 384 = .ok (.bipush 116, 2) := by decide +kernel
theorem dX12_init_386 : decode cX12_init 386 = .ok (.iastore, 1) := by decide +kernel
theorem dX12_init_387 : decode cX12_init 387 = .ok (.dup, 1) := by decide +kernel
theorem dX12_init_388 : decode cX12_init 388 = .ok (.bipush 18, 2) := by decide +kernel
theorem dX12_init_390 : decode cX12_init 390 = .ok (.bipush 61, 2) := by decide +kernel
theorem dX12_init_392 : decode cX12_init 392 = .ok (.iastore, 1) := by decide +kernel
theorem dX12_init_393 : decode cX12_init 393 = .ok (.dup, 1) := by decide +kernel
theorem dX12_init_394 : decode cX12_init 394 = .ok (.bipush 19, 2) := by decide +kernel
theorem dX12_init_396 : decode cX12_init 396 = .ok (.bipush 50, 2) := by decide +kernel
theorem dX12_init_398 : decode cX12_init 398 = .ok (.iastore, 1) := by decide +kernel
theorem dX12_init_399 : decode cX12_init 399 = .ok (.dup, 1) := by decide +kernel
theorem dX12_init_400 : decode cX12_init 400 = .ok (.bipush 20, 2) := by decide +kernel
theorem dX12_init_402 : decode cX12_init 402 = .ok (.bipush 59, 2) := by decide +kernel
theorem dX12_init_404 : decode cX12_init 404 = .ok (.iastore, 1) := by decide +kernel
theorem dX12_init_405 : decode cX12_init 405 = .ok (.dup, 1) := by decide +kernel
theorem dX12_init_406 : decode cX12_init 406 = .ok (.bipush 21, 2) := by decide +kernel
theorem dX12_init_408 : decode cX12_init 408 = .ok (.bipush 111, 2) := by decide +kernel
theorem dX12_init_410 : decode cX12_init 410 = .ok (.iastore, 1) := by decide +kernel
theorem dX12_init_411 : decode cX12_init 411 = .ok (.dup, 1) := by decide +kernel
theorem dX12_init_412 : decode cX12_init 412 = .ok (.bipush 22, 2) := by decide +kernel
theorem dX12_init_414 : decode cX12_init 414 = .ok (.bipush 102, 2) := by decide +kernel
theorem dX12_init_416 : decode cX12_init 416 = .ok (.iastore, 1) := by decide +kernel
theorem dX12_init_417 : decode cX12_init 417 = .ok (.dup, 1) := by decide +kernel
theorem dX12_init_418 : decode cX12_init 418 = .ok (.bipush 23, 2) := by decide +kernel
theorem dX12_init_420 : decode cX12_init 420 = .ok (.bipush 102, 2) := by decide +kernel
theorem dX12_init_422 : decode cX12_init 422 = .ok (.iastore, 1) := by decide +kernel
theorem dX12_init_423 : decode cX12_init 423 = .ok (.dup, 1) := by decide +kernel
theorem dX12_init_424 : decode cX12_init 424 = .ok (.bipush 24, 2) := by decide +kernel
theorem dX12_init_426 : decode cX12_init 426 = .ok (.bipush 32, 2) := by decide +kernel
theorem dX12_init_428 : decode cX12_init 428 = .ok (.iastore, 1) := by decide +kernel
theorem dX12_init_429 : decode cX12_init 429 = .ok (.dup, 1) := by decide +kernel
theorem dX12_init_430 : decode cX12_init 430 = .ok (.bipush 25, 2) := by decide +kernel
theorem dX12_init_432 : decode cX12_init 432 = .ok (.bipush 115, 2) := by decide +kernel
theorem dX12_init_434 : decode cX12_init 434 = .ok (.iastore, 1) := by decide +kernel
theorem dX12_init_435 : decode cX12_init 435 = .ok (.dup, 1) := by decide +kernel
theorem dX12_init_436 : decode cX12_init 436 = .ok (.bipush 26, 2) := by decide +kernel
theorem dX12_init_438 : decode cX12_init 438 = .ok (.bipush 111, 2) := by decide +kernel
theorem dX12_init_440 : decode cX12_init 440 = .ok (.iastore, 1) := by decide +kernel
theorem dX12_init_441 : decode cX12_init 441 = .ok (.dup, 1) := by decide +kernel
theorem dX12_init_442 : decode cX12_init 442 = .ok (.bipush 27, 2) := by decide +kernel
theorem dX12_init_444 : decode cX12_init 444 = .ok (.bipush 114, 2) := by decide +kernel
theorem dX12_init_446 : decode cX12_init 446 = .ok (.iastore, 1) := by decide +kernel
theorem dX12_init_447 : decode cX12_init 447 = .ok (.dup, 1) := by decide +kernel
theorem dX12_init_448 : decode cX12_init 448 = .ok (.bipush 28, 2) := by decide +kernel
theorem dX12_init_450 : decode cX12_init 450 = .ok (.bipush 116, 2) := by decide +kernel
theorem dX12_init_452 : decode cX12_init 452 = .ok (.iastore, 1) := by decide +kernel
theorem dX12_init_453 : decode cX12_init 453 = .ok (.dup, 1) := by decide +kernel
theorem dX12_init_454 : decode cX12_init 454 = .ok (.bipush 29, 2) := by decide +kernel
theorem dX12_init_456 : decode cX12_init 456 = .ok (.bipush 61, 2) := by decide +kernel
theorem dX12_init_458 : decode cX12_init 458 = .ok (.iastore, 1) := by decide +kernel
theorem dX12_init_459 : decode cX12_init 459 = .ok (.dup, 1) := by decide +kernel
theorem dX12_init_460 : decode cX12_init 460 = .ok (.bipush 30, 2) := by decide +kernel
theorem dX12_init_462 : decode cX12_init 462 = .ok (.bipush 52, 2) := by decide +kernel
theorem dX12_init_464 : decode cX12_init 464 = .ok (.iastore, 1) := by decide +kernel
theorem dX12_init_465 : decode cX12_init 465 = .ok (.dup, 1) := by decide +kernel
theorem dX12_init_466 : decode cX12_init 466 = .ok (.bipush 31, 2) := by decide +kernel
theorem dX12_init_468 : decode cX12_init 468 = .ok (.bipush 59, 2) := by decide +kernel
theorem dX12_init_470 : decode cX12_init 470 = .ok (.iastore, 1) := by decide +kernel
theorem dX12_init_471 : decode cX12_init 471 = .ok (.putfield 117, 3) := by decide +kernel
theorem dX12_init_474 : decode cX12_init 474 = .ok (.aload_n 0, 1) := by decide +kernel
theorem dX12_init_475 : decode cX12_init 475 = .ok (.iconst 3, 1) := by decide +kernel
theorem dX12_init_476 : decode cX12_init 476 = .ok (.newarray .int, 2) := by decide +kernel
theorem dX12_init_478 : decode cX12_init 478 = .ok (.putfield 120, 3) := by decide +kernel
theorem dX12_init_481 : decode cX12_init 481 = .ok (.aload_n 0, 1) := by decide +kernel
theorem dX12_init_482 : decode cX12_init 482 = .ok (.iconst 3, 1) := by decide +kernel
theorem dX12_init_483 : decode cX12_init 483 = .ok (.newarray .int, 2) := by decide +kernel
theorem dX12_init_485 : decode cX12_init 485 = .ok (.putfield 123, 3) := by decide +kernel
theorem dX12_init_488 : decode cX12_init 488 = .ok (.aload_n 0, 1) := by decide +kernel
theorem dX12_init_489 : decode cX12_init 489 = .ok (.sipush 6000, 3) := by decide +kernel
theorem dX12_init_492 : decode cX12_init 492 = .ok (.newarray .int, 2) := by decide +kernel
theorem dX12_init_494 : decode cX12_init 494 = .ok (.putfield 126, 3) := by decide +kernel
theorem dX12_init_497 : decode cX12_init 497 = .ok (.aload_n 0, 1) := by decide +kernel
theorem dX12_init_498 : decode cX12_init 498 = .ok (.bipush 48, 2) := by decide +kernel
theorem dX12_init_500 : decode cX12_init 500 = .ok (.newarray .int, 2) := by decide +kernel
theorem dX12_init_502 : decode cX12_init 502 = .ok (.dup, 1) := by decide +kernel
theorem dX12_init_503 : decode cX12_init 503 = .ok (.iconst 0, 1) := by decide +kernel
theorem dX12_init_504 : decode cX12_init 504 = .ok (.bipush 115, 2) := by decide +kernel
theorem dX12_init_506 : decode cX12_init 506 = .ok (.iastore, 1) := by decide +kernel
theorem dX12_init_507 : decode cX12_init 507 = .ok (.dup, 1) := by decide +kernel
theorem dX12_init_508 : decode cX12_init 508 = .ok (.iconst 1, 1) := by decide +kernel
theorem dX12_init_509 : decode cX12_init 509 = .ok (.bipush 111, 2) := by decide +kernel
theorem dX12_init_511 : decode cX12_init 511 = .ok (.iastore, 1) := by decide +kernel
theorem dX12_init_512 : decode cX12_init 512 = .ok (.dup, 1) := by decide +kernel
theorem dX12_init_513 : decode cX12_init 513 = .ok (.iconst 2, 1) := by decide +kernel
theorem dX12_init_514 : decode cX12_init 514 = .ok (.bipush 114, 2) := by decide +kernel
theorem dX12_init_516 : decode cX12_init 516 = .ok (.iastore, 1) := by decide +kernel
theorem dX12_init_517 : decode cX12_init 517 = .ok (.dup, 1) := by decide +kernel
theorem dX12_init_518 : decode cX12_init 518 = .ok (.iconst 3, 1) := by decide +kernel
theorem dX12_init_519 : decode cX12_init 519 = .ok (.bipush 116, 2) := by decide +kernel
theorem dX12_init_521 : decode cX12_init 521 = .ok (.iastore, 1) := by decide +kernel
theorem dX12_init_522 : decode cX12_init 522 = .ok (.dup, 1) := by decide +kernel
theorem dX12_init_523 : decode cX12_init 523 = .ok (.iconst 4, 1) := by decide +kernel
theorem dX12_init_524 : decode cX12_init 524 = .ok (.iconst 0, 1) := by decide +kernel
theorem dX12_init_525 : decode cX12_init 525 = .ok (.iastore, 1) := by decide +kernel
theorem dX12_init_526 : decode cX12_init 526 = .ok (.dup, 1) := by decide +kernel
theorem dX12_init_527 : decode cX12_init 527 = .ok (.iconst 5, 1) := by decide +kernel
theorem dX12_init_528 : decode cX12_init 528 = .ok (.bipush 119, 2) := by decide +kernel
theorem dX12_init_530 : decode cX12_init 530 = .ok (.iastore, 1) := by decide +kernel
theorem dX12_init_531 : decode cX12_init 531 = .ok (.dup, 1) := by decide +kernel
theorem dX12_init_532 : decode cX12_init 532 = .ok (.bipush 6, 2) := by decide +kernel
theorem dX12_init_534 : decode cX12_init 534 = .ok (.bipush 101, 2) := by decide +kernel
theorem dX12_init_536 : decode cX12_init 536 = .ok (.iastore, 1) := by decide +kernel
theorem dX12_init_537 : decode cX12_init 537 = .ok (.dup, 1) := by decide +kernel
theorem dX12_init_538 : decode cX12_init 538 = .ok (.bipush 7, 2) := by decide +kernel
theorem dX12_init_540 : decode cX12_init 540 = .ok (.bipush 101, 2) := by decide +kernel
theorem dX12_init_542 : decode cX12_init 542 = .ok (.iastore, 1) := by decide +kernel
theorem dX12_init_543 : decode cX12_init 543 = .ok (.dup, 1) := by decide +kernel
theorem dX12_init_544 : decode cX12_init 544 = .ok (.bipush 8, 2) := by decide +kernel
theorem dX12_init_546 : decode cX12_init 546 = .ok (.bipush 107, 2) := by decide +kernel
theorem dX12_init_548 : decode cX12_init 548 = .ok (.iastore, 1) := by decide +kernel
theorem dX12_init_549 : decode cX12_init 549 = .ok (.dup, 1) := by decide +kernel
theorem dX12_init_550 : decode cX12_init 550 = .ok (.bipush 9, 2) := by decide +kernel
theorem dX12_init_552 : decode cX12_init 552 = .ok (.bipush 100, 2) := by decide +kernel
theorem dX12_init_554 : decode cX12_init 554 = .ok (.iastore, 1) := by decide +kernel
theorem dX12_init_555 : decode cX12_init 555 = .ok (.dup, 1) := by decide +kernel
theorem dX12_init_556 : decode cX12_init 556 = .ok (.bipush 10, 2) := by decide +kernel
theorem dX12_init_558 : decode cX12_init 558 = .ok (.bipush 97, 2) := by decide +kernel
theorem dX12_init_560 : decode cX12_init 560 = .ok (.iastore, 1) := by decide +kernel
theorem dX12_init_561 : decode cX12_init 561 = .ok (.dup, 1) := by decide +kernel
theorem dX12_init_562 : decode cX12_init 562 = .ok (.bipush 11, 2) := by decide +kernel
theorem dX12_init_564 : decode cX12_init 564 = .ok (.bipush 121, 2) := by decide +kernel
theorem dX12_init_566 : decode cX12_init 566 = .ok (.iastore, 1) := by decide +kernel
theorem dX12_init_567 : decode cX12_init 567 = .ok (.dup, 1) := by decide +kernel
theorem dX12_init_568 : decode cX12_init 568 = .ok (.bipush 12, 2) := by decide +kernel
theorem dX12_init_570 : decode cX12_init 570 = .ok (.iconst 0, 1) := by decide +kernel
theorem dX12_init_571 : decode cX12_init 571 = .ok (.iastore, 1) := by decide +kernel
theorem dX12_init_572 : decode cX12_init 572 = .ok (.dup, 1) := by decide +kernel
theorem dX12_init_573 : decode cX12_init 573 = .ok (.bipush 13, 2) := by decide +kernel
theorem dX12_init_575 : decode cX12_init 575 = .ok (.bipush 99, 2) := by decide +kernel
theorem dX12_init_577 : decode cX12_init 577 = .ok (.iastore, 1) := by decide +kernel
theorem dX12_init_578 : decode cX12_init 578 = .ok (.dup, 1) := by decide +kernel
theorem dX12_init_579 : decode cX12_init 579 = .ok (.bipush 14, 2) := by decide +kernel
theorem dX12_init_581 : decode cX12_init 581 = .ok (.bipush 108, 2) := by decide +kernel
theorem dX12_init_583 : decode cX12_init 583 = .ok (.iastore, 1) := by decide +kernel
theorem dX12_init_584 : decode cX12_init 584 = .ok (.dup, 1) := by decide +kernel
theorem dX12_init_585 : decode cX12_init 585 = .ok (.bipush 15, 2) := by decide +kernel
theorem dX12_init_587 : decode cX12_init 587 = .ok (.bipush 111, 2) := by decide +kernel
theorem dX12_init_589 : decode cX12_init 589 = .ok (.iastore, 1) := by decide +kernel
theorem dX12_init_590 : decode cX12_init 590 = .ok (.dup, 1) := by decide +kernel
theorem dX12_init_591 : decode cX12_init 591 = .ok (.bipush 16, 2) := by decide +kernel
theorem dX12_init_593 : decode cX12_init 593 = .ok (.bipush 99, 2) := by decide +kernel
theorem dX12_init_595 : decode cX12_init 595 = .ok (.iastore, 1) := by decide +kernel
theorem dX12_init_596 : decode cX12_init 596 = .ok (.dup, 1) := by decide +kernel
theorem dX12_init_597 : decode cX12_init 597 = .ok (.bipush 17, 2) := by decide +kernel
theorem dX12_init_599 : decode cX12_init 599 = .ok (.bipush 107, 2) := by decide +kernel
theorem dX12_init_601 : decode cX12_init 601 = .ok (.iastore, 1) := by decide +kernel
theorem dX12_init_602 : decode cX12_init 602 = .ok (.dup, 1) := by decide +kernel
theorem dX12_init_603 : decode cX12_init 603 = .ok (.bipush 18, 2) := by decide +kernel
theorem dX12_init_605 : decode cX12_init 605 = .ok (.iconst 0, 1) := by decide +kernel
theorem dX12_init_606 : decode cX12_init 606 = .ok (.iastore, 1) := by decide +kernel
theorem dX12_init_607 : decode cX12_init 607 = .ok (.dup, 1) := by decide +kernel
theorem dX12_init_608 : decode cX12_init 608 = .ok (.bipush 19, 2) := by decide +kernel
theorem dX12_init_610 : decode cX12_init 610 = .ok (.bipush 104, 2) := by decide +kernel
theorem dX12_init_612 : decode cX12_init 612 = .ok (.iastore, 1) := by decide +kernel
theorem dX12_init_613 : decode cX12_init 613 = .ok (.dup, 1) := by decide +kernel
theorem dX12_init_614 : decode cX12_init 614 = .ok (.bipush 20, 2) := by decide +kernel
theorem dX12_init_616 : decode cX12_init 616 = .ok (.bipush 111, 2) := by decide +kernel
theorem dX12_init_618 : decode cX12_init 618 = .ok (.iastore, 1) := by decide +kernel
theorem dX12_init_619 : decode cX12_init 619 = .ok (.dup, 1) := by decide +kernel
theorem dX12_init_620 : decode cX12_init 620 = .ok (.bipush 21, 2) := by decide +kernel
theorem dX12_init_622 : decode cX12_init 622 = .ok (.bipush 117, 2) := by decide +kernel
theorem dX12_init_624 : decode cX12_init 624 = .ok (.iastore, 1) := by decide +kernel
theorem dX12_init_625 : decode cX12_init 625 = .ok (.dup, 1) := by decide +kernel
theorem dX12_init_626 : decode cX12_init 626 = .ok (.bipush 22, 2) := by decide +kernel
theorem dX12_init_628 : decode cX12_init 628 = .ok (.bipush 114, 2) := by decide +kernel
theorem dX12_init_630 : decode cX12_init 630 = .ok (.iastore, 1) := by decide +kernel
theorem dX12_init_631 : decode cX12_init 631 = .ok (.dup, 1) := by decide +kernel
theorem dX12_init_632 : decode cX12_init 632 = .ok (.bipush 23, 2) := by decide +kernel
theorem dX12_init_634 : decode cX12_init 634 = .ok (.iconst 0, 1) := by decide +kernel
theorem dX12_init_635 : decode cX12_init 635 = .ok (.iastore, 1) := by decide +kernel
theorem dX12_init_636 : decode cX12_init 636 = .ok (.dup, 1) := by decide +kernel
theorem dX12_init_637 : decode cX12_init 637 = .ok (.bipush 24, 2) := by decide +kernel
theorem dX12_init_639 : decode cX12_init 639 = .ok (.bipush 111, 2) := by decide +kernel
theorem dX12_init_641 : decode cX12_init 641 = .ok (.iastore, 1) := by decide +kernel
theorem dX12_init_642 : decode cX12_init 642 = .ok (.dup, 1) := by decide +kernel
theorem dX12_init_643 : decode cX12_init 643 = .ok (.bipush 25, 2) := by decide +kernel
theorem dX12_init_645 : decode cX12_init 645 = .ok (.bipush 118, 2) := by decide +kernel
theorem dX12_init_647 : decode cX12_init 647 = .ok (.iastore, 1) := by decide +kernel
theorem dX12_init_648 : decode cX12_init 648 = .ok (.dup, 1) := by decide +kernel
theorem dX12_init_649 : decode cX12_init 649 = .ok (.bipush 26, 2) := by decide +kernel
theorem dX12_init_651 : decode cX12_init 651 = .ok (.bipush 101, 2) := by decide +kernel
theorem dX12_init_653 : decode cX12_init 653 = .ok (.iastore, 1) := by decide +kernel
theorem dX12_init_654 : decode cX12_init 654 = .ok (.dup, 1) := by decide +kernel
theorem dX12_init_655 : decode cX12_init 655 = .ok (.bipush 27, 2) := by decide +kernel
theorem dX12_init_657 : decode cX12_init 657 = .ok (.bipush 114, 2) := by decide +kernel
theorem dX12_init_659 : decode cX12_init 659 = .ok (.iastore, 1) := by decide +kernel
theorem dX12_init_660 : decode cX12_init 660 = .ok (.dup, 1) := by decide +kernel
theorem dX12_init_661 : decode cX12_init 661 = .ok (.bipush 28, 2) := by decide +kernel
theorem dX12_init_663 : decode cX12_init 663 = .ok (.iconst 0, 1) := by decide +kernel
theorem dX12_init_664 : decode cX12_init 664 = .ok (.iastore, 1) := by decide +kernel
theorem dX12_init_665 : decode cX12_init 665 = .ok (.dup, 1) := by decide +kernel
theorem dX12_init_666 : decode cX12_init 666 = .ok (.bipush 29, 2) := by decide +kernel
theorem dX12_init_668 : decode cX12_init 668 = .ok (.bipush 108, 2) := by decide +kernel
theorem dX12_init_670 : decode cX12_init 670 = .ok (.iastore, 1) := by decide +kernel
theorem dX12_init_671 : decode cX12_init 671 = .ok (.dup, 1) := by decide +kernel
theorem dX12_init_672 : decode cX12_init 672 = .ok (.bipush 30, 2) := by decide +kernel
theorem dX12_init_674 : decode cX12_init 674 = .ok (.bipush 97, 2) := by decide +kernel
theorem dX12_init_676 : decode cX12_init 676 = .ok (.iastore, 1) := by decide +kernel
theorem dX12_init_677 : decode cX12_init 677 = .ok (.dup, 1) := by decide +kernel
theorem dX12_init_678 : decode cX12_init 678 = .ok (.bipush 31, 2) := by decide +kernel
theorem dX12_init_680 : decode cX12_init 680 = .ok (.bipush 121, 2) := by decide +kernel
theorem dX12_init_682 : decode cX12_init 682 = .ok (.iastore, 1) := by decide +kernel
theorem dX12_init_683 : decode cX12_init 683 = .ok (.dup, 1) := by decide +kernel
theorem dX12_init_684 : decode cX12_init 684 = .ok (.bipush 32, 2) := by decide +kernel
theorem dX12_init_686 : decode cX12_init 686 = .ok (.iconst 0, 1) := by decide +kernel
theorem dX12_init_687 : decode cX12_init 687 = .ok (.iastore, 1) := by decide +kernel
theorem dX12_init_688 : decode cX12_init 688 = .ok (.dup, 1) := by decide +kernel
theorem dX12_init_689 : decode cX12_init 689 = .ok (.bipush 33, 2) := by decide +kernel
theorem dX12_init_691 : decode cX12_init 691 = .ok (.bipush 111, 2) := by decide +kernel
theorem dX12_init_693 : decode cX12_init 693 = .ok (.iastore, 1) := by decide +kernel
theorem dX12_init_694 : decode cX12_init 694 = .ok (.dup, 1) := by decide +kernel
theorem dX12_init_695 : decode cX12_init 695 = .ok (.bipush 34, 2) := by decide +kernel
theorem dX12_init_697 : decode cX12_init 697 = .ok (.bipush 102, 2) := by decide +kernel
theorem dX12_init_699 : decode cX12_init 699 = .ok (.iastore, 1) := by decide +kernel
theorem dX12_init_700 : decode cX12_init 700 = .ok (.dup, 1) := by decide +kernel
theorem dX12_init_701 : decode cX12_init 701 = .ok (.bipush 35, 2) := by decide +kernel
theorem dX12_init_703 : decode cX12_init 703 = .ok (.bipush 102, 2) := by decide +kernel
theorem dX12_init_705 : decode cX12_init 705 = .ok (.iastore, 1) := by decide +kernel
theorem dX12_init_706 : decode cX12_init 706 = .ok (.dup, 1) := by decide +kernel
theorem dX12_init_707 : decode cX12_init 707 = .ok (.bipush 36, 2) := by decide +kernel
theorem dX12_init_709 : decode cX12_init 709 = .ok (.iconst 0, 1) := by decide +kernel
theorem dX12_init_710 : decode cX12_init 710 = .ok (.iastore, 1) := by decide +kernel
theorem dX12_init_711 : decode cX12_init 711 = .ok (.dup, 1) := by decide +kernel
theorem dX12_init_712 : decode cX12_init 712 = .ok (.bipush 37, 2) := by decide +kernel
theorem dX12_init_714 : decode cX12_init 714 = .ok (.bipush 111, 2) := by decide +kernel
theorem dX12_init_716 : decode cX12_init 716 = .ok (.iastore, 1) := by decide +kernel
theorem dX12_init_717 : decode cX12_init 717 = .ok (.dup, 1) := by decide +kernel
theorem dX12_init_718 : decode cX12_init 718 = .ok (.bipush 38, 2) := by decide +kernel
theorem dX12_init_720 : decode cX12_init 720 = .ok (.bipush 114, 2) := by decide +kernel
theorem dX12_init_722 : decode cX12_init 722 = .ok (.iastore, 1) := by decide +kernel
theorem dX12_init_723 : decode cX12_init 723 = .ok (.dup, 1) := by decide +kernel
theorem dX12_init_724 : decode cX12_init 724 = .ok (.bipush 39, 2) := by decide +kernel
theorem dX12_init_726 : decode cX12_init 726 = .ok (.iconst 0, 1) := by decide +kernel
theorem dX12_init_727 : decode cX12_init 727 = .ok (.iastore, 1) := by decide +kernel
theorem dX12_init_728 : decode cX12_init 728 = .ok (.dup, 1) := by decide +kernel
theorem dX12_init_729 : decode cX12_init 729 = .ok (.bipush 40, 2) := by decide +kernel
theorem dX12_init_731 : decode cX12_init 731 = .ok (.bipush 97, 2) := by decide +kernel
theorem dX12_init_733 : decode cX12_init 733 = .ok (.iastore, 1) := by decide +kernel
theorem dX12_init_734 : decode cX12_init 734 = .ok (.dup, 1) := by decide +kernel
theorem dX12_init_735 : decode cX12_init 735 = .ok (.bipush 41, 2) := by decide +kernel
theorem dX12_init_737 : decode cX12_init 737 = .ok (.bipush 110, 2) := by decide +kernel
theorem dX12_init_739 : decode cX12_init 739 = .ok (.iastore, 1) := by decide +kernel
theorem dX12_init_740 : decode cX12_init 740 = .ok (.dup, 1) := by decide +kernel
theorem dX12_init_741 : decode cX12_init 741 = .ok (.bipush 42, 2) := by decide +kernel
theorem dX12_init_743 : decode cX12_init 743 = .ok (.bipush 100, 2) := by decide +kernel
theorem dX12_init_745 : decode cX12_init 745 = .ok (.iastore, 1) := by decide +kernel
theorem dX12_init_746 : decode cX12_init 746 = .ok (.dup, 1) := by decide +kernel
theorem dX12_init_747 : decode cX12_init 747 = .ok (.bipush 43, 2) := by decide +kernel
theorem dX12_init_749 : decode cX12_init 749 = .ok (.iconst 0, 1) := by decide +kernel
theorem dX12_init_750 : decode cX12_init 750 = .ok (.iastore, 1) := by decide +kernel
theorem dX12_init_751 : decode cX12_init 751 = .ok (.dup, 1) := by decide +kernel
theorem dX12_init_752 : decode cX12_init 752 = .ok (.bipush 44, 2) := by decide +kernel
theorem dX12_init_754 : decode cX12_init 754 = .ok (.bipush 110, 2) := by decide +kernel
theorem dX12_init_756 : decode cX12_init 756 = .ok (.iastore, 1) := by decide +kernel
theorem dX12_init_757 : decode cX12_init 757 = .ok (.dup, 1) := by decide +kernel
theorem dX12_init_758 : decode cX12_init 758 = .ok (.bipush 45, 2) := by decide +kernel
theorem dX12_init_760 : decode cX12_init 760 = .ok (.bipush 111, 2) := by decide +kernel
theorem dX12_init_762 : decode cX12_init 762 = .ok (.iastore, 1) := by decide +kernel
theorem dX12_init_763 : decode cX12_init 763 = .ok (.dup, 1) := by decide +kernel
theorem dX12_init_764 : decode cX12_init 764 = .ok (.bipush 46, 2) := by decide +kernel
theorem dX12_init_766 : decode cX12_init 766 = .ok (.bipush 116, 2) := by decide +kernel
theorem dX12_init_768 : decode cX12_init 768 = .ok (.iastore, 1) := by decide +kernel
theorem dX12_init_769 : decode cX12_init 769 = .ok (.dup, 1) := by decide +kernel
theorem dX12_init_770 : decode cX12_init 770 = .ok (.bipush 47, 2) := by decide +kernel
theorem dX12_init_772 : decode cX12_init 772 = .ok (.iconst 0, 1) := by decide +kernel
theorem dX12_init_773 : decode cX12_init 773 = .ok (.iastore, 1) := by decide +kernel
theorem dX12_init_774 : decode cX12_init 774 = .ok (.putfield 129, 3) := by decide +kernel
theorem dX12_init_777 : decode cX12_init 777 = .ok (.aload_n 0, 1) := by decide +kernel
theorem dX12_init_778 : decode cX12_init 778 = .ok (.sipush 180, 3) := by decide +kernel
theorem dX12_init_781 : decode cX12_init 781 = .ok (.newarray .int, 2) := by decide +kernel
theorem dX12_init_783 : decode cX12_init 783 = .ok (.putfield 132, 3) := by decide +kernel
theorem dX12_init_786 : decode cX12_init 786 = .ok (.iconst 0, 1) := by decide +kernel
theorem dX12_init_787 : decode cX12_init 787 = .ok (.istore_n 1, 1) := by decide +kernel
theorem dX12_init_788 : decode cX12_init 788 = .ok (.iload_n 1, 1) := by decide +kernel
theorem dX12_init_789 : decode cX12_init 789 = .ok (.aload_n 0, 1) := by decide +kernel
theorem dX12_init_790 : decode cX12_init 790 = .ok (.getfield 117, 3) := by decide +kernel
theorem dX12_init_793 : decode cX12_init 793 = .ok (.arraylength, 1) := by decide +kernel
theorem dX12_init_794 : decode cX12_init 794 = .ok (.if_icmp .ge 21, 3) := by decide +kernel
theorem dX12_init_797 : decode cX12_init 797 = .ok (.aload_n 0, 1) := by decide +kernel
theorem dX12_init_798 : decode cX12_init 798 = .ok (.getfield 69, 3) := by decide +kernel
theorem dX12_init_801 : decode cX12_init 801 = .ok (.iload_n 1, 1) := by decide +kernel
theorem dX12_init_802 : decode cX12_init 802 = .ok (.aload_n 0, 1) := by decide +kernel
theorem dX12_init_803 : decode cX12_init 803 = .ok (.getfield 117, 3) := by decide +kernel
theorem dX12_init_806 : decode cX12_init 806 = .ok (.iload_n 1, 1) := by decide +kernel
theorem dX12_init_807 : decode cX12_init 807 = .ok (.iaload, 1) := by decide +kernel
theorem dX12_init_808 : decode cX12_init 808 = .ok (.iastore, 1) := by decide +kernel
theorem dX12_init_809 : decode cX12_init 809 = .ok (.iinc 1 1, 3) := by decide +kernel
theorem dX12_init_812 : decode cX12_init 812 = .ok (.goto (-24), 3) := by decide +kernel
theorem dX12_init_815 : decode cX12_init 815 = .ok (.aload_n 0, 1) := by decide +kernel
theorem dX12_init_816 : decode cX12_init 816 = .ok (.aload_n 0, 1) := by decide +kernel
theorem dX12_init_817 : decode cX12_init 817 = .ok (.getfield 117, 3) := by decide +kernel
theorem dX12_init_820 : decode cX12_init 820 = .ok (.arraylength, 1) := by decide +kernel
theorem dX12_init_821 : decode cX12_init 821 = .ok (.putfield 135, 3) := by decide +kernel
theorem dX12_init_824 : decode cX12_init 824 = .ok (.aload_n 0, 1) := by decide +kernel
theorem dX12_init_825 : decode cX12_init 825 = .ok (.iconst 0, 1) := by decide +kernel
theorem dX12_init_826 : decode cX12_init 826 = .ok (.invokevirtual 139, 3) := by decide +kernel
theorem dX12_init_829 : decode cX12_init 829 = .ok (.aload_n 0, 1) := by decide +kernel
theorem dX12_init_830 : decode cX12_init 830 = .ok (.iconst 1, 1) := by decide +kernel
theorem dX12_init_831 : decode cX12_init 831 = .ok (.putfield 143, 3) := by decide +kernel
theorem dX12_init_834 : decode cX12_init 834 = .ok (.iconst 0, 1) := by decide +kernel
theorem dX12_init_835 : decode cX12_init 835 = .ok (.istore_n 1, 1) := by decide +kernel
theorem dX12_init_836 : decode cX12_init 836 = .ok (.iload_n 1, 1) := by decide +kernel
theorem dX12_init_837 : decode cX12_init 837 = .ok (.iconst 4, 1) := by decide +kernel
theorem dX12_init_838 : decode cX12_init 838 = .ok (.if_icmp .ge 16, 3) := by decide +kernel
theorem dX12_init_841 : decode cX12_init 841 = .ok (.aload_n 0, 1) := by decide +kernel
theorem dX12_init_842 : decode cX12_init 842 = .ok (.getfield 108, 3) := by decide +kernel
theorem dX12_init_845 : decode cX12_init 845 = .ok (.iload_n 1, 1) := by decide +kernel
theorem dX12_init_846 : decode cX12_init 846 = .ok (.iconst (-1), 1) := by decide +kernel
theorem dX12_init_847 : decode cX12_init 847 = .ok (.iastore, 1) := by decide +kernel
theorem dX12_init_848 : decode cX12_init 848 = .ok (.iinc 1 1, 3) := by decide +kernel
theorem dX12_init_851 : decode cX12_init 851 = .ok (.goto (-15), 3) := by decide +kernel
theorem dX12_init_854 : decode cX12_init 854 = .ok (.return_, 1) := by decide +kernel
theorem dX12_in_0 : decode cX12_in 0 = .ok (.iload_n 0, 1) := by decide +kernel
theorem dX12_in_1 : decode cX12_in 1 = .ok (.iload_n 1, 1) := by decide +kernel
theorem dX12_in_2 : decode cX12_in 2 = .ok (.if_icmp .lt 12, 3) := by decide +kernel
theorem dX12_in_5 : decode cX12_in 5 = .ok (.iload_n 0, 1) := by decide +kernel
theorem dX12_in_6 : decode cX12_in 6 = .ok (.iload_n 2, 1) := by decide +kernel
theorem dX12_in_7 : decode cX12_in 7 = .ok (.if_icmp .gt 7, 3) := by decide +kernel
theorem dX12_in_10 : decode cX12_in 10 = .ok (.iconst 1, 1) := by decide +kernel
theorem dX12_in_11 : decode cX12_in 11 = .ok (.goto 4, 3) := by decide +kernel
theorem dX12_in_14 : decode cX12_in 14 = .ok (.iconst 0, 1) := by decide +kernel
theorem dX12_in_15 : decode cX12_in 15 = .ok (.ireturn, 1) := by decide +kernel
theorem dX12_isPort_0 : decode cX12_isPort 0 = .ok (.iload_n 1, 1) := by decide +kernel
theorem dX12_isPort_1 : decode cX12_isPort 1 = .ok (.iconst 0, 1) := by decide +kernel
theorem dX12_isPort_2 : decode cX12_isPort 2 = .ok (.aload_n 0, 1) := by decide +kernel
theorem dX12_isPort_3 : decode cX12_isPort 3 = .ok (.getfield 146, 3) := by decide +kernel
theorem dX12_isPort_6 : decode cX12_isPort 6 = .ok (.iconst 1, 1) := by decide +kernel
theorem dX12_isPort_7 : decode cX12_isPort 7 = .ok (.isub, 1) := by decide +kernel
theorem dX12_isPort_8 : decode cX12_isPort 8 = .ok (.invokestatic 149, 3) := by decide +kernel
theorem dX12_isPort_11 : decode cX12_isPort 11 = .ok (.ireturn, 1) := by decide +kernel
theorem dX12_isShip_0 : decode cX12_isShip 0 = .ok (.iload_n 1, 1) := by decide +kernel
theorem dX12_isShip_1 : decode cX12_isShip 1 = .ok (.iconst 0, 1) := by decide +kernel
theorem dX12_isShip_2 : decode cX12_isShip 2 = .ok (.aload_n 0, 1) := by decide +kernel
theorem dX12_isShip_3 : decode cX12_isShip 3 = .ok (.getfield 153, 3) := by decide +kernel
theorem dX12_isShip_6 : decode cX12_isShip 6 = .ok (.iconst 1, 1) := by decide +kernel
theorem dX12_isShip_7 : decode cX12_isShip 7 = .ok (.isub, 1) := by decide +kernel
theorem dX12_isShip_8 : decode cX12_isShip 8 = .ok (.invokestatic 149, 3) := by decide +kernel
theorem dX12_isShip_11 : decode cX12_isShip 11 = .ok (.ireturn, 1) := by decide +kernel
theorem dX12_isOffer_0 : decode cX12_isOffer 0 = .ok (.iload_n 1, 1) := by decide +kernel
theorem dX12_isOffer_1 : decode cX12_isOffer 1 = .ok (.iconst 0, 1) := by decide +kernel
theorem dX12_isOffer_2 : decode cX12_isOffer 2 = .ok (.aload_n 0, 1) := by decide +kernel
theorem dX12_isOffer_3 : decode cX12_isOffer 3 = .ok (.getfield 156, 3) := by decide +kernel
theorem dX12_isOffer_6 : decode cX12_isOffer 6 = .ok (.iconst 1, 1) := by decide +kernel
theorem dX12_isOffer_7 : decode cX12_isOffer 7 = .ok (.isub, 1) := by decide +kernel
theorem dX12_isOffer_8 : decode cX12_isOffer 8 = .ok (.invokestatic 149, 3) := by decide +kernel
theorem dX12_isOffer_11 : decode cX12_isOffer 11 = .ok (.ireturn, 1) := by decide +kernel
theorem dX12_isHour_0 : decode cX12_isHour 0 = .ok (.iload_n 0, 1) := by decide +kernel
theorem dX12_isHour_1 : decode cX12_isHour 1 = .ok (.iconst 0, 1) := by decide +kernel
theorem dX12_isHour_2 : decode cX12_isHour 2 = .ok (.sipush 9999, 3) := by decide +kernel
theorem dX12_isHour_5 : decode cX12_isHour 5 = .ok (.invokestatic 149, 3) := by decide +kernel
theorem dX12_isHour_8 : decode cX12_isHour 8 = .ok (.ireturn, 1) := by decide +kernel
theorem dX12_port_0 : decode cX12_port 0 = .ok (.iload_n 1, 1) := by decide +kernel
theorem dX12_port_1 : decode cX12_port 1 = .ok (.bipush 10, 2) := by decide +kernel
theorem dX12_port_3 : decode cX12_port 3 = .ok (.sipush 999, 3) := by decide +kernel
theorem dX12_port_6 : decode cX12_port 6 = .ok (.invokestatic 149, 3) := by decide +kernel
theorem dX12_port_9 : decode cX12_port 9 = .ok (.ifCond .eq 13, 3) := by decide +kernel
theorem dX12_port_12 : decode cX12_port 12 = .ok (.iload_n 2, 1) := by decide +kernel
theorem dX12_port_13 : decode cX12_port 13 = .ok (.iconst 0, 1) := by decide +kernel
theorem dX12_port_14 : decode cX12_port 14 = .ok (.bipush 99, 2) := by decide +kernel
theorem dX12_port_16 : decode cX12_port 16 = .ok (.invokestatic 149, 3) := by decide +kernel
theorem dX12_port_19 : decode cX12_port 19 = .ok (.ifCond .ne 6, 3) := by decide +kernel
theorem dX12_port_22 : decode cX12_port 22 = .ok (.bipush (-2), 2) := by decide +kernel
theorem dX12_port_24 : decode cX12_port 24 = .ok (.ireturn, 1) := by decide +kernel
theorem dX12_port_25 : decode cX12_port 25 = .ok (.aload_n 0, 1) := by decide +kernel
theorem dX12_port_26 : decode cX12_port 26 = .ok (.getfield 146, 3) := by decide +kernel
theorem dX12_port_29 : decode cX12_port 29 = .ok (.bipush 8, 2) := by decide +kernel
theorem dX12_port_31 : decode cX12_port 31 = .ok (.if_icmp .ne 6, 3) := by decide +kernel
theorem dX12_port_34 : decode cX12_port 34 = .ok (.bipush (-4), 2) := by decide +kernel
theorem dX12_port_36 : decode cX12_port 36 = .ok (.ireturn, 1) := by decide +kernel
theorem dX12_port_37 : decode cX12_port 37 = .ok (.aload_n 0, 1) := by decide +kernel
theorem dX12_port_38 : decode cX12_port 38 = .ok (.getfield 7, 3) := by decide +kernel
theorem dX12_port_41 : decode cX12_port 41 = .ok (.aload_n 0, 1) := by decide +kernel
theorem dX12_port_42 : decode cX12_port 42 = .ok (.getfield 146, 3) := by decide +kernel
theorem dX12_port_45 : decode cX12_port 45 = .ok (.iload_n 1, 1) := by decide +kernel
theorem dX12_port_46 : decode cX12_port 46 = .ok (.iastore, 1) := by decide +kernel
theorem dX12_port_47 : decode cX12_port 47 = .ok (.aload_n 0, 1) := by decide +kernel
theorem dX12_port_48 : decode cX12_port 48 = .ok (.getfield 13, 3) := by decide +kernel
theorem dX12_port_51 : decode cX12_port 51 = .ok (.aload_n 0, 1) := by decide +kernel
theorem dX12_port_52 : decode cX12_port 52 = .ok (.getfield 146, 3) := by decide +kernel
theorem dX12_port_55 : decode cX12_port 55 = .ok (.iload_n 2, 1) := by decide +kernel
theorem dX12_port_56 : decode cX12_port 56 = .ok (.iastore, 1) := by decide +kernel
theorem dX12_port_57 : decode cX12_port 57 = .ok (.aload_n 0, 1) := by decide +kernel
theorem dX12_port_58 : decode cX12_port 58 = .ok (.dup, 1) := by decide +kernel
theorem dX12_port_59 : decode cX12_port 59 = .ok (.getfield 146, 3) := by decide +kernel
theorem dX12_port_62 : decode cX12_port 62 = .ok (.iconst 1, 1) := by decide +kernel
theorem dX12_port_63 : decode cX12_port 63 = .ok (.iadd, 1) := by decide +kernel
theorem dX12_port_64 : decode cX12_port 64 = .ok (.putfield 146, 3) := by decide +kernel
theorem dX12_port_67 : decode cX12_port 67 = .ok (.aload_n 0, 1) := by decide +kernel
theorem dX12_port_68 : decode cX12_port 68 = .ok (.getfield 146, 3) := by decide +kernel
theorem dX12_port_71 : decode cX12_port 71 = .ok (.iconst 1, 1) := by decide +kernel
theorem dX12_port_72 : decode cX12_port 72 = .ok (.isub, 1) := by decide +kernel
theorem dX12_port_73 : decode cX12_port 73 = .ok (.ireturn, 1) := by decide +kernel
theorem dX12_way_0 : decode cX12_way 0 = .ok (.aload_n 0, 1) := by decide +kernel
theorem dX12_way_1 : decode cX12_way 1 = .ok (.iload_n 1, 1) := by decide +kernel
theorem dX12_way_2 : decode cX12_way 2 = .ok (.invokevirtual 159, 3) := by decide +kernel
theorem dX12_way_5 : decode cX12_way 5 = .ok (.ifCond .eq 27, 3) := by decide +kernel
theorem dX12_way_8 : decode cX12_way 8 = .ok (.aload_n 0, 1) := by decide +kernel
theorem dX12_way_9 : decode cX12_way 9 = .ok (.iload_n 2, 1) := by decide +kernel
theorem dX12_way_10 : decode cX12_way 10 = .ok (.invokevirtual 159, 3) := by decide +kernel
theorem dX12_way_13 : decode cX12_way 13 = .ok (.ifCond .eq 19, 3) := by decide +kernel
theorem dX12_way_16 : decode cX12_way 16 = .ok (.iload_n 1, 1) := by decide +kernel
theorem dX12_way_17 : decode cX12_way 17 = .ok (.iload_n 2, 1) := by decide +kernel
theorem dX12_way_18 : decode cX12_way 18 = .ok (.if_icmp .eq 14, 3) := by decide +kernel
theorem dX12_way_21 : decode cX12_way 21 = .ok (.iload_n 3, 1) := by decide +kernel
theorem dX12_way_22 : decode cX12_way 22 = .ok (.iconst 1, 1) := by decide +kernel
theorem dX12_way_23 : decode cX12_way 23 = .ok (.sipush 9999, 3) := by decide +kernel
theorem dX12_way_26 : decode cX12_way 26 = .ok (.invokestatic 149, 3) := by decide +kernel
theorem dX12_way_29 : decode cX12_way 29 = .ok (.ifCond .ne 6, 3) := by decide +kernel
theorem dX12_way_32 : decode cX12_way 32 = .ok (.bipush (-2), 2) := by decide +kernel
theorem dX12_way_34 : decode cX12_way 34 = .ok (.ireturn, 1) := by decide +kernel
theorem dX12_way_35 : decode cX12_way 35 = .ok (.aload_n 0, 1) := by decide +kernel
theorem dX12_way_36 : decode cX12_way 36 = .ok (.getfield 16, 3) := by decide +kernel
theorem dX12_way_39 : decode cX12_way 39 = .ok (.bipush 8, 2) := by decide +kernel
theorem dX12_way_41 : decode cX12_way 41 = .ok (.iload_n 1, 1) := by decide +kernel
theorem dX12_way_42 : decode cX12_way 42 = .ok (.imul, 1) := by decide +kernel
theorem dX12_way_43 : decode cX12_way 43 = .ok (.iload_n 2, 1) := by decide +kernel
theorem dX12_way_44 : decode cX12_way 44 = .ok (.iadd, 1) := by decide +kernel
theorem dX12_way_45 : decode cX12_way 45 = .ok (.iaload, 1) := by decide +kernel
theorem dX12_way_46 : decode cX12_way 46 = .ok (.istore 4, 2) := by decide +kernel
theorem dX12_way_48 : decode cX12_way 48 = .ok (.aload_n 0, 1) := by decide +kernel
theorem dX12_way_49 : decode cX12_way 49 = .ok (.getfield 16, 3) := by decide +kernel
theorem dX12_way_52 : decode cX12_way 52 = .ok (.bipush 8, 2) := by decide +kernel
theorem dX12_way_54 : decode cX12_way 54 = .ok (.iload_n 1, 1) := by decide +kernel
theorem dX12_way_55 : decode cX12_way 55 = .ok (.imul, 1) := by decide +kernel
theorem dX12_way_56 : decode cX12_way 56 = .ok (.iload_n 2, 1) := by decide +kernel
theorem dX12_way_57 : decode cX12_way 57 = .ok (.iadd, 1) := by decide +kernel
theorem dX12_way_58 : decode cX12_way 58 = .ok (.iload_n 3, 1) := by decide +kernel
theorem dX12_way_59 : decode cX12_way 59 = .ok (.iastore, 1) := by decide +kernel
theorem dX12_way_60 : decode cX12_way 60 = .ok (.aload_n 0, 1) := by decide +kernel
theorem dX12_way_61 : decode cX12_way 61 = .ok (.getfield 16, 3) := by decide +kernel
theorem dX12_way_64 : decode cX12_way 64 = .ok (.bipush 8, 2) := by decide +kernel
theorem dX12_way_66 : decode cX12_way 66 = .ok (.iload_n 2, 1) := by decide +kernel
theorem dX12_way_67 : decode cX12_way 67 = .ok (.imul, 1) := by decide +kernel
theorem dX12_way_68 : decode cX12_way 68 = .ok (.iload_n 1, 1) := by decide +kernel
theorem dX12_way_69 : decode cX12_way 69 = .ok (.iadd, 1) := by decide +kernel
theorem dX12_way_70 : decode cX12_way 70 = .ok (.iload_n 3, 1) := by decide +kernel
theorem dX12_way_71 : decode cX12_way 71 = .ok (.iastore, 1) := by decide +kernel
theorem dX12_way_72 : decode cX12_way 72 = .ok (.iload 4, 2) := by decide +kernel
theorem dX12_way_74 : decode cX12_way 74 = .ok (.ireturn, 1) := by decide +kernel
theorem dX12_price_0 : decode cX12_price 0 = .ok (.aload_n 0, 1) := by decide +kernel
theorem dX12_price_1 : decode cX12_price 1 = .ok (.iload_n 1, 1) := by decide +kernel
theorem dX12_price_2 : decode cX12_price 2 = .ok (.invokevirtual 159, 3) := by decide +kernel
theorem dX12_price_5 : decode cX12_price 5 = .ok (.ifCond .eq 13, 3) := by decide +kernel
theorem dX12_price_8 : decode cX12_price 8 = .ok (.iload_n 2, 1) := by decide +kernel
theorem dX12_price_9 : decode cX12_price 9 = .ok (.iconst 0, 1) := by decide +kernel
theorem dX12_price_10 : decode cX12_price 10 = .ok (.bipush 99, 2) := by decide +kernel
theorem dX12_price_12 : decode cX12_price 12 = .ok (.invokestatic 149, 3) := by decide +kernel
theorem dX12_price_15 : decode cX12_price 15 = .ok (.ifCond .ne 6, 3) := by decide +kernel
theorem dX12_price_18 : decode cX12_price 18 = .ok (.bipush (-2), 2) := by decide +kernel
theorem dX12_price_20 : decode cX12_price 20 = .ok (.ireturn, 1) := by decide +kernel
theorem dX12_price_21 : decode cX12_price 21 = .ok (.aload_n 0, 1) := by decide +kernel
theorem dX12_price_22 : decode cX12_price 22 = .ok (.getfield 13, 3) := by decide +kernel
theorem dX12_price_25 : decode cX12_price 25 = .ok (.iload_n 1, 1) := by decide +kernel
theorem dX12_price_26 : decode cX12_price 26 = .ok (.iaload, 1) := by decide +kernel
theorem dX12_price_27 : decode cX12_price 27 = .ok (.istore_n 3, 1) := by decide +kernel
theorem dX12_price_28 : decode cX12_price 28 = .ok (.aload_n 0, 1) := by decide +kernel
theorem dX12_price_29 : decode cX12_price 29 = .ok (.getfield 13, 3) := by decide +kernel
theorem dX12_price_32 : decode cX12_price 32 = .ok (.iload_n 1, 1) := by decide +kernel
theorem dX12_price_33 : decode cX12_price 33 = .ok (.iload_n 2, 1) := by decide +kernel
theorem dX12_price_34 : decode cX12_price 34 = .ok (.iastore, 1) := by decide +kernel
theorem dX12_price_35 : decode cX12_price 35 = .ok (.iload_n 3, 1) := by decide +kernel
theorem dX12_price_36 : decode cX12_price 36 = .ok (.ireturn, 1) := by decide +kernel
theorem dX12_ship_0 : decode cX12_ship 0 = .ok (.aload_n 0, 1) := by decide +kernel
theorem dX12_ship_1 : decode cX12_ship 1 = .ok (.iload_n 1, 1) := by decide +kernel
theorem dX12_ship_2 : decode cX12_ship 2 = .ok (.invokevirtual 159, 3) := by decide +kernel
theorem dX12_ship_5 : decode cX12_ship 5 = .ok (.ifCond .eq 38, 3) := by decide +kernel
theorem dX12_ship_8 : decode cX12_ship 8 = .ok (.iload_n 2, 1) := by decide +kernel
theorem dX12_ship_9 : decode cX12_ship 9 = .ok (.bipush 100, 2) := by decide +kernel
theorem dX12_ship_11 : decode cX12_ship 11 = .ok (.sipush 9999, 3) := by decide +kernel
theorem dX12_ship_14 : decode cX12_ship 14 = .ok (.invokestatic 149, 3) := by decide +kernel
theorem dX12_ship_17 : decode cX12_ship 17 = .ok (.ifCond .eq 26, 3) := by decide +kernel
theorem dX12_ship_20 : decode cX12_ship 20 = .ok (.iload_n 3, 1) := by decide +kernel
theorem dX12_ship_21 : decode cX12_ship 21 = .ok (.bipush 10, 2) := by decide +kernel
theorem dX12_ship_23 : decode cX12_ship 23 = .ok (.sipush 999, 3) := by decide +kernel
theorem dX12_ship_26 : decode cX12_ship 26 = .ok (.invokestatic 149, 3) := by decide +kernel
theorem dX12_ship_29 : decode cX12_ship 29 = .ok (.ifCond .eq 14, 3) := by decide +kernel
theorem dX12_ship_32 : decode cX12_ship 32 = .ok (.iload 4, 2) := by decide +kernel
theorem dX12_ship_34 : decode cX12_ship 34 = .ok (.iconst 1, 1) := by decide +kernel
theorem dX12_ship_35 : decode cX12_ship 35 = .ok (.bipush 50, 2) := by decide +kernel
theorem dX12_ship_37 : decode cX12_ship 37 = .ok (.invokestatic 149, 3) := by decide +kernel
theorem dX12_ship_40 : decode cX12_ship 40 = .ok (.ifCond .ne 6, 3) := by decide +kernel
theorem dX12_ship_43 : decode cX12_ship 43 = .ok (.bipush (-2), 2) := by decide +kernel
theorem dX12_ship_45 : decode cX12_ship 45 = .ok (.ireturn, 1) := by decide +kernel
theorem dX12_ship_46 : decode cX12_ship 46 = .ok (.aload_n 0, 1) := by decide +kernel
theorem dX12_ship_47 : decode cX12_ship 47 = .ok (.getfield 153, 3) := by decide +kernel
theorem dX12_ship_50 : decode cX12_ship 50 = .ok (.iconst 5, 1) := by decide +kernel
theorem dX12_ship_51 : decode cX12_ship 51 = .ok (.if_icmp .ne 6, 3) := by decide +kernel
theorem dX12_ship_54 : decode cX12_ship 54 = .ok (.bipush (-4), 2) := by decide +kernel
theorem dX12_ship_56 : decode cX12_ship 56 = .ok (.ireturn, 1) := by decide +kernel
theorem dX12_ship_57 : decode cX12_ship 57 = .ok (.aload_n 0, 1) := by decide +kernel
theorem dX12_ship_58 : decode cX12_ship 58 = .ok (.getfield 19, 3) := by decide +kernel
theorem dX12_ship_61 : decode cX12_ship 61 = .ok (.aload_n 0, 1) := by decide +kernel
theorem dX12_ship_62 : decode cX12_ship 62 = .ok (.getfield 153, 3) := by decide +kernel
theorem dX12_ship_65 : decode cX12_ship 65 = .ok (.iload_n 1, 1) := by decide +kernel
theorem dX12_ship_66 : decode cX12_ship 66 = .ok (.iastore, 1) := by decide +kernel
theorem dX12_ship_67 : decode cX12_ship 67 = .ok (.aload_n 0, 1) := by decide +kernel
theorem dX12_ship_68 : decode cX12_ship 68 = .ok (.getfield 25, 3) := by decide +kernel
theorem dX12_ship_71 : decode cX12_ship 71 = .ok (.aload_n 0, 1) := by decide +kernel
theorem dX12_ship_72 : decode cX12_ship 72 = .ok (.getfield 153, 3) := by decide +kernel
theorem dX12_ship_75 : decode cX12_ship 75 = .ok (.iload_n 2, 1) := by decide +kernel
theorem dX12_ship_76 : decode cX12_ship 76 = .ok (.iastore, 1) := by decide +kernel
theorem dX12_ship_77 : decode cX12_ship 77 = .ok (.aload_n 0, 1) := by decide +kernel
theorem dX12_ship_78 : decode cX12_ship 78 = .ok (.getfield 28, 3) := by decide +kernel
theorem dX12_ship_81 : decode cX12_ship 81 = .ok (.aload_n 0, 1) := by decide +kernel
theorem dX12_ship_82 : decode cX12_ship 82 = .ok (.getfield 153, 3) := by decide +kernel
theorem dX12_ship_85 : decode cX12_ship 85 = .ok (.iload_n 3, 1) := by decide +kernel
theorem dX12_ship_86 : decode cX12_ship 86 = .ok (.iastore, 1) := by decide +kernel
theorem dX12_ship_87 : decode cX12_ship 87 = .ok (.aload_n 0, 1) := by decide +kernel
theorem dX12_ship_88 : decode cX12_ship 88 = .ok (.getfield 31, 3) := by decide +kernel
theorem dX12_ship_91 : decode cX12_ship 91 = .ok (.aload_n 0, 1) := by decide +kernel
theorem dX12_ship_92 : decode cX12_ship 92 = .ok (.getfield 153, 3) := by decide +kernel
theorem dX12_ship_95 : decode cX12_ship 95 = .ok (.iload 4, 2) := by decide +kernel
theorem dX12_ship_97 : decode cX12_ship 97 = .ok (.iastore, 1) := by decide +kernel
theorem dX12_ship_98 : decode cX12_ship 98 = .ok (.aload_n 0, 1) := by decide +kernel
theorem dX12_ship_99 : decode cX12_ship 99 = .ok (.getfield 34, 3) := by decide +kernel
theorem dX12_ship_102 : decode cX12_ship 102 = .ok (.aload_n 0, 1) := by decide +kernel
theorem dX12_ship_103 : decode cX12_ship 103 = .ok (.getfield 153, 3) := by decide +kernel
theorem dX12_ship_106 : decode cX12_ship 106 = .ok (.bipush 10, 2) := by decide +kernel
theorem dX12_ship_108 : decode cX12_ship 108 = .ok (.iastore, 1) := by decide +kernel
theorem dX12_ship_109 : decode cX12_ship 109 = .ok (.aload_n 0, 1) := by decide +kernel
theorem dX12_ship_110 : decode cX12_ship 110 = .ok (.dup, 1) := by decide +kernel
theorem dX12_ship_111 : decode cX12_ship 111 = .ok (.getfield 153, 3) := by decide +kernel
theorem dX12_ship_114 : decode cX12_ship 114 = .ok (.iconst 1, 1) := by decide +kernel
theorem dX12_ship_115 : decode cX12_ship 115 = .ok (.iadd, 1) := by decide +kernel
theorem dX12_ship_116 : decode cX12_ship 116 = .ok (.putfield 153, 3) := by decide +kernel
theorem dX12_ship_119 : decode cX12_ship 119 = .ok (.aload_n 0, 1) := by decide +kernel
theorem dX12_ship_120 : decode cX12_ship 120 = .ok (.getfield 153, 3) := by decide +kernel
theorem dX12_ship_123 : decode cX12_ship 123 = .ok (.iconst 1, 1) := by decide +kernel
theorem dX12_ship_124 : decode cX12_ship 124 = .ok (.isub, 1) := by decide +kernel
theorem dX12_ship_125 : decode cX12_ship 125 = .ok (.ireturn, 1) := by decide +kernel
theorem dX12_speed_0 : decode cX12_speed 0 = .ok (.aload_n 0, 1) := by decide +kernel
theorem dX12_speed_1 : decode cX12_speed 1 = .ok (.iload_n 1, 1) := by decide +kernel
theorem dX12_speed_2 : decode cX12_speed 2 = .ok (.invokevirtual 163, 3) := by decide +kernel
theorem dX12_speed_5 : decode cX12_speed 5 = .ok (.ifCond .eq 14, 3) := by decide +kernel
theorem dX12_speed_8 : decode cX12_speed 8 = .ok (.iload_n 2, 1) := by decide +kernel
theorem dX12_speed_9 : decode cX12_speed 9 = .ok (.bipush 6, 2) := by decide +kernel
theorem dX12_speed_11 : decode cX12_speed 11 = .ok (.bipush 14, 2) := by decide +kernel
theorem dX12_speed_13 : decode cX12_speed 13 = .ok (.invokestatic 149, 3) := by decide +kernel
theorem dX12_speed_16 : decode cX12_speed 16 = .ok (.ifCond .ne 6, 3) := by decide +kernel
theorem dX12_speed_19 : decode cX12_speed 19 = .ok (.bipush (-2), 2) := by decide +kernel
theorem dX12_speed_21 : decode cX12_speed 21 = .ok (.ireturn, 1) := by decide +kernel
theorem dX12_speed_22 : decode cX12_speed 22 = .ok (.aload_n 0, 1) := by decide +kernel
theorem dX12_speed_23 : decode cX12_speed 23 = .ok (.getfield 34, 3) := by decide +kernel
theorem dX12_speed_26 : decode cX12_speed 26 = .ok (.iload_n 1, 1) := by decide +kernel
theorem dX12_speed_27 : decode cX12_speed 27 = .ok (.iaload, 1) := by decide +kernel
theorem dX12_speed_28 : decode cX12_speed 28 = .ok (.istore_n 3, 1) := by decide +kernel
theorem dX12_speed_29 : decode cX12_speed 29 = .ok (.aload_n 0, 1) := by decide +kernel
theorem dX12_speed_30 : decode cX12_speed 30 = .ok (.getfield 34, 3) := by decide +kernel
theorem dX12_speed_33 : decode cX12_speed 33 = .ok (.iload_n 1, 1) := by decide +kernel
theorem dX12_speed_34 : decode cX12_speed 34 = .ok (.iload_n 2, 1) := by decide +kernel
theorem dX12_speed_35 : decode cX12_speed 35 = .ok (.iastore, 1) := by decide +kernel
theorem dX12_speed_36 : decode cX12_speed 36 = .ok (.iload_n 3, 1) := by decide +kernel
theorem dX12_speed_37 : decode cX12_speed 37 = .ok (.ireturn, 1) := by decide +kernel
theorem dX12_free_0 : decode cX12_free 0 = .ok (.aload_n 0, 1) := by decide +kernel
theorem dX12_free_1 : decode cX12_free 1 = .ok (.iload_n 1, 1) := by decide +kernel
theorem dX12_free_2 : decode cX12_free 2 = .ok (.invokevirtual 163, 3) := by decide +kernel
theorem dX12_free_5 : decode cX12_free 5 = .ok (.ifCond .eq 18, 3) := by decide +kernel
theorem dX12_free_8 : decode cX12_free 8 = .ok (.aload_n 0, 1) := by decide +kernel
theorem dX12_free_9 : decode cX12_free 9 = .ok (.iload_n 2, 1) := by decide +kernel
theorem dX12_free_10 : decode cX12_free 10 = .ok (.invokevirtual 159, 3) := by decide +kernel
theorem dX12_free_13 : decode cX12_free 13 = .ok (.ifCond .eq 10, 3) := by decide +kernel
theorem dX12_free_16 : decode cX12_free 16 = .ok (.iload_n 3, 1) := by decide +kernel
theorem dX12_free_17 : decode cX12_free 17 = .ok (.invokestatic 166, 3) := by decide +kernel
theorem dX12_free_20 : decode cX12_free 20 = .ok (.ifCond .ne 6, 3) := by decide +kernel
theorem dX12_free_23 : decode cX12_free 23 = .ok (.bipush (-2), 2) := by decide +kernel
theorem dX12_free_25 : decode cX12_free 25 = .ok (.ireturn, 1) := by decide +kernel
theorem dX12_free_26 : decode cX12_free 26 = .ok (.aload_n 0, 1) := by decide +kernel
theorem dX12_free_27 : decode cX12_free 27 = .ok (.getfield 19, 3) := by decide +kernel
theorem dX12_free_30 : decode cX12_free 30 = .ok (.iload_n 1, 1) := by decide +kernel
theorem dX12_free_31 : decode cX12_free 31 = .ok (.iload_n 2, 1) := by decide +kernel
theorem dX12_free_32 : decode cX12_free 32 = .ok (.iastore, 1) := by decide +kernel
theorem dX12_free_33 : decode cX12_free 33 = .ok (.aload_n 0, 1) := by decide +kernel
theorem dX12_free_34 : decode cX12_free 34 = .ok (.getfield 22, 3) := by decide +kernel
theorem dX12_free_37 : decode cX12_free 37 = .ok (.iload_n 1, 1) := by decide +kernel
theorem dX12_free_38 : decode cX12_free 38 = .ok (.iload_n 3, 1) := by decide +kernel
theorem dX12_free_39 : decode cX12_free 39 = .ok (.iastore, 1) := by decide +kernel
theorem dX12_free_40 : decode cX12_free 40 = .ok (.iconst 1, 1) := by decide +kernel
theorem dX12_free_41 : decode cX12_free 41 = .ok (.ireturn, 1) := by decide +kernel
theorem dX12_shipTold_0 : decode cX12_shipTold 0 = .ok (.aload_n 0, 1) := by decide +kernel
theorem dX12_shipTold_1 : decode cX12_shipTold 1 = .ok (.iload_n 1, 1) := by decide +kernel
theorem dX12_shipTold_2 : decode cX12_shipTold 2 = .ok (.invokevirtual 163, 3) := by decide +kernel
theorem dX12_shipTold_5 : decode cX12_shipTold 5 = .ok (.ifCond .ne 6, 3) := by decide +kernel
theorem dX12_shipTold_8 : decode cX12_shipTold 8 = .ok (.bipush (-2), 2) := by decide +kernel
theorem dX12_shipTold_10 : decode cX12_shipTold 10 = .ok (.ireturn, 1) := by decide +kernel
theorem dX12_shipTold_11 : decode cX12_shipTold 11 = .ok (.iload_n 2, 1) := by decide +kernel
theorem dX12_shipTold_12 : decode cX12_shipTold 12 = .ok (.tableswitch 93 0 6 #[44, 51, 58, 65, 72, 79, 86], 44) := by decide +kernel
theorem dX12_shipTold_56 : decode cX12_shipTold 56 = .ok (.aload_n 0, 1) := by decide +kernel
theorem dX12_shipTold_57 : decode cX12_shipTold 57 = .ok (.getfield 19, 3) := by decide +kernel
theorem dX12_shipTold_60 : decode cX12_shipTold 60 = .ok (.iload_n 1, 1) := by decide +kernel
theorem dX12_shipTold_61 : decode cX12_shipTold 61 = .ok (.iaload, 1) := by decide +kernel
theorem dX12_shipTold_62 : decode cX12_shipTold 62 = .ok (.ireturn, 1) := by decide +kernel
theorem dX12_shipTold_63 : decode cX12_shipTold 63 = .ok (.aload_n 0, 1) := by decide +kernel
theorem dX12_shipTold_64 : decode cX12_shipTold 64 = .ok (.getfield 22, 3) := by decide +kernel
theorem dX12_shipTold_67 : decode cX12_shipTold 67 = .ok (.iload_n 1, 1) := by decide +kernel
theorem dX12_shipTold_68 : decode cX12_shipTold 68 = .ok (.iaload, 1) := by decide +kernel
theorem dX12_shipTold_69 : decode cX12_shipTold 69 = .ok (.ireturn, 1) := by decide +kernel
theorem dX12_shipTold_70 : decode cX12_shipTold 70 = .ok (.aload_n 0, 1) := by decide +kernel
theorem dX12_shipTold_71 : decode cX12_shipTold 71 = .ok (.getfield 25, 3) := by decide +kernel
theorem dX12_shipTold_74 : decode cX12_shipTold 74 = .ok (.iload_n 1, 1) := by decide +kernel
theorem dX12_shipTold_75 : decode cX12_shipTold 75 = .ok (.iaload, 1) := by decide +kernel
theorem dX12_shipTold_76 : decode cX12_shipTold 76 = .ok (.ireturn, 1) := by decide +kernel
theorem dX12_shipTold_77 : decode cX12_shipTold 77 = .ok (.aload_n 0, 1) := by decide +kernel
theorem dX12_shipTold_78 : decode cX12_shipTold 78 = .ok (.getfield 28, 3) := by decide +kernel
theorem dX12_shipTold_81 : decode cX12_shipTold 81 = .ok (.iload_n 1, 1) := by decide +kernel
theorem dX12_shipTold_82 : decode cX12_shipTold 82 = .ok (.iaload, 1) := by decide +kernel
theorem dX12_shipTold_83 : decode cX12_shipTold 83 = .ok (.ireturn, 1) := by decide +kernel
theorem dX12_shipTold_84 : decode cX12_shipTold 84 = .ok (.aload_n 0, 1) := by decide +kernel
theorem dX12_shipTold_85 : decode cX12_shipTold 85 = .ok (.getfield 31, 3) := by decide +kernel
theorem dX12_shipTold_88 : decode cX12_shipTold 88 = .ok (.iload_n 1, 1) := by decide +kernel
theorem dX12_shipTold_89 : decode cX12_shipTold 89 = .ok (.iaload, 1) := by decide +kernel
theorem dX12_shipTold_90 : decode cX12_shipTold 90 = .ok (.ireturn, 1) := by decide +kernel
theorem dX12_shipTold_91 : decode cX12_shipTold 91 = .ok (.aload_n 0, 1) := by decide +kernel
theorem dX12_shipTold_92 : decode cX12_shipTold 92 = .ok (.getfield 34, 3) := by decide +kernel
theorem dX12_shipTold_95 : decode cX12_shipTold 95 = .ok (.iload_n 1, 1) := by decide +kernel
theorem dX12_shipTold_96 : decode cX12_shipTold 96 = .ok (.iaload, 1) := by decide +kernel
theorem dX12_shipTold_97 : decode cX12_shipTold 97 = .ok (.ireturn, 1) := by decide +kernel
theorem dX12_shipTold_98 : decode cX12_shipTold 98 = .ok (.aload_n 0, 1) := by decide +kernel
theorem dX12_shipTold_99 : decode cX12_shipTold 99 = .ok (.getfield 37, 3) := by decide +kernel
theorem dX12_shipTold_102 : decode cX12_shipTold 102 = .ok (.iload_n 1, 1) := by decide +kernel
theorem dX12_shipTold_103 : decode cX12_shipTold 103 = .ok (.iaload, 1) := by decide +kernel
theorem dX12_shipTold_104 : decode cX12_shipTold 104 = .ok (.ireturn, 1) := by decide +kernel
theorem dX12_shipTold_105 : decode cX12_shipTold 105 = .ok (.bipush (-2), 2) := by decide +kernel
theorem dX12_shipTold_107 : decode cX12_shipTold 107 = .ok (.ireturn, 1) := by decide +kernel
theorem dX12_up_0 : decode cX12_up 0 = .ok (.iload_n 0, 1) := by decide +kernel
theorem dX12_up_1 : decode cX12_up 1 = .ok (.iload_n 1, 1) := by decide +kernel
theorem dX12_up_2 : decode cX12_up 2 = .ok (.iadd, 1) := by decide +kernel
theorem dX12_up_3 : decode cX12_up 3 = .ok (.iconst 1, 1) := by decide +kernel
theorem dX12_up_4 : decode cX12_up 4 = .ok (.isub, 1) := by decide +kernel
theorem dX12_up_5 : decode cX12_up 5 = .ok (.iload_n 1, 1) := by decide +kernel
theorem dX12_up_6 : decode cX12_up 6 = .ok (.idiv, 1) := by decide +kernel
theorem dX12_up_7 : decode cX12_up 7 = .ok (.ireturn, 1) := by decide +kernel
theorem dX12_lacks_0 : decode cX12_lacks 0 = .ok (.iload_n 1, 1) := by decide +kernel
theorem dX12_lacks_1 : decode cX12_lacks 1 = .ok (.iload_n 2, 1) := by decide +kernel
theorem dX12_lacks_2 : decode cX12_lacks 2 = .ok (.if_icmp .eq 21, 3) := by decide +kernel
theorem dX12_lacks_5 : decode cX12_lacks 5 = .ok (.aload_n 0, 1) := by decide +kernel
theorem dX12_lacks_6 : decode cX12_lacks 6 = .ok (.getfield 16, 3) := by decide +kernel
theorem dX12_lacks_9 : decode cX12_lacks 9 = .ok (.bipush 8, 2) := by decide +kernel
theorem dX12_lacks_11 : decode cX12_lacks 11 = .ok (.iload_n 1, 1) := by decide +kernel
theorem dX12_lacks_12 : decode cX12_lacks 12 = .ok (.imul, 1) := by decide +kernel
theorem dX12_lacks_13 : decode cX12_lacks 13 = .ok (.iload_n 2, 1) := by decide +kernel
theorem dX12_lacks_14 : decode cX12_lacks 14 = .ok (.iadd, 1) := by decide +kernel
theorem dX12_lacks_15 : decode cX12_lacks 15 = .ok (.iaload, 1) := by decide +kernel
theorem dX12_lacks_16 : decode cX12_lacks 16 = .ok (.ifCond .ne 7, 3) := by decide +kernel
theorem dX12_lacks_19 : decode cX12_lacks 19 = .ok (.iconst 1, 1) := by decide +kernel
theorem dX12_lacks_20 : decode cX12_lacks 20 = .ok (.goto 4, 3) := by decide +kernel
theorem dX12_lacks_23 : decode cX12_lacks 23 = .ok (.iconst 0, 1) := by decide +kernel
theorem dX12_lacks_24 : decode cX12_lacks 24 = .ok (.ireturn, 1) := by decide +kernel
theorem dX12_hours_0 : decode cX12_hours 0 = .ok (.aload_n 0, 1) := by decide +kernel
theorem dX12_hours_1 : decode cX12_hours 1 = .ok (.getfield 16, 3) := by decide +kernel
theorem dX12_hours_4 : decode cX12_hours 4 = .ok (.bipush 8, 2) := by decide +kernel
theorem dX12_hours_6 : decode cX12_hours 6 = .ok (.iload_n 2, 1) := by decide +kernel
theorem dX12_hours_7 : decode cX12_hours 7 = .ok (.imul, 1) := by decide +kernel
theorem dX12_hours_8 : decode cX12_hours 8 = .ok (.iload_n 3, 1) := by decide +kernel
theorem dX12_hours_9 : decode cX12_hours 9 = .ok (.iadd, 1) := by decide +kernel
theorem dX12_hours_10 : decode cX12_hours 10 = .ok (.iaload, 1) := by decide +kernel
theorem dX12_hours_11 : decode cX12_hours 11 = .ok (.aload_n 0, 1) := by decide +kernel
theorem dX12_hours_12 : decode cX12_hours 12 = .ok (.getfield 34, 3) := by decide +kernel
theorem dX12_hours_15 : decode cX12_hours 15 = .ok (.iload_n 1, 1) := by decide +kernel
theorem dX12_hours_16 : decode cX12_hours 16 = .ok (.iaload, 1) := by decide +kernel
theorem dX12_hours_17 : decode cX12_hours 17 = .ok (.invokestatic 169, 3) := by decide +kernel
theorem dX12_hours_20 : decode cX12_hours 20 = .ok (.ireturn, 1) := by decide +kernel
theorem dX12_burns_0 : decode cX12_burns 0 = .ok (.aload_n 0, 1) := by decide +kernel
theorem dX12_burns_1 : decode cX12_burns 1 = .ok (.getfield 34, 3) := by decide +kernel
theorem dX12_burns_4 : decode cX12_burns 4 = .ok (.iload_n 1, 1) := by decide +kernel
theorem dX12_burns_5 : decode cX12_burns 5 = .ok (.iaload, 1) := by decide +kernel
theorem dX12_burns_6 : decode cX12_burns 6 = .ok (.istore 4, 2) := by decide +kernel
theorem dX12_burns_8 : decode cX12_burns 8 = .ok (.aload_n 0, 1) := by decide +kernel
theorem dX12_burns_9 : decode cX12_burns 9 = .ok (.iload_n 1, 1) := by decide +kernel
theorem dX12_burns_10 : decode cX12_burns 10 = .ok (.iload_n 2, 1) := by decide +kernel
theorem dX12_burns_11 : decode cX12_burns 11 = .ok (.iload_n 3, 1) := by decide +kernel
theorem dX12_burns_12 : decode cX12_burns 12 = .ok (.invokevirtual 173, 3) := by decide +kernel
theorem dX12_burns_15 : decode cX12_burns 15 = .ok (.aload_n 0, 1) := by decide +kernel
theorem dX12_burns_16 : decode cX12_burns 16 = .ok (.getfield 31, 3) := by decide +kernel
theorem dX12_burns_19 : decode cX12_burns 19 = .ok (.iload_n 1, 1) := by decide +kernel
theorem dX12_burns_20 : decode cX12_burns 20 = .ok (.iaload, 1) := by decide +kernel
theorem dX12_burns_21 : decode cX12_burns 21 = .ok (.iload 4, 2) := by decide +kernel
theorem dX12_burns_23 : decode cX12_burns 23 = .ok (.iload 4, 2) := by decide +kernel
theorem dX12_burns_25 : decode cX12_burns 25 = .ok (.imul, 1) := by decide +kernel
theorem dX12_burns_26 : decode cX12_burns 26 = .ok (.iload 4, 2) := by decide +kernel
theorem dX12_burns_28 : decode cX12_burns 28 = .ok (.imul, 1) := by decide +kernel
theorem dX12_burns_29 : decode cX12_burns 29 = .ok (.bipush 100, 2) := by decide +kernel
theorem dX12_burns_31 : decode cX12_burns 31 = .ok (.idiv, 1) := by decide +kernel
theorem dX12_burns_32 : decode cX12_burns 32 = .ok (.iadd, 1) := by decide +kernel
theorem dX12_burns_33 : decode cX12_burns 33 = .ok (.imul, 1) := by decide +kernel
theorem dX12_burns_34 : decode cX12_burns 34 = .ok (.bipush 24, 2) := by decide +kernel
theorem dX12_burns_36 : decode cX12_burns 36 = .ok (.invokestatic 169, 3) := by decide +kernel
theorem dX12_burns_39 : decode cX12_burns 39 = .ok (.ireturn, 1) := by decide +kernel
theorem dX12_offer_0 : decode cX12_offer 0 = .ok (.aload_n 0, 1) := by decide +kernel
theorem dX12_offer_1 : decode cX12_offer 1 = .ok (.iload_n 1, 1) := by decide +kernel
theorem dX12_offer_2 : decode cX12_offer 2 = .ok (.invokevirtual 159, 3) := by decide +kernel
theorem dX12_offer_5 : decode cX12_offer 5 = .ok (.ifCond .eq 43, 3) := by decide +kernel
theorem dX12_offer_8 : decode cX12_offer 8 = .ok (.aload_n 0, 1) := by decide +kernel
theorem dX12_offer_9 : decode cX12_offer 9 = .ok (.iload_n 2, 1) := by decide +kernel
theorem dX12_offer_10 : decode cX12_offer 10 = .ok (.invokevirtual 159, 3) := by decide +kernel
theorem dX12_offer_13 : decode cX12_offer 13 = .ok (.ifCond .eq 35, 3) := by decide +kernel
theorem dX12_offer_16 : decode cX12_offer 16 = .ok (.iload_n 1, 1) := by decide +kernel
theorem dX12_offer_17 : decode cX12_offer 17 = .ok (.iload_n 2, 1) := by decide +kernel
theorem dX12_offer_18 : decode cX12_offer 18 = .ok (.if_icmp .eq 30, 3) := by decide +kernel
theorem dX12_offer_21 : decode cX12_offer 21 = .ok (.iload_n 3, 1) := by decide +kernel
theorem dX12_offer_22 : decode cX12_offer 22 = .ok (.iconst 1, 1) := by decide +kernel
theorem dX12_offer_23 : decode cX12_offer 23 = .ok (.sipush 9999, 3) := by decide +kernel
theorem dX12_offer_26 : decode cX12_offer 26 = .ok (.invokestatic 149, 3) := by decide +kernel
theorem dX12_offer_29 : decode cX12_offer 29 = .ok (.ifCond .eq 19, 3) := by decide +kernel
theorem dX12_offer_32 : decode cX12_offer 32 = .ok (.iload 4, 2) := by decide +kernel
theorem dX12_offer_34 : decode cX12_offer 34 = .ok (.iconst 0, 1) := by decide +kernel
theorem dX12_offer_35 : decode cX12_offer 35 = .ok (.sipush 9999, 3) := by decide +kernel
theorem dX12_offer_38 : decode cX12_offer 38 = .ok (.invokestatic 149, 3) := by decide +kernel
theorem dX12_offer_41 : decode cX12_offer 41 = .ok (.ifCond .eq 7, 3) := by decide +kernel
theorem dX12_offer_44 : decode cX12_offer 44 = .ok (.iconst 1, 1) := by decide +kernel
theorem dX12_offer_45 : decode cX12_offer 45 = .ok (.goto 4, 3) := by decide +kernel
theorem dX12_offer_48 : decode cX12_offer 48 = .ok (.iconst 0, 1) := by decide +kernel
theorem dX12_offer_49 : decode cX12_offer 49 = .ok (.istore 7, 2) := by decide +kernel
theorem dX12_offer_51 : decode cX12_offer 51 = .ok (.iload 7, 2) := by decide +kernel
theorem dX12_offer_53 : decode cX12_offer 53 = .ok (.ifCond .eq 26, 3) := by decide +kernel
theorem dX12_offer_56 : decode cX12_offer 56 = .ok (.iload 5, 2) := by decide +kernel
theorem dX12_offer_58 : decode cX12_offer 58 = .ok (.invokestatic 166, 3) := by decide +kernel
theorem dX12_offer_61 : decode cX12_offer 61 = .ok (.ifCond .eq 18, 3) := by decide +kernel
theorem dX12_offer_64 : decode cX12_offer 64 = .ok (.iload 6, 2) := by decide +kernel
theorem dX12_offer_66 : decode cX12_offer 66 = .ok (.invokestatic 166, 3) := by decide +kernel
theorem dX12_offer_69 : decode cX12_offer 69 = .ok (.ifCond .eq 10, 3) := by decide +kernel
theorem dX12_offer_72 : decode cX12_offer 72 = .ok (.iload 5, 2) := by decide +kernel
theorem dX12_offer_74 : decode cX12_offer 74 = .ok (.iload 6, 2) := by decide +kernel
theorem dX12_offer_76 : decode cX12_offer 76 = .ok (.if_icmp .le 6, 3) := by decide +kernel
theorem dX12_offer_79 : decode cX12_offer 79 = .ok (.bipush (-2), 2) := by decide +kernel
theorem dX12_offer_81 : decode cX12_offer 81 = .ok (.ireturn, 1) := by decide +kernel
theorem dX12_offer_82 : decode cX12_offer 82 = .ok (.aload_n 0, 1) := by decide +kernel
theorem dX12_offer_83 : decode cX12_offer 83 = .ok (.getfield 156, 3) := by decide +kernel
theorem dX12_offer_86 : decode cX12_offer 86 = .ok (.bipush 10, 2) := by decide +kernel
theorem dX12_offer_88 : decode cX12_offer 88 = .ok (.if_icmp .ne 6, 3) := by decide +kernel
theorem dX12_offer_91 : decode cX12_offer 91 = .ok (.bipush (-4), 2) := by decide +kernel
theorem dX12_offer_93 : decode cX12_offer 93 = .ok (.ireturn, 1) := by decide +kernel
theorem dX12_offer_94 : decode cX12_offer 94 = .ok (.aload_n 0, 1) := by decide +kernel
theorem dX12_offer_95 : decode cX12_offer 95 = .ok (.getfield 44, 3) := by decide +kernel
theorem dX12_offer_98 : decode cX12_offer 98 = .ok (.aload_n 0, 1) := by decide +kernel
theorem dX12_offer_99 : decode cX12_offer 99 = .ok (.getfield 156, 3) := by decide +kernel
theorem dX12_offer_102 : decode cX12_offer 102 = .ok (.iload_n 1, 1) := by decide +kernel
theorem dX12_offer_103 : decode cX12_offer 103 = .ok (.iastore, 1) := by decide +kernel
theorem dX12_offer_104 : decode cX12_offer 104 = .ok (.aload_n 0, 1) := by decide +kernel
theorem dX12_offer_105 : decode cX12_offer 105 = .ok (.getfield 47, 3) := by decide +kernel
theorem dX12_offer_108 : decode cX12_offer 108 = .ok (.aload_n 0, 1) := by decide +kernel
theorem dX12_offer_109 : decode cX12_offer 109 = .ok (.getfield 156, 3) := by decide +kernel
theorem dX12_offer_112 : decode cX12_offer 112 = .ok (.iload_n 2, 1) := by decide +kernel
theorem dX12_offer_113 : decode cX12_offer 113 = .ok (.iastore, 1) := by decide +kernel
theorem dX12_offer_114 : decode cX12_offer 114 = .ok (.aload_n 0, 1) := by decide +kernel
theorem dX12_offer_115 : decode cX12_offer 115 = .ok (.getfield 50, 3) := by decide +kernel
theorem dX12_offer_118 : decode cX12_offer 118 = .ok (.aload_n 0, 1) := by decide +kernel
theorem dX12_offer_119 : decode cX12_offer 119 = .ok (.getfield 156, 3) := by decide +kernel
theorem dX12_offer_122 : decode cX12_offer 122 = .ok (.iload_n 3, 1) := by decide +kernel
theorem dX12_offer_123 : decode cX12_offer 123 = .ok (.iastore, 1) := by decide +kernel
theorem dX12_offer_124 : decode cX12_offer 124 = .ok (.aload_n 0, 1) := by decide +kernel
theorem dX12_offer_125 : decode cX12_offer 125 = .ok (.getfield 53, 3) := by decide +kernel
theorem dX12_offer_128 : decode cX12_offer 128 = .ok (.aload_n 0, 1) := by decide +kernel
theorem dX12_offer_129 : decode cX12_offer 129 = .ok (.getfield 156, 3) := by decide +kernel
theorem dX12_offer_132 : decode cX12_offer 132 = .ok (.iload 4, 2) := by decide +kernel
theorem dX12_offer_134 : decode cX12_offer 134 = .ok (.iastore, 1) := by decide +kernel
theorem dX12_offer_135 : decode cX12_offer 135 = .ok (.aload_n 0, 1) := by decide +kernel
theorem dX12_offer_136 : decode cX12_offer 136 = .ok (.getfield 56, 3) := by decide +kernel
theorem dX12_offer_139 : decode cX12_offer 139 = .ok (.aload_n 0, 1) := by decide +kernel
theorem dX12_offer_140 : decode cX12_offer 140 = .ok (.getfield 156, 3) := by decide +kernel
theorem dX12_offer_143 : decode cX12_offer 143 = .ok (.iload 5, 2) := by decide +kernel
theorem dX12_offer_145 : decode cX12_offer 145 = .ok (.iastore, 1) := by decide +kernel
theorem dX12_offer_146 : decode cX12_offer 146 = .ok (.aload_n 0, 1) := by decide +kernel
theorem dX12_offer_147 : decode cX12_offer 147 = .ok (.getfield 59, 3) := by decide +kernel
theorem dX12_offer_150 : decode cX12_offer 150 = .ok (.aload_n 0, 1) := by decide +kernel
theorem dX12_offer_151 : decode cX12_offer 151 = .ok (.getfield 156, 3) := by decide +kernel
theorem dX12_offer_154 : decode cX12_offer 154 = .ok (.iload 6, 2) := by decide +kernel
theorem dX12_offer_156 : decode cX12_offer 156 = .ok (.iastore, 1) := by decide +kernel
theorem dX12_offer_157 : decode cX12_offer 157 = .ok (.aload_n 0, 1) := by decide +kernel
theorem dX12_offer_158 : decode cX12_offer 158 = .ok (.dup, 1) := by decide +kernel
theorem dX12_offer_159 : decode cX12_offer 159 = .ok (.getfield 156, 3) := by decide +kernel
theorem dX12_offer_162 : decode cX12_offer 162 = .ok (.iconst 1, 1) := by decide +kernel
theorem dX12_offer_163 : decode cX12_offer 163 = .ok (.iadd, 1) := by decide +kernel
theorem dX12_offer_164 : decode cX12_offer 164 = .ok (.putfield 156, 3) := by decide +kernel
theorem dX12_offer_167 : decode cX12_offer 167 = .ok (.aload_n 0, 1) := by decide +kernel
theorem dX12_offer_168 : decode cX12_offer 168 = .ok (.getfield 156, 3) := by decide +kernel
theorem dX12_offer_171 : decode cX12_offer 171 = .ok (.iconst 1, 1) := by decide +kernel
theorem dX12_offer_172 : decode cX12_offer 172 = .ok (.isub, 1) := by decide +kernel
