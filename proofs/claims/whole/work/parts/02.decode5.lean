theorem dX12_spelled_114 : decode cX12_spelled 114 = .ok (.ifCond .eq 40, 3) := by decide +kernel
theorem dX12_spelled_117 : decode cX12_spelled 117 = .ok (.aload_n 0, 1) := by decide +kernel
theorem dX12_spelled_118 : decode cX12_spelled 118 = .ok (.aload_n 0, 1) := by decide +kernel
theorem dX12_spelled_119 : decode cX12_spelled 119 = .ok (.getfield 246, 3) := by decide +kernel
theorem dX12_spelled_122 : decode cX12_spelled 122 = .ok (.iload_n 2, 1) := by decide +kernel
theorem dX12_spelled_123 : decode cX12_spelled 123 = .ok (.iadd, 1) := by decide +kernel
theorem dX12_spelled_124 : decode cX12_spelled 124 = .ok (.invokevirtual 242, 3) := by decide +kernel
theorem dX12_spelled_127 : decode cX12_spelled 127 = .ok (.aload_n 0, 1) := by decide +kernel
theorem dX12_spelled_128 : decode cX12_spelled 128 = .ok (.getfield 129, 3) := by decide +kernel
theorem dX12_spelled_131 : decode cX12_spelled 131 = .ok (.iload 4, 2) := by decide +kernel
theorem dX12_spelled_133 : decode cX12_spelled 133 = .ok (.iaload, 1) := by decide +kernel
theorem dX12_spelled_134 : decode cX12_spelled 134 = .ok (.if_icmp .ne 20, 3) := by decide +kernel
theorem dX12_spelled_137 : decode cX12_spelled 137 = .ok (.iload_n 2, 1) := by decide +kernel
theorem dX12_spelled_138 : decode cX12_spelled 138 = .ok (.aload_n 0, 1) := by decide +kernel
theorem dX12_spelled_139 : decode cX12_spelled 139 = .ok (.getfield 239, 3) := by decide +kernel
theorem dX12_spelled_142 : decode cX12_spelled 142 = .ok (.aload_n 0, 1) := by decide +kernel
theorem dX12_spelled_143 : decode cX12_spelled 143 = .ok (.getfield 246, 3) := by decide +kernel
theorem dX12_spelled_146 : decode cX12_spelled 146 = .ok (.isub, 1) := by decide +kernel
theorem dX12_spelled_147 : decode cX12_spelled 147 = .ok (.if_icmp .ge 7, 3) := by decide +kernel
theorem dX12_spelled_150 : decode cX12_spelled 150 = .ok (.iconst 1, 1) := by decide +kernel
theorem dX12_spelled_151 : decode cX12_spelled 151 = .ok (.goto 4, 3) := by decide +kernel
theorem dX12_spelled_154 : decode cX12_spelled 154 = .ok (.iconst 0, 1) := by decide +kernel
theorem dX12_spelled_155 : decode cX12_spelled 155 = .ok (.istore_n 3, 1) := by decide +kernel
theorem dX12_spelled_156 : decode cX12_spelled 156 = .ok (.iinc 2 1, 3) := by decide +kernel
theorem dX12_spelled_159 : decode cX12_spelled 159 = .ok (.iinc 4 1, 3) := by decide +kernel
theorem dX12_spelled_162 : decode cX12_spelled 162 = .ok (.goto (-121), 3) := by decide +kernel
theorem dX12_spelled_165 : decode cX12_spelled 165 = .ok (.return_, 1) := by decide +kernel
theorem dX12_isWrong_0 : decode cX12_isWrong 0 = .ok (.aload_n 0, 1) := by decide +kernel
theorem dX12_isWrong_1 : decode cX12_isWrong 1 = .ok (.getfield 267, 3) := by decide +kernel
theorem dX12_isWrong_4 : decode cX12_isWrong 4 = .ok (.iconst (-1), 1) := by decide +kernel
theorem dX12_isWrong_5 : decode cX12_isWrong 5 = .ok (.if_icmp .eq 7, 3) := by decide +kernel
theorem dX12_isWrong_8 : decode cX12_isWrong 8 = .ok (.iconst 1, 1) := by decide +kernel
theorem dX12_isWrong_9 : decode cX12_isWrong 9 = .ok (.goto 4, 3) := by decide +kernel
theorem dX12_isWrong_12 : decode cX12_isWrong 12 = .ok (.iconst 0, 1) := by decide +kernel
theorem dX12_isWrong_13 : decode cX12_isWrong 13 = .ok (.ireturn, 1) := by decide +kernel
theorem dX12_cannot_0 : decode cX12_cannot 0 = .ok (.aload_n 0, 1) := by decide +kernel
theorem dX12_cannot_1 : decode cX12_cannot 1 = .ok (.aload_n 0, 1) := by decide +kernel
theorem dX12_cannot_2 : decode cX12_cannot 2 = .ok (.getfield 267, 3) := by decide +kernel
theorem dX12_cannot_5 : decode cX12_cannot 5 = .ok (.iconst (-1), 1) := by decide +kernel
theorem dX12_cannot_6 : decode cX12_cannot 6 = .ok (.if_icmp .ne 10, 3) := by decide +kernel
theorem dX12_cannot_9 : decode cX12_cannot 9 = .ok (.aload_n 0, 1) := by decide +kernel
theorem dX12_cannot_10 : decode cX12_cannot 10 = .ok (.getfield 246, 3) := by decide +kernel
theorem dX12_cannot_13 : decode cX12_cannot 13 = .ok (.goto 7, 3) := by decide +kernel
theorem dX12_cannot_16 : decode cX12_cannot 16 = .ok (.aload_n 0, 1) := by decide +kernel
theorem dX12_cannot_17 : decode cX12_cannot 17 = .ok (.getfield 267, 3) := by decide +kernel
theorem dX12_cannot_20 : decode cX12_cannot 20 = .ok (.putfield 267, 3) := by decide +kernel
theorem dX12_cannot_23 : decode cX12_cannot 23 = .ok (.return_, 1) := by decide +kernel
theorem dX12_need_0 : decode cX12_need 0 = .ok (.aload_n 0, 1) := by decide +kernel
theorem dX12_need_1 : decode cX12_need 1 = .ok (.invokevirtual 270, 3) := by decide +kernel
theorem dX12_need_4 : decode cX12_need 4 = .ok (.ifCond .eq 4, 3) := by decide +kernel
theorem dX12_need_7 : decode cX12_need 7 = .ok (.return_, 1) := by decide +kernel
theorem dX12_need_8 : decode cX12_need 8 = .ok (.aload_n 0, 1) := by decide +kernel
theorem dX12_need_9 : decode cX12_need 9 = .ok (.getfield 249, 3) := by decide +kernel
theorem dX12_need_12 : decode cX12_need 12 = .ok (.iload_n 1, 1) := by decide +kernel
theorem dX12_need_13 : decode cX12_need 13 = .ok (.if_icmp .eq 10, 3) := by decide +kernel
theorem dX12_need_16 : decode cX12_need 16 = .ok (.aload_n 0, 1) := by decide +kernel
theorem dX12_need_17 : decode cX12_need 17 = .ok (.invokevirtual 274, 3) := by decide +kernel
theorem dX12_need_20 : decode cX12_need 20 = .ok (.goto 7, 3) := by decide +kernel
theorem dX12_need_23 : decode cX12_need 23 = .ok (.aload_n 0, 1) := by decide +kernel
theorem dX12_need_24 : decode cX12_need 24 = .ok (.invokevirtual 277, 3) := by decide +kernel
theorem dX12_need_27 : decode cX12_need 27 = .ok (.return_, 1) := by decide +kernel
theorem dX12_opens_0 : decode cX12_opens 0 = .ok (.aload_n 0, 1) := by decide +kernel
theorem dX12_opens_1 : decode cX12_opens 1 = .ok (.getfield 280, 3) := by decide +kernel
theorem dX12_opens_4 : decode cX12_opens 4 = .ok (.iconst 5, 1) := by decide +kernel
theorem dX12_opens_5 : decode cX12_opens 5 = .ok (.if_icmp .ne 7, 3) := by decide +kernel
theorem dX12_opens_8 : decode cX12_opens 8 = .ok (.aload_n 0, 1) := by decide +kernel
theorem dX12_opens_9 : decode cX12_opens 9 = .ok (.invokevirtual 274, 3) := by decide +kernel
theorem dX12_opens_12 : decode cX12_opens 12 = .ok (.aload_n 0, 1) := by decide +kernel
theorem dX12_opens_13 : decode cX12_opens 13 = .ok (.dup, 1) := by decide +kernel
theorem dX12_opens_14 : decode cX12_opens 14 = .ok (.getfield 280, 3) := by decide +kernel
theorem dX12_opens_17 : decode cX12_opens 17 = .ok (.iconst 1, 1) := by decide +kernel
theorem dX12_opens_18 : decode cX12_opens 18 = .ok (.iadd, 1) := by decide +kernel
theorem dX12_opens_19 : decode cX12_opens 19 = .ok (.putfield 280, 3) := by decide +kernel
theorem dX12_opens_22 : decode cX12_opens 22 = .ok (.aload_n 0, 1) := by decide +kernel
theorem dX12_opens_23 : decode cX12_opens 23 = .ok (.invokevirtual 270, 3) := by decide +kernel
theorem dX12_opens_26 : decode cX12_opens 26 = .ok (.ifCond .ne 7, 3) := by decide +kernel
theorem dX12_opens_29 : decode cX12_opens 29 = .ok (.aload_n 0, 1) := by decide +kernel
theorem dX12_opens_30 : decode cX12_opens 30 = .ok (.invokevirtual 277, 3) := by decide +kernel
theorem dX12_opens_33 : decode cX12_opens 33 = .ok (.return_, 1) := by decide +kernel
theorem dX12_emit_0 : decode cX12_emit 0 = .ok (.aload_n 0, 1) := by decide +kernel
theorem dX12_emit_1 : decode cX12_emit 1 = .ok (.getfield 72, 3) := by decide +kernel
theorem dX12_emit_4 : decode cX12_emit 4 = .ok (.sipush 160, 3) := by decide +kernel
theorem dX12_emit_7 : decode cX12_emit 7 = .ok (.aload_n 0, 1) := by decide +kernel
theorem dX12_emit_8 : decode cX12_emit 8 = .ok (.getfield 283, 3) := by decide +kernel
theorem dX12_emit_11 : decode cX12_emit 11 = .ok (.imul, 1) := by decide +kernel
theorem dX12_emit_12 : decode cX12_emit 12 = .ok (.aload_n 0, 1) := by decide +kernel
theorem dX12_emit_13 : decode cX12_emit 13 = .ok (.getfield 286, 3) := by decide +kernel
theorem dX12_emit_16 : decode cX12_emit 16 = .ok (.iadd, 1) := by decide +kernel
theorem dX12_emit_17 : decode cX12_emit 17 = .ok (.iload_n 1, 1) := by decide +kernel
theorem dX12_emit_18 : decode cX12_emit 18 = .ok (.iastore, 1) := by decide +kernel
theorem dX12_emit_19 : decode cX12_emit 19 = .ok (.aload_n 0, 1) := by decide +kernel
theorem dX12_emit_20 : decode cX12_emit 20 = .ok (.getfield 75, 3) := by decide +kernel
theorem dX12_emit_23 : decode cX12_emit 23 = .ok (.sipush 160, 3) := by decide +kernel
theorem dX12_emit_26 : decode cX12_emit 26 = .ok (.aload_n 0, 1) := by decide +kernel
theorem dX12_emit_27 : decode cX12_emit 27 = .ok (.getfield 283, 3) := by decide +kernel
theorem dX12_emit_30 : decode cX12_emit 30 = .ok (.imul, 1) := by decide +kernel
theorem dX12_emit_31 : decode cX12_emit 31 = .ok (.aload_n 0, 1) := by decide +kernel
theorem dX12_emit_32 : decode cX12_emit 32 = .ok (.getfield 286, 3) := by decide +kernel
theorem dX12_emit_35 : decode cX12_emit 35 = .ok (.iadd, 1) := by decide +kernel
theorem dX12_emit_36 : decode cX12_emit 36 = .ok (.iload_n 2, 1) := by decide +kernel
theorem dX12_emit_37 : decode cX12_emit 37 = .ok (.iastore, 1) := by decide +kernel
theorem dX12_emit_38 : decode cX12_emit 38 = .ok (.aload_n 0, 1) := by decide +kernel
theorem dX12_emit_39 : decode cX12_emit 39 = .ok (.dup, 1) := by decide +kernel
theorem dX12_emit_40 : decode cX12_emit 40 = .ok (.getfield 286, 3) := by decide +kernel
theorem dX12_emit_43 : decode cX12_emit 43 = .ok (.iconst 1, 1) := by decide +kernel
theorem dX12_emit_44 : decode cX12_emit 44 = .ok (.iadd, 1) := by decide +kernel
theorem dX12_emit_45 : decode cX12_emit 45 = .ok (.putfield 286, 3) := by decide +kernel
theorem dX12_emit_48 : decode cX12_emit 48 = .ok (.return_, 1) := by decide +kernel
theorem dX12_reads_0 : decode cX12_reads 0 = .ok (.aload_n 0, 1) := by decide +kernel
theorem dX12_reads_1 : decode cX12_reads 1 = .ok (.iload_n 1, 1) := by decide +kernel
theorem dX12_reads_2 : decode cX12_reads 2 = .ok (.putfield 283, 3) := by decide +kernel
theorem dX12_reads_5 : decode cX12_reads 5 = .ok (.aload_n 0, 1) := by decide +kernel
theorem dX12_reads_6 : decode cX12_reads 6 = .ok (.iconst 0, 1) := by decide +kernel
theorem dX12_reads_7 : decode cX12_reads 7 = .ok (.putfield 239, 3) := by decide +kernel
theorem dX12_reads_10 : decode cX12_reads 10 = .ok (.aload_n 0, 1) := by decide +kernel
theorem dX12_reads_11 : decode cX12_reads 11 = .ok (.iconst (-1), 1) := by decide +kernel
theorem dX12_reads_12 : decode cX12_reads 12 = .ok (.putfield 267, 3) := by decide +kernel
theorem dX12_reads_15 : decode cX12_reads 15 = .ok (.aload_n 0, 1) := by decide +kernel
theorem dX12_reads_16 : decode cX12_reads 16 = .ok (.iconst 0, 1) := by decide +kernel
theorem dX12_reads_17 : decode cX12_reads 17 = .ok (.putfield 280, 3) := by decide +kernel
theorem dX12_reads_20 : decode cX12_reads 20 = .ok (.aload_n 0, 1) := by decide +kernel
theorem dX12_reads_21 : decode cX12_reads 21 = .ok (.iconst 0, 1) := by decide +kernel
theorem dX12_reads_22 : decode cX12_reads 22 = .ok (.putfield 286, 3) := by decide +kernel
theorem dX12_reads_25 : decode cX12_reads 25 = .ok (.aload_n 0, 1) := by decide +kernel
theorem dX12_reads_26 : decode cX12_reads 26 = .ok (.invokevirtual 277, 3) := by decide +kernel
theorem dX12_reads_29 : decode cX12_reads 29 = .ok (.iconst 0, 1) := by decide +kernel
theorem dX12_reads_30 : decode cX12_reads 30 = .ok (.istore_n 2, 1) := by decide +kernel
theorem dX12_reads_31 : decode cX12_reads 31 = .ok (.iload_n 2, 1) := by decide +kernel
theorem dX12_reads_32 : decode cX12_reads 32 = .ok (.iconst 2, 1) := by decide +kernel
theorem dX12_reads_33 : decode cX12_reads 33 = .ok (.if_icmp .ge 42, 3) := by decide +kernel
theorem dX12_reads_36 : decode cX12_reads 36 = .ok (.aload_n 0, 1) := by decide +kernel
theorem dX12_reads_37 : decode cX12_reads 37 = .ok (.getfield 78, 3) := by decide +kernel
theorem dX12_reads_40 : decode cX12_reads 40 = .ok (.iconst 3, 1) := by decide +kernel
theorem dX12_reads_41 : decode cX12_reads 41 = .ok (.iload_n 1, 1) := by decide +kernel
theorem dX12_reads_42 : decode cX12_reads 42 = .ok (.imul, 1) := by decide +kernel
theorem dX12_reads_43 : decode cX12_reads 43 = .ok (.iload_n 2, 1) := by decide +kernel
theorem dX12_reads_44 : decode cX12_reads 44 = .ok (.iadd, 1) := by decide +kernel
theorem dX12_reads_45 : decode cX12_reads 45 = .ok (.aload_n 0, 1) := by decide +kernel
theorem dX12_reads_46 : decode cX12_reads 46 = .ok (.getfield 286, 3) := by decide +kernel
theorem dX12_reads_49 : decode cX12_reads 49 = .ok (.iastore, 1) := by decide +kernel
theorem dX12_reads_50 : decode cX12_reads 50 = .ok (.aload_n 0, 1) := by decide +kernel
theorem dX12_reads_51 : decode cX12_reads 51 = .ok (.sipush 300, 3) := by decide +kernel
theorem dX12_reads_54 : decode cX12_reads 54 = .ok (.iload_n 2, 1) := by decide +kernel
theorem dX12_reads_55 : decode cX12_reads 55 = .ok (.iadd, 1) := by decide +kernel
theorem dX12_reads_56 : decode cX12_reads 56 = .ok (.invokevirtual 289, 3) := by decide +kernel
theorem dX12_reads_59 : decode cX12_reads 59 = .ok (.aload_n 0, 1) := by decide +kernel
theorem dX12_reads_60 : decode cX12_reads 60 = .ok (.invokevirtual 292, 3) := by decide +kernel
theorem dX12_reads_63 : decode cX12_reads 63 = .ok (.aload_n 0, 1) := by decide +kernel
theorem dX12_reads_64 : decode cX12_reads 64 = .ok (.bipush 59, 2) := by decide +kernel
theorem dX12_reads_66 : decode cX12_reads 66 = .ok (.invokevirtual 289, 3) := by decide +kernel
theorem dX12_reads_69 : decode cX12_reads 69 = .ok (.iinc 2 1, 3) := by decide +kernel
theorem dX12_reads_72 : decode cX12_reads 72 = .ok (.goto (-41), 3) := by decide +kernel
theorem dX12_reads_75 : decode cX12_reads 75 = .ok (.aload_n 0, 1) := by decide +kernel
theorem dX12_reads_76 : decode cX12_reads 76 = .ok (.getfield 78, 3) := by decide +kernel
theorem dX12_reads_79 : decode cX12_reads 79 = .ok (.iconst 3, 1) := by decide +kernel
theorem dX12_reads_80 : decode cX12_reads 80 = .ok (.iload_n 1, 1) := by decide +kernel
theorem dX12_reads_81 : decode cX12_reads 81 = .ok (.imul, 1) := by decide +kernel
theorem dX12_reads_82 : decode cX12_reads 82 = .ok (.iconst 2, 1) := by decide +kernel
theorem dX12_reads_83 : decode cX12_reads 83 = .ok (.iadd, 1) := by decide +kernel
theorem dX12_reads_84 : decode cX12_reads 84 = .ok (.aload_n 0, 1) := by decide +kernel
theorem dX12_reads_85 : decode cX12_reads 85 = .ok (.getfield 286, 3) := by decide +kernel
theorem dX12_reads_88 : decode cX12_reads 88 = .ok (.iastore, 1) := by decide +kernel
theorem dX12_reads_89 : decode cX12_reads 89 = .ok (.aload_n 0, 1) := by decide +kernel
theorem dX12_reads_90 : decode cX12_reads 90 = .ok (.iconst 0, 1) := by decide +kernel
theorem dX12_reads_91 : decode cX12_reads 91 = .ok (.invokevirtual 289, 3) := by decide +kernel
theorem dX12_reads_94 : decode cX12_reads 94 = .ok (.return_, 1) := by decide +kernel
theorem dX12_either_0 : decode cX12_either 0 = .ok (.aload_n 0, 1) := by decide +kernel
theorem dX12_either_1 : decode cX12_either 1 = .ok (.invokevirtual 295, 3) := by decide +kernel
theorem dX12_either_4 : decode cX12_either 4 = .ok (.aload_n 0, 1) := by decide +kernel
theorem dX12_either_5 : decode cX12_either 5 = .ok (.invokevirtual 270, 3) := by decide +kernel
theorem dX12_either_8 : decode cX12_either 8 = .ok (.ifCond .ne 30, 3) := by decide +kernel
theorem dX12_either_11 : decode cX12_either 11 = .ok (.aload_n 0, 1) := by decide +kernel
theorem dX12_either_12 : decode cX12_either 12 = .ok (.getfield 249, 3) := by decide +kernel
theorem dX12_either_15 : decode cX12_either 15 = .ok (.sipush 302, 3) := by decide +kernel
theorem dX12_either_18 : decode cX12_either 18 = .ok (.if_icmp .ne 20, 3) := by decide +kernel
theorem dX12_either_21 : decode cX12_either 21 = .ok (.aload_n 0, 1) := by decide +kernel
theorem dX12_either_22 : decode cX12_either 22 = .ok (.invokevirtual 277, 3) := by decide +kernel
theorem dX12_either_25 : decode cX12_either 25 = .ok (.aload_n 0, 1) := by decide +kernel
theorem dX12_either_26 : decode cX12_either 26 = .ok (.invokevirtual 295, 3) := by decide +kernel
theorem dX12_either_29 : decode cX12_either 29 = .ok (.aload_n 0, 1) := by decide +kernel
theorem dX12_either_30 : decode cX12_either 30 = .ok (.iconst 2, 1) := by decide +kernel
theorem dX12_either_31 : decode cX12_either 31 = .ok (.iconst 0, 1) := by decide +kernel
theorem dX12_either_32 : decode cX12_either 32 = .ok (.invokevirtual 298, 3) := by decide +kernel
theorem dX12_either_35 : decode cX12_either 35 = .ok (.goto (-31), 3) := by decide +kernel
theorem dX12_either_38 : decode cX12_either 38 = .ok (.return_, 1) := by decide +kernel
theorem dX12_both_0 : decode cX12_both 0 = .ok (.aload_n 0, 1) := by decide +kernel
theorem dX12_both_1 : decode cX12_both 1 = .ok (.invokevirtual 301, 3) := by decide +kernel
theorem dX12_both_4 : decode cX12_both 4 = .ok (.aload_n 0, 1) := by decide +kernel
theorem dX12_both_5 : decode cX12_both 5 = .ok (.invokevirtual 270, 3) := by decide +kernel
theorem dX12_both_8 : decode cX12_both 8 = .ok (.ifCond .ne 30, 3) := by decide +kernel
theorem dX12_both_11 : decode cX12_both 11 = .ok (.aload_n 0, 1) := by decide +kernel
theorem dX12_both_12 : decode cX12_both 12 = .ok (.getfield 249, 3) := by decide +kernel
theorem dX12_both_15 : decode cX12_both 15 = .ok (.sipush 303, 3) := by decide +kernel
theorem dX12_both_18 : decode cX12_both 18 = .ok (.if_icmp .ne 20, 3) := by decide +kernel
theorem dX12_both_21 : decode cX12_both 21 = .ok (.aload_n 0, 1) := by decide +kernel
theorem dX12_both_22 : decode cX12_both 22 = .ok (.invokevirtual 277, 3) := by decide +kernel
theorem dX12_both_25 : decode cX12_both 25 = .ok (.aload_n 0, 1) := by decide +kernel
theorem dX12_both_26 : decode cX12_both 26 = .ok (.invokevirtual 301, 3) := by decide +kernel
theorem dX12_both_29 : decode cX12_both 29 = .ok (.aload_n 0, 1) := by decide +kernel
theorem dX12_both_30 : decode cX12_both 30 = .ok (.iconst 3, 1) := by decide +kernel
theorem dX12_both_31 : decode cX12_both 31 = .ok (.iconst 0, 1) := by decide +kernel
theorem dX12_both_32 : decode cX12_both 32 = .ok (.invokevirtual 298, 3) := by decide +kernel
theorem dX12_both_35 : decode cX12_both 35 = .ok (.goto (-31), 3) := by decide +kernel
theorem dX12_both_38 : decode cX12_both 38 = .ok (.return_, 1) := by decide +kernel
theorem dX12_not_0 : decode cX12_not 0 = .ok (.aload_n 0, 1) := by decide +kernel
theorem dX12_not_1 : decode cX12_not 1 = .ok (.invokevirtual 270, 3) := by decide +kernel
theorem dX12_not_4 : decode cX12_not 4 = .ok (.ifCond .eq 4, 3) := by decide +kernel
theorem dX12_not_7 : decode cX12_not 7 = .ok (.return_, 1) := by decide +kernel
theorem dX12_not_8 : decode cX12_not 8 = .ok (.aload_n 0, 1) := by decide +kernel
theorem dX12_not_9 : decode cX12_not 9 = .ok (.getfield 249, 3) := by decide +kernel
theorem dX12_not_12 : decode cX12_not 12 = .ok (.sipush 304, 3) := by decide +kernel
theorem dX12_not_15 : decode cX12_not 15 = .ok (.if_icmp .ne 28, 3) := by decide +kernel
theorem dX12_not_18 : decode cX12_not 18 = .ok (.aload_n 0, 1) := by decide +kernel
theorem dX12_not_19 : decode cX12_not 19 = .ok (.invokevirtual 304, 3) := by decide +kernel
theorem dX12_not_22 : decode cX12_not 22 = .ok (.aload_n 0, 1) := by decide +kernel
theorem dX12_not_23 : decode cX12_not 23 = .ok (.invokevirtual 301, 3) := by decide +kernel
theorem dX12_not_26 : decode cX12_not 26 = .ok (.aload_n 0, 1) := by decide +kernel
theorem dX12_not_27 : decode cX12_not 27 = .ok (.dup, 1) := by decide +kernel
theorem dX12_not_28 : decode cX12_not 28 = .ok (.getfield 280, 3) := by decide +kernel
theorem dX12_not_31 : decode cX12_not 31 = .ok (.iconst 1, 1) := by decide +kernel
theorem dX12_not_32 : decode cX12_not 32 = .ok (.isub, 1) := by decide +kernel
theorem dX12_not_33 : decode cX12_not 33 = .ok (.putfield 280, 3) := by decide +kernel
theorem dX12_not_36 : decode cX12_not 36 = .ok (.aload_n 0, 1) := by decide +kernel
theorem dX12_not_37 : decode cX12_not 37 = .ok (.iconst 4, 1) := by decide +kernel
theorem dX12_not_38 : decode cX12_not 38 = .ok (.iconst 0, 1) := by decide +kernel
theorem dX12_not_39 : decode cX12_not 39 = .ok (.invokevirtual 298, 3) := by decide +kernel
theorem dX12_not_42 : decode cX12_not 42 = .ok (.return_, 1) := by decide +kernel
theorem dX12_not_43 : decode cX12_not 43 = .ok (.aload_n 0, 1) := by decide +kernel
theorem dX12_not_44 : decode cX12_not 44 = .ok (.invokevirtual 307, 3) := by decide +kernel
theorem dX12_not_47 : decode cX12_not 47 = .ok (.aload_n 0, 1) := by decide +kernel
theorem dX12_not_48 : decode cX12_not 48 = .ok (.invokevirtual 270, 3) := by decide +kernel
theorem dX12_not_51 : decode cX12_not 51 = .ok (.ifCond .ne 51, 3) := by decide +kernel
theorem dX12_not_54 : decode cX12_not 54 = .ok (.aload_n 0, 1) := by decide +kernel
theorem dX12_not_55 : decode cX12_not 55 = .ok (.getfield 249, 3) := by decide +kernel
theorem dX12_not_58 : decode cX12_not 58 = .ok (.bipush 60, 2) := by decide +kernel
theorem dX12_not_60 : decode cX12_not 60 = .ok (.if_icmp .eq 12, 3) := by decide +kernel
theorem dX12_not_63 : decode cX12_not 63 = .ok (.aload_n 0, 1) := by decide +kernel
theorem dX12_not_64 : decode cX12_not 64 = .ok (.getfield 249, 3) := by decide +kernel
theorem dX12_not_67 : decode cX12_not 67 = .ok (.bipush 61, 2) := by decide +kernel
theorem dX12_not_69 : decode cX12_not 69 = .ok (.if_icmp .ne 33, 3) := by decide +kernel
theorem dX12_not_72 : decode cX12_not 72 = .ok (.aload_n 0, 1) := by decide +kernel
theorem dX12_not_73 : decode cX12_not 73 = .ok (.getfield 249, 3) := by decide +kernel
theorem dX12_not_76 : decode cX12_not 76 = .ok (.bipush 60, 2) := by decide +kernel
theorem dX12_not_78 : decode cX12_not 78 = .ok (.if_icmp .ne 7, 3) := by decide +kernel
theorem dX12_not_81 : decode cX12_not 81 = .ok (.iconst 5, 1) := by decide +kernel
theorem dX12_not_82 : decode cX12_not 82 = .ok (.goto 5, 3) := by decide +kernel
theorem dX12_not_85 : decode cX12_not 85 = .ok (.bipush 6, 2) := by decide +kernel
theorem dX12_not_87 : decode cX12_not 87 = .ok (.istore_n 1, 1) := by decide +kernel
theorem dX12_not_88 : decode cX12_not 88 = .ok (.aload_n 0, 1) := by decide +kernel
theorem dX12_not_89 : decode cX12_not 89 = .ok (.invokevirtual 277, 3) := by decide +kernel
theorem dX12_not_92 : decode cX12_not 92 = .ok (.aload_n 0, 1) := by decide +kernel
theorem dX12_not_93 : decode cX12_not 93 = .ok (.invokevirtual 307, 3) := by decide +kernel
theorem dX12_not_96 : decode cX12_not 96 = .ok (.aload_n 0, 1) := by decide +kernel
theorem dX12_not_97 : decode cX12_not 97 = .ok (.iload_n 1, 1) := by decide +kernel
theorem dX12_not_98 : decode cX12_not 98 = .ok (.iconst 0, 1) := by decide +kernel
theorem dX12_not_99 : decode cX12_not 99 = .ok (.invokevirtual 298, 3) := by decide +kernel
theorem dX12_not_102 : decode cX12_not 102 = .ok (.return_, 1) := by decide +kernel
theorem dX12_added_0 : decode cX12_added 0 = .ok (.aload_n 0, 1) := by decide +kernel
theorem dX12_added_1 : decode cX12_added 1 = .ok (.invokevirtual 310, 3) := by decide +kernel
theorem dX12_added_4 : decode cX12_added 4 = .ok (.aload_n 0, 1) := by decide +kernel
theorem dX12_added_5 : decode cX12_added 5 = .ok (.invokevirtual 270, 3) := by decide +kernel
theorem dX12_added_8 : decode cX12_added 8 = .ok (.ifCond .ne 55, 3) := by decide +kernel
theorem dX12_added_11 : decode cX12_added 11 = .ok (.aload_n 0, 1) := by decide +kernel
theorem dX12_added_12 : decode cX12_added 12 = .ok (.getfield 249, 3) := by decide +kernel
theorem dX12_added_15 : decode cX12_added 15 = .ok (.bipush 43, 2) := by decide +kernel
theorem dX12_added_17 : decode cX12_added 17 = .ok (.if_icmp .eq 12, 3) := by decide +kernel
theorem dX12_added_20 : decode cX12_added 20 = .ok (.aload_n 0, 1) := by decide +kernel
theorem dX12_added_21 : decode cX12_added 21 = .ok (.getfield 249, 3) := by decide +kernel
theorem dX12_added_24 : decode cX12_added 24 = .ok (.bipush 45, 2) := by decide +kernel
theorem dX12_added_26 : decode cX12_added 26 = .ok (.if_icmp .ne 37, 3) := by decide +kernel
theorem dX12_added_29 : decode cX12_added 29 = .ok (.aload_n 0, 1) := by decide +kernel
theorem dX12_added_30 : decode cX12_added 30 = .ok (.getfield 249, 3) := by decide +kernel
theorem dX12_added_33 : decode cX12_added 33 = .ok (.bipush 43, 2) := by decide +kernel
theorem dX12_added_35 : decode cX12_added 35 = .ok (.if_icmp .ne 8, 3) := by decide +kernel
theorem dX12_added_38 : decode cX12_added 38 = .ok (.bipush 7, 2) := by decide +kernel
theorem dX12_added_40 : decode cX12_added 40 = .ok (.goto 5, 3) := by decide +kernel
theorem dX12_added_43 : decode cX12_added 43 = .ok (.bipush 8, 2) := by decide +kernel
theorem dX12_added_45 : decode cX12_added 45 = .ok (.istore_n 1, 1) := by decide +kernel
theorem dX12_added_46 : decode cX12_added 46 = .ok (.aload_n 0, 1) := by decide +kernel
theorem dX12_added_47 : decode cX12_added 47 = .ok (.invokevirtual 277, 3) := by decide +kernel
theorem dX12_added_50 : decode cX12_added 50 = .ok (.aload_n 0, 1) := by decide +kernel
theorem dX12_added_51 : decode cX12_added 51 = .ok (.invokevirtual 310, 3) := by decide +kernel
theorem dX12_added_54 : decode cX12_added 54 = .ok (.aload_n 0, 1) := by decide +kernel
theorem dX12_added_55 : decode cX12_added 55 = .ok (.iload_n 1, 1) := by decide +kernel
theorem dX12_added_56 : decode cX12_added 56 = .ok (.iconst 0, 1) := by decide +kernel
theorem dX12_added_57 : decode cX12_added 57 = .ok (.invokevirtual 298, 3) := by decide +kernel
theorem dX12_added_60 : decode cX12_added 60 = .ok (.goto (-56), 3) := by decide +kernel
theorem dX12_added_63 : decode cX12_added 63 = .ok (.return_, 1) := by decide +kernel
theorem dX12_term_0 : decode cX12_term 0 = .ok (.aload_n 0, 1) := by decide +kernel
theorem dX12_term_1 : decode cX12_term 1 = .ok (.invokevirtual 313, 3) := by decide +kernel
theorem dX12_term_4 : decode cX12_term 4 = .ok (.aload_n 0, 1) := by decide +kernel
theorem dX12_term_5 : decode cX12_term 5 = .ok (.invokevirtual 270, 3) := by decide +kernel
theorem dX12_term_8 : decode cX12_term 8 = .ok (.ifCond .ne 30, 3) := by decide +kernel
theorem dX12_term_11 : decode cX12_term 11 = .ok (.aload_n 0, 1) := by decide +kernel
theorem dX12_term_12 : decode cX12_term 12 = .ok (.getfield 249, 3) := by decide +kernel
theorem dX12_term_15 : decode cX12_term 15 = .ok (.bipush 42, 2) := by decide +kernel
theorem dX12_term_17 : decode cX12_term 17 = .ok (.if_icmp .ne 21, 3) := by decide +kernel
theorem dX12_term_20 : decode cX12_term 20 = .ok (.aload_n 0, 1) := by decide +kernel
theorem dX12_term_21 : decode cX12_term 21 = .ok (.invokevirtual 277, 3) := by decide +kernel
theorem dX12_term_24 : decode cX12_term 24 = .ok (.aload_n 0, 1) := by decide +kernel
theorem dX12_term_25 : decode cX12_term 25 = .ok (.invokevirtual 313, 3) := by decide +kernel
theorem dX12_term_28 : decode cX12_term 28 = .ok (.aload_n 0, 1) := by decide +kernel
theorem dX12_term_29 : decode cX12_term 29 = .ok (.bipush 9, 2) := by decide +kernel
theorem dX12_term_31 : decode cX12_term 31 = .ok (.iconst 0, 1) := by decide +kernel
theorem dX12_term_32 : decode cX12_term 32 = .ok (.invokevirtual 298, 3) := by decide +kernel
theorem dX12_term_35 : decode cX12_term 35 = .ok (.goto (-31), 3) := by decide +kernel
theorem dX12_term_38 : decode cX12_term 38 = .ok (.return_, 1) := by decide +kernel
theorem dX12_one_0 : decode cX12_one 0 = .ok (.aload_n 0, 1) := by decide +kernel
theorem dX12_one_1 : decode cX12_one 1 = .ok (.invokevirtual 270, 3) := by decide +kernel
theorem dX12_one_4 : decode cX12_one 4 = .ok (.ifCond .eq 4, 3) := by decide +kernel
theorem dX12_one_7 : decode cX12_one 7 = .ok (.return_, 1) := by decide +kernel
theorem dX12_one_8 : decode cX12_one 8 = .ok (.aload_n 0, 1) := by decide +kernel
theorem dX12_one_9 : decode cX12_one 9 = .ok (.getfield 249, 3) := by decide +kernel
theorem dX12_one_12 : decode cX12_one 12 = .ok (.iconst 1, 1) := by decide +kernel
theorem dX12_one_13 : decode cX12_one 13 = .ok (.if_icmp .eq 11, 3) := by decide +kernel
theorem dX12_one_16 : decode cX12_one 16 = .ok (.aload_n 0, 1) := by decide +kernel
theorem dX12_one_17 : decode cX12_one 17 = .ok (.getfield 249, 3) := by decide +kernel
theorem dX12_one_20 : decode cX12_one 20 = .ok (.iconst 3, 1) := by decide +kernel
theorem dX12_one_21 : decode cX12_one 21 = .ok (.if_icmp .ne 31, 3) := by decide +kernel
theorem dX12_one_24 : decode cX12_one 24 = .ok (.aload_n 0, 1) := by decide +kernel
theorem dX12_one_25 : decode cX12_one 25 = .ok (.aload_n 0, 1) := by decide +kernel
theorem dX12_one_26 : decode cX12_one 26 = .ok (.getfield 249, 3) := by decide +kernel
theorem dX12_one_29 : decode cX12_one 29 = .ok (.iconst 1, 1) := by decide +kernel
theorem dX12_one_30 : decode cX12_one 30 = .ok (.if_icmp .ne 7, 3) := by decide +kernel
theorem dX12_one_33 : decode cX12_one 33 = .ok (.iconst 0, 1) := by decide +kernel
theorem dX12_one_34 : decode cX12_one 34 = .ok (.goto 4, 3) := by decide +kernel
theorem dX12_one_37 : decode cX12_one 37 = .ok (.iconst 1, 1) := by decide +kernel
theorem dX12_one_38 : decode cX12_one 38 = .ok (.aload_n 0, 1) := by decide +kernel
theorem dX12_one_39 : decode cX12_one 39 = .ok (.getfield 264, 3) := by decide +kernel
theorem dX12_one_42 : decode cX12_one 42 = .ok (.invokevirtual 298, 3) := by decide +kernel
theorem dX12_one_45 : decode cX12_one 45 = .ok (.aload_n 0, 1) := by decide +kernel
theorem dX12_one_46 : decode cX12_one 46 = .ok (.invokevirtual 277, 3) := by decide +kernel
theorem dX12_one_49 : decode cX12_one 49 = .ok (.goto 80, 3) := by decide +kernel
theorem dX12_one_52 : decode cX12_one 52 = .ok (.aload_n 0, 1) := by decide +kernel
theorem dX12_one_53 : decode cX12_one 53 = .ok (.getfield 249, 3) := by decide +kernel
theorem dX12_one_56 : decode cX12_one 56 = .ok (.bipush 45, 2) := by decide +kernel
theorem dX12_one_58 : decode cX12_one 58 = .ok (.if_icmp .ne 31, 3) := by decide +kernel
theorem dX12_one_61 : decode cX12_one 61 = .ok (.aload_n 0, 1) := by decide +kernel
theorem dX12_one_62 : decode cX12_one 62 = .ok (.invokevirtual 304, 3) := by decide +kernel
theorem dX12_one_65 : decode cX12_one 65 = .ok (.aload_n 0, 1) := by decide +kernel
theorem dX12_one_66 : decode cX12_one 66 = .ok (.invokevirtual 313, 3) := by decide +kernel
theorem dX12_one_69 : decode cX12_one 69 = .ok (.aload_n 0, 1) := by decide +kernel
theorem dX12_one_70 : decode cX12_one 70 = .ok (.dup, 1) := by decide +kernel
theorem dX12_one_71 : decode cX12_one 71 = .ok (.getfield 280, 3) := by decide +kernel
theorem dX12_one_74 : decode cX12_one 74 = .ok (.iconst 1, 1) := by decide +kernel
theorem dX12_one_75 : decode cX12_one 75 = .ok (.isub, 1) := by decide +kernel
theorem dX12_one_76 : decode cX12_one 76 = .ok (.putfield 280, 3) := by decide +kernel
theorem dX12_one_79 : decode cX12_one 79 = .ok (.aload_n 0, 1) := by decide +kernel
theorem dX12_one_80 : decode cX12_one 80 = .ok (.bipush 10, 2) := by decide +kernel
theorem dX12_one_82 : decode cX12_one 82 = .ok (.iconst 0, 1) := by decide +kernel
theorem dX12_one_83 : decode cX12_one 83 = .ok (.invokevirtual 298, 3) := by decide +kernel
theorem dX12_one_86 : decode cX12_one 86 = .ok (.goto 43, 3) := by decide +kernel
theorem dX12_one_89 : decode cX12_one 89 = .ok (.aload_n 0, 1) := by decide +kernel
theorem dX12_one_90 : decode cX12_one 90 = .ok (.getfield 249, 3) := by decide +kernel
theorem dX12_one_93 : decode cX12_one 93 = .ok (.bipush 40, 2) := by decide +kernel
theorem dX12_one_95 : decode cX12_one 95 = .ok (.if_icmp .ne 30, 3) := by decide +kernel
theorem dX12_one_98 : decode cX12_one 98 = .ok (.aload_n 0, 1) := by decide +kernel
theorem dX12_one_99 : decode cX12_one 99 = .ok (.invokevirtual 304, 3) := by decide +kernel
theorem dX12_one_102 : decode cX12_one 102 = .ok (.aload_n 0, 1) := by decide +kernel
theorem dX12_one_103 : decode cX12_one 103 = .ok (.invokevirtual 292, 3) := by decide +kernel
theorem dX12_one_106 : decode cX12_one 106 = .ok (.aload_n 0, 1) := by decide +kernel
theorem dX12_one_107 : decode cX12_one 107 = .ok (.bipush 41, 2) := by decide +kernel
theorem dX12_one_109 : decode cX12_one 109 = .ok (.invokevirtual 289, 3) := by decide +kernel
theorem dX12_one_112 : decode cX12_one 112 = .ok (.aload_n 0, 1) := by decide +kernel
theorem dX12_one_113 : decode cX12_one 113 = .ok (.dup, 1) := by decide +kernel
theorem dX12_one_114 : decode cX12_one 114 = .ok (.getfield 280, 3) := by decide +kernel
theorem dX12_one_117 : decode cX12_one 117 = .ok (.iconst 1, 1) := by decide +kernel
theorem dX12_one_118 : decode cX12_one 118 = .ok (.isub, 1) := by decide +kernel
theorem dX12_one_119 : decode cX12_one 119 = .ok (.putfield 280, 3) := by decide +kernel
theorem dX12_one_122 : decode cX12_one 122 = .ok (.goto 7, 3) := by decide +kernel
theorem dX12_one_125 : decode cX12_one 125 = .ok (.aload_n 0, 1) := by decide +kernel
theorem dX12_one_126 : decode cX12_one 126 = .ok (.invokevirtual 274, 3) := by decide +kernel
theorem dX12_one_129 : decode cX12_one 129 = .ok (.return_, 1) := by decide +kernel
theorem dX12_feed_0 : decode cX12_feed 0 = .ok (.iload_n 1, 1) := by decide +kernel
theorem dX12_feed_1 : decode cX12_feed 1 = .ok (.iconst 1, 1) := by decide +kernel
theorem dX12_feed_2 : decode cX12_feed 2 = .ok (.bipush 8, 2) := by decide +kernel
theorem dX12_feed_4 : decode cX12_feed 4 = .ok (.invokestatic 149, 3) := by decide +kernel
theorem dX12_feed_7 : decode cX12_feed 7 = .ok (.ifCond .ne 6, 3) := by decide +kernel
theorem dX12_feed_10 : decode cX12_feed 10 = .ok (.bipush (-2), 2) := by decide +kernel
theorem dX12_feed_12 : decode cX12_feed 12 = .ok (.ireturn, 1) := by decide +kernel
theorem dX12_feed_13 : decode cX12_feed 13 = .ok (.aload_n 0, 1) := by decide +kernel
theorem dX12_feed_14 : decode cX12_feed 14 = .ok (.getfield 316, 3) := by decide +kernel
theorem dX12_feed_17 : decode cX12_feed 17 = .ok (.iload_n 1, 1) := by decide +kernel
theorem dX12_feed_18 : decode cX12_feed 18 = .ok (.iadd, 1) := by decide +kernel
theorem dX12_feed_19 : decode cX12_feed 19 = .ok (.sipush 160, 3) := by decide +kernel
theorem dX12_feed_22 : decode cX12_feed 22 = .ok (.if_icmp .le 6, 3) := by decide +kernel
theorem dX12_feed_25 : decode cX12_feed 25 = .ok (.bipush (-4), 2) := by decide +kernel
theorem dX12_feed_27 : decode cX12_feed 27 = .ok (.ireturn, 1) := by decide +kernel
theorem dX12_feed_28 : decode cX12_feed 28 = .ok (.iconst 0, 1) := by decide +kernel
theorem dX12_feed_29 : decode cX12_feed 29 = .ok (.istore 4, 2) := by decide +kernel
theorem dX12_feed_31 : decode cX12_feed 31 = .ok (.iload 4, 2) := by decide +kernel
theorem dX12_feed_33 : decode cX12_feed 33 = .ok (.iload_n 1, 1) := by decide +kernel
theorem dX12_feed_34 : decode cX12_feed 34 = .ok (.if_icmp .ge 40, 3) := by decide +kernel
theorem dX12_feed_37 : decode cX12_feed 37 = .ok (.aload_n 0, 1) := by decide +kernel
theorem dX12_feed_38 : decode cX12_feed 38 = .ok (.getfield 69, 3) := by decide +kernel
theorem dX12_feed_41 : decode cX12_feed 41 = .ok (.aload_n 0, 1) := by decide +kernel
theorem dX12_feed_42 : decode cX12_feed 42 = .ok (.getfield 316, 3) := by decide +kernel
theorem dX12_feed_45 : decode cX12_feed 45 = .ok (.lload_n 2, 1) := by decide +kernel
theorem dX12_feed_46 : decode cX12_feed 46 = .ok (.bipush 8, 2) := by decide +kernel
theorem dX12_feed_48 : decode cX12_feed 48 = .ok (.iload 4, 2) := by decide +kernel
theorem dX12_feed_50 : decode cX12_feed 50 = .ok (.imul, 1) := by decide +kernel
theorem dX12_feed_51 : decode cX12_feed 51 = .ok (.lshr, 1) := by decide +kernel
theorem dX12_feed_52 : decode cX12_feed 52 = .ok (.ldc2_w 319, 3) := by decide +kernel
theorem dX12_feed_55 : decode cX12_feed 55 = .ok (.land, 1) := by decide +kernel
theorem dX12_feed_56 : decode cX12_feed 56 = .ok (.l2i, 1) := by decide +kernel
theorem dX12_feed_57 : decode cX12_feed 57 = .ok (.iastore, 1) := by decide +kernel
theorem dX12_feed_58 : decode cX12_feed 58 = .ok (.aload_n 0, 1) := by decide +kernel
theorem dX12_feed_59 : decode cX12_feed 59 = .ok (.dup, 1) := by decide +kernel
theorem dX12_feed_60 : decode cX12_feed 60 = .ok (.getfield 316, 3) := by decide +kernel
theorem dX12_feed_63 : decode cX12_feed 63 = .ok (.iconst 1, 1) := by decide +kernel
theorem dX12_feed_64 : decode cX12_feed 64 = .ok (.iadd, 1) := by decide +kernel
theorem dX12_feed_65 : decode cX12_feed 65 = .ok (.putfield 316, 3) := by decide +kernel
theorem dX12_feed_68 : decode cX12_feed 68 = .ok (.iinc 4 1, 3) := by decide +kernel
theorem dX12_feed_71 : decode cX12_feed 71 = .ok (.goto (-40), 3) := by decide +kernel
theorem dX12_feed_74 : decode cX12_feed 74 = .ok (.aload_n 0, 1) := by decide +kernel
theorem dX12_feed_75 : decode cX12_feed 75 = .ok (.getfield 316, 3) := by decide +kernel
theorem dX12_feed_78 : decode cX12_feed 78 = .ok (.ireturn, 1) := by decide +kernel
theorem dX12_text_0 : decode cX12_text 0 = .ok (.aload_n 0, 1) := by decide +kernel
theorem dX12_text_1 : decode cX12_text 1 = .ok (.getfield 143, 3) := by decide +kernel
theorem dX12_text_4 : decode cX12_text 4 = .ok (.bipush 6, 2) := by decide +kernel
theorem dX12_text_6 : decode cX12_text 6 = .ok (.if_icmp .ne 6, 3) := by decide +kernel
theorem dX12_text_9 : decode cX12_text 9 = .ok (.bipush (-4), 2) := by decide +kernel
theorem dX12_text_11 : decode cX12_text 11 = .ok (.ireturn, 1) := by decide +kernel
theorem dX12_text_12 : decode cX12_text 12 = .ok (.aload_n 0, 1) := by decide +kernel
theorem dX12_text_13 : decode cX12_text 13 = .ok (.aload_n 0, 1) := by decide +kernel
theorem dX12_text_14 : decode cX12_text 14 = .ok (.getfield 316, 3) := by decide +kernel
theorem dX12_text_17 : decode cX12_text 17 = .ok (.putfield 135, 3) := by decide +kernel
theorem dX12_text_20 : decode cX12_text 20 = .ok (.aload_n 0, 1) := by decide +kernel
theorem dX12_text_21 : decode cX12_text 21 = .ok (.iconst 0, 1) := by decide +kernel
theorem dX12_text_22 : decode cX12_text 22 = .ok (.putfield 316, 3) := by decide +kernel
theorem dX12_text_25 : decode cX12_text 25 = .ok (.aload_n 0, 1) := by decide +kernel
theorem dX12_text_26 : decode cX12_text 26 = .ok (.aload_n 0, 1) := by decide +kernel
theorem dX12_text_27 : decode cX12_text 27 = .ok (.getfield 143, 3) := by decide +kernel
theorem dX12_text_30 : decode cX12_text 30 = .ok (.invokevirtual 139, 3) := by decide +kernel
theorem dX12_text_33 : decode cX12_text 33 = .ok (.aload_n 0, 1) := by decide +kernel
theorem dX12_text_34 : decode cX12_text 34 = .ok (.invokevirtual 270, 3) := by decide +kernel
theorem dX12_text_37 : decode cX12_text 37 = .ok (.ifCond .eq 11, 3) := by decide +kernel
theorem dX12_text_40 : decode cX12_text 40 = .ok (.bipush (-100), 2) := by decide +kernel
theorem dX12_text_42 : decode cX12_text 42 = .ok (.aload_n 0, 1) := by decide +kernel
theorem dX12_text_43 : decode cX12_text 43 = .ok (.getfield 267, 3) := by decide +kernel
theorem dX12_text_46 : decode cX12_text 46 = .ok (.isub, 1) := by decide +kernel
theorem dX12_text_47 : decode cX12_text 47 = .ok (.ireturn, 1) := by decide +kernel
theorem dX12_text_48 : decode cX12_text 48 = .ok (.aload_n 0, 1) := by decide +kernel
theorem dX12_text_49 : decode cX12_text 49 = .ok (.dup, 1) := by decide +kernel
theorem dX12_text_50 : decode cX12_text 50 = .ok (.getfield 143, 3) := by decide +kernel
theorem dX12_text_53 : decode cX12_text 53 = .ok (.iconst 1, 1) := by decide +kernel
theorem dX12_text_54 : decode cX12_text 54 = .ok (.iadd, 1) := by decide +kernel
theorem dX12_text_55 : decode cX12_text 55 = .ok (.putfield 143, 3) := by decide +kernel
theorem dX12_text_58 : decode cX12_text 58 = .ok (.aload_n 0, 1) := by decide +kernel
theorem dX12_text_59 : decode cX12_text 59 = .ok (.getfield 143, 3) := by decide +kernel
theorem dX12_text_62 : decode cX12_text 62 = .ok (.iconst 1, 1) := by decide +kernel
theorem dX12_text_63 : decode cX12_text 63 = .ok (.isub, 1) := by decide +kernel
theorem dX12_text_64 : decode cX12_text 64 = .ok (.ireturn, 1) := by decide +kernel
theorem dX12_two_0 : decode cX12_two 0 = .ok (.iload_n 0, 1) := by decide +kernel
theorem dX12_two_1 : decode cX12_two 1 = .ok (.tableswitch 101 2 8 #[43, 57, 101, 71, 82, 93, 97], 43) := by decide +kernel
theorem dX12_two_44 : decode cX12_two 44 = .ok (.iload_n 1, 1) := by decide +kernel
theorem dX12_two_45 : decode cX12_two 45 = .ok (.ifCond .ne 7, 3) := by decide +kernel
theorem dX12_two_48 : decode cX12_two 48 = .ok (.iload_n 2, 1) := by decide +kernel
theorem dX12_two_49 : decode cX12_two 49 = .ok (.ifCond .eq 7, 3) := by decide +kernel
theorem dX12_two_52 : decode cX12_two 52 = .ok (.iconst 1, 1) := by decide +kernel
theorem dX12_two_53 : decode cX12_two 53 = .ok (.goto 4, 3) := by decide +kernel
theorem dX12_two_56 : decode cX12_two 56 = .ok (.iconst 0, 1) := by decide +kernel
theorem dX12_two_57 : decode cX12_two 57 = .ok (.ireturn, 1) := by decide +kernel
theorem dX12_two_58 : decode cX12_two 58 = .ok (.iload_n 1, 1) := by decide +kernel
theorem dX12_two_59 : decode cX12_two 59 = .ok (.ifCond .eq 11, 3) := by decide +kernel
theorem dX12_two_62 : decode cX12_two 62 = .ok (.iload_n 2, 1) := by decide +kernel
theorem dX12_two_63 : decode cX12_two 63 = .ok (.ifCond .eq 7, 3) := by decide +kernel
theorem dX12_two_66 : decode cX12_two 66 = .ok (.iconst 1, 1) := by decide +kernel
theorem dX12_two_67 : decode cX12_two 67 = .ok (.goto 4, 3) := by decide +kernel
theorem dX12_two_70 : decode cX12_two 70 = .ok (.iconst 0, 1) := by decide +kernel
theorem dX12_two_71 : decode cX12_two 71 = .ok (.ireturn, 1) := by decide +kernel
theorem dX12_two_72 : decode cX12_two 72 = .ok (.iload_n 1, 1) := by decide +kernel
theorem dX12_two_73 : decode cX12_two 73 = .ok (.iload_n 2, 1) := by decide +kernel
theorem dX12_two_74 : decode cX12_two 74 = .ok (.if_icmp .ge 7, 3) := by decide +kernel
theorem dX12_two_77 : decode cX12_two 77 = .ok (.iconst 1, 1) := by decide +kernel
theorem dX12_two_78 : decode cX12_two 78 = .ok (.goto 4, 3) := by decide +kernel
theorem dX12_two_81 : decode cX12_two 81 = .ok (.iconst 0, 1) := by decide +kernel
theorem dX12_two_82 : decode cX12_two 82 = .ok (.ireturn, 1) := by decide +kernel
theorem dX12_two_83 : decode cX12_two 83 = .ok (.iload_n 1, 1) := by decide +kernel
theorem dX12_two_84 : decode cX12_two 84 = .ok (.iload_n 2, 1) := by decide +kernel
theorem dX12_two_85 : decode cX12_two 85 = .ok (.if_icmp .ne 7, 3) := by decide +kernel
theorem dX12_two_88 : decode cX12_two 88 = .ok (.iconst 1, 1) := by decide +kernel
theorem dX12_two_89 : decode cX12_two 89 = .ok (.goto 4, 3) := by decide +kernel
theorem dX12_two_92 : decode cX12_two 92 = .ok (.iconst 0, 1) := by decide +kernel
theorem dX12_two_93 : decode cX12_two 93 = .ok (.ireturn, 1) := by decide +kernel
theorem dX12_two_94 : decode cX12_two 94 = .ok (.iload_n 1, 1) := by decide +kernel
theorem dX12_two_95 : decode cX12_two 95 = .ok (.iload_n 2, 1) := by decide +kernel
theorem dX12_two_96 : decode cX12_two 96 = .ok (.iadd, 1) := by decide +kernel
theorem dX12_two_97 : decode cX12_two 97 = .ok (.ireturn, 1) := by decide +kernel
theorem dX12_two_98 : decode cX12_two 98 = .ok (.iload_n 1, 1) := by decide +kernel
theorem dX12_two_99 : decode cX12_two 99 = .ok (.iload_n 2, 1) := by decide +kernel
theorem dX12_two_100 : decode cX12_two 100 = .ok (.isub, 1) := by decide +kernel
theorem dX12_two_101 : decode cX12_two 101 = .ok (.ireturn, 1) := by decide +kernel
theorem dX12_two_102 : decode cX12_two 102 = .ok (.iload_n 1, 1) := by decide +kernel
theorem dX12_two_103 : decode cX12_two 103 = .ok (.iload_n 2, 1) := by decide +kernel
theorem dX12_two_104 : decode cX12_two 104 = .ok (.imul, 1) := by decide +kernel
theorem dX12_two_105 : decode cX12_two 105 = .ok (.ireturn, 1) := by decide +kernel
theorem dX12_named_0 : decode cX12_named 0 = .ok (.iload_n 1, 1) := by decide +kernel
theorem dX12_named_1 : decode cX12_named 1 = .ok (.tableswitch 71 0 3 #[31, 49, 57, 62], 31) := by decide +kernel
theorem dX12_named_32 : decode cX12_named 32 = .ok (.aload_n 0, 1) := by decide +kernel
theorem dX12_named_33 : decode cX12_named 33 = .ok (.getfield 40, 3) := by decide +kernel
theorem dX12_named_36 : decode cX12_named 36 = .ok (.sipush 2000, 3) := by decide +kernel
theorem dX12_named_39 : decode cX12_named 39 = .ok (.aload_n 0, 1) := by decide +kernel
theorem dX12_named_40 : decode cX12_named 40 = .ok (.getfield 84, 3) := by decide +kernel
theorem dX12_named_43 : decode cX12_named 43 = .ok (.iload_n 2, 1) := by decide +kernel
theorem dX12_named_44 : decode cX12_named 44 = .ok (.iaload, 1) := by decide +kernel
theorem dX12_named_45 : decode cX12_named 45 = .ok (.imul, 1) := by decide +kernel
theorem dX12_named_46 : decode cX12_named 46 = .ok (.iload_n 3, 1) := by decide +kernel
theorem dX12_named_47 : decode cX12_named 47 = .ok (.iadd, 1) := by decide +kernel
theorem dX12_named_48 : decode cX12_named 48 = .ok (.baload, 1) := by decide +kernel
theorem dX12_named_49 : decode cX12_named 49 = .ok (.ireturn, 1) := by decide +kernel
theorem dX12_named_50 : decode cX12_named 50 = .ok (.iload_n 3, 1) := by decide +kernel
theorem dX12_named_51 : decode cX12_named 51 = .ok (.bipush 24, 2) := by decide +kernel
theorem dX12_named_53 : decode cX12_named 53 = .ok (.idiv, 1) := by decide +kernel
theorem dX12_named_54 : decode cX12_named 54 = .ok (.bipush 7, 2) := by decide +kernel
theorem dX12_named_56 : decode cX12_named 56 = .ok (.irem, 1) := by decide +kernel
theorem dX12_named_57 : decode cX12_named 57 = .ok (.ireturn, 1) := by decide +kernel
theorem dX12_named_58 : decode cX12_named 58 = .ok (.iload_n 3, 1) := by decide +kernel
theorem dX12_named_59 : decode cX12_named 59 = .ok (.bipush 24, 2) := by decide +kernel
theorem dX12_named_61 : decode cX12_named 61 = .ok (.irem, 1) := by decide +kernel
theorem dX12_named_62 : decode cX12_named 62 = .ok (.ireturn, 1) := by decide +kernel
theorem dX12_named_63 : decode cX12_named 63 = .ok (.iload_n 3, 1) := by decide +kernel
theorem dX12_named_64 : decode cX12_named 64 = .ok (.aload_n 0, 1) := by decide +kernel
theorem dX12_named_65 : decode cX12_named 65 = .ok (.getfield 87, 3) := by decide +kernel
theorem dX12_named_68 : decode cX12_named 68 = .ok (.iload_n 2, 1) := by decide +kernel
theorem dX12_named_69 : decode cX12_named 69 = .ok (.iaload, 1) := by decide +kernel
theorem dX12_named_70 : decode cX12_named 70 = .ok (.isub, 1) := by decide +kernel
theorem dX12_named_71 : decode cX12_named 71 = .ok (.ireturn, 1) := by decide +kernel
theorem dX12_named_72 : decode cX12_named 72 = .ok (.iload 4, 2) := by decide +kernel
theorem dX12_named_74 : decode cX12_named 74 = .ok (.ireturn, 1) := by decide +kernel
theorem dX12_worked_0 : decode cX12_worked 0 = .ok (.aload_n 0, 1) := by decide +kernel
theorem dX12_worked_1 : decode cX12_worked 1 = .ok (.getfield 93, 3) := by decide +kernel
theorem dX12_worked_4 : decode cX12_worked 4 = .ok (.iload_n 2, 1) := by decide +kernel
theorem dX12_worked_5 : decode cX12_worked 5 = .ok (.iaload, 1) := by decide +kernel
theorem dX12_worked_6 : decode cX12_worked 6 = .ok (.istore 5, 2) := by decide +kernel
theorem dX12_worked_8 : decode cX12_worked 8 = .ok (.iconst 0, 1) := by decide +kernel
theorem dX12_worked_9 : decode cX12_worked 9 = .ok (.istore 6, 2) := by decide +kernel
theorem dX12_worked_11 : decode cX12_worked 11 = .ok (.sipush 160, 3) := by decide +kernel
theorem dX12_worked_14 : decode cX12_worked 14 = .ok (.iload 5, 2) := by decide +kernel
theorem dX12_worked_16 : decode cX12_worked 16 = .ok (.imul, 1) := by decide +kernel
theorem dX12_worked_17 : decode cX12_worked 17 = .ok (.aload_n 0, 1) := by decide +kernel
theorem dX12_worked_18 : decode cX12_worked 18 = .ok (.getfield 78, 3) := by decide +kernel
theorem dX12_worked_21 : decode cX12_worked 21 = .ok (.iconst 3, 1) := by decide +kernel
theorem dX12_worked_22 : decode cX12_worked 22 = .ok (.iload 5, 2) := by decide +kernel
theorem dX12_worked_24 : decode cX12_worked 24 = .ok (.imul, 1) := by decide +kernel
theorem dX12_worked_25 : decode cX12_worked 25 = .ok (.iload_n 1, 1) := by decide +kernel
theorem dX12_worked_26 : decode cX12_worked 26 = .ok (.iadd, 1) := by decide +kernel
theorem dX12_worked_27 : decode cX12_worked 27 = .ok (.iaload, 1) := by decide +kernel
theorem dX12_worked_28 : decode cX12_worked 28 = .ok (.iadd, 1) := by decide +kernel
theorem dX12_worked_29 : decode cX12_worked 29 = .ok (.istore 7, 2) := by decide +kernel
theorem dX12_worked_31 : decode cX12_worked 31 = .ok (.iload 7, 2) := by decide +kernel
theorem dX12_worked_33 : decode cX12_worked 33 = .ok (.sipush 160, 3) := by decide +kernel
theorem dX12_worked_36 : decode cX12_worked 36 = .ok (.iload 5, 2) := by decide +kernel
theorem dX12_worked_38 : decode cX12_worked 38 = .ok (.imul, 1) := by decide +kernel
theorem dX12_worked_39 : decode cX12_worked 39 = .ok (.aload_n 0, 1) := by decide +kernel
theorem dX12_worked_40 : decode cX12_worked 40 = .ok (.getfield 78, 3) := by decide +kernel
theorem dX12_worked_43 : decode cX12_worked 43 = .ok (.iconst 3, 1) := by decide +kernel
theorem dX12_worked_44 : decode cX12_worked 44 = .ok (.iload 5, 2) := by decide +kernel
theorem dX12_worked_46 : decode cX12_worked 46 = .ok (.imul, 1) := by decide +kernel
theorem dX12_worked_47 : decode cX12_worked 47 = .ok (.iload_n 1, 1) := by decide +kernel
theorem dX12_worked_48 : decode cX12_worked 48 = .ok (.iadd, 1) := by decide +kernel
theorem dX12_worked_49 : decode cX12_worked 49 = .ok (.iconst 1, 1) := by decide +kernel
theorem dX12_worked_50 : decode cX12_worked 50 = .ok (.iadd, 1) := by decide +kernel
theorem dX12_worked_51 : decode cX12_worked 51 = .ok (.iaload, 1) := by decide +kernel
theorem dX12_worked_52 : decode cX12_worked 52 = .ok (.iadd, 1) := by decide +kernel
theorem dX12_worked_53 : decode cX12_worked 53 = .ok (.if_icmp .ge 169, 3) := by decide +kernel
theorem dX12_worked_56 : decode cX12_worked 56 = .ok (.aload_n 0, 1) := by decide +kernel
theorem dX12_worked_57 : decode cX12_worked 57 = .ok (.getfield 72, 3) := by decide +kernel
theorem dX12_worked_60 : decode cX12_worked 60 = .ok (.iload 7, 2) := by decide +kernel
theorem dX12_worked_62 : decode cX12_worked 62 = .ok (.iaload, 1) := by decide +kernel
theorem dX12_worked_63 : decode cX12_worked 63 = .ok (.istore 8, 2) := by decide +kernel
theorem dX12_worked_65 : decode cX12_worked 65 = .ok (.iload 8, 2) := by decide +kernel
theorem dX12_worked_67 : decode cX12_worked 67 = .ok (.ifCond .eq 9, 3) := by decide +kernel
theorem dX12_worked_70 : decode cX12_worked 70 = .ok (.iload 8, 2) := by decide +kernel
theorem dX12_worked_72 : decode cX12_worked 72 = .ok (.iconst 1, 1) := by decide +kernel
theorem dX12_worked_73 : decode cX12_worked 73 = .ok (.if_icmp .ne 46, 3) := by decide +kernel
theorem dX12_worked_76 : decode cX12_worked 76 = .ok (.aload_n 0, 1) := by decide +kernel
theorem dX12_worked_77 : decode cX12_worked 77 = .ok (.getfield 132, 3) := by decide +kernel
theorem dX12_worked_80 : decode cX12_worked 80 = .ok (.iload 6, 2) := by decide +kernel
theorem dX12_worked_82 : decode cX12_worked 82 = .ok (.iload 8, 2) := by decide +kernel
theorem dX12_worked_84 : decode cX12_worked 84 = .ok (.ifCond .ne 13, 3) := by decide +kernel
theorem dX12_worked_87 : decode cX12_worked 87 = .ok (.aload_n 0, 1) := by decide +kernel
theorem dX12_worked_88 : decode cX12_worked 88 = .ok (.getfield 75, 3) := by decide +kernel
theorem dX12_worked_91 : decode cX12_worked 91 = .ok (.iload 7, 2) := by decide +kernel
theorem dX12_worked_93 : decode cX12_worked 93 = .ok (.iaload, 1) := by decide +kernel
theorem dX12_worked_94 : decode cX12_worked 94 = .ok (.goto 18, 3) := by decide +kernel
theorem dX12_worked_97 : decode cX12_worked 97 = .ok (.aload_n 0, 1) := by decide +kernel
theorem dX12_worked_98 : decode cX12_worked 98 = .ok (.aload_n 0, 1) := by decide +kernel
theorem dX12_worked_99 : decode cX12_worked 99 = .ok (.getfield 75, 3) := by decide +kernel
theorem dX12_worked_102 : decode cX12_worked 102 = .ok (.iload 7, 2) := by decide +kernel
theorem dX12_worked_104 : decode cX12_worked 104 = .ok (.iaload, 1) := by decide +kernel
theorem dX12_worked_105 : decode cX12_worked 105 = .ok (.iload_n 2, 1) := by decide +kernel
theorem dX12_worked_106 : decode cX12_worked 106 = .ok (.iload_n 3, 1) := by decide +kernel
theorem dX12_worked_107 : decode cX12_worked 107 = .ok (.iload 4, 2) := by decide +kernel
theorem dX12_worked_109 : decode cX12_worked 109 = .ok (.invokevirtual 321, 3) := by decide +kernel
theorem dX12_worked_112 : decode cX12_worked 112 = .ok (.iastore, 1) := by decide +kernel
theorem dX12_worked_113 : decode cX12_worked 113 = .ok (.iinc 6 1, 3) := by decide +kernel
theorem dX12_worked_116 : decode cX12_worked 116 = .ok (.goto 100, 3) := by decide +kernel
theorem dX12_worked_119 : decode cX12_worked 119 = .ok (.iload 8, 2) := by decide +kernel
theorem dX12_worked_121 : decode cX12_worked 121 = .ok (.iconst 4, 1) := by decide +kernel
theorem dX12_worked_122 : decode cX12_worked 122 = .ok (.if_icmp .ne 32, 3) := by decide +kernel
theorem dX12_worked_125 : decode cX12_worked 125 = .ok (.aload_n 0, 1) := by decide +kernel
theorem dX12_worked_126 : decode cX12_worked 126 = .ok (.getfield 132, 3) := by decide +kernel
theorem dX12_worked_129 : decode cX12_worked 129 = .ok (.iload 6, 2) := by decide +kernel
theorem dX12_worked_131 : decode cX12_worked 131 = .ok (.iconst 1, 1) := by decide +kernel
theorem dX12_worked_132 : decode cX12_worked 132 = .ok (.isub, 1) := by decide +kernel
theorem dX12_worked_133 : decode cX12_worked 133 = .ok (.aload_n 0, 1) := by decide +kernel
theorem dX12_worked_134 : decode cX12_worked 134 = .ok (.getfield 132, 3) := by decide +kernel
theorem dX12_worked_137 : decode cX12_worked 137 = .ok (.iload 6, 2) := by decide +kernel
theorem dX12_worked_139 : decode cX12_worked 139 = .ok (.iconst 1, 1) := by decide +kernel
theorem dX12_worked_140 : decode cX12_worked 140 = .ok (.isub, 1) := by decide +kernel
theorem dX12_worked_141 : decode cX12_worked 141 = .ok (.iaload, 1) := by decide +kernel
theorem dX12_worked_142 : decode cX12_worked 142 = .ok (.ifCond .ne 7, 3) := by decide +kernel
theorem dX12_worked_145 : decode cX12_worked 145 = .ok (.iconst 1, 1) := by decide +kernel
theorem dX12_worked_146 : decode cX12_worked 146 = .ok (.goto 4, 3) := by decide +kernel
theorem dX12_worked_149 : decode cX12_worked 149 = .ok (.iconst 0, 1) := by decide +kernel
theorem dX12_worked_150 : decode cX12_worked 150 = .ok (.iastore, 1) := by decide +kernel
theorem dX12_worked_151 : decode cX12_worked 151 = .ok (.goto 65, 3) := by decide +kernel
theorem dX12_worked_154 : decode cX12_worked 154 = .ok (.iload 8, 2) := by decide +kernel
theorem dX12_worked_156 : decode cX12_worked 156 = .ok (.bipush 10, 2) := by decide +kernel
theorem dX12_worked_158 : decode cX12_worked 158 = .ok (.if_icmp .ne 25, 3) := by decide +kernel
theorem dX12_worked_161 : decode cX12_worked 161 = .ok (.aload_n 0, 1) := by decide +kernel
theorem dX12_worked_162 : decode cX12_worked 162 = .ok (.getfield 132, 3) := by decide +kernel
theorem dX12_worked_165 : decode cX12_worked 165 = .ok (.iload 6, 2) := by decide +kernel
theorem dX12_worked_167 : decode cX12_worked 167 = .ok (.iconst 1, 1) := by decide +kernel
theorem dX12_worked_168 : decode cX12_worked 168 = .ok (.isub, 1) := by decide +kernel
theorem dX12_worked_169 : decode cX12_worked 169 = .ok (.aload_n 0, 1) := by decide +kernel
theorem dX12_worked_170 : decode cX12_worked 170 = .ok (.getfield 132, 3) := by decide +kernel
theorem dX12_worked_173 : decode cX12_worked 173 = .ok (.iload 6, 2) := by decide +kernel
theorem dX12_worked_175 : decode cX12_worked 175 = .ok (.iconst 1, 1) := by decide +kernel
theorem dX12_worked_176 : decode cX12_worked 176 = .ok (.isub, 1) := by decide +kernel
theorem dX12_worked_177 : decode cX12_worked 177 = .ok (.iaload, 1) := by decide +kernel
theorem dX12_worked_178 : decode cX12_worked 178 = .ok (.ineg, 1) := by decide +kernel
theorem dX12_worked_179 : decode cX12_worked 179 = .ok (.iastore, 1) := by decide +kernel
theorem dX12_worked_180 : decode cX12_worked 180 = .ok (.goto 36, 3) := by decide +kernel
theorem dX12_worked_183 : decode cX12_worked 183 = .ok (.iinc 6 (-1), 3) := by decide +kernel
theorem dX12_worked_186 : decode cX12_worked 186 = .ok (.aload_n 0, 1) := by decide +kernel
theorem dX12_worked_187 : decode cX12_worked 187 = .ok (.getfield 132, 3) := by decide +kernel
theorem dX12_worked_190 : decode cX12_worked 190 = .ok (.iload 6, 2) := by decide +kernel
theorem dX12_worked_192 : decode cX12_worked 192 = .ok (.iconst 1, 1) := by decide +kernel
theorem dX12_worked_193 : decode cX12_worked 193 = .ok (.isub, 1) := by decide +kernel
theorem dX12_worked_194 : decode cX12_worked 194 = .ok (.iload 8, 2) := by decide +kernel
theorem dX12_worked_196 : decode cX12_worked 196 = .ok (.aload_n 0, 1) := by decide +kernel
theorem dX12_worked_197 : decode cX12_worked 197 = .ok (.getfield 132, 3) := by decide +kernel
theorem dX12_worked_200 : decode cX12_worked 200 = .ok (.iload 6, 2) := by decide +kernel
theorem dX12_worked_202 : decode cX12_worked 202 = .ok (.iconst 1, 1) := by decide +kernel
theorem dX12_worked_203 : decode cX12_worked 203 = .ok (.isub, 1) := by decide +kernel
theorem dX12_worked_204 : decode cX12_worked 204 = .ok (.iaload, 1) := by decide +kernel
theorem dX12_worked_205 : decode cX12_worked 205 = .ok (.aload_n 0, 1) := by decide +kernel
theorem dX12_worked_206 : decode cX12_worked 206 = .ok (.getfield 132, 3) := by decide +kernel
theorem dX12_worked_209 : decode cX12_worked 209 = .ok (.iload 6, 2) := by decide +kernel
theorem dX12_worked_211 : decode cX12_worked 211 = .ok (.iaload, 1) := by decide +kernel
theorem dX12_worked_212 : decode cX12_worked 212 = .ok (.invokestatic 324, 3) := by decide +kernel
theorem dX12_worked_215 : decode cX12_worked 215 = .ok (.iastore, 1) := by decide +kernel
theorem dX12_worked_216 : decode cX12_worked 216 = .ok (.iinc 7 1, 3) := by decide +kernel
theorem dX12_worked_219 : decode cX12_worked 219 = .ok (.goto (-188), 3) := by decide +kernel
theorem dX12_worked_222 : decode cX12_worked 222 = .ok (.aload_n 0, 1) := by decide +kernel
theorem dX12_worked_223 : decode cX12_worked 223 = .ok (.getfield 132, 3) := by decide +kernel
theorem dX12_worked_226 : decode cX12_worked 226 = .ok (.iconst 0, 1) := by decide +kernel
theorem dX12_worked_227 : decode cX12_worked 227 = .ok (.iaload, 1) := by decide +kernel
theorem dX12_worked_228 : decode cX12_worked 228 = .ok (.ireturn, 1) := by decide +kernel
theorem dX12_isCharter_0 : decode cX12_isCharter 0 = .ok (.iload_n 1, 1) := by decide +kernel
theorem dX12_isCharter_1 : decode cX12_isCharter 1 = .ok (.iconst 0, 1) := by decide +kernel
theorem dX12_isCharter_2 : decode cX12_isCharter 2 = .ok (.aload_n 0, 1) := by decide +kernel
theorem dX12_isCharter_3 : decode cX12_isCharter 3 = .ok (.getfield 327, 3) := by decide +kernel
theorem dX12_isCharter_6 : decode cX12_isCharter 6 = .ok (.iconst 1, 1) := by decide +kernel
theorem dX12_isCharter_7 : decode cX12_isCharter 7 = .ok (.isub, 1) := by decide +kernel
theorem dX12_isCharter_8 : decode cX12_isCharter 8 = .ok (.invokestatic 149, 3) := by decide +kernel
theorem dX12_isCharter_11 : decode cX12_isCharter 11 = .ok (.ireturn, 1) := by decide +kernel
theorem dX12_has_0 : decode cX12_has 0 = .ok (.aload_n 0, 1) := by decide +kernel
theorem dX12_has_1 : decode cX12_has 1 = .ok (.getfield 84, 3) := by decide +kernel
theorem dX12_has_4 : decode cX12_has 4 = .ok (.iload_n 1, 1) := by decide +kernel
theorem dX12_has_5 : decode cX12_has 5 = .ok (.iaload, 1) := by decide +kernel
theorem dX12_has_6 : decode cX12_has 6 = .ok (.iload_n 2, 1) := by decide +kernel
theorem dX12_has_7 : decode cX12_has 7 = .ok (.if_icmp .ne 36, 3) := by decide +kernel
theorem dX12_has_10 : decode cX12_has 10 = .ok (.aload_n 0, 1) := by decide +kernel
theorem dX12_has_11 : decode cX12_has 11 = .ok (.getfield 105, 3) := by decide +kernel
theorem dX12_has_14 : decode cX12_has 14 = .ok (.iload_n 1, 1) := by decide +kernel
theorem dX12_has_15 : decode cX12_has 15 = .ok (.iaload, 1) := by decide +kernel
theorem dX12_has_16 : decode cX12_has 16 = .ok (.iconst 2, 1) := by decide +kernel
theorem dX12_has_17 : decode cX12_has 17 = .ok (.if_icmp .eq 26, 3) := by decide +kernel
theorem dX12_has_20 : decode cX12_has 20 = .ok (.iload_n 3, 1) := by decide +kernel
theorem dX12_has_21 : decode cX12_has 21 = .ok (.aload_n 0, 1) := by decide +kernel
theorem dX12_has_22 : decode cX12_has 22 = .ok (.getfield 87, 3) := by decide +kernel
theorem dX12_has_25 : decode cX12_has 25 = .ok (.iload_n 1, 1) := by decide +kernel
theorem dX12_has_26 : decode cX12_has 26 = .ok (.iaload, 1) := by decide +kernel
theorem dX12_has_27 : decode cX12_has 27 = .ok (.aload_n 0, 1) := by decide +kernel
theorem dX12_has_28 : decode cX12_has 28 = .ok (.getfield 90, 3) := by decide +kernel
theorem dX12_has_31 : decode cX12_has 31 = .ok (.iload_n 1, 1) := by decide +kernel
theorem dX12_has_32 : decode cX12_has 32 = .ok (.iaload, 1) := by decide +kernel
theorem dX12_has_33 : decode cX12_has 33 = .ok (.invokestatic 149, 3) := by decide +kernel
theorem dX12_has_36 : decode cX12_has 36 = .ok (.ifCond .eq 7, 3) := by decide +kernel
theorem dX12_has_39 : decode cX12_has 39 = .ok (.iconst 1, 1) := by decide +kernel
theorem dX12_has_40 : decode cX12_has 40 = .ok (.goto 4, 3) := by decide +kernel
theorem dX12_has_43 : decode cX12_has 43 = .ok (.iconst 0, 1) := by decide +kernel
theorem dX12_has_44 : decode cX12_has 44 = .ok (.ireturn, 1) := by decide +kernel
theorem dX12_charter_0 : decode cX12_charter 0 = .ok (.iload_n 1, 1) := by decide +kernel
theorem dX12_charter_1 : decode cX12_charter 1 = .ok (.iconst 0, 1) := by decide +kernel
theorem dX12_charter_2 : decode cX12_charter 2 = .ok (.iconst 5, 1) := by decide +kernel
theorem dX12_charter_3 : decode cX12_charter 3 = .ok (.invokestatic 149, 3) := by decide +kernel
theorem dX12_charter_6 : decode cX12_charter 6 = .ok (.ifCond .eq 51, 3) := by decide +kernel
theorem dX12_charter_9 : decode cX12_charter 9 = .ok (.aload_n 0, 1) := by decide +kernel
theorem dX12_charter_10 : decode cX12_charter 10 = .ok (.iload_n 2, 1) := by decide +kernel
theorem dX12_charter_11 : decode cX12_charter 11 = .ok (.invokevirtual 163, 3) := by decide +kernel
theorem dX12_charter_14 : decode cX12_charter 14 = .ok (.ifCond .eq 43, 3) := by decide +kernel
theorem dX12_charter_17 : decode cX12_charter 17 = .ok (.iload_n 3, 1) := by decide +kernel
theorem dX12_charter_18 : decode cX12_charter 18 = .ok (.invokestatic 166, 3) := by decide +kernel
theorem dX12_charter_21 : decode cX12_charter 21 = .ok (.ifCond .eq 36, 3) := by decide +kernel
theorem dX12_charter_24 : decode cX12_charter 24 = .ok (.iload 4, 2) := by decide +kernel
theorem dX12_charter_26 : decode cX12_charter 26 = .ok (.invokestatic 166, 3) := by decide +kernel
theorem dX12_charter_29 : decode cX12_charter 29 = .ok (.ifCond .eq 28, 3) := by decide +kernel
theorem dX12_charter_32 : decode cX12_charter 32 = .ok (.iload_n 3, 1) := by decide +kernel
theorem dX12_charter_33 : decode cX12_charter 33 = .ok (.iload 4, 2) := by decide +kernel
theorem dX12_charter_35 : decode cX12_charter 35 = .ok (.if_icmp .gt 22, 3) := by decide +kernel
theorem dX12_charter_38 : decode cX12_charter 38 = .ok (.iload 5, 2) := by decide +kernel
theorem dX12_charter_40 : decode cX12_charter 40 = .ok (.iconst 0, 1) := by decide +kernel
theorem dX12_charter_41 : decode cX12_charter 41 = .ok (.aload_n 0, 1) := by decide +kernel
theorem dX12_charter_42 : decode cX12_charter 42 = .ok (.getfield 143, 3) := by decide +kernel
theorem dX12_charter_45 : decode cX12_charter 45 = .ok (.iconst 1, 1) := by decide +kernel
theorem dX12_charter_46 : decode cX12_charter 46 = .ok (.isub, 1) := by decide +kernel
theorem dX12_charter_47 : decode cX12_charter 47 = .ok (.invokestatic 149, 3) := by decide +kernel
theorem dX12_charter_50 : decode cX12_charter 50 = .ok (.ifCond .eq 7, 3) := by decide +kernel
theorem dX12_charter_53 : decode cX12_charter 53 = .ok (.iconst 1, 1) := by decide +kernel
theorem dX12_charter_54 : decode cX12_charter 54 = .ok (.goto 4, 3) := by decide +kernel
theorem dX12_charter_57 : decode cX12_charter 57 = .ok (.iconst 0, 1) := by decide +kernel
theorem dX12_charter_58 : decode cX12_charter 58 = .ok (.istore 8, 2) := by decide +kernel
theorem dX12_charter_60 : decode cX12_charter 60 = .ok (.iload 8, 2) := by decide +kernel
theorem dX12_charter_62 : decode cX12_charter 62 = .ok (.ifCond .eq 23, 3) := by decide +kernel
theorem dX12_charter_65 : decode cX12_charter 65 = .ok (.lload 6, 2) := by decide +kernel
theorem dX12_charter_67 : decode cX12_charter 67 = .ok (.lconst 0, 1) := by decide +kernel
theorem dX12_charter_68 : decode cX12_charter 68 = .ok (.lcmp, 1) := by decide +kernel
theorem dX12_charter_69 : decode cX12_charter 69 = .ok (.ifCond .lt 16, 3) := by decide +kernel
theorem dX12_charter_72 : decode cX12_charter 72 = .ok (.lload 6, 2) := by decide +kernel
theorem dX12_charter_74 : decode cX12_charter 74 = .ok (.ldc2_w 330, 3) := by decide +kernel
theorem dX12_charter_77 : decode cX12_charter 77 = .ok (.ldiv, 1) := by decide +kernel
theorem dX12_charter_78 : decode cX12_charter 78 = .ok (.ldc2_w 332, 3) := by decide +kernel
theorem dX12_charter_81 : decode cX12_charter 81 = .ok (.lcmp, 1) := by decide +kernel
theorem dX12_charter_82 : decode cX12_charter 82 = .ok (.ifCond .le 6, 3) := by decide +kernel
theorem dX12_charter_85 : decode cX12_charter 85 = .ok (.bipush (-2), 2) := by decide +kernel
theorem dX12_charter_87 : decode cX12_charter 87 = .ok (.ireturn, 1) := by decide +kernel
theorem dX12_charter_88 : decode cX12_charter 88 = .ok (.iconst 0, 1) := by decide +kernel
theorem dX12_charter_89 : decode cX12_charter 89 = .ok (.istore 9, 2) := by decide +kernel
theorem dX12_charter_91 : decode cX12_charter 91 = .ok (.iload 9, 2) := by decide +kernel
theorem dX12_charter_93 : decode cX12_charter 93 = .ok (.aload_n 0, 1) := by decide +kernel
theorem dX12_charter_94 : decode cX12_charter 94 = .ok (.getfield 327, 3) := by decide +kernel
theorem dX12_charter_97 : decode cX12_charter 97 = .ok (.if_icmp .ge 73, 3) := by decide +kernel
theorem dX12_charter_100 : decode cX12_charter 100 = .ok (.aload_n 0, 1) := by decide +kernel
theorem dX12_charter_101 : decode cX12_charter 101 = .ok (.iload 9, 2) := by decide +kernel
theorem dX12_charter_103 : decode cX12_charter 103 = .ok (.iload_n 2, 1) := by decide +kernel
theorem dX12_charter_104 : decode cX12_charter 104 = .ok (.iload_n 3, 1) := by decide +kernel
theorem dX12_charter_105 : decode cX12_charter 105 = .ok (.invokevirtual 334, 3) := by decide +kernel
theorem dX12_charter_108 : decode cX12_charter 108 = .ok (.ifCond .ne 53, 3) := by decide +kernel
theorem dX12_charter_111 : decode cX12_charter 111 = .ok (.aload_n 0, 1) := by decide +kernel
theorem dX12_charter_112 : decode cX12_charter 112 = .ok (.iload 9, 2) := by decide +kernel
theorem dX12_charter_114 : decode cX12_charter 114 = .ok (.iload_n 2, 1) := by decide +kernel
theorem dX12_charter_115 : decode cX12_charter 115 = .ok (.iload 4, 2) := by decide +kernel
theorem dX12_charter_117 : decode cX12_charter 117 = .ok (.invokevirtual 334, 3) := by decide +kernel
theorem dX12_charter_120 : decode cX12_charter 120 = .ok (.ifCond .ne 41, 3) := by decide +kernel
theorem dX12_charter_123 : decode cX12_charter 123 = .ok (.aload_n 0, 1) := by decide +kernel
theorem dX12_charter_124 : decode cX12_charter 124 = .ok (.getfield 84, 3) := by decide +kernel
theorem dX12_charter_127 : decode cX12_charter 127 = .ok (.iload 9, 2) := by decide +kernel
theorem dX12_charter_129 : decode cX12_charter 129 = .ok (.iaload, 1) := by decide +kernel
theorem dX12_charter_130 : decode cX12_charter 130 = .ok (.iload_n 2, 1) := by decide +kernel
theorem dX12_charter_131 : decode cX12_charter 131 = .ok (.if_icmp .ne 33, 3) := by decide +kernel
theorem dX12_charter_134 : decode cX12_charter 134 = .ok (.aload_n 0, 1) := by decide +kernel
theorem dX12_charter_135 : decode cX12_charter 135 = .ok (.getfield 105, 3) := by decide +kernel
theorem dX12_charter_138 : decode cX12_charter 138 = .ok (.iload 9, 2) := by decide +kernel
theorem dX12_charter_140 : decode cX12_charter 140 = .ok (.iaload, 1) := by decide +kernel
theorem dX12_charter_141 : decode cX12_charter 141 = .ok (.iconst 2, 1) := by decide +kernel
theorem dX12_charter_142 : decode cX12_charter 142 = .ok (.if_icmp .eq 22, 3) := by decide +kernel
theorem dX12_charter_145 : decode cX12_charter 145 = .ok (.aload_n 0, 1) := by decide +kernel
theorem dX12_charter_146 : decode cX12_charter 146 = .ok (.getfield 87, 3) := by decide +kernel
theorem dX12_charter_149 : decode cX12_charter 149 = .ok (.iload 9, 2) := by decide +kernel
theorem dX12_charter_151 : decode cX12_charter 151 = .ok (.iaload, 1) := by decide +kernel
theorem dX12_charter_152 : decode cX12_charter 152 = .ok (.iload_n 3, 1) := by decide +kernel
theorem dX12_charter_153 : decode cX12_charter 153 = .ok (.iload 4, 2) := by decide +kernel
theorem dX12_charter_155 : decode cX12_charter 155 = .ok (.invokestatic 149, 3) := by decide +kernel
theorem dX12_charter_158 : decode cX12_charter 158 = .ok (.ifCond .eq 6, 3) := by decide +kernel
theorem dX12_charter_161 : decode cX12_charter 161 = .ok (.bipush (-3), 2) := by decide +kernel
theorem dX12_charter_163 : decode cX12_charter 163 = .ok (.ireturn, 1) := by decide +kernel
theorem dX12_charter_164 : decode cX12_charter 164 = .ok (.iinc 9 1, 3) := by decide +kernel
theorem dX12_charter_167 : decode cX12_charter 167 = .ok (.goto (-76), 3) := by decide +kernel
theorem dX12_charter_170 : decode cX12_charter 170 = .ok (.aload_n 0, 1) := by decide +kernel
theorem dX12_charter_171 : decode cX12_charter 171 = .ok (.getfield 327, 3) := by decide +kernel
theorem dX12_charter_174 : decode cX12_charter 174 = .ok (.bipush 12, 2) := by decide +kernel
theorem dX12_charter_176 : decode cX12_charter 176 = .ok (.if_icmp .ne 6, 3) := by decide +kernel
theorem dX12_charter_179 : decode cX12_charter 179 = .ok (.bipush (-4), 2) := by decide +kernel
theorem dX12_charter_181 : decode cX12_charter 181 = .ok (.ireturn, 1) := by decide +kernel
theorem dX12_charter_182 : decode cX12_charter 182 = .ok (.aload_n 0, 1) := by decide +kernel
theorem dX12_charter_183 : decode cX12_charter 183 = .ok (.getfield 81, 3) := by decide +kernel
theorem dX12_charter_186 : decode cX12_charter 186 = .ok (.aload_n 0, 1) := by decide +kernel
theorem dX12_charter_187 : decode cX12_charter 187 = .ok (.getfield 327, 3) := by decide +kernel
theorem dX12_charter_190 : decode cX12_charter 190 = .ok (.iload_n 1, 1) := by decide +kernel
theorem dX12_charter_191 : decode cX12_charter 191 = .ok (.iastore, 1) := by decide +kernel
theorem dX12_charter_192 : decode cX12_charter 192 = .ok (.aload_n 0, 1) := by decide +kernel
theorem dX12_charter_193 : decode cX12_charter 193 = .ok (.getfield 84, 3) := by decide +kernel
theorem dX12_charter_196 : decode cX12_charter 196 = .ok (.aload_n 0, 1) := by decide +kernel
theorem dX12_charter_197 : decode cX12_charter 197 = .ok (.getfield 327, 3) := by decide +kernel
theorem dX12_charter_200 : decode cX12_charter 200 = .ok (.iload_n 2, 1) := by decide +kernel
theorem dX12_charter_201 : decode cX12_charter 201 = .ok (.iastore, 1) := by decide +kernel
theorem dX12_charter_202 : decode cX12_charter 202 = .ok (.aload_n 0, 1) := by decide +kernel
theorem dX12_charter_203 : decode cX12_charter 203 = .ok (.getfield 87, 3) := by decide +kernel
theorem dX12_charter_206 : decode cX12_charter 206 = .ok (.aload_n 0, 1) := by decide +kernel
theorem dX12_charter_207 : decode cX12_charter 207 = .ok (.getfield 327, 3) := by decide +kernel
theorem dX12_charter_210 : decode cX12_charter 210 = .ok (.iload_n 3, 1) := by decide +kernel
theorem dX12_charter_211 : decode cX12_charter 211 = .ok (.iastore, 1) := by decide +kernel
theorem dX12_charter_212 : decode cX12_charter 212 = .ok (.aload_n 0, 1) := by decide +kernel
theorem dX12_charter_213 : decode cX12_charter 213 = .ok (.getfield 90, 3) := by decide +kernel
theorem dX12_charter_216 : decode cX12_charter 216 = .ok (.aload_n 0, 1) := by decide +kernel
theorem dX12_charter_217 : decode cX12_charter 217 = .ok (.getfield 327, 3) := by decide +kernel
theorem dX12_charter_220 : decode cX12_charter 220 = .ok (.iload 4, 2) := by decide +kernel
theorem dX12_charter_222 : decode cX12_charter 222 = .ok (.iastore, 1) := by decide +kernel
theorem dX12_charter_223 : decode cX12_charter 223 = .ok (.aload_n 0, 1) := by decide +kernel
theorem dX12_charter_224 : decode cX12_charter 224 = .ok (.getfield 93, 3) := by decide +kernel
theorem dX12_charter_227 : decode cX12_charter 227 = .ok (.aload_n 0, 1) := by decide +kernel
theorem dX12_charter_228 : decode cX12_charter 228 = .ok (.getfield 327, 3) := by decide +kernel
theorem dX12_charter_231 : decode cX12_charter 231 = .ok (.iload 5, 2) := by decide +kernel
theorem dX12_charter_233 : decode cX12_charter 233 = .ok (.iastore, 1) := by decide +kernel
theorem dX12_charter_234 : decode cX12_charter 234 = .ok (.aload_n 0, 1) := by decide +kernel
theorem dX12_charter_235 : decode cX12_charter 235 = .ok (.getfield 96, 3) := by decide +kernel
theorem dX12_charter_238 : decode cX12_charter 238 = .ok (.aload_n 0, 1) := by decide +kernel
theorem dX12_charter_239 : decode cX12_charter 239 = .ok (.getfield 327, 3) := by decide +kernel
theorem dX12_charter_242 : decode cX12_charter 242 = .ok (.lload 6, 2) := by decide +kernel
theorem dX12_charter_244 : decode cX12_charter 244 = .ok (.ldc2_w 330, 3) := by decide +kernel
theorem dX12_charter_247 : decode cX12_charter 247 = .ok (.ldiv, 1) := by decide +kernel
theorem dX12_charter_248 : decode cX12_charter 248 = .ok (.l2i, 1) := by decide +kernel
theorem dX12_charter_249 : decode cX12_charter 249 = .ok (.iastore, 1) := by decide +kernel
theorem dX12_charter_250 : decode cX12_charter 250 = .ok (.aload_n 0, 1) := by decide +kernel
theorem dX12_charter_251 : decode cX12_charter 251 = .ok (.getfield 99, 3) := by decide +kernel
theorem dX12_charter_254 : decode cX12_charter 254 = .ok (.aload_n 0, 1) := by decide +kernel
theorem dX12_charter_255 : decode cX12_charter 255 = .ok (.getfield 327, 3) := by decide +kernel
theorem dX12_charter_258 : decode cX12_charter 258 = .ok (.lload 6, 2) := by decide +kernel
theorem dX12_charter_260 : decode cX12_charter 260 = .ok (.ldc2_w 337, 3) := by decide +kernel
theorem dX12_charter_263 : decode cX12_charter 263 = .ok (.ldiv, 1) := by decide +kernel
theorem dX12_charter_264 : decode cX12_charter 264 = .ok (.ldc2_w 337, 3) := by decide +kernel
theorem dX12_charter_267 : decode cX12_charter 267 = .ok (.lrem, 1) := by decide +kernel
theorem dX12_charter_268 : decode cX12_charter 268 = .ok (.l2i, 1) := by decide +kernel
theorem dX12_charter_269 : decode cX12_charter 269 = .ok (.iastore, 1) := by decide +kernel
theorem dX12_charter_270 : decode cX12_charter 270 = .ok (.aload_n 0, 1) := by decide +kernel
theorem dX12_charter_271 : decode cX12_charter 271 = .ok (.getfield 102, 3) := by decide +kernel
theorem dX12_charter_274 : decode cX12_charter 274 = .ok (.aload_n 0, 1) := by decide +kernel
theorem dX12_charter_275 : decode cX12_charter 275 = .ok (.getfield 327, 3) := by decide +kernel
theorem dX12_charter_278 : decode cX12_charter 278 = .ok (.lload 6, 2) := by decide +kernel
theorem dX12_charter_280 : decode cX12_charter 280 = .ok (.ldc2_w 337, 3) := by decide +kernel
theorem dX12_charter_283 : decode cX12_charter 283 = .ok (.lrem, 1) := by decide +kernel
theorem dX12_charter_284 : decode cX12_charter 284 = .ok (.l2i, 1) := by decide +kernel
theorem dX12_charter_285 : decode cX12_charter 285 = .ok (.iastore, 1) := by decide +kernel
theorem dX12_charter_286 : decode cX12_charter 286 = .ok (.aload_n 0, 1) := by decide +kernel
theorem dX12_charter_287 : decode cX12_charter 287 = .ok (.getfield 105, 3) := by decide +kernel
theorem dX12_charter_290 : decode cX12_charter 290 = .ok (.aload_n 0, 1) := by decide +kernel
theorem dX12_charter_291 : decode cX12_charter 291 = .ok (.getfield 327, 3) := by decide +kernel
theorem dX12_charter_294 : decode cX12_charter 294 = .ok (.iconst 0, 1) := by decide +kernel
theorem dX12_charter_295 : decode cX12_charter 295 = .ok (.iastore, 1) := by decide +kernel
theorem dX12_charter_296 : decode cX12_charter 296 = .ok (.aload_n 0, 1) := by decide +kernel
theorem dX12_charter_297 : decode cX12_charter 297 = .ok (.dup, 1) := by decide +kernel
theorem dX12_charter_298 : decode cX12_charter 298 = .ok (.getfield 327, 3) := by decide +kernel
theorem dX12_charter_301 : decode cX12_charter 301 = .ok (.iconst 1, 1) := by decide +kernel
theorem dX12_charter_302 : decode cX12_charter 302 = .ok (.iadd, 1) := by decide +kernel
theorem dX12_charter_303 : decode cX12_charter 303 = .ok (.putfield 327, 3) := by decide +kernel
theorem dX12_charter_306 : decode cX12_charter 306 = .ok (.aload_n 0, 1) := by decide +kernel
theorem dX12_charter_307 : decode cX12_charter 307 = .ok (.getfield 327, 3) := by decide +kernel
theorem dX12_charter_310 : decode cX12_charter 310 = .ok (.iconst 1, 1) := by decide +kernel
theorem dX12_charter_311 : decode cX12_charter 311 = .ok (.isub, 1) := by decide +kernel
theorem dX12_charter_312 : decode cX12_charter 312 = .ok (.ireturn, 1) := by decide +kernel
theorem dX12_lift_0 : decode cX12_lift 0 = .ok (.aload_n 0, 1) := by decide +kernel
theorem dX12_lift_1 : decode cX12_lift 1 = .ok (.iload_n 1, 1) := by decide +kernel
theorem dX12_lift_2 : decode cX12_lift 2 = .ok (.invokevirtual 339, 3) := by decide +kernel
theorem dX12_lift_5 : decode cX12_lift 5 = .ok (.ifCond .eq 13, 3) := by decide +kernel
theorem dX12_lift_8 : decode cX12_lift 8 = .ok (.aload_n 0, 1) := by decide +kernel
theorem dX12_lift_9 : decode cX12_lift 9 = .ok (.getfield 81, 3) := by decide +kernel
theorem dX12_lift_12 : decode cX12_lift 12 = .ok (.iload_n 1, 1) := by decide +kernel
theorem dX12_lift_13 : decode cX12_lift 13 = .ok (.iaload, 1) := by decide +kernel
theorem dX12_lift_14 : decode cX12_lift 14 = .ok (.iconst 5, 1) := by decide +kernel
theorem dX12_lift_15 : decode cX12_lift 15 = .ok (.if_icmp .eq 6, 3) := by decide +kernel
theorem dX12_lift_18 : decode cX12_lift 18 = .ok (.bipush (-2), 2) := by decide +kernel
theorem dX12_lift_20 : decode cX12_lift 20 = .ok (.ireturn, 1) := by decide +kernel
theorem dX12_lift_21 : decode cX12_lift 21 = .ok (.aload_n 0, 1) := by decide +kernel
theorem dX12_lift_22 : decode cX12_lift 22 = .ok (.getfield 105, 3) := by decide +kernel
theorem dX12_lift_25 : decode cX12_lift 25 = .ok (.iload_n 1, 1) := by decide +kernel
theorem dX12_lift_26 : decode cX12_lift 26 = .ok (.iaload, 1) := by decide +kernel
theorem dX12_lift_27 : decode cX12_lift 27 = .ok (.ifCond .eq 6, 3) := by decide +kernel
theorem dX12_lift_30 : decode cX12_lift 30 = .ok (.bipush (-3), 2) := by decide +kernel
theorem dX12_lift_32 : decode cX12_lift 32 = .ok (.ireturn, 1) := by decide +kernel
theorem dX12_lift_33 : decode cX12_lift 33 = .ok (.aload_n 0, 1) := by decide +kernel
theorem dX12_lift_34 : decode cX12_lift 34 = .ok (.getfield 105, 3) := by decide +kernel
theorem dX12_lift_37 : decode cX12_lift 37 = .ok (.iload_n 1, 1) := by decide +kernel
theorem dX12_lift_38 : decode cX12_lift 38 = .ok (.iload_n 2, 1) := by decide +kernel
theorem dX12_lift_39 : decode cX12_lift 39 = .ok (.ifCond .eq 7, 3) := by decide +kernel
theorem dX12_lift_42 : decode cX12_lift 42 = .ok (.iconst 1, 1) := by decide +kernel
theorem dX12_lift_43 : decode cX12_lift 43 = .ok (.goto 4, 3) := by decide +kernel
theorem dX12_lift_46 : decode cX12_lift 46 = .ok (.iconst 2, 1) := by decide +kernel
theorem dX12_lift_47 : decode cX12_lift 47 = .ok (.iastore, 1) := by decide +kernel
theorem dX12_lift_48 : decode cX12_lift 48 = .ok (.iconst 1, 1) := by decide +kernel
theorem dX12_lift_49 : decode cX12_lift 49 = .ok (.ireturn, 1) := by decide +kernel
theorem dX12_looks_0 : decode cX12_looks 0 = .ok (.aload_n 0, 1) := by decide +kernel
theorem dX12_looks_1 : decode cX12_looks 1 = .ok (.iconst 0, 1) := by decide +kernel
theorem dX12_looks_2 : decode cX12_looks 2 = .ok (.putfield 342, 3) := by decide +kernel
theorem dX12_looks_5 : decode cX12_looks 5 = .ok (.aload_n 0, 1) := by decide +kernel
theorem dX12_looks_6 : decode cX12_looks 6 = .ok (.iconst 0, 1) := by decide +kernel
theorem dX12_looks_7 : decode cX12_looks 7 = .ok (.putfield 345, 3) := by decide +kernel
theorem dX12_looks_10 : decode cX12_looks 10 = .ok (.aload_n 0, 1) := by decide +kernel
theorem dX12_looks_11 : decode cX12_looks 11 = .ok (.iconst 0, 1) := by decide +kernel
theorem dX12_looks_12 : decode cX12_looks 12 = .ok (.putfield 348, 3) := by decide +kernel
theorem dX12_looks_15 : decode cX12_looks 15 = .ok (.iconst (-1), 1) := by decide +kernel
theorem dX12_looks_16 : decode cX12_looks 16 = .ok (.istore_n 3, 1) := by decide +kernel
theorem dX12_looks_17 : decode cX12_looks 17 = .ok (.aload_n 0, 1) := by decide +kernel
theorem dX12_looks_18 : decode cX12_looks 18 = .ok (.getfield 87, 3) := by decide +kernel
theorem dX12_looks_21 : decode cX12_looks 21 = .ok (.iload_n 1, 1) := by decide +kernel
theorem dX12_looks_22 : decode cX12_looks 22 = .ok (.iaload, 1) := by decide +kernel
theorem dX12_looks_23 : decode cX12_looks 23 = .ok (.istore 4, 2) := by decide +kernel
theorem dX12_looks_25 : decode cX12_looks 25 = .ok (.iload 4, 2) := by decide +kernel
theorem dX12_looks_27 : decode cX12_looks 27 = .ok (.aload_n 0, 1) := by decide +kernel
theorem dX12_looks_28 : decode cX12_looks 28 = .ok (.getfield 90, 3) := by decide +kernel
theorem dX12_looks_31 : decode cX12_looks 31 = .ok (.iload_n 1, 1) := by decide +kernel
theorem dX12_looks_32 : decode cX12_looks 32 = .ok (.iaload, 1) := by decide +kernel
theorem dX12_looks_33 : decode cX12_looks 33 = .ok (.if_icmp .gt 137, 3) := by decide +kernel
theorem dX12_looks_36 : decode cX12_looks 36 = .ok (.iload 4, 2) := by decide +kernel
theorem dX12_looks_38 : decode cX12_looks 38 = .ok (.iload_n 2, 1) := by decide +kernel
theorem dX12_looks_39 : decode cX12_looks 39 = .ok (.if_icmp .gt 131, 3) := by decide +kernel
theorem dX12_looks_42 : decode cX12_looks 42 = .ok (.iload 4, 2) := by decide +kernel
theorem dX12_looks_44 : decode cX12_looks 44 = .ok (.aload_n 0, 1) := by decide +kernel
theorem dX12_looks_45 : decode cX12_looks 45 = .ok (.getfield 37, 3) := by decide +kernel
theorem dX12_looks_48 : decode cX12_looks 48 = .ok (.aload_n 0, 1) := by decide +kernel
theorem dX12_looks_49 : decode cX12_looks 49 = .ok (.getfield 84, 3) := by decide +kernel
theorem dX12_looks_52 : decode cX12_looks 52 = .ok (.iload_n 1, 1) := by decide +kernel
theorem dX12_looks_53 : decode cX12_looks 53 = .ok (.iaload, 1) := by decide +kernel
theorem dX12_looks_54 : decode cX12_looks 54 = .ok (.iaload, 1) := by decide +kernel
theorem dX12_looks_55 : decode cX12_looks 55 = .ok (.if_icmp .ge 115, 3) := by decide +kernel
theorem dX12_looks_58 : decode cX12_looks 58 = .ok (.aload_n 0, 1) := by decide +kernel
theorem dX12_looks_59 : decode cX12_looks 59 = .ok (.getfield 105, 3) := by decide +kernel
theorem dX12_looks_62 : decode cX12_looks 62 = .ok (.iload_n 1, 1) := by decide +kernel
theorem dX12_looks_63 : decode cX12_looks 63 = .ok (.iaload, 1) := by decide +kernel
theorem dX12_looks_64 : decode cX12_looks 64 = .ok (.iconst 2, 1) := by decide +kernel
theorem dX12_looks_65 : decode cX12_looks 65 = .ok (.if_icmp .eq 105, 3) := by decide +kernel
theorem dX12_looks_68 : decode cX12_looks 68 = .ok (.aload_n 0, 1) := by decide +kernel
theorem dX12_looks_69 : decode cX12_looks 69 = .ok (.iconst 0, 1) := by decide +kernel
theorem dX12_looks_70 : decode cX12_looks 70 = .ok (.iload_n 1, 1) := by decide +kernel
theorem dX12_looks_71 : decode cX12_looks 71 = .ok (.iload 4, 2) := by decide +kernel
theorem dX12_looks_73 : decode cX12_looks 73 = .ok (.aload_n 0, 1) := by decide +kernel
theorem dX12_looks_74 : decode cX12_looks 74 = .ok (.getfield 342, 3) := by decide +kernel
theorem dX12_looks_77 : decode cX12_looks 77 = .ok (.invokevirtual 351, 3) := by decide +kernel
theorem dX12_looks_80 : decode cX12_looks 80 = .ok (.ifCond .eq 7, 3) := by decide +kernel
theorem dX12_looks_83 : decode cX12_looks 83 = .ok (.iconst 0, 1) := by decide +kernel
theorem dX12_looks_84 : decode cX12_looks 84 = .ok (.goto 23, 3) := by decide +kernel
theorem dX12_looks_87 : decode cX12_looks 87 = .ok (.aload_n 0, 1) := by decide +kernel
theorem dX12_looks_88 : decode cX12_looks 88 = .ok (.iconst 1, 1) := by decide +kernel
theorem dX12_looks_89 : decode cX12_looks 89 = .ok (.iload_n 1, 1) := by decide +kernel
theorem dX12_looks_90 : decode cX12_looks 90 = .ok (.iload 4, 2) := by decide +kernel
theorem dX12_looks_92 : decode cX12_looks 92 = .ok (.aload_n 0, 1) := by decide +kernel
theorem dX12_looks_93 : decode cX12_looks 93 = .ok (.getfield 342, 3) := by decide +kernel
theorem dX12_looks_96 : decode cX12_looks 96 = .ok (.invokevirtual 351, 3) := by decide +kernel
theorem dX12_looks_99 : decode cX12_looks 99 = .ok (.ifCond .eq 7, 3) := by decide +kernel
theorem dX12_looks_102 : decode cX12_looks 102 = .ok (.iconst 1, 1) := by decide +kernel
theorem dX12_looks_103 : decode cX12_looks 103 = .ok (.goto 4, 3) := by decide +kernel
theorem dX12_looks_106 : decode cX12_looks 106 = .ok (.iconst 2, 1) := by decide +kernel
theorem dX12_looks_107 : decode cX12_looks 107 = .ok (.istore_n 3, 1) := by decide +kernel
theorem dX12_looks_108 : decode cX12_looks 108 = .ok (.aload_n 0, 1) := by decide +kernel
theorem dX12_looks_109 : decode cX12_looks 109 = .ok (.dup, 1) := by decide +kernel
theorem dX12_looks_110 : decode cX12_looks 110 = .ok (.getfield 342, 3) := by decide +kernel
theorem dX12_looks_113 : decode cX12_looks 113 = .ok (.iload_n 3, 1) := by decide +kernel
theorem dX12_looks_114 : decode cX12_looks 114 = .ok (.ifCond .ne 7, 3) := by decide +kernel
theorem dX12_looks_117 : decode cX12_looks 117 = .ok (.iconst 1, 1) := by decide +kernel
theorem dX12_looks_118 : decode cX12_looks 118 = .ok (.goto 4, 3) := by decide +kernel
theorem dX12_looks_121 : decode cX12_looks 121 = .ok (.iconst 0, 1) := by decide +kernel
theorem dX12_looks_122 : decode cX12_looks 122 = .ok (.iadd, 1) := by decide +kernel
theorem dX12_looks_123 : decode cX12_looks 123 = .ok (.putfield 342, 3) := by decide +kernel
theorem dX12_looks_126 : decode cX12_looks 126 = .ok (.aload_n 0, 1) := by decide +kernel
theorem dX12_looks_127 : decode cX12_looks 127 = .ok (.dup, 1) := by decide +kernel
theorem dX12_looks_128 : decode cX12_looks 128 = .ok (.getfield 345, 3) := by decide +kernel
theorem dX12_looks_131 : decode cX12_looks 131 = .ok (.iload_n 3, 1) := by decide +kernel
theorem dX12_looks_132 : decode cX12_looks 132 = .ok (.iconst 1, 1) := by decide +kernel
theorem dX12_looks_133 : decode cX12_looks 133 = .ok (.if_icmp .ne 7, 3) := by decide +kernel
theorem dX12_looks_136 : decode cX12_looks 136 = .ok (.iconst 1, 1) := by decide +kernel
theorem dX12_looks_137 : decode cX12_looks 137 = .ok (.goto 4, 3) := by decide +kernel
theorem dX12_looks_140 : decode cX12_looks 140 = .ok (.iconst 0, 1) := by decide +kernel
theorem dX12_looks_141 : decode cX12_looks 141 = .ok (.iadd, 1) := by decide +kernel
theorem dX12_looks_142 : decode cX12_looks 142 = .ok (.putfield 345, 3) := by decide +kernel
theorem dX12_looks_145 : decode cX12_looks 145 = .ok (.aload_n 0, 1) := by decide +kernel
theorem dX12_looks_146 : decode cX12_looks 146 = .ok (.dup, 1) := by decide +kernel
theorem dX12_looks_147 : decode cX12_looks 147 = .ok (.getfield 348, 3) := by decide +kernel
theorem dX12_looks_150 : decode cX12_looks 150 = .ok (.iload_n 3, 1) := by decide +kernel
theorem dX12_looks_151 : decode cX12_looks 151 = .ok (.iconst 2, 1) := by decide +kernel
theorem dX12_looks_152 : decode cX12_looks 152 = .ok (.if_icmp .ne 7, 3) := by decide +kernel
theorem dX12_looks_155 : decode cX12_looks 155 = .ok (.iconst 1, 1) := by decide +kernel
theorem dX12_looks_156 : decode cX12_looks 156 = .ok (.goto 4, 3) := by decide +kernel
theorem dX12_looks_159 : decode cX12_looks 159 = .ok (.iconst 0, 1) := by decide +kernel
theorem dX12_looks_160 : decode cX12_looks 160 = .ok (.iadd, 1) := by decide +kernel
theorem dX12_looks_161 : decode cX12_looks 161 = .ok (.putfield 348, 3) := by decide +kernel
theorem dX12_looks_164 : decode cX12_looks 164 = .ok (.iinc 4 1, 3) := by decide +kernel
theorem dX12_looks_167 : decode cX12_looks 167 = .ok (.goto (-142), 3) := by decide +kernel
theorem dX12_looks_170 : decode cX12_looks 170 = .ok (.iload_n 3, 1) := by decide +kernel
theorem dX12_looks_171 : decode cX12_looks 171 = .ok (.ireturn, 1) := by decide +kernel
theorem dX12_charterTold_0 : decode cX12_charterTold 0 = .ok (.aload_n 0, 1) := by decide +kernel
theorem dX12_charterTold_1 : decode cX12_charterTold 1 = .ok (.iload_n 1, 1) := by decide +kernel
theorem dX12_charterTold_2 : decode cX12_charterTold 2 = .ok (.invokevirtual 339, 3) := by decide +kernel
theorem dX12_charterTold_5 : decode cX12_charterTold 5 = .ok (.ifCond .eq 13, 3) := by decide +kernel
theorem dX12_charterTold_8 : decode cX12_charterTold 8 = .ok (.iload_n 2, 1) := by decide +kernel
theorem dX12_charterTold_9 : decode cX12_charterTold 9 = .ok (.iconst 0, 1) := by decide +kernel
theorem dX12_charterTold_10 : decode cX12_charterTold 10 = .ok (.bipush 8, 2) := by decide +kernel
theorem dX12_charterTold_12 : decode cX12_charterTold 12 = .ok (.invokestatic 149, 3) := by decide +kernel
theorem dX12_charterTold_15 : decode cX12_charterTold 15 = .ok (.ifCond .ne 6, 3) := by decide +kernel
theorem dX12_charterTold_18 : decode cX12_charterTold 18 = .ok (.bipush (-2), 2) := by decide +kernel
theorem dX12_charterTold_20 : decode cX12_charterTold 20 = .ok (.ireturn, 1) := by decide +kernel
theorem dX12_charterTold_21 : decode cX12_charterTold 21 = .ok (.aload_n 0, 1) := by decide +kernel
theorem dX12_charterTold_22 : decode cX12_charterTold 22 = .ok (.iload_n 1, 1) := by decide +kernel
theorem dX12_charterTold_23 : decode cX12_charterTold 23 = .ok (.sipush 9999, 3) := by decide +kernel
theorem dX12_charterTold_26 : decode cX12_charterTold 26 = .ok (.invokevirtual 354, 3) := by decide +kernel
theorem dX12_charterTold_29 : decode cX12_charterTold 29 = .ok (.istore_n 3, 1) := by decide +kernel
theorem dX12_charterTold_30 : decode cX12_charterTold 30 = .ok (.iload_n 2, 1) := by decide +kernel
theorem dX12_charterTold_31 : decode cX12_charterTold 31 = .ok (.tableswitch 95 0 7 #[45, 52, 59, 66, 73, 80, 85, 90], 45) := by decide +kernel
theorem dX12_charterTold_76 : decode cX12_charterTold 76 = .ok (.aload_n 0, 1) := by decide +kernel
theorem dX12_charterTold_77 : decode cX12_charterTold 77 = .ok (.getfield 81, 3) := by decide +kernel
theorem dX12_charterTold_80 : decode cX12_charterTold 80 = .ok (.iload_n 1, 1) := by decide +kernel
theorem dX12_charterTold_81 : decode cX12_charterTold 81 = .ok (.iaload, 1) := by decide +kernel
theorem dX12_charterTold_82 : decode cX12_charterTold 82 = .ok (.ireturn, 1) := by decide +kernel
theorem dX12_charterTold_83 : decode cX12_charterTold 83 = .ok (.aload_n 0, 1) := by decide +kernel
theorem dX12_charterTold_84 : decode cX12_charterTold 84 = .ok (.getfield 84, 3) := by decide +kernel
theorem dX12_charterTold_87 : decode cX12_charterTold 87 = .ok (.iload_n 1, 1) := by decide +kernel
theorem dX12_charterTold_88 : decode cX12_charterTold 88 = .ok (.iaload, 1) := by decide +kernel
theorem dX12_charterTold_89 : decode cX12_charterTold 89 = .ok (.ireturn, 1) := by decide +kernel
theorem dX12_charterTold_90 : decode cX12_charterTold 90 = .ok (.aload_n 0, 1) := by decide +kernel
theorem dX12_charterTold_91 : decode cX12_charterTold 91 = .ok (.getfield 87, 3) := by decide +kernel
theorem dX12_charterTold_94 : decode cX12_charterTold 94 = .ok (.iload_n 1, 1) := by decide +kernel
theorem dX12_charterTold_95 : decode cX12_charterTold 95 = .ok (.iaload, 1) := by decide +kernel
theorem dX12_charterTold_96 : decode cX12_charterTold 96 = .ok (.ireturn, 1) := by decide +kernel
theorem dX12_charterTold_97 : decode cX12_charterTold 97 = .ok (.aload_n 0, 1) := by decide +kernel
theorem dX12_charterTold_98 : decode cX12_charterTold 98 = .ok (.getfield 90, 3) := by decide +kernel
theorem dX12_charterTold_101 : decode cX12_charterTold 101 = .ok (.iload_n 1, 1) := by decide +kernel
theorem dX12_charterTold_102 : decode cX12_charterTold 102 = .ok (.iaload, 1) := by decide +kernel
theorem dX12_charterTold_103 : decode cX12_charterTold 103 = .ok (.ireturn, 1) := by decide +kernel
theorem dX12_charterTold_104 : decode cX12_charterTold 104 = .ok (.aload_n 0, 1) := by decide +kernel
theorem dX12_charterTold_105 : decode cX12_charterTold 105 = .ok (.getfield 93, 3) := by decide +kernel
theorem dX12_charterTold_108 : decode cX12_charterTold 108 = .ok (.iload_n 1, 1) := by decide +kernel
theorem dX12_charterTold_109 : decode cX12_charterTold 109 = .ok (.iaload, 1) := by decide +kernel
theorem dX12_charterTold_110 : decode cX12_charterTold 110 = .ok (.ireturn, 1) := by decide +kernel
theorem dX12_charterTold_111 : decode cX12_charterTold 111 = .ok (.aload_n 0, 1) := by decide +kernel
theorem dX12_charterTold_112 : decode cX12_charterTold 112 = .ok (.getfield 342, 3) := by decide +kernel
theorem dX12_charterTold_115 : decode cX12_charterTold 115 = .ok (.ireturn, 1) := by decide +kernel
theorem dX12_charterTold_116 : decode cX12_charterTold 116 = .ok (.aload_n 0, 1) := by decide +kernel
theorem dX12_charterTold_117 : decode cX12_charterTold 117 = .ok (.getfield 345, 3) := by decide +kernel
theorem dX12_charterTold_120 : decode cX12_charterTold 120 = .ok (.ireturn, 1) := by decide +kernel
theorem dX12_charterTold_121 : decode cX12_charterTold 121 = .ok (.aload_n 0, 1) := by decide +kernel
theorem dX12_charterTold_122 : decode cX12_charterTold 122 = .ok (.getfield 348, 3) := by decide +kernel
theorem dX12_charterTold_125 : decode cX12_charterTold 125 = .ok (.ireturn, 1) := by decide +kernel
theorem dX12_charterTold_126 : decode cX12_charterTold 126 = .ok (.aload_n 0, 1) := by decide +kernel
theorem dX12_charterTold_127 : decode cX12_charterTold 127 = .ok (.getfield 105, 3) := by decide +kernel
theorem dX12_charterTold_130 : decode cX12_charterTold 130 = .ok (.iload_n 1, 1) := by decide +kernel
theorem dX12_charterTold_131 : decode cX12_charterTold 131 = .ok (.iaload, 1) := by decide +kernel
theorem dX12_charterTold_132 : decode cX12_charterTold 132 = .ok (.ireturn, 1) := by decide +kernel
theorem dX12_voyage_0 : decode cX12_voyage 0 = .ok (.aload_n 0, 1) := by decide +kernel
theorem dX12_voyage_1 : decode cX12_voyage 1 = .ok (.getfield 99, 3) := by decide +kernel
theorem dX12_voyage_4 : decode cX12_voyage 4 = .ok (.iload_n 1, 1) := by decide +kernel
theorem dX12_voyage_5 : decode cX12_voyage 5 = .ok (.iaload, 1) := by decide +kernel
theorem dX12_voyage_6 : decode cX12_voyage 6 = .ok (.i2l, 1) := by decide +kernel
theorem dX12_voyage_7 : decode cX12_voyage 7 = .ok (.lstore_n 2, 1) := by decide +kernel
theorem dX12_voyage_8 : decode cX12_voyage 8 = .ok (.aload_n 0, 1) := by decide +kernel
theorem dX12_voyage_9 : decode cX12_voyage 9 = .ok (.getfield 96, 3) := by decide +kernel
theorem dX12_voyage_12 : decode cX12_voyage 12 = .ok (.iload_n 1, 1) := by decide +kernel
theorem dX12_voyage_13 : decode cX12_voyage 13 = .ok (.iaload, 1) := by decide +kernel
theorem dX12_voyage_14 : decode cX12_voyage 14 = .ok (.i2l, 1) := by decide +kernel
theorem dX12_voyage_15 : decode cX12_voyage 15 = .ok (.aload_n 0, 1) := by decide +kernel
theorem dX12_voyage_16 : decode cX12_voyage 16 = .ok (.getfield 342, 3) := by decide +kernel
theorem dX12_voyage_19 : decode cX12_voyage 19 = .ok (.aload_n 0, 1) := by decide +kernel
theorem dX12_voyage_20 : decode cX12_voyage 20 = .ok (.getfield 102, 3) := by decide +kernel
theorem dX12_voyage_23 : decode cX12_voyage 23 = .ok (.iload_n 1, 1) := by decide +kernel
theorem dX12_voyage_24 : decode cX12_voyage 24 = .ok (.iaload, 1) := by decide +kernel
theorem dX12_voyage_25 : decode cX12_voyage 25 = .ok (.if_icmp .le 20, 3) := by decide +kernel
theorem dX12_voyage_28 : decode cX12_voyage 28 = .ok (.lload_n 2, 1) := by decide +kernel
theorem dX12_voyage_29 : decode cX12_voyage 29 = .ok (.aload_n 0, 1) := by decide +kernel
theorem dX12_voyage_30 : decode cX12_voyage 30 = .ok (.getfield 342, 3) := by decide +kernel
theorem dX12_voyage_33 : decode cX12_voyage 33 = .ok (.aload_n 0, 1) := by decide +kernel
theorem dX12_voyage_34 : decode cX12_voyage 34 = .ok (.getfield 102, 3) := by decide +kernel
theorem dX12_voyage_37 : decode cX12_voyage 37 = .ok (.iload_n 1, 1) := by decide +kernel
theorem dX12_voyage_38 : decode cX12_voyage 38 = .ok (.iaload, 1) := by decide +kernel
theorem dX12_voyage_39 : decode cX12_voyage 39 = .ok (.isub, 1) := by decide +kernel
theorem dX12_voyage_40 : decode cX12_voyage 40 = .ok (.i2l, 1) := by decide +kernel
theorem dX12_voyage_41 : decode cX12_voyage 41 = .ok (.lmul, 1) := by decide +kernel
theorem dX12_voyage_42 : decode cX12_voyage 42 = .ok (.goto 4, 3) := by decide +kernel
theorem dX12_voyage_45 : decode cX12_voyage 45 = .ok (.lconst 0, 1) := by decide +kernel
theorem dX12_voyage_46 : decode cX12_voyage 46 = .ok (.ladd, 1) := by decide +kernel
theorem dX12_voyage_47 : decode cX12_voyage 47 = .ok (.aload_n 0, 1) := by decide +kernel
theorem dX12_voyage_48 : decode cX12_voyage 48 = .ok (.getfield 342, 3) := by decide +kernel
theorem dX12_voyage_51 : decode cX12_voyage 51 = .ok (.aload_n 0, 1) := by decide +kernel
theorem dX12_voyage_52 : decode cX12_voyage 52 = .ok (.getfield 102, 3) := by decide +kernel
theorem dX12_voyage_55 : decode cX12_voyage 55 = .ok (.iload_n 1, 1) := by decide +kernel
theorem dX12_voyage_56 : decode cX12_voyage 56 = .ok (.iaload, 1) := by decide +kernel
theorem dX12_voyage_57 : decode cX12_voyage 57 = .ok (.if_icmp .ge 24, 3) := by decide +kernel
theorem dX12_voyage_60 : decode cX12_voyage 60 = .ok (.lload_n 2, 1) := by decide +kernel
theorem dX12_voyage_61 : decode cX12_voyage 61 = .ok (.ldc2_w 357, 3) := by decide +kernel
theorem dX12_voyage_64 : decode cX12_voyage 64 = .ok (.ldiv, 1) := by decide +kernel
theorem dX12_voyage_65 : decode cX12_voyage 65 = .ok (.aload_n 0, 1) := by decide +kernel
theorem dX12_voyage_66 : decode cX12_voyage 66 = .ok (.getfield 102, 3) := by decide +kernel
theorem dX12_voyage_69 : decode cX12_voyage 69 = .ok (.iload_n 1, 1) := by decide +kernel
theorem dX12_voyage_70 : decode cX12_voyage 70 = .ok (.iaload, 1) := by decide +kernel
theorem dX12_voyage_71 : decode cX12_voyage 71 = .ok (.aload_n 0, 1) := by decide +kernel
theorem dX12_voyage_72 : decode cX12_voyage 72 = .ok (.getfield 342, 3) := by decide +kernel
theorem dX12_voyage_75 : decode cX12_voyage 75 = .ok (.isub, 1) := by decide +kernel
theorem dX12_voyage_76 : decode cX12_voyage 76 = .ok (.i2l, 1) := by decide +kernel
theorem dX12_voyage_77 : decode cX12_voyage 77 = .ok (.lmul, 1) := by decide +kernel
theorem dX12_voyage_78 : decode cX12_voyage 78 = .ok (.goto 4, 3) := by decide +kernel
theorem dX12_voyage_81 : decode cX12_voyage 81 = .ok (.lconst 0, 1) := by decide +kernel
theorem dX12_voyage_82 : decode cX12_voyage 82 = .ok (.lsub, 1) := by decide +kernel
theorem dX12_voyage_83 : decode cX12_voyage 83 = .ok (.lreturn, 1) := by decide +kernel
theorem dX12_pays_0 : decode cX12_pays 0 = .ok (.aload_n 0, 1) := by decide +kernel
theorem dX12_pays_1 : decode cX12_pays 1 = .ok (.iload_n 1, 1) := by decide +kernel
theorem dX12_pays_2 : decode cX12_pays 2 = .ok (.invokevirtual 339, 3) := by decide +kernel
theorem dX12_pays_5 : decode cX12_pays 5 = .ok (.ifCond .ne 7, 3) := by decide +kernel
theorem dX12_pays_8 : decode cX12_pays 8 = .ok (.ldc2_w 197, 3) := by decide +kernel
theorem dX12_pays_11 : decode cX12_pays 11 = .ok (.lreturn, 1) := by decide +kernel
theorem dX12_pays_12 : decode cX12_pays 12 = .ok (.aload_n 0, 1) := by decide +kernel
theorem dX12_pays_13 : decode cX12_pays 13 = .ok (.iload_n 1, 1) := by decide +kernel
theorem dX12_pays_14 : decode cX12_pays 14 = .ok (.sipush 9999, 3) := by decide +kernel
theorem dX12_pays_17 : decode cX12_pays 17 = .ok (.invokevirtual 354, 3) := by decide +kernel
theorem dX12_pays_20 : decode cX12_pays 20 = .ok (.istore_n 2, 1) := by decide +kernel
theorem dX12_pays_21 : decode cX12_pays 21 = .ok (.aload_n 0, 1) := by decide +kernel
theorem dX12_pays_22 : decode cX12_pays 22 = .ok (.getfield 99, 3) := by decide +kernel
theorem dX12_pays_25 : decode cX12_pays 25 = .ok (.iload_n 1, 1) := by decide +kernel
theorem dX12_pays_26 : decode cX12_pays 26 = .ok (.iaload, 1) := by decide +kernel
theorem dX12_pays_27 : decode cX12_pays 27 = .ok (.i2l, 1) := by decide +kernel
theorem dX12_pays_28 : decode cX12_pays 28 = .ok (.aload_n 0, 1) := by decide +kernel
theorem dX12_pays_29 : decode cX12_pays 29 = .ok (.getfield 342, 3) := by decide +kernel
theorem dX12_pays_32 : decode cX12_pays 32 = .ok (.aload_n 0, 1) := by decide +kernel
theorem dX12_pays_33 : decode cX12_pays 33 = .ok (.getfield 348, 3) := by decide +kernel
theorem dX12_pays_36 : decode cX12_pays 36 = .ok (.iadd, 1) := by decide +kernel
theorem dX12_pays_37 : decode cX12_pays 37 = .ok (.i2l, 1) := by decide +kernel
theorem dX12_pays_38 : decode cX12_pays 38 = .ok (.lmul, 1) := by decide +kernel
theorem dX12_pays_39 : decode cX12_pays 39 = .ok (.lstore_n 3, 1) := by decide +kernel
theorem dX12_pays_40 : decode cX12_pays 40 = .ok (.aload_n 0, 1) := by decide +kernel
theorem dX12_pays_41 : decode cX12_pays 41 = .ok (.getfield 81, 3) := by decide +kernel
theorem dX12_pays_44 : decode cX12_pays 44 = .ok (.iload_n 1, 1) := by decide +kernel
theorem dX12_pays_45 : decode cX12_pays 45 = .ok (.iaload, 1) := by decide +kernel
theorem dX12_pays_46 : decode cX12_pays 46 = .ok (.tableswitch 78 1 5 #[34, 36, 46, 56, 58], 34) := by decide +kernel
theorem dX12_pays_80 : decode cX12_pays 80 = .ok (.lload_n 3, 1) := by decide +kernel
theorem dX12_pays_81 : decode cX12_pays 81 = .ok (.lreturn, 1) := by decide +kernel
theorem dX12_pays_82 : decode cX12_pays 82 = .ok (.lload_n 3, 1) := by decide +kernel
theorem dX12_pays_83 : decode cX12_pays 83 = .ok (.aload_n 0, 1) := by decide +kernel
theorem dX12_pays_84 : decode cX12_pays 84 = .ok (.getfield 96, 3) := by decide +kernel
theorem dX12_pays_87 : decode cX12_pays 87 = .ok (.iload_n 1, 1) := by decide +kernel
theorem dX12_pays_88 : decode cX12_pays 88 = .ok (.iaload, 1) := by decide +kernel
theorem dX12_pays_89 : decode cX12_pays 89 = .ok (.i2l, 1) := by decide +kernel
theorem dX12_pays_90 : decode cX12_pays 90 = .ok (.ladd, 1) := by decide +kernel
theorem dX12_pays_91 : decode cX12_pays 91 = .ok (.lreturn, 1) := by decide +kernel
theorem dX12_pays_92 : decode cX12_pays 92 = .ok (.ldc2_w 357, 3) := by decide +kernel
theorem dX12_pays_95 : decode cX12_pays 95 = .ok (.aload_n 0, 1) := by decide +kernel
theorem dX12_pays_96 : decode cX12_pays 96 = .ok (.iload_n 1, 1) := by decide +kernel
theorem dX12_pays_97 : decode cX12_pays 97 = .ok (.invokevirtual 359, 3) := by decide +kernel
theorem dX12_pays_100 : decode cX12_pays 100 = .ok (.lmul, 1) := by decide +kernel
theorem dX12_pays_101 : decode cX12_pays 101 = .ok (.lreturn, 1) := by decide +kernel
theorem dX12_pays_102 : decode cX12_pays 102 = .ok (.lconst 0, 1) := by decide +kernel
theorem dX12_pays_103 : decode cX12_pays 103 = .ok (.lreturn, 1) := by decide +kernel
theorem dX12_pays_104 : decode cX12_pays 104 = .ok (.aload_n 0, 1) := by decide +kernel
theorem dX12_pays_105 : decode cX12_pays 105 = .ok (.getfield 105, 3) := by decide +kernel
theorem dX12_pays_108 : decode cX12_pays 108 = .ok (.iload_n 1, 1) := by decide +kernel
theorem dX12_pays_109 : decode cX12_pays 109 = .ok (.iaload, 1) := by decide +kernel
theorem dX12_pays_110 : decode cX12_pays 110 = .ok (.iconst 1, 1) := by decide +kernel
theorem dX12_pays_111 : decode cX12_pays 111 = .ok (.if_icmp .ne 11, 3) := by decide +kernel
theorem dX12_pays_114 : decode cX12_pays 114 = .ok (.aload_n 0, 1) := by decide +kernel
theorem dX12_pays_115 : decode cX12_pays 115 = .ok (.iload_n 1, 1) := by decide +kernel
theorem dX12_pays_116 : decode cX12_pays 116 = .ok (.invokevirtual 359, 3) := by decide +kernel
theorem dX12_pays_119 : decode cX12_pays 119 = .ok (.goto 4, 3) := by decide +kernel
theorem dX12_pays_122 : decode cX12_pays 122 = .ok (.lconst 0, 1) := by decide +kernel
theorem dX12_pays_123 : decode cX12_pays 123 = .ok (.lreturn, 1) := by decide +kernel
theorem dX12_pays_124 : decode cX12_pays 124 = .ok (.aload_n 0, 1) := by decide +kernel
theorem dX12_pays_125 : decode cX12_pays 125 = .ok (.iload_n 1, 1) := by decide +kernel
theorem dX12_pays_126 : decode cX12_pays 126 = .ok (.invokevirtual 359, 3) := by decide +kernel
theorem dX12_pays_129 : decode cX12_pays 129 = .ok (.lreturn, 1) := by decide +kernel
theorem dX12_counts_0 : decode cX12_counts 0 = .ok (.aload_n 0, 1) := by decide +kernel
theorem dX12_counts_1 : decode cX12_counts 1 = .ok (.iload_n 1, 1) := by decide +kernel
theorem dX12_counts_2 : decode cX12_counts 2 = .ok (.invokevirtual 339, 3) := by decide +kernel
theorem dX12_counts_5 : decode cX12_counts 5 = .ok (.ifCond .ne 6, 3) := by decide +kernel
theorem dX12_counts_8 : decode cX12_counts 8 = .ok (.bipush (-2), 2) := by decide +kernel
theorem dX12_counts_10 : decode cX12_counts 10 = .ok (.ireturn, 1) := by decide +kernel
theorem dX12_counts_11 : decode cX12_counts 11 = .ok (.aload_n 0, 1) := by decide +kernel
theorem dX12_counts_12 : decode cX12_counts 12 = .ok (.iload_n 1, 1) := by decide +kernel
theorem dX12_counts_13 : decode cX12_counts 13 = .ok (.aload_n 0, 1) := by decide +kernel
theorem dX12_counts_14 : decode cX12_counts 14 = .ok (.getfield 84, 3) := by decide +kernel
theorem dX12_counts_17 : decode cX12_counts 17 = .ok (.iload_n 1, 1) := by decide +kernel
theorem dX12_counts_18 : decode cX12_counts 18 = .ok (.iaload, 1) := by decide +kernel
theorem dX12_counts_19 : decode cX12_counts 19 = .ok (.iload_n 2, 1) := by decide +kernel
theorem dX12_counts_20 : decode cX12_counts 20 = .ok (.invokevirtual 334, 3) := by decide +kernel
theorem dX12_counts_23 : decode cX12_counts 23 = .ok (.ifCond .eq 18, 3) := by decide +kernel
theorem dX12_counts_26 : decode cX12_counts 26 = .ok (.iload_n 2, 1) := by decide +kernel
theorem dX12_counts_27 : decode cX12_counts 27 = .ok (.aload_n 0, 1) := by decide +kernel
theorem dX12_counts_28 : decode cX12_counts 28 = .ok (.getfield 37, 3) := by decide +kernel
theorem dX12_counts_31 : decode cX12_counts 31 = .ok (.aload_n 0, 1) := by decide +kernel
theorem dX12_counts_32 : decode cX12_counts 32 = .ok (.getfield 84, 3) := by decide +kernel
theorem dX12_counts_35 : decode cX12_counts 35 = .ok (.iload_n 1, 1) := by decide +kernel
theorem dX12_counts_36 : decode cX12_counts 36 = .ok (.iaload, 1) := by decide +kernel
theorem dX12_counts_37 : decode cX12_counts 37 = .ok (.iaload, 1) := by decide +kernel
theorem dX12_counts_38 : decode cX12_counts 38 = .ok (.if_icmp .lt 5, 3) := by decide +kernel
theorem dX12_counts_41 : decode cX12_counts 41 = .ok (.iconst (-1), 1) := by decide +kernel
theorem dX12_counts_42 : decode cX12_counts 42 = .ok (.ireturn, 1) := by decide +kernel
theorem dX12_counts_43 : decode cX12_counts 43 = .ok (.aload_n 0, 1) := by decide +kernel
theorem dX12_counts_44 : decode cX12_counts 44 = .ok (.iload_n 1, 1) := by decide +kernel
theorem dX12_counts_45 : decode cX12_counts 45 = .ok (.iload_n 2, 1) := by decide +kernel
theorem dX12_counts_46 : decode cX12_counts 46 = .ok (.invokevirtual 354, 3) := by decide +kernel
theorem dX12_counts_49 : decode cX12_counts 49 = .ok (.ireturn, 1) := by decide +kernel
theorem dX12_accountOf_0 : decode cX12_accountOf 0 = .ok (.iconst 0, 1) := by decide +kernel
theorem dX12_accountOf_1 : decode cX12_accountOf 1 = .ok (.istore_n 3, 1) := by decide +kernel
theorem dX12_accountOf_2 : decode cX12_accountOf 2 = .ok (.iload_n 3, 1) := by decide +kernel
theorem dX12_accountOf_3 : decode cX12_accountOf 3 = .ok (.aload_n 0, 1) := by decide +kernel
theorem dX12_accountOf_4 : decode cX12_accountOf 4 = .ok (.getfield 327, 3) := by decide +kernel
theorem dX12_accountOf_7 : decode cX12_accountOf 7 = .ok (.if_icmp .ge 21, 3) := by decide +kernel
theorem dX12_accountOf_10 : decode cX12_accountOf 10 = .ok (.aload_n 0, 1) := by decide +kernel
theorem dX12_accountOf_11 : decode cX12_accountOf 11 = .ok (.iload_n 3, 1) := by decide +kernel
theorem dX12_accountOf_12 : decode cX12_accountOf 12 = .ok (.iload_n 1, 1) := by decide +kernel
theorem dX12_accountOf_13 : decode cX12_accountOf 13 = .ok (.iload_n 2, 1) := by decide +kernel
theorem dX12_accountOf_14 : decode cX12_accountOf 14 = .ok (.invokevirtual 334, 3) := by decide +kernel
theorem dX12_accountOf_17 : decode cX12_accountOf 17 = .ok (.ifCond .eq 5, 3) := by decide +kernel
theorem dX12_accountOf_20 : decode cX12_accountOf 20 = .ok (.iload_n 3, 1) := by decide +kernel
theorem dX12_accountOf_21 : decode cX12_accountOf 21 = .ok (.ireturn, 1) := by decide +kernel
theorem dX12_accountOf_22 : decode cX12_accountOf 22 = .ok (.iinc 3 1, 3) := by decide +kernel
theorem dX12_accountOf_25 : decode cX12_accountOf 25 = .ok (.goto (-23), 3) := by decide +kernel
theorem dX12_accountOf_28 : decode cX12_accountOf 28 = .ok (.iconst (-1), 1) := by decide +kernel
theorem dX12_accountOf_29 : decode cX12_accountOf 29 = .ok (.ireturn, 1) := by decide +kernel
theorem dX12_account_0 : decode cX12_account 0 = .ok (.aload_n 0, 1) := by decide +kernel
theorem dX12_account_1 : decode cX12_account 1 = .ok (.iload_n 1, 1) := by decide +kernel
theorem dX12_account_2 : decode cX12_account 2 = .ok (.invokevirtual 163, 3) := by decide +kernel
theorem dX12_account_5 : decode cX12_account 5 = .ok (.ifCond .eq 19, 3) := by decide +kernel
theorem dX12_account_8 : decode cX12_account 8 = .ok (.iload_n 2, 1) := by decide +kernel
theorem dX12_account_9 : decode cX12_account 9 = .ok (.invokestatic 166, 3) := by decide +kernel
theorem dX12_account_12 : decode cX12_account 12 = .ok (.ifCond .eq 12, 3) := by decide +kernel
theorem dX12_account_15 : decode cX12_account 15 = .ok (.aload_n 0, 1) := by decide +kernel
theorem dX12_account_16 : decode cX12_account 16 = .ok (.iload_n 1, 1) := by decide +kernel
theorem dX12_account_17 : decode cX12_account 17 = .ok (.iload_n 2, 1) := by decide +kernel
theorem dX12_account_18 : decode cX12_account 18 = .ok (.invokevirtual 363, 3) := by decide +kernel
theorem dX12_account_21 : decode cX12_account 21 = .ok (.goto 5, 3) := by decide +kernel
theorem dX12_account_24 : decode cX12_account 24 = .ok (.bipush (-2), 2) := by decide +kernel
theorem dX12_account_26 : decode cX12_account 26 = .ok (.ireturn, 1) := by decide +kernel
theorem dX12_owners_0 : decode cX12_owners 0 = .ok (.aload_n 0, 1) := by decide +kernel
theorem dX12_owners_1 : decode cX12_owners 1 = .ok (.iload_n 1, 1) := by decide +kernel
theorem dX12_owners_2 : decode cX12_owners 2 = .ok (.invokevirtual 163, 3) := by decide +kernel
theorem dX12_owners_5 : decode cX12_owners 5 = .ok (.ifCond .ne 6, 3) := by decide +kernel
theorem dX12_owners_8 : decode cX12_owners 8 = .ok (.bipush (-2), 2) := by decide +kernel
theorem dX12_owners_10 : decode cX12_owners 10 = .ok (.ireturn, 1) := by decide +kernel
theorem dX12_owners_11 : decode cX12_owners 11 = .ok (.iconst 0, 1) := by decide +kernel
theorem dX12_owners_12 : decode cX12_owners 12 = .ok (.istore_n 2, 1) := by decide +kernel
theorem dX12_owners_13 : decode cX12_owners 13 = .ok (.iconst 0, 1) := by decide +kernel
theorem dX12_owners_14 : decode cX12_owners 14 = .ok (.istore_n 3, 1) := by decide +kernel
theorem dX12_owners_15 : decode cX12_owners 15 = .ok (.iload_n 3, 1) := by decide +kernel
theorem dX12_owners_16 : decode cX12_owners 16 = .ok (.aload_n 0, 1) := by decide +kernel
theorem dX12_owners_17 : decode cX12_owners 17 = .ok (.getfield 37, 3) := by decide +kernel
theorem dX12_owners_20 : decode cX12_owners 20 = .ok (.iload_n 1, 1) := by decide +kernel
theorem dX12_owners_21 : decode cX12_owners 21 = .ok (.iaload, 1) := by decide +kernel
theorem dX12_owners_22 : decode cX12_owners 22 = .ok (.if_icmp .ge 27, 3) := by decide +kernel
theorem dX12_owners_25 : decode cX12_owners 25 = .ok (.iload_n 2, 1) := by decide +kernel
theorem dX12_owners_26 : decode cX12_owners 26 = .ok (.aload_n 0, 1) := by decide +kernel
theorem dX12_owners_27 : decode cX12_owners 27 = .ok (.iload_n 1, 1) := by decide +kernel
theorem dX12_owners_28 : decode cX12_owners 28 = .ok (.iload_n 3, 1) := by decide +kernel
theorem dX12_owners_29 : decode cX12_owners 29 = .ok (.invokevirtual 363, 3) := by decide +kernel
theorem dX12_owners_32 : decode cX12_owners 32 = .ok (.iconst (-1), 1) := by decide +kernel
theorem dX12_owners_33 : decode cX12_owners 33 = .ok (.if_icmp .ne 7, 3) := by decide +kernel
theorem dX12_owners_36 : decode cX12_owners 36 = .ok (.iconst 1, 1) := by decide +kernel
theorem dX12_owners_37 : decode cX12_owners 37 = .ok (.goto 4, 3) := by decide +kernel
theorem dX12_owners_40 : decode cX12_owners 40 = .ok (.iconst 0, 1) := by decide +kernel
theorem dX12_owners_41 : decode cX12_owners 41 = .ok (.iadd, 1) := by decide +kernel
theorem dX12_owners_42 : decode cX12_owners 42 = .ok (.istore_n 2, 1) := by decide +kernel
theorem dX12_owners_43 : decode cX12_owners 43 = .ok (.iinc 3 1, 3) := by decide +kernel
theorem dX12_owners_46 : decode cX12_owners 46 = .ok (.goto (-31), 3) := by decide +kernel
theorem dX12_owners_49 : decode cX12_owners 49 = .ok (.iload_n 2, 1) := by decide +kernel
theorem dX12_owners_50 : decode cX12_owners 50 = .ok (.ireturn, 1) := by decide +kernel
theorem dX12_count_0 : decode cX12_count 0 = .ok (.iload_n 1, 1) := by decide +kernel
theorem dX12_count_1 : decode cX12_count 1 = .ok (.tableswitch 78 0 6 #[43, 48, 53, 58, 63, 68, 73], 43) := by decide +kernel
theorem dX12_count_44 : decode cX12_count 44 = .ok (.aload_n 0, 1) := by decide +kernel
theorem dX12_count_45 : decode cX12_count 45 = .ok (.getfield 146, 3) := by decide +kernel
theorem dX12_count_48 : decode cX12_count 48 = .ok (.ireturn, 1) := by decide +kernel
theorem dX12_count_49 : decode cX12_count 49 = .ok (.aload_n 0, 1) := by decide +kernel
theorem dX12_count_50 : decode cX12_count 50 = .ok (.getfield 153, 3) := by decide +kernel
theorem dX12_count_53 : decode cX12_count 53 = .ok (.ireturn, 1) := by decide +kernel
theorem dX12_count_54 : decode cX12_count 54 = .ok (.aload_n 0, 1) := by decide +kernel
theorem dX12_count_55 : decode cX12_count 55 = .ok (.getfield 156, 3) := by decide +kernel
theorem dX12_count_58 : decode cX12_count 58 = .ok (.ireturn, 1) := by decide +kernel
theorem dX12_count_59 : decode cX12_count 59 = .ok (.aload_n 0, 1) := by decide +kernel
theorem dX12_count_60 : decode cX12_count 60 = .ok (.getfield 143, 3) := by decide +kernel
theorem dX12_count_63 : decode cX12_count 63 = .ok (.ireturn, 1) := by decide +kernel
theorem dX12_count_64 : decode cX12_count 64 = .ok (.aload_n 0, 1) := by decide +kernel
theorem dX12_count_65 : decode cX12_count 65 = .ok (.getfield 327, 3) := by decide +kernel
theorem dX12_count_68 : decode cX12_count 68 = .ok (.ireturn, 1) := by decide +kernel
theorem dX12_count_69 : decode cX12_count 69 = .ok (.aload_n 0, 1) := by decide +kernel
theorem dX12_count_70 : decode cX12_count 70 = .ok (.getfield 316, 3) := by decide +kernel
theorem dX12_count_73 : decode cX12_count 73 = .ok (.ireturn, 1) := by decide +kernel
theorem dX12_count_74 : decode cX12_count 74 = .ok (.aload_n 0, 1) := by decide +kernel
theorem dX12_count_75 : decode cX12_count 75 = .ok (.getfield 224, 3) := by decide +kernel
theorem dX12_count_78 : decode cX12_count 78 = .ok (.ireturn, 1) := by decide +kernel
theorem dX12_count_79 : decode cX12_count 79 = .ok (.bipush (-2), 2) := by decide +kernel
theorem dX12_count_81 : decode cX12_count 81 = .ok (.ireturn, 1) := by decide +kernel
theorem dX12_isSheet_0 : decode cX12_isSheet 0 = .ok (.iload_n 0, 1) := by decide +kernel
theorem dX12_isSheet_1 : decode cX12_isSheet 1 = .ok (.iconst 0, 1) := by decide +kernel
theorem dX12_isSheet_2 : decode cX12_isSheet 2 = .ok (.iconst 3, 1) := by decide +kernel
theorem dX12_isSheet_3 : decode cX12_isSheet 3 = .ok (.invokestatic 149, 3) := by decide +kernel
theorem dX12_isSheet_6 : decode cX12_isSheet 6 = .ok (.ireturn, 1) := by decide +kernel
theorem dX12_sheet_0 : decode cX12_sheet 0 = .ok (.iload_n 1, 1) := by decide +kernel
theorem dX12_sheet_1 : decode cX12_sheet 1 = .ok (.invokestatic 236, 3) := by decide +kernel
theorem dX12_sheet_4 : decode cX12_sheet 4 = .ok (.ifCond .eq 23, 3) := by decide +kernel
theorem dX12_sheet_7 : decode cX12_sheet 7 = .ok (.iload_n 2, 1) := by decide +kernel
theorem dX12_sheet_8 : decode cX12_sheet 8 = .ok (.iconst (-1), 1) := by decide +kernel
theorem dX12_sheet_9 : decode cX12_sheet 9 = .ok (.iconst 2, 1) := by decide +kernel
theorem dX12_sheet_10 : decode cX12_sheet 10 = .ok (.invokestatic 149, 3) := by decide +kernel
theorem dX12_sheet_13 : decode cX12_sheet 13 = .ok (.ifCond .eq 14, 3) := by decide +kernel
theorem dX12_sheet_16 : decode cX12_sheet 16 = .ok (.iload_n 2, 1) := by decide +kernel
theorem dX12_sheet_17 : decode cX12_sheet 17 = .ok (.iconst (-1), 1) := by decide +kernel
theorem dX12_sheet_18 : decode cX12_sheet 18 = .ok (.if_icmp .eq 12, 3) := by decide +kernel
theorem dX12_sheet_21 : decode cX12_sheet 21 = .ok (.iload_n 3, 1) := by decide +kernel
theorem dX12_sheet_22 : decode cX12_sheet 22 = .ok (.bipush 40, 2) := by decide +kernel
theorem dX12_sheet_24 : decode cX12_sheet 24 = .ok (.if_icmp .le 6, 3) := by decide +kernel
theorem dX12_sheet_27 : decode cX12_sheet 27 = .ok (.bipush (-2), 2) := by decide +kernel
theorem dX12_sheet_29 : decode cX12_sheet 29 = .ok (.ireturn, 1) := by decide +kernel
theorem dX12_sheet_30 : decode cX12_sheet 30 = .ok (.iload_n 2, 1) := by decide +kernel
theorem dX12_sheet_31 : decode cX12_sheet 31 = .ok (.iconst (-1), 1) := by decide +kernel
theorem dX12_sheet_32 : decode cX12_sheet 32 = .ok (.if_icmp .eq 10, 3) := by decide +kernel
theorem dX12_sheet_35 : decode cX12_sheet 35 = .ok (.iload_n 3, 1) := by decide +kernel
theorem dX12_sheet_36 : decode cX12_sheet 36 = .ok (.ifCond .ge 6, 3) := by decide +kernel
theorem dX12_sheet_39 : decode cX12_sheet 39 = .ok (.bipush (-14), 2) := by decide +kernel
theorem dX12_sheet_41 : decode cX12_sheet 41 = .ok (.ireturn, 1) := by decide +kernel
theorem dX12_sheet_42 : decode cX12_sheet 42 = .ok (.aload_n 0, 1) := by decide +kernel
theorem dX12_sheet_43 : decode cX12_sheet 43 = .ok (.getfield 108, 3) := by decide +kernel
theorem dX12_sheet_46 : decode cX12_sheet 46 = .ok (.iload_n 1, 1) := by decide +kernel
theorem dX12_sheet_47 : decode cX12_sheet 47 = .ok (.iload_n 2, 1) := by decide +kernel
theorem dX12_sheet_48 : decode cX12_sheet 48 = .ok (.iastore, 1) := by decide +kernel
theorem dX12_sheet_49 : decode cX12_sheet 49 = .ok (.aload_n 0, 1) := by decide +kernel
theorem dX12_sheet_50 : decode cX12_sheet 50 = .ok (.getfield 111, 3) := by decide +kernel
theorem dX12_sheet_53 : decode cX12_sheet 53 = .ok (.iload_n 1, 1) := by decide +kernel
theorem dX12_sheet_54 : decode cX12_sheet 54 = .ok (.iload_n 2, 1) := by decide +kernel
theorem dX12_sheet_55 : decode cX12_sheet 55 = .ok (.iconst (-1), 1) := by decide +kernel
theorem dX12_sheet_56 : decode cX12_sheet 56 = .ok (.if_icmp .ne 7, 3) := by decide +kernel
theorem dX12_sheet_59 : decode cX12_sheet 59 = .ok (.iconst 0, 1) := by decide +kernel
theorem dX12_sheet_60 : decode cX12_sheet 60 = .ok (.goto 4, 3) := by decide +kernel
theorem dX12_sheet_63 : decode cX12_sheet 63 = .ok (.iload_n 3, 1) := by decide +kernel
theorem dX12_sheet_64 : decode cX12_sheet 64 = .ok (.iastore, 1) := by decide +kernel
theorem dX12_sheet_65 : decode cX12_sheet 65 = .ok (.bipush 40, 2) := by decide +kernel
theorem dX12_sheet_67 : decode cX12_sheet 67 = .ok (.iload_n 1, 1) := by decide +kernel
theorem dX12_sheet_68 : decode cX12_sheet 68 = .ok (.imul, 1) := by decide +kernel
theorem dX12_sheet_69 : decode cX12_sheet 69 = .ok (.istore 4, 2) := by decide +kernel
theorem dX12_sheet_71 : decode cX12_sheet 71 = .ok (.iload 4, 2) := by decide +kernel
theorem dX12_sheet_73 : decode cX12_sheet 73 = .ok (.bipush 40, 2) := by decide +kernel
theorem dX12_sheet_75 : decode cX12_sheet 75 = .ok (.iload_n 1, 1) := by decide +kernel
theorem dX12_sheet_76 : decode cX12_sheet 76 = .ok (.imul, 1) := by decide +kernel
theorem dX12_sheet_77 : decode cX12_sheet 77 = .ok (.bipush 40, 2) := by decide +kernel
theorem dX12_sheet_79 : decode cX12_sheet 79 = .ok (.iadd, 1) := by decide +kernel
theorem dX12_sheet_80 : decode cX12_sheet 80 = .ok (.if_icmp .ge 17, 3) := by decide +kernel
theorem dX12_sheet_83 : decode cX12_sheet 83 = .ok (.aload_n 0, 1) := by decide +kernel
theorem dX12_sheet_84 : decode cX12_sheet 84 = .ok (.getfield 114, 3) := by decide +kernel
theorem dX12_sheet_87 : decode cX12_sheet 87 = .ok (.iload 4, 2) := by decide +kernel
theorem dX12_sheet_89 : decode cX12_sheet 89 = .ok (.iconst 0, 1) := by decide +kernel
theorem dX12_sheet_90 : decode cX12_sheet 90 = .ok (.iastore, 1) := by decide +kernel
theorem dX12_sheet_91 : decode cX12_sheet 91 = .ok (.iinc 4 1, 3) := by decide +kernel
theorem dX12_sheet_94 : decode cX12_sheet 94 = .ok (.goto (-23), 3) := by decide +kernel
theorem dX12_sheet_97 : decode cX12_sheet 97 = .ok (.iconst 1, 1) := by decide +kernel
theorem dX12_sheet_98 : decode cX12_sheet 98 = .ok (.ireturn, 1) := by decide +kernel
theorem dX12_cell_0 : decode cX12_cell 0 = .ok (.iload_n 1, 1) := by decide +kernel
theorem dX12_cell_1 : decode cX12_cell 1 = .ok (.invokestatic 236, 3) := by decide +kernel
theorem dX12_cell_4 : decode cX12_cell 4 = .ok (.ifCond .ne 6, 3) := by decide +kernel
theorem dX12_cell_7 : decode cX12_cell 7 = .ok (.bipush (-2), 2) := by decide +kernel
theorem dX12_cell_9 : decode cX12_cell 9 = .ok (.ireturn, 1) := by decide +kernel
theorem dX12_cell_10 : decode cX12_cell 10 = .ok (.aload_n 0, 1) := by decide +kernel
theorem dX12_cell_11 : decode cX12_cell 11 = .ok (.getfield 108, 3) := by decide +kernel
theorem dX12_cell_14 : decode cX12_cell 14 = .ok (.iload_n 1, 1) := by decide +kernel
theorem dX12_cell_15 : decode cX12_cell 15 = .ok (.iaload, 1) := by decide +kernel
theorem dX12_cell_16 : decode cX12_cell 16 = .ok (.iconst (-1), 1) := by decide +kernel
theorem dX12_cell_17 : decode cX12_cell 17 = .ok (.if_icmp .ne 6, 3) := by decide +kernel
theorem dX12_cell_20 : decode cX12_cell 20 = .ok (.bipush (-11), 2) := by decide +kernel
theorem dX12_cell_22 : decode cX12_cell 22 = .ok (.ireturn, 1) := by decide +kernel
theorem dX12_cell_23 : decode cX12_cell 23 = .ok (.iload_n 2, 1) := by decide +kernel
theorem dX12_cell_24 : decode cX12_cell 24 = .ok (.iconst 0, 1) := by decide +kernel
theorem dX12_cell_25 : decode cX12_cell 25 = .ok (.aload_n 0, 1) := by decide +kernel
theorem dX12_cell_26 : decode cX12_cell 26 = .ok (.getfield 111, 3) := by decide +kernel
theorem dX12_cell_29 : decode cX12_cell 29 = .ok (.iload_n 1, 1) := by decide +kernel
theorem dX12_cell_30 : decode cX12_cell 30 = .ok (.iaload, 1) := by decide +kernel
theorem dX12_cell_31 : decode cX12_cell 31 = .ok (.iconst 1, 1) := by decide +kernel
theorem dX12_cell_32 : decode cX12_cell 32 = .ok (.isub, 1) := by decide +kernel
theorem dX12_cell_33 : decode cX12_cell 33 = .ok (.invokestatic 149, 3) := by decide +kernel
theorem dX12_cell_36 : decode cX12_cell 36 = .ok (.ifCond .ne 6, 3) := by decide +kernel
theorem dX12_cell_39 : decode cX12_cell 39 = .ok (.bipush (-12), 2) := by decide +kernel
theorem dX12_cell_41 : decode cX12_cell 41 = .ok (.ireturn, 1) := by decide +kernel
theorem dX12_cell_42 : decode cX12_cell 42 = .ok (.aload_n 0, 1) := by decide +kernel
theorem dX12_cell_43 : decode cX12_cell 43 = .ok (.getfield 114, 3) := by decide +kernel
theorem dX12_cell_46 : decode cX12_cell 46 = .ok (.bipush 40, 2) := by decide +kernel
theorem dX12_cell_48 : decode cX12_cell 48 = .ok (.iload_n 1, 1) := by decide +kernel
theorem dX12_cell_49 : decode cX12_cell 49 = .ok (.imul, 1) := by decide +kernel
theorem dX12_cell_50 : decode cX12_cell 50 = .ok (.iload_n 2, 1) := by decide +kernel
theorem dX12_cell_51 : decode cX12_cell 51 = .ok (.iadd, 1) := by decide +kernel
theorem dX12_cell_52 : decode cX12_cell 52 = .ok (.aload_n 0, 1) := by decide +kernel
theorem dX12_cell_53 : decode cX12_cell 53 = .ok (.getfield 108, 3) := by decide +kernel
theorem dX12_cell_56 : decode cX12_cell 56 = .ok (.iload_n 1, 1) := by decide +kernel
theorem dX12_cell_57 : decode cX12_cell 57 = .ok (.iaload, 1) := by decide +kernel
theorem dX12_cell_58 : decode cX12_cell 58 = .ok (.ifCond .ne 8, 3) := by decide +kernel
theorem dX12_cell_61 : decode cX12_cell 61 = .ok (.iload_n 3, 1) := by decide +kernel
theorem dX12_cell_62 : decode cX12_cell 62 = .ok (.i2b, 1) := by decide +kernel
theorem dX12_cell_63 : decode cX12_cell 63 = .ok (.goto 19, 3) := by decide +kernel
theorem dX12_cell_66 : decode cX12_cell 66 = .ok (.aload_n 0, 1) := by decide +kernel
theorem dX12_cell_67 : decode cX12_cell 67 = .ok (.getfield 108, 3) := by decide +kernel
theorem dX12_cell_70 : decode cX12_cell 70 = .ok (.iload_n 1, 1) := by decide +kernel
theorem dX12_cell_71 : decode cX12_cell 71 = .ok (.iaload, 1) := by decide +kernel
theorem dX12_cell_72 : decode cX12_cell 72 = .ok (.iconst 1, 1) := by decide +kernel
theorem dX12_cell_73 : decode cX12_cell 73 = .ok (.if_icmp .ne 8, 3) := by decide +kernel
theorem dX12_cell_76 : decode cX12_cell 76 = .ok (.iload_n 3, 1) := by decide +kernel
theorem dX12_cell_77 : decode cX12_cell 77 = .ok (.i2s, 1) := by decide +kernel
theorem dX12_cell_78 : decode cX12_cell 78 = .ok (.goto 4, 3) := by decide +kernel
theorem dX12_cell_81 : decode cX12_cell 81 = .ok (.iload_n 3, 1) := by decide +kernel
theorem dX12_cell_82 : decode cX12_cell 82 = .ok (.iastore, 1) := by decide +kernel
theorem dX12_cell_83 : decode cX12_cell 83 = .ok (.iconst 1, 1) := by decide +kernel
theorem dX12_cell_84 : decode cX12_cell 84 = .ok (.ireturn, 1) := by decide +kernel
theorem dX12_taken_0 : decode cX12_taken 0 = .ok (.iload_n 2, 1) := by decide +kernel
theorem dX12_taken_1 : decode cX12_taken 1 = .ok (.iconst 0, 1) := by decide +kernel
theorem dX12_taken_2 : decode cX12_taken 2 = .ok (.iconst 5, 1) := by decide +kernel
theorem dX12_taken_3 : decode cX12_taken 3 = .ok (.invokestatic 149, 3) := by decide +kernel
theorem dX12_taken_6 : decode cX12_taken 6 = .ok (.ifCond .ne 6, 3) := by decide +kernel
theorem dX12_taken_9 : decode cX12_taken 9 = .ok (.bipush (-2), 2) := by decide +kernel
theorem dX12_taken_11 : decode cX12_taken 11 = .ok (.ireturn, 1) := by decide +kernel
theorem dX12_taken_12 : decode cX12_taken 12 = .ok (.aload_n 0, 1) := by decide +kernel
theorem dX12_taken_13 : decode cX12_taken 13 = .ok (.iload_n 1, 1) := by decide +kernel
theorem dX12_taken_14 : decode cX12_taken 14 = .ok (.invokevirtual 339, 3) := by decide +kernel
theorem dX12_taken_17 : decode cX12_taken 17 = .ok (.ifCond .ne 6, 3) := by decide +kernel
theorem dX12_taken_20 : decode cX12_taken 20 = .ok (.bipush (-11), 2) := by decide +kernel
theorem dX12_taken_22 : decode cX12_taken 22 = .ok (.ireturn, 1) := by decide +kernel
theorem dX12_taken_23 : decode cX12_taken 23 = .ok (.iload_n 2, 1) := by decide +kernel
theorem dX12_taken_24 : decode cX12_taken 24 = .ok (.ifCond .eq 28, 3) := by decide +kernel
theorem dX12_taken_27 : decode cX12_taken 27 = .ok (.aload_n 0, 1) := by decide +kernel
theorem dX12_taken_28 : decode cX12_taken 28 = .ok (.getfield 81, 3) := by decide +kernel
theorem dX12_taken_31 : decode cX12_taken 31 = .ok (.iload_n 1, 1) := by decide +kernel
theorem dX12_taken_32 : decode cX12_taken 32 = .ok (.iaload, 1) := by decide +kernel
theorem dX12_taken_33 : decode cX12_taken 33 = .ok (.iload_n 2, 1) := by decide +kernel
theorem dX12_taken_34 : decode cX12_taken 34 = .ok (.if_icmp .eq 18, 3) := by decide +kernel
theorem dX12_taken_37 : decode cX12_taken 37 = .ok (.iload_n 2, 1) := by decide +kernel
theorem dX12_taken_38 : decode cX12_taken 38 = .ok (.iconst 1, 1) := by decide +kernel
theorem dX12_taken_39 : decode cX12_taken 39 = .ok (.if_icmp .ne 22, 3) := by decide +kernel
theorem dX12_taken_42 : decode cX12_taken 42 = .ok (.aload_n 0, 1) := by decide +kernel
theorem dX12_taken_43 : decode cX12_taken 43 = .ok (.getfield 81, 3) := by decide +kernel
theorem dX12_taken_46 : decode cX12_taken 46 = .ok (.iload_n 1, 1) := by decide +kernel
theorem dX12_taken_47 : decode cX12_taken 47 = .ok (.iaload, 1) := by decide +kernel
theorem dX12_taken_48 : decode cX12_taken 48 = .ok (.iconst 2, 1) := by decide +kernel
theorem dX12_taken_49 : decode cX12_taken 49 = .ok (.if_icmp .ne 12, 3) := by decide +kernel
theorem dX12_taken_52 : decode cX12_taken 52 = .ok (.aload_n 0, 1) := by decide +kernel
theorem dX12_taken_53 : decode cX12_taken 53 = .ok (.getfield 84, 3) := by decide +kernel
theorem dX12_taken_56 : decode cX12_taken 56 = .ok (.iload_n 1, 1) := by decide +kernel
theorem dX12_taken_57 : decode cX12_taken 57 = .ok (.iaload, 1) := by decide +kernel
theorem dX12_taken_58 : decode cX12_taken 58 = .ok (.goto 5, 3) := by decide +kernel
theorem dX12_taken_61 : decode cX12_taken 61 = .ok (.bipush (-13), 2) := by decide +kernel
theorem dX12_taken_63 : decode cX12_taken 63 = .ok (.ireturn, 1) := by decide +kernel
