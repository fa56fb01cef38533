theorem dX5_wordValue_125 : decode cX5_wordValue 125 = .ok (.iload_n 2, 1) := by decide +kernel
theorem dX5_wordValue_126 : decode cX5_wordValue 126 = .ok (.invokevirtual 118, 3) := by decide +kernel
theorem dX5_wordValue_129 : decode cX5_wordValue 129 = .ok (.ifCond .eq 6, 3) := by decide +kernel
theorem dX5_wordValue_132 : decode cX5_wordValue 132 = .ok (.bipush 14, 2) := by decide +kernel
theorem dX5_wordValue_134 : decode cX5_wordValue 134 = .ok (.ireturn, 1) := by decide +kernel
theorem dX5_wordValue_135 : decode cX5_wordValue 135 = .ok (.aload_n 0, 1) := by decide +kernel
theorem dX5_wordValue_136 : decode cX5_wordValue 136 = .ok (.ldc 138, 2) := by decide +kernel
theorem dX5_wordValue_138 : decode cX5_wordValue 138 = .ok (.iload_n 1, 1) := by decide +kernel
theorem dX5_wordValue_139 : decode cX5_wordValue 139 = .ok (.iload_n 2, 1) := by decide +kernel
theorem dX5_wordValue_140 : decode cX5_wordValue 140 = .ok (.invokevirtual 118, 3) := by decide +kernel
theorem dX5_wordValue_143 : decode cX5_wordValue 143 = .ok (.ifCond .eq 6, 3) := by decide +kernel
theorem dX5_wordValue_146 : decode cX5_wordValue 146 = .ok (.bipush 15, 2) := by decide +kernel
theorem dX5_wordValue_148 : decode cX5_wordValue 148 = .ok (.ireturn, 1) := by decide +kernel
theorem dX5_wordValue_149 : decode cX5_wordValue 149 = .ok (.iconst (-1), 1) := by decide +kernel
theorem dX5_wordValue_150 : decode cX5_wordValue 150 = .ok (.ireturn, 1) := by decide +kernel
theorem dX5_spells_0 : decode cX5_spells 0 = .ok (.iload_n 3, 1) := by decide +kernel
theorem dX5_spells_1 : decode cX5_spells 1 = .ok (.iload_n 2, 1) := by decide +kernel
theorem dX5_spells_2 : decode cX5_spells 2 = .ok (.isub, 1) := by decide +kernel
theorem dX5_spells_3 : decode cX5_spells 3 = .ok (.aload_n 1, 1) := by decide +kernel
theorem dX5_spells_4 : decode cX5_spells 4 = .ok (.invokevirtual 140, 3) := by decide +kernel
theorem dX5_spells_7 : decode cX5_spells 7 = .ok (.if_icmp .ne 15, 3) := by decide +kernel
theorem dX5_spells_10 : decode cX5_spells 10 = .ok (.iload_n 2, 1) := by decide +kernel
theorem dX5_spells_11 : decode cX5_spells 11 = .ok (.ifCond .lt 11, 3) := by decide +kernel
theorem dX5_spells_14 : decode cX5_spells 14 = .ok (.iload_n 3, 1) := by decide +kernel
theorem dX5_spells_15 : decode cX5_spells 15 = .ok (.aload_n 0, 1) := by decide +kernel
theorem dX5_spells_16 : decode cX5_spells 16 = .ok (.getfield 32, 3) := by decide +kernel
theorem dX5_spells_19 : decode cX5_spells 19 = .ok (.if_icmp .le 5, 3) := by decide +kernel
theorem dX5_spells_22 : decode cX5_spells 22 = .ok (.iconst 0, 1) := by decide +kernel
theorem dX5_spells_23 : decode cX5_spells 23 = .ok (.ireturn, 1) := by decide +kernel
theorem dX5_spells_24 : decode cX5_spells 24 = .ok (.iconst 0, 1) := by decide +kernel
theorem dX5_spells_25 : decode cX5_spells 25 = .ok (.istore 4, 2) := by decide +kernel
theorem dX5_spells_27 : decode cX5_spells 27 = .ok (.iload 4, 2) := by decide +kernel
theorem dX5_spells_29 : decode cX5_spells 29 = .ok (.aload_n 1, 1) := by decide +kernel
theorem dX5_spells_30 : decode cX5_spells 30 = .ok (.invokevirtual 140, 3) := by decide +kernel
theorem dX5_spells_33 : decode cX5_spells 33 = .ok (.if_icmp .ge 29, 3) := by decide +kernel
theorem dX5_spells_36 : decode cX5_spells 36 = .ok (.aload_n 0, 1) := by decide +kernel
theorem dX5_spells_37 : decode cX5_spells 37 = .ok (.getfield 28, 3) := by decide +kernel
theorem dX5_spells_40 : decode cX5_spells 40 = .ok (.iload_n 2, 1) := by decide +kernel
theorem dX5_spells_41 : decode cX5_spells 41 = .ok (.iload 4, 2) := by decide +kernel
theorem dX5_spells_43 : decode cX5_spells 43 = .ok (.iadd, 1) := by decide +kernel
theorem dX5_spells_44 : decode cX5_spells 44 = .ok (.baload, 1) := by decide +kernel
theorem dX5_spells_45 : decode cX5_spells 45 = .ok (.aload_n 1, 1) := by decide +kernel
theorem dX5_spells_46 : decode cX5_spells 46 = .ok (.iload 4, 2) := by decide +kernel
theorem dX5_spells_48 : decode cX5_spells 48 = .ok (.invokevirtual 145, 3) := by decide +kernel
theorem dX5_spells_51 : decode cX5_spells 51 = .ok (.if_icmp .eq 5, 3) := by decide +kernel
theorem dX5_spells_54 : decode cX5_spells 54 = .ok (.iconst 0, 1) := by decide +kernel
theorem dX5_spells_55 : decode cX5_spells 55 = .ok (.ireturn, 1) := by decide +kernel
theorem dX5_spells_56 : decode cX5_spells 56 = .ok (.iinc 4 1, 3) := by decide +kernel
theorem dX5_spells_59 : decode cX5_spells 59 = .ok (.goto (-32), 3) := by decide +kernel
theorem dX5_spells_62 : decode cX5_spells 62 = .ok (.iconst 1, 1) := by decide +kernel
theorem dX5_spells_63 : decode cX5_spells 63 = .ok (.ireturn, 1) := by decide +kernel
theorem dX5_advance_0 : decode cX5_advance 0 = .ok (.iload_n 1, 1) := by decide +kernel
theorem dX5_advance_1 : decode cX5_advance 1 = .ok (.ifCond .ne 24, 3) := by decide +kernel
theorem dX5_advance_4 : decode cX5_advance 4 = .ok (.aload_n 0, 1) := by decide +kernel
theorem dX5_advance_5 : decode cX5_advance 5 = .ok (.iload_n 2, 1) := by decide +kernel
theorem dX5_advance_6 : decode cX5_advance 6 = .ok (.putfield 9, 3) := by decide +kernel
theorem dX5_advance_9 : decode cX5_advance 9 = .ok (.aload_n 0, 1) := by decide +kernel
theorem dX5_advance_10 : decode cX5_advance 10 = .ok (.aload_n 0, 1) := by decide +kernel
theorem dX5_advance_11 : decode cX5_advance 11 = .ok (.getfield 50, 3) := by decide +kernel
theorem dX5_advance_14 : decode cX5_advance 14 = .ok (.aload_n 0, 1) := by decide +kernel
theorem dX5_advance_15 : decode cX5_advance 15 = .ok (.getfield 41, 3) := by decide +kernel
theorem dX5_advance_18 : decode cX5_advance 18 = .ok (.iaload, 1) := by decide +kernel
theorem dX5_advance_19 : decode cX5_advance 19 = .ok (.putfield 15, 3) := by decide +kernel
theorem dX5_advance_22 : decode cX5_advance 22 = .ok (.goto 35, 3) := by decide +kernel
theorem dX5_advance_25 : decode cX5_advance 25 = .ok (.aload_n 0, 1) := by decide +kernel
theorem dX5_advance_26 : decode cX5_advance 26 = .ok (.getfield 44, 3) := by decide +kernel
theorem dX5_advance_29 : decode cX5_advance 29 = .ok (.aload_n 0, 1) := by decide +kernel
theorem dX5_advance_30 : decode cX5_advance 30 = .ok (.getfield 41, 3) := by decide +kernel
theorem dX5_advance_33 : decode cX5_advance 33 = .ok (.iaload, 1) := by decide +kernel
theorem dX5_advance_34 : decode cX5_advance 34 = .ok (.ifCond .eq 23, 3) := by decide +kernel
theorem dX5_advance_37 : decode cX5_advance 37 = .ok (.aload_n 0, 1) := by decide +kernel
theorem dX5_advance_38 : decode cX5_advance 38 = .ok (.getfield 41, 3) := by decide +kernel
theorem dX5_advance_41 : decode cX5_advance 41 = .ok (.sipush 600, 3) := by decide +kernel
theorem dX5_advance_44 : decode cX5_advance 44 = .ok (.if_icmp .ge 13, 3) := by decide +kernel
theorem dX5_advance_47 : decode cX5_advance 47 = .ok (.aload_n 0, 1) := by decide +kernel
theorem dX5_advance_48 : decode cX5_advance 48 = .ok (.dup, 1) := by decide +kernel
theorem dX5_advance_49 : decode cX5_advance 49 = .ok (.getfield 41, 3) := by decide +kernel
theorem dX5_advance_52 : decode cX5_advance 52 = .ok (.iconst 1, 1) := by decide +kernel
theorem dX5_advance_53 : decode cX5_advance 53 = .ok (.iadd, 1) := by decide +kernel
theorem dX5_advance_54 : decode cX5_advance 54 = .ok (.putfield 41, 3) := by decide +kernel
theorem dX5_advance_57 : decode cX5_advance 57 = .ok (.iload_n 1, 1) := by decide +kernel
theorem dX5_advance_58 : decode cX5_advance 58 = .ok (.ireturn, 1) := by decide +kernel
theorem dX5_fail_0 : decode cX5_fail 0 = .ok (.aload_n 0, 1) := by decide +kernel
theorem dX5_fail_1 : decode cX5_fail 1 = .ok (.iconst 0, 1) := by decide +kernel
theorem dX5_fail_2 : decode cX5_fail 2 = .ok (.iload_n 1, 1) := by decide +kernel
theorem dX5_fail_3 : decode cX5_fail 3 = .ok (.invokevirtual 149, 3) := by decide +kernel
theorem dX5_fail_6 : decode cX5_fail 6 = .ok (.ireturn, 1) := by decide +kernel
theorem dX5_pass_0 : decode cX5_pass 0 = .ok (.aload_n 0, 1) := by decide +kernel
theorem dX5_pass_1 : decode cX5_pass 1 = .ok (.aload_n 0, 1) := by decide +kernel
theorem dX5_pass_2 : decode cX5_pass 2 = .ok (.getfield 44, 3) := by decide +kernel
theorem dX5_pass_5 : decode cX5_pass 5 = .ok (.aload_n 0, 1) := by decide +kernel
theorem dX5_pass_6 : decode cX5_pass 6 = .ok (.getfield 41, 3) := by decide +kernel
theorem dX5_pass_9 : decode cX5_pass 9 = .ok (.iaload, 1) := by decide +kernel
theorem dX5_pass_10 : decode cX5_pass 10 = .ok (.iload_n 1, 1) := by decide +kernel
theorem dX5_pass_11 : decode cX5_pass 11 = .ok (.if_icmp .ne 7, 3) := by decide +kernel
theorem dX5_pass_14 : decode cX5_pass 14 = .ok (.iconst 1, 1) := by decide +kernel
theorem dX5_pass_15 : decode cX5_pass 15 = .ok (.goto 4, 3) := by decide +kernel
theorem dX5_pass_18 : decode cX5_pass 18 = .ok (.iconst 0, 1) := by decide +kernel
theorem dX5_pass_19 : decode cX5_pass 19 = .ok (.iconst 1, 1) := by decide +kernel
theorem dX5_pass_20 : decode cX5_pass 20 = .ok (.invokevirtual 149, 3) := by decide +kernel
theorem dX5_pass_23 : decode cX5_pass 23 = .ok (.ireturn, 1) := by decide +kernel
theorem dX5_passNumber_0 : decode cX5_passNumber 0 = .ok (.aload_n 0, 1) := by decide +kernel
theorem dX5_passNumber_1 : decode cX5_passNumber 1 = .ok (.getfield 44, 3) := by decide +kernel
theorem dX5_passNumber_4 : decode cX5_passNumber 4 = .ok (.aload_n 0, 1) := by decide +kernel
theorem dX5_passNumber_5 : decode cX5_passNumber 5 = .ok (.getfield 41, 3) := by decide +kernel
theorem dX5_passNumber_8 : decode cX5_passNumber 8 = .ok (.iaload, 1) := by decide +kernel
theorem dX5_passNumber_9 : decode cX5_passNumber 9 = .ok (.iconst 3, 1) := by decide +kernel
theorem dX5_passNumber_10 : decode cX5_passNumber 10 = .ok (.if_icmp .eq 9, 3) := by decide +kernel
theorem dX5_passNumber_13 : decode cX5_passNumber 13 = .ok (.aload_n 0, 1) := by decide +kernel
theorem dX5_passNumber_14 : decode cX5_passNumber 14 = .ok (.iconst 1, 1) := by decide +kernel
theorem dX5_passNumber_15 : decode cX5_passNumber 15 = .ok (.invokevirtual 153, 3) := by decide +kernel
theorem dX5_passNumber_18 : decode cX5_passNumber 18 = .ok (.ireturn, 1) := by decide +kernel
theorem dX5_passNumber_19 : decode cX5_passNumber 19 = .ok (.aload_n 0, 1) := by decide +kernel
theorem dX5_passNumber_20 : decode cX5_passNumber 20 = .ok (.aload_n 0, 1) := by decide +kernel
theorem dX5_passNumber_21 : decode cX5_passNumber 21 = .ok (.getfield 47, 3) := by decide +kernel
theorem dX5_passNumber_24 : decode cX5_passNumber 24 = .ok (.aload_n 0, 1) := by decide +kernel
theorem dX5_passNumber_25 : decode cX5_passNumber 25 = .ok (.getfield 41, 3) := by decide +kernel
theorem dX5_passNumber_28 : decode cX5_passNumber 28 = .ok (.iaload, 1) := by decide +kernel
theorem dX5_passNumber_29 : decode cX5_passNumber 29 = .ok (.iload_n 1, 1) := by decide +kernel
theorem dX5_passNumber_30 : decode cX5_passNumber 30 = .ok (.if_icmp .lt 20, 3) := by decide +kernel
theorem dX5_passNumber_33 : decode cX5_passNumber 33 = .ok (.aload_n 0, 1) := by decide +kernel
theorem dX5_passNumber_34 : decode cX5_passNumber 34 = .ok (.getfield 47, 3) := by decide +kernel
theorem dX5_passNumber_37 : decode cX5_passNumber 37 = .ok (.aload_n 0, 1) := by decide +kernel
theorem dX5_passNumber_38 : decode cX5_passNumber 38 = .ok (.getfield 41, 3) := by decide +kernel
theorem dX5_passNumber_41 : decode cX5_passNumber 41 = .ok (.iaload, 1) := by decide +kernel
theorem dX5_passNumber_42 : decode cX5_passNumber 42 = .ok (.iload_n 2, 1) := by decide +kernel
theorem dX5_passNumber_43 : decode cX5_passNumber 43 = .ok (.if_icmp .gt 7, 3) := by decide +kernel
theorem dX5_passNumber_46 : decode cX5_passNumber 46 = .ok (.iconst 1, 1) := by decide +kernel
theorem dX5_passNumber_47 : decode cX5_passNumber 47 = .ok (.goto 4, 3) := by decide +kernel
theorem dX5_passNumber_50 : decode cX5_passNumber 50 = .ok (.iconst 0, 1) := by decide +kernel
theorem dX5_passNumber_51 : decode cX5_passNumber 51 = .ok (.iconst 2, 1) := by decide +kernel
theorem dX5_passNumber_52 : decode cX5_passNumber 52 = .ok (.invokevirtual 149, 3) := by decide +kernel
theorem dX5_passNumber_55 : decode cX5_passNumber 55 = .ok (.ireturn, 1) := by decide +kernel
theorem dX5_passed_0 : decode cX5_passed 0 = .ok (.aload_n 0, 1) := by decide +kernel
theorem dX5_passed_1 : decode cX5_passed 1 = .ok (.getfield 41, 3) := by decide +kernel
theorem dX5_passed_4 : decode cX5_passed 4 = .ok (.ifCond .le 17, 3) := by decide +kernel
theorem dX5_passed_7 : decode cX5_passed 7 = .ok (.aload_n 0, 1) := by decide +kernel
theorem dX5_passed_8 : decode cX5_passed 8 = .ok (.getfield 47, 3) := by decide +kernel
theorem dX5_passed_11 : decode cX5_passed 11 = .ok (.aload_n 0, 1) := by decide +kernel
theorem dX5_passed_12 : decode cX5_passed 12 = .ok (.getfield 41, 3) := by decide +kernel
theorem dX5_passed_15 : decode cX5_passed 15 = .ok (.iconst 1, 1) := by decide +kernel
theorem dX5_passed_16 : decode cX5_passed 16 = .ok (.isub, 1) := by decide +kernel
theorem dX5_passed_17 : decode cX5_passed 17 = .ok (.iaload, 1) := by decide +kernel
theorem dX5_passed_18 : decode cX5_passed 18 = .ok (.goto 4, 3) := by decide +kernel
theorem dX5_passed_21 : decode cX5_passed 21 = .ok (.iconst 0, 1) := by decide +kernel
theorem dX5_passed_22 : decode cX5_passed 22 = .ok (.ireturn, 1) := by decide +kernel
theorem dX5_emit_0 : decode cX5_emit 0 = .ok (.aload_n 0, 1) := by decide +kernel
theorem dX5_emit_1 : decode cX5_emit 1 = .ok (.getfield 18, 3) := by decide +kernel
theorem dX5_emit_4 : decode cX5_emit 4 = .ok (.ifCond .lt 43, 3) := by decide +kernel
theorem dX5_emit_7 : decode cX5_emit 7 = .ok (.aload_n 0, 1) := by decide +kernel
theorem dX5_emit_8 : decode cX5_emit 8 = .ok (.getfield 18, 3) := by decide +kernel
theorem dX5_emit_11 : decode cX5_emit 11 = .ok (.sipush 601, 3) := by decide +kernel
theorem dX5_emit_14 : decode cX5_emit 14 = .ok (.if_icmp .ge 33, 3) := by decide +kernel
theorem dX5_emit_17 : decode cX5_emit 17 = .ok (.aload_n 0, 1) := by decide +kernel
theorem dX5_emit_18 : decode cX5_emit 18 = .ok (.getfield 21, 3) := by decide +kernel
theorem dX5_emit_21 : decode cX5_emit 21 = .ok (.aload_n 0, 1) := by decide +kernel
theorem dX5_emit_22 : decode cX5_emit 22 = .ok (.getfield 18, 3) := by decide +kernel
theorem dX5_emit_25 : decode cX5_emit 25 = .ok (.iload_n 1, 1) := by decide +kernel
theorem dX5_emit_26 : decode cX5_emit 26 = .ok (.iastore, 1) := by decide +kernel
theorem dX5_emit_27 : decode cX5_emit 27 = .ok (.aload_n 0, 1) := by decide +kernel
theorem dX5_emit_28 : decode cX5_emit 28 = .ok (.getfield 25, 3) := by decide +kernel
theorem dX5_emit_31 : decode cX5_emit 31 = .ok (.aload_n 0, 1) := by decide +kernel
theorem dX5_emit_32 : decode cX5_emit 32 = .ok (.getfield 18, 3) := by decide +kernel
theorem dX5_emit_35 : decode cX5_emit 35 = .ok (.iload_n 2, 1) := by decide +kernel
theorem dX5_emit_36 : decode cX5_emit 36 = .ok (.iastore, 1) := by decide +kernel
theorem dX5_emit_37 : decode cX5_emit 37 = .ok (.aload_n 0, 1) := by decide +kernel
theorem dX5_emit_38 : decode cX5_emit 38 = .ok (.dup, 1) := by decide +kernel
theorem dX5_emit_39 : decode cX5_emit 39 = .ok (.getfield 18, 3) := by decide +kernel
theorem dX5_emit_42 : decode cX5_emit 42 = .ok (.iconst 1, 1) := by decide +kernel
theorem dX5_emit_43 : decode cX5_emit 43 = .ok (.iadd, 1) := by decide +kernel
theorem dX5_emit_44 : decode cX5_emit 44 = .ok (.putfield 18, 3) := by decide +kernel
theorem dX5_emit_47 : decode cX5_emit 47 = .ok (.iconst 1, 1) := by decide +kernel
theorem dX5_emit_48 : decode cX5_emit 48 = .ok (.ireturn, 1) := by decide +kernel
theorem dX5_readLine_0 : decode cX5_readLine 0 = .ok (.aload_n 0, 1) := by decide +kernel
theorem dX5_readLine_1 : decode cX5_readLine 1 = .ok (.getfield 44, 3) := by decide +kernel
theorem dX5_readLine_4 : decode cX5_readLine 4 = .ok (.aload_n 0, 1) := by decide +kernel
theorem dX5_readLine_5 : decode cX5_readLine 5 = .ok (.getfield 41, 3) := by decide +kernel
theorem dX5_readLine_8 : decode cX5_readLine 8 = .ok (.iaload, 1) := by decide +kernel
theorem dX5_readLine_9 : decode cX5_readLine 9 = .ok (.iconst 2, 1) := by decide +kernel
theorem dX5_readLine_10 : decode cX5_readLine 10 = .ok (.if_icmp .ne 15, 3) := by decide +kernel
theorem dX5_readLine_13 : decode cX5_readLine 13 = .ok (.aload_n 0, 1) := by decide +kernel
theorem dX5_readLine_14 : decode cX5_readLine 14 = .ok (.getfield 47, 3) := by decide +kernel
theorem dX5_readLine_17 : decode cX5_readLine 17 = .ok (.aload_n 0, 1) := by decide +kernel
theorem dX5_readLine_18 : decode cX5_readLine 18 = .ok (.getfield 41, 3) := by decide +kernel
theorem dX5_readLine_21 : decode cX5_readLine 21 = .ok (.iaload, 1) := by decide +kernel
theorem dX5_readLine_22 : decode cX5_readLine 22 = .ok (.goto 4, 3) := by decide +kernel
theorem dX5_readLine_25 : decode cX5_readLine 25 = .ok (.iconst (-1), 1) := by decide +kernel
theorem dX5_readLine_26 : decode cX5_readLine 26 = .ok (.istore_n 2, 1) := by decide +kernel
theorem dX5_readLine_27 : decode cX5_readLine 27 = .ok (.aload_n 1, 1) := by decide +kernel
theorem dX5_readLine_28 : decode cX5_readLine 28 = .ok (.getfield 64, 3) := by decide +kernel
theorem dX5_readLine_31 : decode cX5_readLine 31 = .ok (.ifCond .ne 7, 3) := by decide +kernel
theorem dX5_readLine_34 : decode cX5_readLine 34 = .ok (.iconst 1, 1) := by decide +kernel
theorem dX5_readLine_35 : decode cX5_readLine 35 = .ok (.goto 4, 3) := by decide +kernel
theorem dX5_readLine_38 : decode cX5_readLine 38 = .ok (.iconst 0, 1) := by decide +kernel
theorem dX5_readLine_39 : decode cX5_readLine 39 = .ok (.istore_n 3, 1) := by decide +kernel
theorem dX5_readLine_40 : decode cX5_readLine 40 = .ok (.iload_n 3, 1) := by decide +kernel
theorem dX5_readLine_41 : decode cX5_readLine 41 = .ok (.iload_n 2, 1) := by decide +kernel
theorem dX5_readLine_42 : decode cX5_readLine 42 = .ok (.iconst 1, 1) := by decide +kernel
theorem dX5_readLine_43 : decode cX5_readLine 43 = .ok (.if_icmp .ne 7, 3) := by decide +kernel
theorem dX5_readLine_46 : decode cX5_readLine 46 = .ok (.iconst 1, 1) := by decide +kernel
theorem dX5_readLine_47 : decode cX5_readLine 47 = .ok (.goto 4, 3) := by decide +kernel
theorem dX5_readLine_50 : decode cX5_readLine 50 = .ok (.iconst 0, 1) := by decide +kernel
theorem dX5_readLine_51 : decode cX5_readLine 51 = .ok (.if_icmp .ne 13, 3) := by decide +kernel
theorem dX5_readLine_54 : decode cX5_readLine 54 = .ok (.iload_n 2, 1) := by decide +kernel
theorem dX5_readLine_55 : decode cX5_readLine 55 = .ok (.iconst 1, 1) := by decide +kernel
theorem dX5_readLine_56 : decode cX5_readLine 56 = .ok (.if_icmp .lt 8, 3) := by decide +kernel
theorem dX5_readLine_59 : decode cX5_readLine 59 = .ok (.iload_n 2, 1) := by decide +kernel
theorem dX5_readLine_60 : decode cX5_readLine 60 = .ok (.iconst 4, 1) := by decide +kernel
theorem dX5_readLine_61 : decode cX5_readLine 61 = .ok (.if_icmp .le 9, 3) := by decide +kernel
theorem dX5_readLine_64 : decode cX5_readLine 64 = .ok (.aload_n 0, 1) := by decide +kernel
theorem dX5_readLine_65 : decode cX5_readLine 65 = .ok (.iconst 1, 1) := by decide +kernel
theorem dX5_readLine_66 : decode cX5_readLine 66 = .ok (.invokevirtual 153, 3) := by decide +kernel
theorem dX5_readLine_69 : decode cX5_readLine 69 = .ok (.ireturn, 1) := by decide +kernel
theorem dX5_readLine_70 : decode cX5_readLine 70 = .ok (.iload_n 2, 1) := by decide +kernel
theorem dX5_readLine_71 : decode cX5_readLine 71 = .ok (.iconst 3, 1) := by decide +kernel
theorem dX5_readLine_72 : decode cX5_readLine 72 = .ok (.if_icmp .ne 20, 3) := by decide +kernel
theorem dX5_readLine_75 : decode cX5_readLine 75 = .ok (.aload_n 1, 1) := by decide +kernel
theorem dX5_readLine_76 : decode cX5_readLine 76 = .ok (.getfield 156, 3) := by decide +kernel
theorem dX5_readLine_79 : decode cX5_readLine 79 = .ok (.aload_n 0, 1) := by decide +kernel
theorem dX5_readLine_80 : decode cX5_readLine 80 = .ok (.getfield 35, 3) := by decide +kernel
theorem dX5_readLine_83 : decode cX5_readLine 83 = .ok (.if_icmp .lt 9, 3) := by decide +kernel
theorem dX5_readLine_86 : decode cX5_readLine 86 = .ok (.aload_n 0, 1) := by decide +kernel
theorem dX5_readLine_87 : decode cX5_readLine 87 = .ok (.iconst 3, 1) := by decide +kernel
theorem dX5_readLine_88 : decode cX5_readLine 88 = .ok (.invokevirtual 153, 3) := by decide +kernel
theorem dX5_readLine_91 : decode cX5_readLine 91 = .ok (.ireturn, 1) := by decide +kernel
theorem dX5_readLine_92 : decode cX5_readLine 92 = .ok (.aload_n 0, 1) := by decide +kernel
theorem dX5_readLine_93 : decode cX5_readLine 93 = .ok (.iconst 2, 1) := by decide +kernel
theorem dX5_readLine_94 : decode cX5_readLine 94 = .ok (.invokevirtual 73, 3) := by decide +kernel
theorem dX5_readLine_97 : decode cX5_readLine 97 = .ok (.pop, 1) := by decide +kernel
theorem dX5_readLine_98 : decode cX5_readLine 98 = .ok (.aload_n 0, 1) := by decide +kernel
theorem dX5_readLine_99 : decode cX5_readLine 99 = .ok (.getfield 47, 3) := by decide +kernel
theorem dX5_readLine_102 : decode cX5_readLine 102 = .ok (.aload_n 0, 1) := by decide +kernel
theorem dX5_readLine_103 : decode cX5_readLine 103 = .ok (.getfield 41, 3) := by decide +kernel
theorem dX5_readLine_106 : decode cX5_readLine 106 = .ok (.iaload, 1) := by decide +kernel
theorem dX5_readLine_107 : decode cX5_readLine 107 = .ok (.istore 4, 2) := by decide +kernel
theorem dX5_readLine_109 : decode cX5_readLine 109 = .ok (.iload_n 2, 1) := by decide +kernel
theorem dX5_readLine_110 : decode cX5_readLine 110 = .ok (.tableswitch 56 1 3 #[26, 36, 46], 26) := by decide +kernel
theorem dX5_readLine_136 : decode cX5_readLine 136 = .ok (.aload_n 0, 1) := by decide +kernel
theorem dX5_readLine_137 : decode cX5_readLine 137 = .ok (.aload_n 1, 1) := by decide +kernel
theorem dX5_readLine_138 : decode cX5_readLine 138 = .ok (.invokevirtual 159, 3) := by decide +kernel
theorem dX5_readLine_141 : decode cX5_readLine 141 = .ok (.istore 5, 2) := by decide +kernel
theorem dX5_readLine_143 : decode cX5_readLine 143 = .ok (.goto 68, 3) := by decide +kernel
theorem dX5_readLine_146 : decode cX5_readLine 146 = .ok (.aload_n 0, 1) := by decide +kernel
theorem dX5_readLine_147 : decode cX5_readLine 147 = .ok (.aload_n 1, 1) := by decide +kernel
theorem dX5_readLine_148 : decode cX5_readLine 148 = .ok (.invokevirtual 162, 3) := by decide +kernel
theorem dX5_readLine_151 : decode cX5_readLine 151 = .ok (.istore 5, 2) := by decide +kernel
theorem dX5_readLine_153 : decode cX5_readLine 153 = .ok (.goto 58, 3) := by decide +kernel
theorem dX5_readLine_156 : decode cX5_readLine 156 = .ok (.aload_n 0, 1) := by decide +kernel
theorem dX5_readLine_157 : decode cX5_readLine 157 = .ok (.aload_n 1, 1) := by decide +kernel
theorem dX5_readLine_158 : decode cX5_readLine 158 = .ok (.invokevirtual 165, 3) := by decide +kernel
theorem dX5_readLine_161 : decode cX5_readLine 161 = .ok (.istore 5, 2) := by decide +kernel
theorem dX5_readLine_163 : decode cX5_readLine 163 = .ok (.goto 48, 3) := by decide +kernel
theorem dX5_readLine_166 : decode cX5_readLine 166 = .ok (.aload_n 0, 1) := by decide +kernel
theorem dX5_readLine_167 : decode cX5_readLine 167 = .ok (.iconst 0, 1) := by decide +kernel
theorem dX5_readLine_168 : decode cX5_readLine 168 = .ok (.bipush 9, 2) := by decide +kernel
theorem dX5_readLine_170 : decode cX5_readLine 170 = .ok (.invokevirtual 168, 3) := by decide +kernel
theorem dX5_readLine_173 : decode cX5_readLine 173 = .ok (.ifCond .eq 35, 3) := by decide +kernel
theorem dX5_readLine_176 : decode cX5_readLine 176 = .ok (.aload_n 0, 1) := by decide +kernel
theorem dX5_readLine_177 : decode cX5_readLine 177 = .ok (.bipush 61, 2) := by decide +kernel
theorem dX5_readLine_179 : decode cX5_readLine 179 = .ok (.invokevirtual 73, 3) := by decide +kernel
theorem dX5_readLine_182 : decode cX5_readLine 182 = .ok (.ifCond .eq 26, 3) := by decide +kernel
theorem dX5_readLine_185 : decode cX5_readLine 185 = .ok (.aload_n 0, 1) := by decide +kernel
theorem dX5_readLine_186 : decode cX5_readLine 186 = .ok (.iconst 0, 1) := by decide +kernel
theorem dX5_readLine_187 : decode cX5_readLine 187 = .ok (.invokevirtual 69, 3) := by decide +kernel
theorem dX5_readLine_190 : decode cX5_readLine 190 = .ok (.ifCond .eq 18, 3) := by decide +kernel
theorem dX5_readLine_193 : decode cX5_readLine 193 = .ok (.aload_n 0, 1) := by decide +kernel
theorem dX5_readLine_194 : decode cX5_readLine 194 = .ok (.bipush 6, 2) := by decide +kernel
theorem dX5_readLine_196 : decode cX5_readLine 196 = .ok (.iload 4, 2) := by decide +kernel
theorem dX5_readLine_198 : decode cX5_readLine 198 = .ok (.invokevirtual 76, 3) := by decide +kernel
theorem dX5_readLine_201 : decode cX5_readLine 201 = .ok (.ifCond .eq 7, 3) := by decide +kernel
theorem dX5_readLine_204 : decode cX5_readLine 204 = .ok (.iconst 1, 1) := by decide +kernel
theorem dX5_readLine_205 : decode cX5_readLine 205 = .ok (.goto 4, 3) := by decide +kernel
theorem dX5_readLine_208 : decode cX5_readLine 208 = .ok (.iconst 0, 1) := by decide +kernel
theorem dX5_readLine_209 : decode cX5_readLine 209 = .ok (.istore 5, 2) := by decide +kernel
theorem dX5_readLine_211 : decode cX5_readLine 211 = .ok (.iload 5, 2) := by decide +kernel
theorem dX5_readLine_213 : decode cX5_readLine 213 = .ok (.ifCond .eq 16, 3) := by decide +kernel
theorem dX5_readLine_216 : decode cX5_readLine 216 = .ok (.aload_n 0, 1) := by decide +kernel
theorem dX5_readLine_217 : decode cX5_readLine 217 = .ok (.bipush 59, 2) := by decide +kernel
theorem dX5_readLine_219 : decode cX5_readLine 219 = .ok (.invokevirtual 73, 3) := by decide +kernel
theorem dX5_readLine_222 : decode cX5_readLine 222 = .ok (.ifCond .eq 7, 3) := by decide +kernel
theorem dX5_readLine_225 : decode cX5_readLine 225 = .ok (.iconst 1, 1) := by decide +kernel
theorem dX5_readLine_226 : decode cX5_readLine 226 = .ok (.goto 4, 3) := by decide +kernel
theorem dX5_readLine_229 : decode cX5_readLine 229 = .ok (.iconst 0, 1) := by decide +kernel
theorem dX5_readLine_230 : decode cX5_readLine 230 = .ok (.ireturn, 1) := by decide +kernel
theorem dX5_readNames_0 : decode cX5_readNames 0 = .ok (.aload_n 0, 1) := by decide +kernel
theorem dX5_readNames_1 : decode cX5_readNames 1 = .ok (.iconst 1, 1) := by decide +kernel
theorem dX5_readNames_2 : decode cX5_readNames 2 = .ok (.bipush 10, 2) := by decide +kernel
theorem dX5_readNames_4 : decode cX5_readNames 4 = .ok (.invokevirtual 168, 3) := by decide +kernel
theorem dX5_readNames_7 : decode cX5_readNames 7 = .ok (.ifCond .ne 5, 3) := by decide +kernel
theorem dX5_readNames_10 : decode cX5_readNames 10 = .ok (.iconst 0, 1) := by decide +kernel
theorem dX5_readNames_11 : decode cX5_readNames 11 = .ok (.ireturn, 1) := by decide +kernel
theorem dX5_readNames_12 : decode cX5_readNames 12 = .ok (.aload_n 0, 1) := by decide +kernel
theorem dX5_readNames_13 : decode cX5_readNames 13 = .ok (.aload_n 0, 1) := by decide +kernel
theorem dX5_readNames_14 : decode cX5_readNames 14 = .ok (.invokevirtual 171, 3) := by decide +kernel
theorem dX5_readNames_17 : decode cX5_readNames 17 = .ok (.putfield 35, 3) := by decide +kernel
theorem dX5_readNames_20 : decode cX5_readNames 20 = .ok (.aload_n 1, 1) := by decide +kernel
theorem dX5_readNames_21 : decode cX5_readNames 21 = .ok (.aload_n 0, 1) := by decide +kernel
theorem dX5_readNames_22 : decode cX5_readNames 22 = .ok (.getfield 35, 3) := by decide +kernel
theorem dX5_readNames_25 : decode cX5_readNames 25 = .ok (.putfield 174, 3) := by decide +kernel
theorem dX5_readNames_28 : decode cX5_readNames 28 = .ok (.iconst 1, 1) := by decide +kernel
theorem dX5_readNames_29 : decode cX5_readNames 29 = .ok (.ireturn, 1) := by decide +kernel
theorem dX5_readWeight_0 : decode cX5_readWeight 0 = .ok (.aload_n 0, 1) := by decide +kernel
theorem dX5_readWeight_1 : decode cX5_readWeight 1 = .ok (.getfield 44, 3) := by decide +kernel
theorem dX5_readWeight_4 : decode cX5_readWeight 4 = .ok (.aload_n 0, 1) := by decide +kernel
theorem dX5_readWeight_5 : decode cX5_readWeight 5 = .ok (.getfield 41, 3) := by decide +kernel
theorem dX5_readWeight_8 : decode cX5_readWeight 8 = .ok (.iaload, 1) := by decide +kernel
theorem dX5_readWeight_9 : decode cX5_readWeight 9 = .ok (.iconst 2, 1) := by decide +kernel
theorem dX5_readWeight_10 : decode cX5_readWeight 10 = .ok (.if_icmp .ne 26, 3) := by decide +kernel
theorem dX5_readWeight_13 : decode cX5_readWeight 13 = .ok (.aload_n 0, 1) := by decide +kernel
theorem dX5_readWeight_14 : decode cX5_readWeight 14 = .ok (.getfield 53, 3) := by decide +kernel
theorem dX5_readWeight_17 : decode cX5_readWeight 17 = .ok (.aload_n 0, 1) := by decide +kernel
theorem dX5_readWeight_18 : decode cX5_readWeight 18 = .ok (.getfield 41, 3) := by decide +kernel
theorem dX5_readWeight_21 : decode cX5_readWeight 21 = .ok (.iaload, 1) := by decide +kernel
theorem dX5_readWeight_22 : decode cX5_readWeight 22 = .ok (.aload_n 0, 1) := by decide +kernel
theorem dX5_readWeight_23 : decode cX5_readWeight 23 = .ok (.getfield 50, 3) := by decide +kernel
theorem dX5_readWeight_26 : decode cX5_readWeight 26 = .ok (.aload_n 0, 1) := by decide +kernel
theorem dX5_readWeight_27 : decode cX5_readWeight 27 = .ok (.getfield 41, 3) := by decide +kernel
theorem dX5_readWeight_30 : decode cX5_readWeight 30 = .ok (.iaload, 1) := by decide +kernel
theorem dX5_readWeight_31 : decode cX5_readWeight 31 = .ok (.isub, 1) := by decide +kernel
theorem dX5_readWeight_32 : decode cX5_readWeight 32 = .ok (.iconst 1, 1) := by decide +kernel
theorem dX5_readWeight_33 : decode cX5_readWeight 33 = .ok (.if_icmp .eq 9, 3) := by decide +kernel
theorem dX5_readWeight_36 : decode cX5_readWeight 36 = .ok (.aload_n 0, 1) := by decide +kernel
theorem dX5_readWeight_37 : decode cX5_readWeight 37 = .ok (.iconst 1, 1) := by decide +kernel
theorem dX5_readWeight_38 : decode cX5_readWeight 38 = .ok (.invokevirtual 153, 3) := by decide +kernel
theorem dX5_readWeight_41 : decode cX5_readWeight 41 = .ok (.ireturn, 1) := by decide +kernel
theorem dX5_readWeight_42 : decode cX5_readWeight 42 = .ok (.aload_n 0, 1) := by decide +kernel
theorem dX5_readWeight_43 : decode cX5_readWeight 43 = .ok (.getfield 28, 3) := by decide +kernel
theorem dX5_readWeight_46 : decode cX5_readWeight 46 = .ok (.aload_n 0, 1) := by decide +kernel
theorem dX5_readWeight_47 : decode cX5_readWeight 47 = .ok (.getfield 50, 3) := by decide +kernel
theorem dX5_readWeight_50 : decode cX5_readWeight 50 = .ok (.aload_n 0, 1) := by decide +kernel
theorem dX5_readWeight_51 : decode cX5_readWeight 51 = .ok (.getfield 41, 3) := by decide +kernel
theorem dX5_readWeight_54 : decode cX5_readWeight 54 = .ok (.iaload, 1) := by decide +kernel
theorem dX5_readWeight_55 : decode cX5_readWeight 55 = .ok (.baload, 1) := by decide +kernel
theorem dX5_readWeight_56 : decode cX5_readWeight 56 = .ok (.bipush 97, 2) := by decide +kernel
theorem dX5_readWeight_58 : decode cX5_readWeight 58 = .ok (.isub, 1) := by decide +kernel
theorem dX5_readWeight_59 : decode cX5_readWeight 59 = .ok (.istore_n 2, 1) := by decide +kernel
theorem dX5_readWeight_60 : decode cX5_readWeight 60 = .ok (.iload_n 2, 1) := by decide +kernel
theorem dX5_readWeight_61 : decode cX5_readWeight 61 = .ok (.ifCond .lt 21, 3) := by decide +kernel
theorem dX5_readWeight_64 : decode cX5_readWeight 64 = .ok (.iload_n 2, 1) := by decide +kernel
theorem dX5_readWeight_65 : decode cX5_readWeight 65 = .ok (.aload_n 0, 1) := by decide +kernel
theorem dX5_readWeight_66 : decode cX5_readWeight 66 = .ok (.getfield 35, 3) := by decide +kernel
theorem dX5_readWeight_69 : decode cX5_readWeight 69 = .ok (.if_icmp .ge 13, 3) := by decide +kernel
theorem dX5_readWeight_72 : decode cX5_readWeight 72 = .ok (.iload_n 2, 1) := by decide +kernel
theorem dX5_readWeight_73 : decode cX5_readWeight 73 = .ok (.bipush 10, 2) := by decide +kernel
theorem dX5_readWeight_75 : decode cX5_readWeight 75 = .ok (.if_icmp .ge 7, 3) := by decide +kernel
theorem dX5_readWeight_78 : decode cX5_readWeight 78 = .ok (.iconst 1, 1) := by decide +kernel
theorem dX5_readWeight_79 : decode cX5_readWeight 79 = .ok (.goto 4, 3) := by decide +kernel
theorem dX5_readWeight_82 : decode cX5_readWeight 82 = .ok (.iconst 0, 1) := by decide +kernel
theorem dX5_readWeight_83 : decode cX5_readWeight 83 = .ok (.istore_n 3, 1) := by decide +kernel
theorem dX5_readWeight_84 : decode cX5_readWeight 84 = .ok (.aload_n 0, 1) := by decide +kernel
theorem dX5_readWeight_85 : decode cX5_readWeight 85 = .ok (.iload_n 3, 1) := by decide +kernel
theorem dX5_readWeight_86 : decode cX5_readWeight 86 = .ok (.iconst 2, 1) := by decide +kernel
theorem dX5_readWeight_87 : decode cX5_readWeight 87 = .ok (.invokevirtual 149, 3) := by decide +kernel
theorem dX5_readWeight_90 : decode cX5_readWeight 90 = .ok (.ifCond .eq 13, 3) := by decide +kernel
theorem dX5_readWeight_93 : decode cX5_readWeight 93 = .ok (.aload_n 0, 1) := by decide +kernel
theorem dX5_readWeight_94 : decode cX5_readWeight 94 = .ok (.iconst 0, 1) := by decide +kernel
theorem dX5_readWeight_95 : decode cX5_readWeight 95 = .ok (.bipush 99, 2) := by decide +kernel
theorem dX5_readWeight_97 : decode cX5_readWeight 97 = .ok (.invokevirtual 168, 3) := by decide +kernel
theorem dX5_readWeight_100 : decode cX5_readWeight 100 = .ok (.ifCond .ne 5, 3) := by decide +kernel
theorem dX5_readWeight_103 : decode cX5_readWeight 103 = .ok (.iconst 0, 1) := by decide +kernel
theorem dX5_readWeight_104 : decode cX5_readWeight 104 = .ok (.ireturn, 1) := by decide +kernel
theorem dX5_readWeight_105 : decode cX5_readWeight 105 = .ok (.aload_n 1, 1) := by decide +kernel
theorem dX5_readWeight_106 : decode cX5_readWeight 106 = .ok (.getfield 175, 3) := by decide +kernel
theorem dX5_readWeight_109 : decode cX5_readWeight 109 = .ok (.iload_n 2, 1) := by decide +kernel
theorem dX5_readWeight_110 : decode cX5_readWeight 110 = .ok (.aload_n 0, 1) := by decide +kernel
theorem dX5_readWeight_111 : decode cX5_readWeight 111 = .ok (.invokevirtual 171, 3) := by decide +kernel
theorem dX5_readWeight_114 : decode cX5_readWeight 114 = .ok (.iastore, 1) := by decide +kernel
theorem dX5_readWeight_115 : decode cX5_readWeight 115 = .ok (.iconst 1, 1) := by decide +kernel
theorem dX5_readWeight_116 : decode cX5_readWeight 116 = .ok (.ireturn, 1) := by decide +kernel
theorem dX5_readEdge_0 : decode cX5_readEdge 0 = .ok (.aload_n 0, 1) := by decide +kernel
theorem dX5_readEdge_1 : decode cX5_readEdge 1 = .ok (.iconst 0, 1) := by decide +kernel
theorem dX5_readEdge_2 : decode cX5_readEdge 2 = .ok (.bipush 7, 2) := by decide +kernel
theorem dX5_readEdge_4 : decode cX5_readEdge 4 = .ok (.invokevirtual 168, 3) := by decide +kernel
theorem dX5_readEdge_7 : decode cX5_readEdge 7 = .ok (.ifCond .ne 5, 3) := by decide +kernel
theorem dX5_readEdge_10 : decode cX5_readEdge 10 = .ok (.iconst 0, 1) := by decide +kernel
theorem dX5_readEdge_11 : decode cX5_readEdge 11 = .ok (.ireturn, 1) := by decide +kernel
theorem dX5_readEdge_12 : decode cX5_readEdge 12 = .ok (.aload_n 0, 1) := by decide +kernel
theorem dX5_readEdge_13 : decode cX5_readEdge 13 = .ok (.invokevirtual 171, 3) := by decide +kernel
theorem dX5_readEdge_16 : decode cX5_readEdge 16 = .ok (.istore_n 2, 1) := by decide +kernel
theorem dX5_readEdge_17 : decode cX5_readEdge 17 = .ok (.aload_n 0, 1) := by decide +kernel
theorem dX5_readEdge_18 : decode cX5_readEdge 18 = .ok (.getfield 44, 3) := by decide +kernel
theorem dX5_readEdge_21 : decode cX5_readEdge 21 = .ok (.aload_n 0, 1) := by decide +kernel
theorem dX5_readEdge_22 : decode cX5_readEdge 22 = .ok (.getfield 41, 3) := by decide +kernel
theorem dX5_readEdge_25 : decode cX5_readEdge 25 = .ok (.iaload, 1) := by decide +kernel
theorem dX5_readEdge_26 : decode cX5_readEdge 26 = .ok (.iconst 3, 1) := by decide +kernel
theorem dX5_readEdge_27 : decode cX5_readEdge 27 = .ok (.if_icmp .ne 22, 3) := by decide +kernel
theorem dX5_readEdge_30 : decode cX5_readEdge 30 = .ok (.aload_n 0, 1) := by decide +kernel
theorem dX5_readEdge_31 : decode cX5_readEdge 31 = .ok (.getfield 47, 3) := by decide +kernel
theorem dX5_readEdge_34 : decode cX5_readEdge 34 = .ok (.aload_n 0, 1) := by decide +kernel
theorem dX5_readEdge_35 : decode cX5_readEdge 35 = .ok (.getfield 41, 3) := by decide +kernel
theorem dX5_readEdge_38 : decode cX5_readEdge 38 = .ok (.iaload, 1) := by decide +kernel
theorem dX5_readEdge_39 : decode cX5_readEdge 39 = .ok (.iload_n 2, 1) := by decide +kernel
theorem dX5_readEdge_40 : decode cX5_readEdge 40 = .ok (.if_icmp .ne 9, 3) := by decide +kernel
theorem dX5_readEdge_43 : decode cX5_readEdge 43 = .ok (.aload_n 0, 1) := by decide +kernel
theorem dX5_readEdge_44 : decode cX5_readEdge 44 = .ok (.iconst 2, 1) := by decide +kernel
theorem dX5_readEdge_45 : decode cX5_readEdge 45 = .ok (.invokevirtual 153, 3) := by decide +kernel
theorem dX5_readEdge_48 : decode cX5_readEdge 48 = .ok (.ireturn, 1) := by decide +kernel
theorem dX5_readEdge_49 : decode cX5_readEdge 49 = .ok (.aload_n 0, 1) := by decide +kernel
theorem dX5_readEdge_50 : decode cX5_readEdge 50 = .ok (.iconst 0, 1) := by decide +kernel
theorem dX5_readEdge_51 : decode cX5_readEdge 51 = .ok (.bipush 7, 2) := by decide +kernel
theorem dX5_readEdge_53 : decode cX5_readEdge 53 = .ok (.invokevirtual 168, 3) := by decide +kernel
theorem dX5_readEdge_56 : decode cX5_readEdge 56 = .ok (.ifCond .ne 5, 3) := by decide +kernel
theorem dX5_readEdge_59 : decode cX5_readEdge 59 = .ok (.iconst 0, 1) := by decide +kernel
theorem dX5_readEdge_60 : decode cX5_readEdge 60 = .ok (.ireturn, 1) := by decide +kernel
theorem dX5_readEdge_61 : decode cX5_readEdge 61 = .ok (.aload_n 1, 1) := by decide +kernel
theorem dX5_readEdge_62 : decode cX5_readEdge 62 = .ok (.iload_n 2, 1) := by decide +kernel
theorem dX5_readEdge_63 : decode cX5_readEdge 63 = .ok (.aload_n 0, 1) := by decide +kernel
theorem dX5_readEdge_64 : decode cX5_readEdge 64 = .ok (.invokevirtual 171, 3) := by decide +kernel
theorem dX5_readEdge_67 : decode cX5_readEdge 67 = .ok (.invokevirtual 178, 3) := by decide +kernel
theorem dX5_readEdge_70 : decode cX5_readEdge 70 = .ok (.iconst 1, 1) := by decide +kernel
theorem dX5_readEdge_71 : decode cX5_readEdge 71 = .ok (.ireturn, 1) := by decide +kernel
theorem dX5_sum_0 : decode cX5_sum 0 = .ok (.iconst (-1), 1) := by decide +kernel
theorem dX5_sum_1 : decode cX5_sum 1 = .ok (.istore_n 2, 1) := by decide +kernel
theorem dX5_sum_2 : decode cX5_sum 2 = .ok (.aload_n 0, 1) := by decide +kernel
theorem dX5_sum_3 : decode cX5_sum 3 = .ok (.iload_n 1, 1) := by decide +kernel
theorem dX5_sum_4 : decode cX5_sum 4 = .ok (.invokevirtual 182, 3) := by decide +kernel
theorem dX5_sum_7 : decode cX5_sum 7 = .ok (.ifCond .ne 5, 3) := by decide +kernel
theorem dX5_sum_10 : decode cX5_sum 10 = .ok (.iconst 0, 1) := by decide +kernel
theorem dX5_sum_11 : decode cX5_sum 11 = .ok (.ireturn, 1) := by decide +kernel
theorem dX5_sum_12 : decode cX5_sum 12 = .ok (.iconst 0, 1) := by decide +kernel
theorem dX5_sum_13 : decode cX5_sum 13 = .ok (.istore_n 3, 1) := by decide +kernel
theorem dX5_sum_14 : decode cX5_sum 14 = .ok (.iload_n 3, 1) := by decide +kernel
theorem dX5_sum_15 : decode cX5_sum 15 = .ok (.sipush 601, 3) := by decide +kernel
theorem dX5_sum_18 : decode cX5_sum 18 = .ok (.if_icmp .ge 133, 3) := by decide +kernel
theorem dX5_sum_21 : decode cX5_sum 21 = .ok (.aload_n 0, 1) := by decide +kernel
theorem dX5_sum_22 : decode cX5_sum 22 = .ok (.getfield 44, 3) := by decide +kernel
theorem dX5_sum_25 : decode cX5_sum 25 = .ok (.aload_n 0, 1) := by decide +kernel
theorem dX5_sum_26 : decode cX5_sum 26 = .ok (.getfield 41, 3) := by decide +kernel
theorem dX5_sum_29 : decode cX5_sum 29 = .ok (.iaload, 1) := by decide +kernel
theorem dX5_sum_30 : decode cX5_sum 30 = .ok (.invokestatic 111, 3) := by decide +kernel
theorem dX5_sum_33 : decode cX5_sum 33 = .ok (.ifCond .lt 118, 3) := by decide +kernel
theorem dX5_sum_36 : decode cX5_sum 36 = .ok (.aload_n 0, 1) := by decide +kernel
theorem dX5_sum_37 : decode cX5_sum 37 = .ok (.getfield 44, 3) := by decide +kernel
theorem dX5_sum_40 : decode cX5_sum 40 = .ok (.aload_n 0, 1) := by decide +kernel
theorem dX5_sum_41 : decode cX5_sum 41 = .ok (.getfield 41, 3) := by decide +kernel
theorem dX5_sum_44 : decode cX5_sum 44 = .ok (.iaload, 1) := by decide +kernel
theorem dX5_sum_45 : decode cX5_sum 45 = .ok (.invokestatic 111, 3) := by decide +kernel
theorem dX5_sum_48 : decode cX5_sum 48 = .ok (.istore 4, 2) := by decide +kernel
theorem dX5_sum_50 : decode cX5_sum 50 = .ok (.iload 4, 2) := by decide +kernel
theorem dX5_sum_52 : decode cX5_sum 52 = .ok (.ifCond .eq 9, 3) := by decide +kernel
theorem dX5_sum_55 : decode cX5_sum 55 = .ok (.iload 4, 2) := by decide +kernel
theorem dX5_sum_57 : decode cX5_sum 57 = .ok (.iconst 1, 1) := by decide +kernel
theorem dX5_sum_58 : decode cX5_sum 58 = .ok (.if_icmp .ne 7, 3) := by decide +kernel
theorem dX5_sum_61 : decode cX5_sum 61 = .ok (.iconst 1, 1) := by decide +kernel
theorem dX5_sum_62 : decode cX5_sum 62 = .ok (.goto 4, 3) := by decide +kernel
theorem dX5_sum_65 : decode cX5_sum 65 = .ok (.iconst 0, 1) := by decide +kernel
theorem dX5_sum_66 : decode cX5_sum 66 = .ok (.istore 5, 2) := by decide +kernel
theorem dX5_sum_68 : decode cX5_sum 68 = .ok (.iload 5, 2) := by decide +kernel
theorem dX5_sum_70 : decode cX5_sum 70 = .ok (.ifCond .eq 14, 3) := by decide +kernel
theorem dX5_sum_73 : decode cX5_sum 73 = .ok (.iload_n 2, 1) := by decide +kernel
theorem dX5_sum_74 : decode cX5_sum 74 = .ok (.ifCond .lt 10, 3) := by decide +kernel
theorem dX5_sum_77 : decode cX5_sum 77 = .ok (.aload_n 0, 1) := by decide +kernel
theorem dX5_sum_78 : decode cX5_sum 78 = .ok (.iconst 4, 1) := by decide +kernel
theorem dX5_sum_79 : decode cX5_sum 79 = .ok (.iload_n 2, 1) := by decide +kernel
theorem dX5_sum_80 : decode cX5_sum 80 = .ok (.invokevirtual 76, 3) := by decide +kernel
theorem dX5_sum_83 : decode cX5_sum 83 = .ok (.pop, 1) := by decide +kernel
theorem dX5_sum_84 : decode cX5_sum 84 = .ok (.aload_n 0, 1) := by decide +kernel
theorem dX5_sum_85 : decode cX5_sum 85 = .ok (.dup, 1) := by decide +kernel
theorem dX5_sum_86 : decode cX5_sum 86 = .ok (.getfield 38, 3) := by decide +kernel
theorem dX5_sum_89 : decode cX5_sum 89 = .ok (.iconst 1, 1) := by decide +kernel
theorem dX5_sum_90 : decode cX5_sum 90 = .ok (.iadd, 1) := by decide +kernel
theorem dX5_sum_91 : decode cX5_sum 91 = .ok (.putfield 38, 3) := by decide +kernel
theorem dX5_sum_94 : decode cX5_sum 94 = .ok (.aload_n 0, 1) := by decide +kernel
theorem dX5_sum_95 : decode cX5_sum 95 = .ok (.aload_n 0, 1) := by decide +kernel
theorem dX5_sum_96 : decode cX5_sum 96 = .ok (.getfield 38, 3) := by decide +kernel
theorem dX5_sum_99 : decode cX5_sum 99 = .ok (.bipush 24, 2) := by decide +kernel
theorem dX5_sum_101 : decode cX5_sum 101 = .ok (.if_icmp .gt 7, 3) := by decide +kernel
theorem dX5_sum_104 : decode cX5_sum 104 = .ok (.iconst 1, 1) := by decide +kernel
theorem dX5_sum_105 : decode cX5_sum 105 = .ok (.goto 4, 3) := by decide +kernel
theorem dX5_sum_108 : decode cX5_sum 108 = .ok (.iconst 0, 1) := by decide +kernel
theorem dX5_sum_109 : decode cX5_sum 109 = .ok (.iconst 3, 1) := by decide +kernel
theorem dX5_sum_110 : decode cX5_sum 110 = .ok (.invokevirtual 149, 3) := by decide +kernel
theorem dX5_sum_113 : decode cX5_sum 113 = .ok (.ifCond .eq 11, 3) := by decide +kernel
theorem dX5_sum_116 : decode cX5_sum 116 = .ok (.aload_n 0, 1) := by decide +kernel
theorem dX5_sum_117 : decode cX5_sum 117 = .ok (.iload_n 1, 1) := by decide +kernel
theorem dX5_sum_118 : decode cX5_sum 118 = .ok (.invokevirtual 182, 3) := by decide +kernel
theorem dX5_sum_121 : decode cX5_sum 121 = .ok (.ifCond .ne 5, 3) := by decide +kernel
theorem dX5_sum_124 : decode cX5_sum 124 = .ok (.iconst 0, 1) := by decide +kernel
theorem dX5_sum_125 : decode cX5_sum 125 = .ok (.ireturn, 1) := by decide +kernel
theorem dX5_sum_126 : decode cX5_sum 126 = .ok (.iload 5, 2) := by decide +kernel
theorem dX5_sum_128 : decode cX5_sum 128 = .ok (.ifCond .eq 9, 3) := by decide +kernel
theorem dX5_sum_131 : decode cX5_sum 131 = .ok (.iload 4, 2) := by decide +kernel
theorem dX5_sum_133 : decode cX5_sum 133 = .ok (.istore_n 2, 1) := by decide +kernel
theorem dX5_sum_134 : decode cX5_sum 134 = .ok (.goto 11, 3) := by decide +kernel
theorem dX5_sum_137 : decode cX5_sum 137 = .ok (.aload_n 0, 1) := by decide +kernel
theorem dX5_sum_138 : decode cX5_sum 138 = .ok (.iconst 4, 1) := by decide +kernel
theorem dX5_sum_139 : decode cX5_sum 139 = .ok (.iload 4, 2) := by decide +kernel
theorem dX5_sum_141 : decode cX5_sum 141 = .ok (.invokevirtual 76, 3) := by decide +kernel
theorem dX5_sum_144 : decode cX5_sum 144 = .ok (.pop, 1) := by decide +kernel
theorem dX5_sum_145 : decode cX5_sum 145 = .ok (.iinc 3 1, 3) := by decide +kernel
theorem dX5_sum_148 : decode cX5_sum 148 = .ok (.goto (-134), 3) := by decide +kernel
theorem dX5_sum_151 : decode cX5_sum 151 = .ok (.iload_n 2, 1) := by decide +kernel
theorem dX5_sum_152 : decode cX5_sum 152 = .ok (.ifCond .lt 12, 3) := by decide +kernel
theorem dX5_sum_155 : decode cX5_sum 155 = .ok (.aload_n 0, 1) := by decide +kernel
theorem dX5_sum_156 : decode cX5_sum 156 = .ok (.iconst 4, 1) := by decide +kernel
theorem dX5_sum_157 : decode cX5_sum 157 = .ok (.iload_n 2, 1) := by decide +kernel
theorem dX5_sum_158 : decode cX5_sum 158 = .ok (.invokevirtual 76, 3) := by decide +kernel
theorem dX5_sum_161 : decode cX5_sum 161 = .ok (.ifCond .eq 7, 3) := by decide +kernel
theorem dX5_sum_164 : decode cX5_sum 164 = .ok (.iconst 1, 1) := by decide +kernel
theorem dX5_sum_165 : decode cX5_sum 165 = .ok (.goto 4, 3) := by decide +kernel
theorem dX5_sum_168 : decode cX5_sum 168 = .ok (.iconst 0, 1) := by decide +kernel
theorem dX5_sum_169 : decode cX5_sum 169 = .ok (.ireturn, 1) := by decide +kernel
theorem dX5_part_0 : decode cX5_part 0 = .ok (.aload_n 0, 1) := by decide +kernel
theorem dX5_part_1 : decode cX5_part 1 = .ok (.getfield 44, 3) := by decide +kernel
theorem dX5_part_4 : decode cX5_part 4 = .ok (.aload_n 0, 1) := by decide +kernel
theorem dX5_part_5 : decode cX5_part 5 = .ok (.getfield 41, 3) := by decide +kernel
theorem dX5_part_8 : decode cX5_part 8 = .ok (.iaload, 1) := by decide +kernel
theorem dX5_part_9 : decode cX5_part 9 = .ok (.lookupswitch 135 #[(2, 120), (3, 43), (40, 76), (123, 71)], 43) := by decide +kernel
theorem dX5_part_52 : decode cX5_part 52 = .ok (.aload_n 0, 1) := by decide +kernel
theorem dX5_part_53 : decode cX5_part 53 = .ok (.iconst 0, 1) := by decide +kernel
theorem dX5_part_54 : decode cX5_part 54 = .ok (.bipush 9, 2) := by decide +kernel
theorem dX5_part_56 : decode cX5_part 56 = .ok (.invokevirtual 168, 3) := by decide +kernel
theorem dX5_part_59 : decode cX5_part 59 = .ok (.ifCond .eq 19, 3) := by decide +kernel
theorem dX5_part_62 : decode cX5_part 62 = .ok (.aload_n 0, 1) := by decide +kernel
theorem dX5_part_63 : decode cX5_part 63 = .ok (.iconst 0, 1) := by decide +kernel
theorem dX5_part_64 : decode cX5_part 64 = .ok (.aload_n 0, 1) := by decide +kernel
theorem dX5_part_65 : decode cX5_part 65 = .ok (.invokevirtual 171, 3) := by decide +kernel
theorem dX5_part_68 : decode cX5_part 68 = .ok (.invokevirtual 76, 3) := by decide +kernel
theorem dX5_part_71 : decode cX5_part 71 = .ok (.ifCond .eq 7, 3) := by decide +kernel
theorem dX5_part_74 : decode cX5_part 74 = .ok (.iconst 1, 1) := by decide +kernel
theorem dX5_part_75 : decode cX5_part 75 = .ok (.goto 4, 3) := by decide +kernel
theorem dX5_part_78 : decode cX5_part 78 = .ok (.iconst 0, 1) := by decide +kernel
theorem dX5_part_79 : decode cX5_part 79 = .ok (.ireturn, 1) := by decide +kernel
theorem dX5_part_80 : decode cX5_part 80 = .ok (.aload_n 0, 1) := by decide +kernel
theorem dX5_part_81 : decode cX5_part 81 = .ok (.invokevirtual 185, 3) := by decide +kernel
theorem dX5_part_84 : decode cX5_part 84 = .ok (.ireturn, 1) := by decide +kernel
theorem dX5_part_85 : decode cX5_part 85 = .ok (.aload_n 0, 1) := by decide +kernel
theorem dX5_part_86 : decode cX5_part 86 = .ok (.iload_n 1, 1) := by decide +kernel
theorem dX5_part_87 : decode cX5_part 87 = .ok (.bipush 6, 2) := by decide +kernel
theorem dX5_part_89 : decode cX5_part 89 = .ok (.if_icmp .ge 7, 3) := by decide +kernel
theorem dX5_part_92 : decode cX5_part 92 = .ok (.iconst 1, 1) := by decide +kernel
theorem dX5_part_93 : decode cX5_part 93 = .ok (.goto 4, 3) := by decide +kernel
theorem dX5_part_96 : decode cX5_part 96 = .ok (.iconst 0, 1) := by decide +kernel
theorem dX5_part_97 : decode cX5_part 97 = .ok (.iconst 3, 1) := by decide +kernel
theorem dX5_part_98 : decode cX5_part 98 = .ok (.invokevirtual 149, 3) := by decide +kernel
theorem dX5_part_101 : decode cX5_part 101 = .ok (.ifCond .eq 26, 3) := by decide +kernel
theorem dX5_part_104 : decode cX5_part 104 = .ok (.aload_n 0, 1) := by decide +kernel
theorem dX5_part_105 : decode cX5_part 105 = .ok (.iload_n 1, 1) := by decide +kernel
theorem dX5_part_106 : decode cX5_part 106 = .ok (.iconst 1, 1) := by decide +kernel
theorem dX5_part_107 : decode cX5_part 107 = .ok (.iadd, 1) := by decide +kernel
theorem dX5_part_108 : decode cX5_part 108 = .ok (.invokevirtual 69, 3) := by decide +kernel
theorem dX5_part_111 : decode cX5_part 111 = .ok (.ifCond .eq 16, 3) := by decide +kernel
theorem dX5_part_114 : decode cX5_part 114 = .ok (.aload_n 0, 1) := by decide +kernel
theorem dX5_part_115 : decode cX5_part 115 = .ok (.bipush 41, 2) := by decide +kernel
theorem dX5_part_117 : decode cX5_part 117 = .ok (.invokevirtual 73, 3) := by decide +kernel
theorem dX5_part_120 : decode cX5_part 120 = .ok (.ifCond .eq 7, 3) := by decide +kernel
theorem dX5_part_123 : decode cX5_part 123 = .ok (.iconst 1, 1) := by decide +kernel
theorem dX5_part_124 : decode cX5_part 124 = .ok (.goto 4, 3) := by decide +kernel
theorem dX5_part_127 : decode cX5_part 127 = .ok (.iconst 0, 1) := by decide +kernel
theorem dX5_part_128 : decode cX5_part 128 = .ok (.ireturn, 1) := by decide +kernel
theorem dX5_part_129 : decode cX5_part 129 = .ok (.aload_n 0, 1) := by decide +kernel
theorem dX5_part_130 : decode cX5_part 130 = .ok (.aload_n 0, 1) := by decide +kernel
theorem dX5_part_131 : decode cX5_part 131 = .ok (.getfield 47, 3) := by decide +kernel
theorem dX5_part_134 : decode cX5_part 134 = .ok (.aload_n 0, 1) := by decide +kernel
theorem dX5_part_135 : decode cX5_part 135 = .ok (.getfield 41, 3) := by decide +kernel
theorem dX5_part_138 : decode cX5_part 138 = .ok (.iaload, 1) := by decide +kernel
theorem dX5_part_139 : decode cX5_part 139 = .ok (.iload_n 1, 1) := by decide +kernel
theorem dX5_part_140 : decode cX5_part 140 = .ok (.invokevirtual 189, 3) := by decide +kernel
theorem dX5_part_143 : decode cX5_part 143 = .ok (.ireturn, 1) := by decide +kernel
theorem dX5_part_144 : decode cX5_part 144 = .ok (.aload_n 0, 1) := by decide +kernel
theorem dX5_part_145 : decode cX5_part 145 = .ok (.iconst 1, 1) := by decide +kernel
theorem dX5_part_146 : decode cX5_part 146 = .ok (.invokevirtual 153, 3) := by decide +kernel
theorem dX5_part_149 : decode cX5_part 149 = .ok (.ireturn, 1) := by decide +kernel
theorem dX5_wordPart_0 : decode cX5_wordPart 0 = .ok (.iload_n 1, 1) := by decide +kernel
theorem dX5_wordPart_1 : decode cX5_wordPart 1 = .ok (.iconst 5, 1) := by decide +kernel
theorem dX5_wordPart_2 : decode cX5_wordPart 2 = .ok (.if_icmp .ne 26, 3) := by decide +kernel
theorem dX5_wordPart_5 : decode cX5_wordPart 5 = .ok (.aload_n 0, 1) := by decide +kernel
theorem dX5_wordPart_6 : decode cX5_wordPart 6 = .ok (.iconst 2, 1) := by decide +kernel
theorem dX5_wordPart_7 : decode cX5_wordPart 7 = .ok (.invokevirtual 73, 3) := by decide +kernel
theorem dX5_wordPart_10 : decode cX5_wordPart 10 = .ok (.ifCond .eq 16, 3) := by decide +kernel
theorem dX5_wordPart_13 : decode cX5_wordPart 13 = .ok (.aload_n 0, 1) := by decide +kernel
theorem dX5_wordPart_14 : decode cX5_wordPart 14 = .ok (.iconst 2, 1) := by decide +kernel
theorem dX5_wordPart_15 : decode cX5_wordPart 15 = .ok (.iconst 0, 1) := by decide +kernel
theorem dX5_wordPart_16 : decode cX5_wordPart 16 = .ok (.invokevirtual 76, 3) := by decide +kernel
theorem dX5_wordPart_19 : decode cX5_wordPart 19 = .ok (.ifCond .eq 7, 3) := by decide +kernel
theorem dX5_wordPart_22 : decode cX5_wordPart 22 = .ok (.iconst 1, 1) := by decide +kernel
theorem dX5_wordPart_23 : decode cX5_wordPart 23 = .ok (.goto 4, 3) := by decide +kernel
theorem dX5_wordPart_26 : decode cX5_wordPart 26 = .ok (.iconst 0, 1) := by decide +kernel
theorem dX5_wordPart_27 : decode cX5_wordPart 27 = .ok (.ireturn, 1) := by decide +kernel
theorem dX5_wordPart_28 : decode cX5_wordPart 28 = .ok (.iload_n 1, 1) := by decide +kernel
theorem dX5_wordPart_29 : decode cX5_wordPart 29 = .ok (.bipush 10, 2) := by decide +kernel
theorem dX5_wordPart_31 : decode cX5_wordPart 31 = .ok (.if_icmp .ge 9, 3) := by decide +kernel
theorem dX5_wordPart_34 : decode cX5_wordPart 34 = .ok (.aload_n 0, 1) := by decide +kernel
theorem dX5_wordPart_35 : decode cX5_wordPart 35 = .ok (.iconst 1, 1) := by decide +kernel
theorem dX5_wordPart_36 : decode cX5_wordPart 36 = .ok (.invokevirtual 153, 3) := by decide +kernel
theorem dX5_wordPart_39 : decode cX5_wordPart 39 = .ok (.ireturn, 1) := by decide +kernel
theorem dX5_wordPart_40 : decode cX5_wordPart 40 = .ok (.aload_n 0, 1) := by decide +kernel
theorem dX5_wordPart_41 : decode cX5_wordPart 41 = .ok (.iload_n 2, 1) := by decide +kernel
theorem dX5_wordPart_42 : decode cX5_wordPart 42 = .ok (.bipush 6, 2) := by decide +kernel
theorem dX5_wordPart_44 : decode cX5_wordPart 44 = .ok (.if_icmp .ge 7, 3) := by decide +kernel
theorem dX5_wordPart_47 : decode cX5_wordPart 47 = .ok (.iconst 1, 1) := by decide +kernel
theorem dX5_wordPart_48 : decode cX5_wordPart 48 = .ok (.goto 4, 3) := by decide +kernel
theorem dX5_wordPart_51 : decode cX5_wordPart 51 = .ok (.iconst 0, 1) := by decide +kernel
theorem dX5_wordPart_52 : decode cX5_wordPart 52 = .ok (.iconst 3, 1) := by decide +kernel
theorem dX5_wordPart_53 : decode cX5_wordPart 53 = .ok (.invokevirtual 149, 3) := by decide +kernel
theorem dX5_wordPart_56 : decode cX5_wordPart 56 = .ok (.ifCond .eq 29, 3) := by decide +kernel
theorem dX5_wordPart_59 : decode cX5_wordPart 59 = .ok (.aload_n 0, 1) := by decide +kernel
theorem dX5_wordPart_60 : decode cX5_wordPart 60 = .ok (.iload_n 2, 1) := by decide +kernel
theorem dX5_wordPart_61 : decode cX5_wordPart 61 = .ok (.iconst 1, 1) := by decide +kernel
theorem dX5_wordPart_62 : decode cX5_wordPart 62 = .ok (.iadd, 1) := by decide +kernel
theorem dX5_wordPart_63 : decode cX5_wordPart 63 = .ok (.invokevirtual 182, 3) := by decide +kernel
theorem dX5_wordPart_66 : decode cX5_wordPart 66 = .ok (.ifCond .eq 19, 3) := by decide +kernel
theorem dX5_wordPart_69 : decode cX5_wordPart 69 = .ok (.aload_n 0, 1) := by decide +kernel
theorem dX5_wordPart_70 : decode cX5_wordPart 70 = .ok (.iconst 5, 1) := by decide +kernel
theorem dX5_wordPart_71 : decode cX5_wordPart 71 = .ok (.iload_n 1, 1) := by decide +kernel
theorem dX5_wordPart_72 : decode cX5_wordPart 72 = .ok (.bipush 10, 2) := by decide +kernel
theorem dX5_wordPart_74 : decode cX5_wordPart 74 = .ok (.isub, 1) := by decide +kernel
theorem dX5_wordPart_75 : decode cX5_wordPart 75 = .ok (.invokevirtual 76, 3) := by decide +kernel
theorem dX5_wordPart_78 : decode cX5_wordPart 78 = .ok (.ifCond .eq 7, 3) := by decide +kernel
theorem dX5_wordPart_81 : decode cX5_wordPart 81 = .ok (.iconst 1, 1) := by decide +kernel
theorem dX5_wordPart_82 : decode cX5_wordPart 82 = .ok (.goto 4, 3) := by decide +kernel
theorem dX5_wordPart_85 : decode cX5_wordPart 85 = .ok (.iconst 0, 1) := by decide +kernel
theorem dX5_wordPart_86 : decode cX5_wordPart 86 = .ok (.ireturn, 1) := by decide +kernel
theorem dX5_family_0 : decode cX5_family 0 = .ok (.aload_n 0, 1) := by decide +kernel
theorem dX5_family_1 : decode cX5_family 1 = .ok (.bipush 123, 2) := by decide +kernel
theorem dX5_family_3 : decode cX5_family 3 = .ok (.invokevirtual 73, 3) := by decide +kernel
theorem dX5_family_6 : decode cX5_family 6 = .ok (.pop, 1) := by decide +kernel
theorem dX5_family_7 : decode cX5_family 7 = .ok (.aload_n 0, 1) := by decide +kernel
theorem dX5_family_8 : decode cX5_family 8 = .ok (.iconst 1, 1) := by decide +kernel
theorem dX5_family_9 : decode cX5_family 9 = .ok (.iconst 0, 1) := by decide +kernel
theorem dX5_family_10 : decode cX5_family 10 = .ok (.invokevirtual 76, 3) := by decide +kernel
theorem dX5_family_13 : decode cX5_family 13 = .ok (.pop, 1) := by decide +kernel
theorem dX5_family_14 : decode cX5_family 14 = .ok (.aload_n 0, 1) := by decide +kernel
theorem dX5_family_15 : decode cX5_family 15 = .ok (.getfield 44, 3) := by decide +kernel
theorem dX5_family_18 : decode cX5_family 18 = .ok (.aload_n 0, 1) := by decide +kernel
theorem dX5_family_19 : decode cX5_family 19 = .ok (.getfield 41, 3) := by decide +kernel
theorem dX5_family_22 : decode cX5_family 22 = .ok (.iaload, 1) := by decide +kernel
theorem dX5_family_23 : decode cX5_family 23 = .ok (.bipush 125, 2) := by decide +kernel
theorem dX5_family_25 : decode cX5_family 25 = .ok (.if_icmp .ne 10, 3) := by decide +kernel
theorem dX5_family_28 : decode cX5_family 28 = .ok (.aload_n 0, 1) := by decide +kernel
theorem dX5_family_29 : decode cX5_family 29 = .ok (.bipush 125, 2) := by decide +kernel
theorem dX5_family_31 : decode cX5_family 31 = .ok (.invokevirtual 73, 3) := by decide +kernel
theorem dX5_family_34 : decode cX5_family 34 = .ok (.ireturn, 1) := by decide +kernel
theorem dX5_family_35 : decode cX5_family 35 = .ok (.iconst 0, 1) := by decide +kernel
theorem dX5_family_36 : decode cX5_family 36 = .ok (.istore_n 1, 1) := by decide +kernel
theorem dX5_family_37 : decode cX5_family 37 = .ok (.iload_n 1, 1) := by decide +kernel
theorem dX5_family_38 : decode cX5_family 38 = .ok (.sipush 601, 3) := by decide +kernel
theorem dX5_family_41 : decode cX5_family 41 = .ok (.if_icmp .ge 46, 3) := by decide +kernel
theorem dX5_family_44 : decode cX5_family 44 = .ok (.aload_n 0, 1) := by decide +kernel
theorem dX5_family_45 : decode cX5_family 45 = .ok (.invokevirtual 192, 3) := by decide +kernel
theorem dX5_family_48 : decode cX5_family 48 = .ok (.ifCond .ne 5, 3) := by decide +kernel
theorem dX5_family_51 : decode cX5_family 51 = .ok (.iconst 0, 1) := by decide +kernel
theorem dX5_family_52 : decode cX5_family 52 = .ok (.ireturn, 1) := by decide +kernel
theorem dX5_family_53 : decode cX5_family 53 = .ok (.aload_n 0, 1) := by decide +kernel
theorem dX5_family_54 : decode cX5_family 54 = .ok (.getfield 44, 3) := by decide +kernel
theorem dX5_family_57 : decode cX5_family 57 = .ok (.aload_n 0, 1) := by decide +kernel
theorem dX5_family_58 : decode cX5_family 58 = .ok (.getfield 41, 3) := by decide +kernel
theorem dX5_family_61 : decode cX5_family 61 = .ok (.iaload, 1) := by decide +kernel
theorem dX5_family_62 : decode cX5_family 62 = .ok (.bipush 44, 2) := by decide +kernel
theorem dX5_family_64 : decode cX5_family 64 = .ok (.if_icmp .eq 10, 3) := by decide +kernel
theorem dX5_family_67 : decode cX5_family 67 = .ok (.aload_n 0, 1) := by decide +kernel
theorem dX5_family_68 : decode cX5_family 68 = .ok (.bipush 125, 2) := by decide +kernel
theorem dX5_family_70 : decode cX5_family 70 = .ok (.invokevirtual 73, 3) := by decide +kernel
theorem dX5_family_73 : decode cX5_family 73 = .ok (.ireturn, 1) := by decide +kernel
theorem dX5_family_74 : decode cX5_family 74 = .ok (.aload_n 0, 1) := by decide +kernel
theorem dX5_family_75 : decode cX5_family 75 = .ok (.bipush 44, 2) := by decide +kernel
theorem dX5_family_77 : decode cX5_family 77 = .ok (.invokevirtual 73, 3) := by decide +kernel
theorem dX5_family_80 : decode cX5_family 80 = .ok (.pop, 1) := by decide +kernel
theorem dX5_family_81 : decode cX5_family 81 = .ok (.iinc 1 1, 3) := by decide +kernel
theorem dX5_family_84 : decode cX5_family 84 = .ok (.goto (-47), 3) := by decide +kernel
theorem dX5_family_87 : decode cX5_family 87 = .ok (.aload_n 0, 1) := by decide +kernel
theorem dX5_family_88 : decode cX5_family 88 = .ok (.iconst 1, 1) := by decide +kernel
theorem dX5_family_89 : decode cX5_family 89 = .ok (.invokevirtual 153, 3) := by decide +kernel
theorem dX5_family_92 : decode cX5_family 92 = .ok (.ireturn, 1) := by decide +kernel
theorem dX5_member_0 : decode cX5_member 0 = .ok (.aload_n 0, 1) := by decide +kernel
theorem dX5_member_1 : decode cX5_member 1 = .ok (.getfield 44, 3) := by decide +kernel
theorem dX5_member_4 : decode cX5_member 4 = .ok (.aload_n 0, 1) := by decide +kernel
theorem dX5_member_5 : decode cX5_member 5 = .ok (.getfield 41, 3) := by decide +kernel
theorem dX5_member_8 : decode cX5_member 8 = .ok (.iaload, 1) := by decide +kernel
theorem dX5_member_9 : decode cX5_member 9 = .ok (.iconst 3, 1) := by decide +kernel
theorem dX5_member_10 : decode cX5_member 10 = .ok (.if_icmp .ne 43, 3) := by decide +kernel
theorem dX5_member_13 : decode cX5_member 13 = .ok (.aload_n 0, 1) := by decide +kernel
theorem dX5_member_14 : decode cX5_member 14 = .ok (.aload_n 0, 1) := by decide +kernel
theorem dX5_member_15 : decode cX5_member 15 = .ok (.getfield 47, 3) := by decide +kernel
theorem dX5_member_18 : decode cX5_member 18 = .ok (.aload_n 0, 1) := by decide +kernel
theorem dX5_member_19 : decode cX5_member 19 = .ok (.getfield 41, 3) := by decide +kernel
theorem dX5_member_22 : decode cX5_member 22 = .ok (.iaload, 1) := by decide +kernel
theorem dX5_member_23 : decode cX5_member 23 = .ok (.ifCond .ne 7, 3) := by decide +kernel
theorem dX5_member_26 : decode cX5_member 26 = .ok (.iconst 1, 1) := by decide +kernel
theorem dX5_member_27 : decode cX5_member 27 = .ok (.goto 4, 3) := by decide +kernel
theorem dX5_member_30 : decode cX5_member 30 = .ok (.iconst 0, 1) := by decide +kernel
theorem dX5_member_31 : decode cX5_member 31 = .ok (.iconst 2, 1) := by decide +kernel
theorem dX5_member_32 : decode cX5_member 32 = .ok (.invokevirtual 149, 3) := by decide +kernel
theorem dX5_member_35 : decode cX5_member 35 = .ok (.ifCond .eq 16, 3) := by decide +kernel
theorem dX5_member_38 : decode cX5_member 38 = .ok (.aload_n 0, 1) := by decide +kernel
theorem dX5_member_39 : decode cX5_member 39 = .ok (.iconst 3, 1) := by decide +kernel
theorem dX5_member_40 : decode cX5_member 40 = .ok (.iconst 0, 1) := by decide +kernel
theorem dX5_member_41 : decode cX5_member 41 = .ok (.invokevirtual 76, 3) := by decide +kernel
theorem dX5_member_44 : decode cX5_member 44 = .ok (.ifCond .eq 7, 3) := by decide +kernel
theorem dX5_member_47 : decode cX5_member 47 = .ok (.iconst 1, 1) := by decide +kernel
theorem dX5_member_48 : decode cX5_member 48 = .ok (.goto 4, 3) := by decide +kernel
theorem dX5_member_51 : decode cX5_member 51 = .ok (.iconst 0, 1) := by decide +kernel
theorem dX5_member_52 : decode cX5_member 52 = .ok (.ireturn, 1) := by decide +kernel
theorem dX5_member_53 : decode cX5_member 53 = .ok (.aload_n 0, 1) := by decide +kernel
theorem dX5_member_54 : decode cX5_member 54 = .ok (.getfield 44, 3) := by decide +kernel
theorem dX5_member_57 : decode cX5_member 57 = .ok (.aload_n 0, 1) := by decide +kernel
theorem dX5_member_58 : decode cX5_member 58 = .ok (.getfield 41, 3) := by decide +kernel
theorem dX5_member_61 : decode cX5_member 61 = .ok (.iaload, 1) := by decide +kernel
theorem dX5_member_62 : decode cX5_member 62 = .ok (.iconst 2, 1) := by decide +kernel
theorem dX5_member_63 : decode cX5_member 63 = .ok (.if_icmp .eq 10, 3) := by decide +kernel
theorem dX5_member_66 : decode cX5_member 66 = .ok (.aload_n 0, 1) := by decide +kernel
theorem dX5_member_67 : decode cX5_member 67 = .ok (.iconst 0, 1) := by decide +kernel
theorem dX5_member_68 : decode cX5_member 68 = .ok (.iconst 1, 1) := by decide +kernel
theorem dX5_member_69 : decode cX5_member 69 = .ok (.invokevirtual 149, 3) := by decide +kernel
theorem dX5_member_72 : decode cX5_member 72 = .ok (.ireturn, 1) := by decide +kernel
theorem dX5_member_73 : decode cX5_member 73 = .ok (.iconst 0, 1) := by decide +kernel
theorem dX5_member_74 : decode cX5_member 74 = .ok (.istore_n 1, 1) := by decide +kernel
theorem dX5_member_75 : decode cX5_member 75 = .ok (.iconst 1, 1) := by decide +kernel
theorem dX5_member_76 : decode cX5_member 76 = .ok (.istore_n 2, 1) := by decide +kernel
theorem dX5_member_77 : decode cX5_member 77 = .ok (.aload_n 0, 1) := by decide +kernel
theorem dX5_member_78 : decode cX5_member 78 = .ok (.getfield 50, 3) := by decide +kernel
theorem dX5_member_81 : decode cX5_member 81 = .ok (.aload_n 0, 1) := by decide +kernel
theorem dX5_member_82 : decode cX5_member 82 = .ok (.getfield 41, 3) := by decide +kernel
theorem dX5_member_85 : decode cX5_member 85 = .ok (.iaload, 1) := by decide +kernel
theorem dX5_member_86 : decode cX5_member 86 = .ok (.istore_n 3, 1) := by decide +kernel
theorem dX5_member_87 : decode cX5_member 87 = .ok (.iload_n 3, 1) := by decide +kernel
theorem dX5_member_88 : decode cX5_member 88 = .ok (.aload_n 0, 1) := by decide +kernel
theorem dX5_member_89 : decode cX5_member 89 = .ok (.getfield 53, 3) := by decide +kernel
theorem dX5_member_92 : decode cX5_member 92 = .ok (.aload_n 0, 1) := by decide +kernel
theorem dX5_member_93 : decode cX5_member 93 = .ok (.getfield 41, 3) := by decide +kernel
theorem dX5_member_96 : decode cX5_member 96 = .ok (.iaload, 1) := by decide +kernel
theorem dX5_member_97 : decode cX5_member 97 = .ok (.if_icmp .ge 76, 3) := by decide +kernel
theorem dX5_member_100 : decode cX5_member 100 = .ok (.iload_n 3, 1) := by decide +kernel
theorem dX5_member_101 : decode cX5_member 101 = .ok (.aload_n 0, 1) := by decide +kernel
theorem dX5_member_102 : decode cX5_member 102 = .ok (.getfield 32, 3) := by decide +kernel
theorem dX5_member_105 : decode cX5_member 105 = .ok (.if_icmp .ge 68, 3) := by decide +kernel
theorem dX5_member_108 : decode cX5_member 108 = .ok (.aload_n 0, 1) := by decide +kernel
theorem dX5_member_109 : decode cX5_member 109 = .ok (.getfield 28, 3) := by decide +kernel
theorem dX5_member_112 : decode cX5_member 112 = .ok (.iload_n 3, 1) := by decide +kernel
theorem dX5_member_113 : decode cX5_member 113 = .ok (.baload, 1) := by decide +kernel
theorem dX5_member_114 : decode cX5_member 114 = .ok (.bipush 97, 2) := by decide +kernel
theorem dX5_member_116 : decode cX5_member 116 = .ok (.isub, 1) := by decide +kernel
theorem dX5_member_117 : decode cX5_member 117 = .ok (.istore 4, 2) := by decide +kernel
theorem dX5_member_119 : decode cX5_member 119 = .ok (.iload_n 2, 1) := by decide +kernel
theorem dX5_member_120 : decode cX5_member 120 = .ok (.ifCond .eq 30, 3) := by decide +kernel
theorem dX5_member_123 : decode cX5_member 123 = .ok (.iload 4, 2) := by decide +kernel
theorem dX5_member_125 : decode cX5_member 125 = .ok (.ifCond .lt 25, 3) := by decide +kernel
theorem dX5_member_128 : decode cX5_member 128 = .ok (.iload 4, 2) := by decide +kernel
theorem dX5_member_130 : decode cX5_member 130 = .ok (.aload_n 0, 1) := by decide +kernel
theorem dX5_member_131 : decode cX5_member 131 = .ok (.getfield 35, 3) := by decide +kernel
theorem dX5_member_134 : decode cX5_member 134 = .ok (.if_icmp .ge 16, 3) := by decide +kernel
theorem dX5_member_137 : decode cX5_member 137 = .ok (.iload_n 1, 1) := by decide +kernel
theorem dX5_member_138 : decode cX5_member 138 = .ok (.iload 4, 2) := by decide +kernel
theorem dX5_member_140 : decode cX5_member 140 = .ok (.ishr, 1) := by decide +kernel
theorem dX5_member_141 : decode cX5_member 141 = .ok (.iconst 1, 1) := by decide +kernel
theorem dX5_member_142 : decode cX5_member 142 = .ok (.iand, 1) := by decide +kernel
theorem dX5_member_143 : decode cX5_member 143 = .ok (.ifCond .ne 7, 3) := by decide +kernel
theorem dX5_member_146 : decode cX5_member 146 = .ok (.iconst 1, 1) := by decide +kernel
theorem dX5_member_147 : decode cX5_member 147 = .ok (.goto 4, 3) := by decide +kernel
theorem dX5_member_150 : decode cX5_member 150 = .ok (.iconst 0, 1) := by decide +kernel
theorem dX5_member_151 : decode cX5_member 151 = .ok (.istore_n 2, 1) := by decide +kernel
theorem dX5_member_152 : decode cX5_member 152 = .ok (.iload_n 1, 1) := by decide +kernel
theorem dX5_member_153 : decode cX5_member 153 = .ok (.iload_n 2, 1) := by decide +kernel
theorem dX5_member_154 : decode cX5_member 154 = .ok (.ifCond .eq 10, 3) := by decide +kernel
theorem dX5_member_157 : decode cX5_member 157 = .ok (.iconst 1, 1) := by decide +kernel
theorem dX5_member_158 : decode cX5_member 158 = .ok (.iload 4, 2) := by decide +kernel
theorem dX5_member_160 : decode cX5_member 160 = .ok (.ishl, 1) := by decide +kernel
theorem dX5_member_161 : decode cX5_member 161 = .ok (.goto 4, 3) := by decide +kernel
theorem dX5_member_164 : decode cX5_member 164 = .ok (.iconst 0, 1) := by decide +kernel
theorem dX5_member_165 : decode cX5_member 165 = .ok (.ior, 1) := by decide +kernel
theorem dX5_member_166 : decode cX5_member 166 = .ok (.istore_n 1, 1) := by decide +kernel
theorem dX5_member_167 : decode cX5_member 167 = .ok (.iinc 3 1, 3) := by decide +kernel
theorem dX5_member_170 : decode cX5_member 170 = .ok (.goto (-83), 3) := by decide +kernel
theorem dX5_member_173 : decode cX5_member 173 = .ok (.aload_n 0, 1) := by decide +kernel
theorem dX5_member_174 : decode cX5_member 174 = .ok (.iload_n 2, 1) := by decide +kernel
theorem dX5_member_175 : decode cX5_member 175 = .ok (.iconst 2, 1) := by decide +kernel
theorem dX5_member_176 : decode cX5_member 176 = .ok (.invokevirtual 149, 3) := by decide +kernel
theorem dX5_member_179 : decode cX5_member 179 = .ok (.ifCond .eq 16, 3) := by decide +kernel
theorem dX5_member_182 : decode cX5_member 182 = .ok (.aload_n 0, 1) := by decide +kernel
theorem dX5_member_183 : decode cX5_member 183 = .ok (.iconst 3, 1) := by decide +kernel
theorem dX5_member_184 : decode cX5_member 184 = .ok (.iload_n 1, 1) := by decide +kernel
theorem dX5_member_185 : decode cX5_member 185 = .ok (.invokevirtual 76, 3) := by decide +kernel
theorem dX5_member_188 : decode cX5_member 188 = .ok (.ifCond .eq 7, 3) := by decide +kernel
theorem dX5_member_191 : decode cX5_member 191 = .ok (.iconst 1, 1) := by decide +kernel
theorem dX5_member_192 : decode cX5_member 192 = .ok (.goto 4, 3) := by decide +kernel
theorem dX5_member_195 : decode cX5_member 195 = .ok (.iconst 0, 1) := by decide +kernel
theorem dX5_member_196 : decode cX5_member 196 = .ok (.ireturn, 1) := by decide +kernel
theorem dX6_init_0 : decode cX6_init 0 = .ok (.aload_n 0, 1) := by decide +kernel
theorem dX6_init_1 : decode cX6_init 1 = .ok (.invokespecial 3, 3) := by decide +kernel
theorem dX6_init_4 : decode cX6_init 4 = .ok (.aload_n 0, 1) := by decide +kernel
theorem dX6_init_5 : decode cX6_init 5 = .ok (.bipush 8, 2) := by decide +kernel
theorem dX6_init_7 : decode cX6_init 7 = .ok (.newarray .int, 2) := by decide +kernel
theorem dX6_init_9 : decode cX6_init 9 = .ok (.putfield 9, 3) := by decide +kernel
theorem dX6_init_12 : decode cX6_init 12 = .ok (.return_, 1) := by decide +kernel
theorem dX6_findWays_0 : decode cX6_findWays 0 = .ok (.aload 4, 2) := by decide +kernel
theorem dX6_findWays_2 : decode cX6_findWays 2 = .ok (.invokevirtual 15, 3) := by decide +kernel
theorem dX6_findWays_5 : decode cX6_findWays 5 = .ok (.iload_n 2, 1) := by decide +kernel
theorem dX6_findWays_6 : decode cX6_findWays 6 = .ok (.iload_n 3, 1) := by decide +kernel
theorem dX6_findWays_7 : decode cX6_findWays 7 = .ok (.if_icmp .ne 10, 3) := by decide +kernel
theorem dX6_findWays_10 : decode cX6_findWays 10 = .ok (.aload 4, 2) := by decide +kernel
theorem dX6_findWays_12 : decode cX6_findWays 12 = .ok (.iconst 0, 1) := by decide +kernel
theorem dX6_findWays_13 : decode cX6_findWays 13 = .ok (.invokevirtual 20, 3) := by decide +kernel
theorem dX6_findWays_16 : decode cX6_findWays 16 = .ok (.return_, 1) := by decide +kernel
theorem dX6_findWays_17 : decode cX6_findWays 17 = .ok (.aload_n 1, 1) := by decide +kernel
theorem dX6_findWays_18 : decode cX6_findWays 18 = .ok (.iload_n 2, 1) := by decide +kernel
theorem dX6_findWays_19 : decode cX6_findWays 19 = .ok (.iload_n 3, 1) := by decide +kernel
theorem dX6_findWays_20 : decode cX6_findWays 20 = .ok (.iconst 1, 1) := by decide +kernel
theorem dX6_findWays_21 : decode cX6_findWays 21 = .ok (.iload_n 2, 1) := by decide +kernel
theorem dX6_findWays_22 : decode cX6_findWays 22 = .ok (.ishl, 1) := by decide +kernel
theorem dX6_findWays_23 : decode cX6_findWays 23 = .ok (.iconst 0, 1) := by decide +kernel
theorem dX6_findWays_24 : decode cX6_findWays 24 = .ok (.aload 4, 2) := by decide +kernel
theorem dX6_findWays_26 : decode cX6_findWays 26 = .ok (.invokestatic 24, 3) := by decide +kernel
theorem dX6_findWays_29 : decode cX6_findWays 29 = .ok (.return_, 1) := by decide +kernel
theorem dX6_walk_0 : decode cX6_walk 0 = .ok (.iconst 0, 1) := by decide +kernel
theorem dX6_walk_1 : decode cX6_walk 1 = .ok (.istore 6, 2) := by decide +kernel
theorem dX6_walk_3 : decode cX6_walk 3 = .ok (.iload 6, 2) := by decide +kernel
theorem dX6_walk_5 : decode cX6_walk 5 = .ok (.aload_n 0, 1) := by decide +kernel
theorem dX6_walk_6 : decode cX6_walk 6 = .ok (.getfield 28, 3) := by decide +kernel
theorem dX6_walk_9 : decode cX6_walk 9 = .ok (.if_icmp .ge 94, 3) := by decide +kernel
theorem dX6_walk_12 : decode cX6_walk 12 = .ok (.iload 6, 2) := by decide +kernel
theorem dX6_walk_14 : decode cX6_walk 14 = .ok (.bipush 10, 2) := by decide +kernel
theorem dX6_walk_16 : decode cX6_walk 16 = .ok (.if_icmp .ge 87, 3) := by decide +kernel
theorem dX6_walk_19 : decode cX6_walk 19 = .ok (.aload_n 0, 1) := by decide +kernel
theorem dX6_walk_20 : decode cX6_walk 20 = .ok (.iload 6, 2) := by decide +kernel
theorem dX6_walk_22 : decode cX6_walk 22 = .ok (.iload_n 1, 1) := by decide +kernel
theorem dX6_walk_23 : decode cX6_walk 23 = .ok (.invokestatic 34, 3) := by decide +kernel
theorem dX6_walk_26 : decode cX6_walk 26 = .ok (.istore 7, 2) := by decide +kernel
theorem dX6_walk_28 : decode cX6_walk 28 = .ok (.iload 7, 2) := by decide +kernel
theorem dX6_walk_30 : decode cX6_walk 30 = .ok (.ifCond .lt 67, 3) := by decide +kernel
theorem dX6_walk_33 : decode cX6_walk 33 = .ok (.iload_n 3, 1) := by decide +kernel
theorem dX6_walk_34 : decode cX6_walk 34 = .ok (.iload 7, 2) := by decide +kernel
theorem dX6_walk_36 : decode cX6_walk 36 = .ok (.ishr, 1) := by decide +kernel
theorem dX6_walk_37 : decode cX6_walk 37 = .ok (.iconst 1, 1) := by decide +kernel
theorem dX6_walk_38 : decode cX6_walk 38 = .ok (.iand, 1) := by decide +kernel
theorem dX6_walk_39 : decode cX6_walk 39 = .ok (.ifCond .eq 6, 3) := by decide +kernel
theorem dX6_walk_42 : decode cX6_walk 42 = .ok (.goto 55, 3) := by decide +kernel
theorem dX6_walk_45 : decode cX6_walk 45 = .ok (.iload 7, 2) := by decide +kernel
theorem dX6_walk_47 : decode cX6_walk 47 = .ok (.iload_n 2, 1) := by decide +kernel
theorem dX6_walk_48 : decode cX6_walk 48 = .ok (.if_icmp .ne 18, 3) := by decide +kernel
theorem dX6_walk_51 : decode cX6_walk 51 = .ok (.aload 5, 2) := by decide +kernel
theorem dX6_walk_53 : decode cX6_walk 53 = .ok (.iload 4, 2) := by decide +kernel
theorem dX6_walk_55 : decode cX6_walk 55 = .ok (.iconst 1, 1) := by decide +kernel
theorem dX6_walk_56 : decode cX6_walk 56 = .ok (.iload 6, 2) := by decide +kernel
theorem dX6_walk_58 : decode cX6_walk 58 = .ok (.ishl, 1) := by decide +kernel
theorem dX6_walk_59 : decode cX6_walk 59 = .ok (.ior, 1) := by decide +kernel
theorem dX6_walk_60 : decode cX6_walk 60 = .ok (.invokevirtual 20, 3) := by decide +kernel
theorem dX6_walk_63 : decode cX6_walk 63 = .ok (.goto 34, 3) := by decide +kernel
theorem dX6_walk_66 : decode cX6_walk 66 = .ok (.iload_n 3, 1) := by decide +kernel
theorem dX6_walk_67 : decode cX6_walk 67 = .ok (.invokestatic 38, 3) := by decide +kernel
theorem dX6_walk_70 : decode cX6_walk 70 = .ok (.bipush 8, 2) := by decide +kernel
theorem dX6_walk_72 : decode cX6_walk 72 = .ok (.if_icmp .ge 25, 3) := by decide +kernel
theorem dX6_walk_75 : decode cX6_walk 75 = .ok (.aload_n 0, 1) := by decide +kernel
theorem dX6_walk_76 : decode cX6_walk 76 = .ok (.iload 7, 2) := by decide +kernel
theorem dX6_walk_78 : decode cX6_walk 78 = .ok (.iload_n 2, 1) := by decide +kernel
theorem dX6_walk_79 : decode cX6_walk 79 = .ok (.iload_n 3, 1) := by decide +kernel
theorem dX6_walk_80 : decode cX6_walk 80 = .ok (.iconst 1, 1) := by decide +kernel
theorem dX6_walk_81 : decode cX6_walk 81 = .ok (.iload 7, 2) := by decide +kernel
theorem dX6_walk_83 : decode cX6_walk 83 = .ok (.ishl, 1) := by decide +kernel
theorem dX6_walk_84 : decode cX6_walk 84 = .ok (.ior, 1) := by decide +kernel
theorem dX6_walk_85 : decode cX6_walk 85 = .ok (.iload 4, 2) := by decide +kernel
theorem dX6_walk_87 : decode cX6_walk 87 = .ok (.iconst 1, 1) := by decide +kernel
theorem dX6_walk_88 : decode cX6_walk 88 = .ok (.iload 6, 2) := by decide +kernel
theorem dX6_walk_90 : decode cX6_walk 90 = .ok (.ishl, 1) := by decide +kernel
theorem dX6_walk_91 : decode cX6_walk 91 = .ok (.ior, 1) := by decide +kernel
theorem dX6_walk_92 : decode cX6_walk 92 = .ok (.aload 5, 2) := by decide +kernel
theorem dX6_walk_94 : decode cX6_walk 94 = .ok (.invokestatic 24, 3) := by decide +kernel
theorem dX6_walk_97 : decode cX6_walk 97 = .ok (.iinc 6 1, 3) := by decide +kernel
theorem dX6_walk_100 : decode cX6_walk 100 = .ok (.goto (-97), 3) := by decide +kernel
theorem dX6_walk_103 : decode cX6_walk 103 = .ok (.return_, 1) := by decide +kernel
theorem dX6_acrossFrom_0 : decode cX6_acrossFrom 0 = .ok (.iload_n 1, 1) := by decide +kernel
theorem dX6_acrossFrom_1 : decode cX6_acrossFrom 1 = .ok (.ifCond .lt 9, 3) := by decide +kernel
theorem dX6_acrossFrom_4 : decode cX6_acrossFrom 4 = .ok (.iload_n 1, 1) := by decide +kernel
theorem dX6_acrossFrom_5 : decode cX6_acrossFrom 5 = .ok (.bipush 10, 2) := by decide +kernel
theorem dX6_acrossFrom_7 : decode cX6_acrossFrom 7 = .ok (.if_icmp .lt 5, 3) := by decide +kernel
theorem dX6_acrossFrom_10 : decode cX6_acrossFrom 10 = .ok (.iconst (-1), 1) := by decide +kernel
theorem dX6_acrossFrom_11 : decode cX6_acrossFrom 11 = .ok (.ireturn, 1) := by decide +kernel
theorem dX6_acrossFrom_12 : decode cX6_acrossFrom 12 = .ok (.aload_n 0, 1) := by decide +kernel
theorem dX6_acrossFrom_13 : decode cX6_acrossFrom 13 = .ok (.getfield 44, 3) := by decide +kernel
theorem dX6_acrossFrom_16 : decode cX6_acrossFrom 16 = .ok (.iload_n 1, 1) := by decide +kernel
theorem dX6_acrossFrom_17 : decode cX6_acrossFrom 17 = .ok (.iaload, 1) := by decide +kernel
theorem dX6_acrossFrom_18 : decode cX6_acrossFrom 18 = .ok (.iload_n 2, 1) := by decide +kernel
theorem dX6_acrossFrom_19 : decode cX6_acrossFrom 19 = .ok (.if_icmp .ne 10, 3) := by decide +kernel
theorem dX6_acrossFrom_22 : decode cX6_acrossFrom 22 = .ok (.aload_n 0, 1) := by decide +kernel
theorem dX6_acrossFrom_23 : decode cX6_acrossFrom 23 = .ok (.getfield 47, 3) := by decide +kernel
theorem dX6_acrossFrom_26 : decode cX6_acrossFrom 26 = .ok (.iload_n 1, 1) := by decide +kernel
theorem dX6_acrossFrom_27 : decode cX6_acrossFrom 27 = .ok (.iaload, 1) := by decide +kernel
theorem dX6_acrossFrom_28 : decode cX6_acrossFrom 28 = .ok (.ireturn, 1) := by decide +kernel
theorem dX6_acrossFrom_29 : decode cX6_acrossFrom 29 = .ok (.aload_n 0, 1) := by decide +kernel
theorem dX6_acrossFrom_30 : decode cX6_acrossFrom 30 = .ok (.getfield 47, 3) := by decide +kernel
theorem dX6_acrossFrom_33 : decode cX6_acrossFrom 33 = .ok (.iload_n 1, 1) := by decide +kernel
theorem dX6_acrossFrom_34 : decode cX6_acrossFrom 34 = .ok (.iaload, 1) := by decide +kernel
theorem dX6_acrossFrom_35 : decode cX6_acrossFrom 35 = .ok (.iload_n 2, 1) := by decide +kernel
theorem dX6_acrossFrom_36 : decode cX6_acrossFrom 36 = .ok (.if_icmp .ne 12, 3) := by decide +kernel
theorem dX6_acrossFrom_39 : decode cX6_acrossFrom 39 = .ok (.aload_n 0, 1) := by decide +kernel
theorem dX6_acrossFrom_40 : decode cX6_acrossFrom 40 = .ok (.getfield 44, 3) := by decide +kernel
theorem dX6_acrossFrom_43 : decode cX6_acrossFrom 43 = .ok (.iload_n 1, 1) := by decide +kernel
theorem dX6_acrossFrom_44 : decode cX6_acrossFrom 44 = .ok (.iaload, 1) := by decide +kernel
theorem dX6_acrossFrom_45 : decode cX6_acrossFrom 45 = .ok (.goto 4, 3) := by decide +kernel
theorem dX6_acrossFrom_48 : decode cX6_acrossFrom 48 = .ok (.iconst (-1), 1) := by decide +kernel
theorem dX6_acrossFrom_49 : decode cX6_acrossFrom 49 = .ok (.ireturn, 1) := by decide +kernel
theorem dX6_findSets_0 : decode cX6_findSets 0 = .ok (.aload_n 3, 1) := by decide +kernel
theorem dX6_findSets_1 : decode cX6_findSets 1 = .ok (.invokevirtual 15, 3) := by decide +kernel
theorem dX6_findSets_4 : decode cX6_findSets 4 = .ok (.aload_n 1, 1) := by decide +kernel
theorem dX6_findSets_5 : decode cX6_findSets 5 = .ok (.iconst 1, 1) := by decide +kernel
theorem dX6_findSets_6 : decode cX6_findSets 6 = .ok (.aload_n 1, 1) := by decide +kernel
theorem dX6_findSets_7 : decode cX6_findSets 7 = .ok (.getfield 28, 3) := by decide +kernel
theorem dX6_findSets_10 : decode cX6_findSets 10 = .ok (.ishl, 1) := by decide +kernel
theorem dX6_findSets_11 : decode cX6_findSets 11 = .ok (.iconst 1, 1) := by decide +kernel
theorem dX6_findSets_12 : decode cX6_findSets 12 = .ok (.isub, 1) := by decide +kernel
theorem dX6_findSets_13 : decode cX6_findSets 13 = .ok (.invokestatic 50, 3) := by decide +kernel
theorem dX6_findSets_16 : decode cX6_findSets 16 = .ok (.istore 4, 2) := by decide +kernel
theorem dX6_findSets_18 : decode cX6_findSets 18 = .ok (.iconst 0, 1) := by decide +kernel
theorem dX6_findSets_19 : decode cX6_findSets 19 = .ok (.istore 5, 2) := by decide +kernel
theorem dX6_findSets_21 : decode cX6_findSets 21 = .ok (.iload 5, 2) := by decide +kernel
theorem dX6_findSets_23 : decode cX6_findSets 23 = .ok (.iconst 1, 1) := by decide +kernel
theorem dX6_findSets_24 : decode cX6_findSets 24 = .ok (.aload_n 1, 1) := by decide +kernel
theorem dX6_findSets_25 : decode cX6_findSets 25 = .ok (.getfield 28, 3) := by decide +kernel
theorem dX6_findSets_28 : decode cX6_findSets 28 = .ok (.ishl, 1) := by decide +kernel
theorem dX6_findSets_29 : decode cX6_findSets 29 = .ok (.if_icmp .ge 36, 3) := by decide +kernel
theorem dX6_findSets_32 : decode cX6_findSets 32 = .ok (.iload 5, 2) := by decide +kernel
theorem dX6_findSets_34 : decode cX6_findSets 34 = .ok (.sipush 1024, 3) := by decide +kernel
theorem dX6_findSets_37 : decode cX6_findSets 37 = .ok (.if_icmp .ge 28, 3) := by decide +kernel
theorem dX6_findSets_40 : decode cX6_findSets 40 = .ok (.aload_n 0, 1) := by decide +kernel
theorem dX6_findSets_41 : decode cX6_findSets 41 = .ok (.aload_n 1, 1) := by decide +kernel
theorem dX6_findSets_42 : decode cX6_findSets 42 = .ok (.iload_n 2, 1) := by decide +kernel
theorem dX6_findSets_43 : decode cX6_findSets 43 = .ok (.iload 5, 2) := by decide +kernel
theorem dX6_findSets_45 : decode cX6_findSets 45 = .ok (.iload 4, 2) := by decide +kernel
theorem dX6_findSets_47 : decode cX6_findSets 47 = .ok (.invokevirtual 54, 3) := by decide +kernel
theorem dX6_findSets_50 : decode cX6_findSets 50 = .ok (.ifCond .eq 9, 3) := by decide +kernel
theorem dX6_findSets_53 : decode cX6_findSets 53 = .ok (.aload_n 3, 1) := by decide +kernel
theorem dX6_findSets_54 : decode cX6_findSets 54 = .ok (.iload 5, 2) := by decide +kernel
theorem dX6_findSets_56 : decode cX6_findSets 56 = .ok (.invokevirtual 20, 3) := by decide +kernel
theorem dX6_findSets_59 : decode cX6_findSets 59 = .ok (.iinc 5 1, 3) := by decide +kernel
theorem dX6_findSets_62 : decode cX6_findSets 62 = .ok (.goto (-41), 3) := by decide +kernel
theorem dX6_findSets_65 : decode cX6_findSets 65 = .ok (.return_, 1) := by decide +kernel
theorem dX6_isOneOf_0 : decode cX6_isOneOf 0 = .ok (.iload 4, 2) := by decide +kernel
theorem dX6_isOneOf_2 : decode cX6_isOneOf 2 = .ok (.invokestatic 38, 3) := by decide +kernel
theorem dX6_isOneOf_5 : decode cX6_isOneOf 5 = .ok (.istore 5, 2) := by decide +kernel
theorem dX6_isOneOf_7 : decode cX6_isOneOf 7 = .ok (.iload_n 3, 1) := by decide +kernel
theorem dX6_isOneOf_8 : decode cX6_isOneOf 8 = .ok (.invokestatic 38, 3) := by decide +kernel
theorem dX6_isOneOf_11 : decode cX6_isOneOf 11 = .ok (.istore 6, 2) := by decide +kernel
theorem dX6_isOneOf_13 : decode cX6_isOneOf 13 = .ok (.iload_n 2, 1) := by decide +kernel
theorem dX6_isOneOf_14 : decode cX6_isOneOf 14 = .ok (.lookupswitch 75 #[(0, 26), (1, 54)], 26) := by decide +kernel
theorem dX6_isOneOf_40 : decode cX6_isOneOf 40 = .ok (.iload 6, 2) := by decide +kernel
theorem dX6_isOneOf_42 : decode cX6_isOneOf 42 = .ok (.iconst 0, 1) := by decide +kernel
theorem dX6_isOneOf_43 : decode cX6_isOneOf 43 = .ok (.iload 5, 2) := by decide +kernel
theorem dX6_isOneOf_45 : decode cX6_isOneOf 45 = .ok (.iconst 1, 1) := by decide +kernel
theorem dX6_isOneOf_46 : decode cX6_isOneOf 46 = .ok (.isub, 1) := by decide +kernel
theorem dX6_isOneOf_47 : decode cX6_isOneOf 47 = .ok (.invokestatic 58, 3) := by decide +kernel
theorem dX6_isOneOf_50 : decode cX6_isOneOf 50 = .ok (.if_icmp .ne 16, 3) := by decide +kernel
theorem dX6_isOneOf_53 : decode cX6_isOneOf 53 = .ok (.aload_n 0, 1) := by decide +kernel
theorem dX6_isOneOf_54 : decode cX6_isOneOf 54 = .ok (.aload_n 1, 1) := by decide +kernel
theorem dX6_isOneOf_55 : decode cX6_isOneOf 55 = .ok (.iload_n 3, 1) := by decide +kernel
theorem dX6_isOneOf_56 : decode cX6_isOneOf 56 = .ok (.invokevirtual 64, 3) := by decide +kernel
theorem dX6_isOneOf_59 : decode cX6_isOneOf 59 = .ok (.ifCond .eq 7, 3) := by decide +kernel
theorem dX6_isOneOf_62 : decode cX6_isOneOf 62 = .ok (.iconst 1, 1) := by decide +kernel
theorem dX6_isOneOf_63 : decode cX6_isOneOf 63 = .ok (.goto 4, 3) := by decide +kernel
theorem dX6_isOneOf_66 : decode cX6_isOneOf 66 = .ok (.iconst 0, 1) := by decide +kernel
theorem dX6_isOneOf_67 : decode cX6_isOneOf 67 = .ok (.ireturn, 1) := by decide +kernel
theorem dX6_isOneOf_68 : decode cX6_isOneOf 68 = .ok (.aload_n 1, 1) := by decide +kernel
theorem dX6_isOneOf_69 : decode cX6_isOneOf 69 = .ok (.iload_n 3, 1) := by decide +kernel
theorem dX6_isOneOf_70 : decode cX6_isOneOf 70 = .ok (.invokestatic 50, 3) := by decide +kernel
theorem dX6_isOneOf_73 : decode cX6_isOneOf 73 = .ok (.invokestatic 38, 3) := by decide +kernel
theorem dX6_isOneOf_76 : decode cX6_isOneOf 76 = .ok (.iconst 2, 1) := by decide +kernel
theorem dX6_isOneOf_77 : decode cX6_isOneOf 77 = .ok (.iload 6, 2) := by decide +kernel
theorem dX6_isOneOf_79 : decode cX6_isOneOf 79 = .ok (.imul, 1) := by decide +kernel
theorem dX6_isOneOf_80 : decode cX6_isOneOf 80 = .ok (.if_icmp .ne 7, 3) := by decide +kernel
theorem dX6_isOneOf_83 : decode cX6_isOneOf 83 = .ok (.iconst 1, 1) := by decide +kernel
theorem dX6_isOneOf_84 : decode cX6_isOneOf 84 = .ok (.goto 4, 3) := by decide +kernel
theorem dX6_isOneOf_87 : decode cX6_isOneOf 87 = .ok (.iconst 0, 1) := by decide +kernel
theorem dX6_isOneOf_88 : decode cX6_isOneOf 88 = .ok (.ireturn, 1) := by decide +kernel
theorem dX6_isOneOf_89 : decode cX6_isOneOf 89 = .ok (.aload_n 1, 1) := by decide +kernel
theorem dX6_isOneOf_90 : decode cX6_isOneOf 90 = .ok (.iload_n 3, 1) := by decide +kernel
theorem dX6_isOneOf_91 : decode cX6_isOneOf 91 = .ok (.invokestatic 50, 3) := by decide +kernel
theorem dX6_isOneOf_94 : decode cX6_isOneOf 94 = .ok (.iload 4, 2) := by decide +kernel
theorem dX6_isOneOf_96 : decode cX6_isOneOf 96 = .ok (.if_icmp .ne 7, 3) := by decide +kernel
theorem dX6_isOneOf_99 : decode cX6_isOneOf 99 = .ok (.iconst 1, 1) := by decide +kernel
theorem dX6_isOneOf_100 : decode cX6_isOneOf 100 = .ok (.goto 4, 3) := by decide +kernel
theorem dX6_isOneOf_103 : decode cX6_isOneOf 103 = .ok (.iconst 0, 1) := by decide +kernel
theorem dX6_isOneOf_104 : decode cX6_isOneOf 104 = .ok (.ireturn, 1) := by decide +kernel
theorem dX6_touchedBy_0 : decode cX6_touchedBy 0 = .ok (.iconst 0, 1) := by decide +kernel
theorem dX6_touchedBy_1 : decode cX6_touchedBy 1 = .ok (.istore_n 2, 1) := by decide +kernel
theorem dX6_touchedBy_2 : decode cX6_touchedBy 2 = .ok (.iconst 0, 1) := by decide +kernel
theorem dX6_touchedBy_3 : decode cX6_touchedBy 3 = .ok (.istore_n 3, 1) := by decide +kernel
theorem dX6_touchedBy_4 : decode cX6_touchedBy 4 = .ok (.iload_n 3, 1) := by decide +kernel
theorem dX6_touchedBy_5 : decode cX6_touchedBy 5 = .ok (.aload_n 0, 1) := by decide +kernel
theorem dX6_touchedBy_6 : decode cX6_touchedBy 6 = .ok (.getfield 28, 3) := by decide +kernel
theorem dX6_touchedBy_9 : decode cX6_touchedBy 9 = .ok (.if_icmp .ge 43, 3) := by decide +kernel
theorem dX6_touchedBy_12 : decode cX6_touchedBy 12 = .ok (.iload_n 3, 1) := by decide +kernel
theorem dX6_touchedBy_13 : decode cX6_touchedBy 13 = .ok (.bipush 10, 2) := by decide +kernel
theorem dX6_touchedBy_15 : decode cX6_touchedBy 15 = .ok (.if_icmp .ge 37, 3) := by decide +kernel
theorem dX6_touchedBy_18 : decode cX6_touchedBy 18 = .ok (.iload_n 1, 1) := by decide +kernel
theorem dX6_touchedBy_19 : decode cX6_touchedBy 19 = .ok (.iload_n 3, 1) := by decide +kernel
theorem dX6_touchedBy_20 : decode cX6_touchedBy 20 = .ok (.ishr, 1) := by decide +kernel
theorem dX6_touchedBy_21 : decode cX6_touchedBy 21 = .ok (.iconst 1, 1) := by decide +kernel
theorem dX6_touchedBy_22 : decode cX6_touchedBy 22 = .ok (.iand, 1) := by decide +kernel
theorem dX6_touchedBy_23 : decode cX6_touchedBy 23 = .ok (.ifCond .eq 23, 3) := by decide +kernel
theorem dX6_touchedBy_26 : decode cX6_touchedBy 26 = .ok (.iload_n 2, 1) := by decide +kernel
theorem dX6_touchedBy_27 : decode cX6_touchedBy 27 = .ok (.iconst 1, 1) := by decide +kernel
theorem dX6_touchedBy_28 : decode cX6_touchedBy 28 = .ok (.aload_n 0, 1) := by decide +kernel
theorem dX6_touchedBy_29 : decode cX6_touchedBy 29 = .ok (.getfield 44, 3) := by decide +kernel
theorem dX6_touchedBy_32 : decode cX6_touchedBy 32 = .ok (.iload_n 3, 1) := by decide +kernel
theorem dX6_touchedBy_33 : decode cX6_touchedBy 33 = .ok (.iaload, 1) := by decide +kernel
theorem dX6_touchedBy_34 : decode cX6_touchedBy 34 = .ok (.ishl, 1) := by decide +kernel
theorem dX6_touchedBy_35 : decode cX6_touchedBy 35 = .ok (.iconst 1, 1) := by decide +kernel
theorem dX6_touchedBy_36 : decode cX6_touchedBy 36 = .ok (.aload_n 0, 1) := by decide +kernel
theorem dX6_touchedBy_37 : decode cX6_touchedBy 37 = .ok (.getfield 47, 3) := by decide +kernel
theorem dX6_touchedBy_40 : decode cX6_touchedBy 40 = .ok (.iload_n 3, 1) := by decide +kernel
theorem dX6_touchedBy_41 : decode cX6_touchedBy 41 = .ok (.iaload, 1) := by decide +kernel
theorem dX6_touchedBy_42 : decode cX6_touchedBy 42 = .ok (.ishl, 1) := by decide +kernel
theorem dX6_touchedBy_43 : decode cX6_touchedBy 43 = .ok (.ior, 1) := by decide +kernel
theorem dX6_touchedBy_44 : decode cX6_touchedBy 44 = .ok (.ior, 1) := by decide +kernel
theorem dX6_touchedBy_45 : decode cX6_touchedBy 45 = .ok (.istore_n 2, 1) := by decide +kernel
theorem dX6_touchedBy_46 : decode cX6_touchedBy 46 = .ok (.iinc 3 1, 3) := by decide +kernel
theorem dX6_touchedBy_49 : decode cX6_touchedBy 49 = .ok (.goto (-45), 3) := by decide +kernel
theorem dX6_touchedBy_52 : decode cX6_touchedBy 52 = .ok (.iload_n 2, 1) := by decide +kernel
theorem dX6_touchedBy_53 : decode cX6_touchedBy 53 = .ok (.ireturn, 1) := by decide +kernel
theorem dX6_isWithoutRing_0 : decode cX6_isWithoutRing 0 = .ok (.iconst 0, 1) := by decide +kernel
theorem dX6_isWithoutRing_1 : decode cX6_isWithoutRing 1 = .ok (.istore_n 3, 1) := by decide +kernel
theorem dX6_isWithoutRing_2 : decode cX6_isWithoutRing 2 = .ok (.iload_n 3, 1) := by decide +kernel
theorem dX6_isWithoutRing_3 : decode cX6_isWithoutRing 3 = .ok (.bipush 8, 2) := by decide +kernel
theorem dX6_isWithoutRing_5 : decode cX6_isWithoutRing 5 = .ok (.if_icmp .ge 16, 3) := by decide +kernel
theorem dX6_isWithoutRing_8 : decode cX6_isWithoutRing 8 = .ok (.aload_n 0, 1) := by decide +kernel
theorem dX6_isWithoutRing_9 : decode cX6_isWithoutRing 9 = .ok (.getfield 9, 3) := by decide +kernel
theorem dX6_isWithoutRing_12 : decode cX6_isWithoutRing 12 = .ok (.iload_n 3, 1) := by decide +kernel
theorem dX6_isWithoutRing_13 : decode cX6_isWithoutRing 13 = .ok (.iload_n 3, 1) := by decide +kernel
theorem dX6_isWithoutRing_14 : decode cX6_isWithoutRing 14 = .ok (.iastore, 1) := by decide +kernel
theorem dX6_isWithoutRing_15 : decode cX6_isWithoutRing 15 = .ok (.iinc 3 1, 3) := by decide +kernel
theorem dX6_isWithoutRing_18 : decode cX6_isWithoutRing 18 = .ok (.goto (-16), 3) := by decide +kernel
theorem dX6_isWithoutRing_21 : decode cX6_isWithoutRing 21 = .ok (.iconst 0, 1) := by decide +kernel
theorem dX6_isWithoutRing_22 : decode cX6_isWithoutRing 22 = .ok (.istore_n 3, 1) := by decide +kernel
theorem dX6_isWithoutRing_23 : decode cX6_isWithoutRing 23 = .ok (.iload_n 3, 1) := by decide +kernel
theorem dX6_isWithoutRing_24 : decode cX6_isWithoutRing 24 = .ok (.aload_n 1, 1) := by decide +kernel
theorem dX6_isWithoutRing_25 : decode cX6_isWithoutRing 25 = .ok (.getfield 28, 3) := by decide +kernel
theorem dX6_isWithoutRing_28 : decode cX6_isWithoutRing 28 = .ok (.if_icmp .ge 44, 3) := by decide +kernel
theorem dX6_isWithoutRing_31 : decode cX6_isWithoutRing 31 = .ok (.iload_n 3, 1) := by decide +kernel
theorem dX6_isWithoutRing_32 : decode cX6_isWithoutRing 32 = .ok (.bipush 10, 2) := by decide +kernel
theorem dX6_isWithoutRing_34 : decode cX6_isWithoutRing 34 = .ok (.if_icmp .ge 38, 3) := by decide +kernel
theorem dX6_isWithoutRing_37 : decode cX6_isWithoutRing 37 = .ok (.iload_n 2, 1) := by decide +kernel
theorem dX6_isWithoutRing_38 : decode cX6_isWithoutRing 38 = .ok (.iload_n 3, 1) := by decide +kernel
theorem dX6_isWithoutRing_39 : decode cX6_isWithoutRing 39 = .ok (.ishr, 1) := by decide +kernel
theorem dX6_isWithoutRing_40 : decode cX6_isWithoutRing 40 = .ok (.iconst 1, 1) := by decide +kernel
theorem dX6_isWithoutRing_41 : decode cX6_isWithoutRing 41 = .ok (.iand, 1) := by decide +kernel
theorem dX6_isWithoutRing_42 : decode cX6_isWithoutRing 42 = .ok (.ifCond .eq 24, 3) := by decide +kernel
theorem dX6_isWithoutRing_45 : decode cX6_isWithoutRing 45 = .ok (.aload_n 0, 1) := by decide +kernel
theorem dX6_isWithoutRing_46 : decode cX6_isWithoutRing 46 = .ok (.aload_n 1, 1) := by decide +kernel
theorem dX6_isWithoutRing_47 : decode cX6_isWithoutRing 47 = .ok (.getfield 44, 3) := by decide +kernel
theorem dX6_isWithoutRing_50 : decode cX6_isWithoutRing 50 = .ok (.iload_n 3, 1) := by decide +kernel
theorem dX6_isWithoutRing_51 : decode cX6_isWithoutRing 51 = .ok (.iaload, 1) := by decide +kernel
theorem dX6_isWithoutRing_52 : decode cX6_isWithoutRing 52 = .ok (.aload_n 1, 1) := by decide +kernel
theorem dX6_isWithoutRing_53 : decode cX6_isWithoutRing 53 = .ok (.getfield 47, 3) := by decide +kernel
theorem dX6_isWithoutRing_56 : decode cX6_isWithoutRing 56 = .ok (.iload_n 3, 1) := by decide +kernel
theorem dX6_isWithoutRing_57 : decode cX6_isWithoutRing 57 = .ok (.iaload, 1) := by decide +kernel
theorem dX6_isWithoutRing_58 : decode cX6_isWithoutRing 58 = .ok (.invokevirtual 68, 3) := by decide +kernel
theorem dX6_isWithoutRing_61 : decode cX6_isWithoutRing 61 = .ok (.ifCond .ne 5, 3) := by decide +kernel
theorem dX6_isWithoutRing_64 : decode cX6_isWithoutRing 64 = .ok (.iconst 0, 1) := by decide +kernel
theorem dX6_isWithoutRing_65 : decode cX6_isWithoutRing 65 = .ok (.ireturn, 1) := by decide +kernel
theorem dX6_isWithoutRing_66 : decode cX6_isWithoutRing 66 = .ok (.iinc 3 1, 3) := by decide +kernel
theorem dX6_isWithoutRing_69 : decode cX6_isWithoutRing 69 = .ok (.goto (-46), 3) := by decide +kernel
theorem dX6_isWithoutRing_72 : decode cX6_isWithoutRing 72 = .ok (.iconst 1, 1) := by decide +kernel
theorem dX6_isWithoutRing_73 : decode cX6_isWithoutRing 73 = .ok (.ireturn, 1) := by decide +kernel
theorem dX6_joinClumps_0 : decode cX6_joinClumps 0 = .ok (.iload_n 1, 1) := by decide +kernel
theorem dX6_joinClumps_1 : decode cX6_joinClumps 1 = .ok (.ifCond .lt 34, 3) := by decide +kernel
theorem dX6_joinClumps_4 : decode cX6_joinClumps 4 = .ok (.iload_n 1, 1) := by decide +kernel
theorem dX6_joinClumps_5 : decode cX6_joinClumps 5 = .ok (.bipush 8, 2) := by decide +kernel
theorem dX6_joinClumps_7 : decode cX6_joinClumps 7 = .ok (.if_icmp .ge 28, 3) := by decide +kernel
theorem dX6_joinClumps_10 : decode cX6_joinClumps 10 = .ok (.iload_n 2, 1) := by decide +kernel
theorem dX6_joinClumps_11 : decode cX6_joinClumps 11 = .ok (.ifCond .lt 24, 3) := by decide +kernel
theorem dX6_joinClumps_14 : decode cX6_joinClumps 14 = .ok (.iload_n 2, 1) := by decide +kernel
theorem dX6_joinClumps_15 : decode cX6_joinClumps 15 = .ok (.bipush 8, 2) := by decide +kernel
theorem dX6_joinClumps_17 : decode cX6_joinClumps 17 = .ok (.if_icmp .ge 18, 3) := by decide +kernel
theorem dX6_joinClumps_20 : decode cX6_joinClumps 20 = .ok (.aload_n 0, 1) := by decide +kernel
theorem dX6_joinClumps_21 : decode cX6_joinClumps 21 = .ok (.getfield 9, 3) := by decide +kernel
theorem dX6_joinClumps_24 : decode cX6_joinClumps 24 = .ok (.iload_n 1, 1) := by decide +kernel
theorem dX6_joinClumps_25 : decode cX6_joinClumps 25 = .ok (.iaload, 1) := by decide +kernel
theorem dX6_joinClumps_26 : decode cX6_joinClumps 26 = .ok (.aload_n 0, 1) := by decide +kernel
theorem dX6_joinClumps_27 : decode cX6_joinClumps 27 = .ok (.getfield 9, 3) := by decide +kernel
theorem dX6_joinClumps_30 : decode cX6_joinClumps 30 = .ok (.iload_n 2, 1) := by decide +kernel
theorem dX6_joinClumps_31 : decode cX6_joinClumps 31 = .ok (.iaload, 1) := by decide +kernel
theorem dX6_joinClumps_32 : decode cX6_joinClumps 32 = .ok (.if_icmp .ne 5, 3) := by decide +kernel
theorem dX6_joinClumps_35 : decode cX6_joinClumps 35 = .ok (.iconst 0, 1) := by decide +kernel
theorem dX6_joinClumps_36 : decode cX6_joinClumps 36 = .ok (.ireturn, 1) := by decide +kernel
theorem dX6_joinClumps_37 : decode cX6_joinClumps 37 = .ok (.aload_n 0, 1) := by decide +kernel
theorem dX6_joinClumps_38 : decode cX6_joinClumps 38 = .ok (.getfield 9, 3) := by decide +kernel
theorem dX6_joinClumps_41 : decode cX6_joinClumps 41 = .ok (.iload_n 2, 1) := by decide +kernel
theorem dX6_joinClumps_42 : decode cX6_joinClumps 42 = .ok (.iaload, 1) := by decide +kernel
theorem dX6_joinClumps_43 : decode cX6_joinClumps 43 = .ok (.istore_n 3, 1) := by decide +kernel
theorem dX6_joinClumps_44 : decode cX6_joinClumps 44 = .ok (.iconst 0, 1) := by decide +kernel
theorem dX6_joinClumps_45 : decode cX6_joinClumps 45 = .ok (.istore 4, 2) := by decide +kernel
theorem dX6_joinClumps_47 : decode cX6_joinClumps 47 = .ok (.iload 4, 2) := by decide +kernel
theorem dX6_joinClumps_49 : decode cX6_joinClumps 49 = .ok (.bipush 8, 2) := by decide +kernel
theorem dX6_joinClumps_51 : decode cX6_joinClumps 51 = .ok (.if_icmp .ge 33, 3) := by decide +kernel
theorem dX6_joinClumps_54 : decode cX6_joinClumps 54 = .ok (.aload_n 0, 1) := by decide +kernel
theorem dX6_joinClumps_55 : decode cX6_joinClumps 55 = .ok (.getfield 9, 3) := by decide +kernel
theorem dX6_joinClumps_58 : decode cX6_joinClumps 58 = .ok (.iload 4, 2) := by decide +kernel
theorem dX6_joinClumps_60 : decode cX6_joinClumps 60 = .ok (.iaload, 1) := by decide +kernel
theorem dX6_joinClumps_61 : decode cX6_joinClumps 61 = .ok (.iload_n 3, 1) := by decide +kernel
theorem dX6_joinClumps_62 : decode cX6_joinClumps 62 = .ok (.if_icmp .ne 16, 3) := by decide +kernel
theorem dX6_joinClumps_65 : decode cX6_joinClumps 65 = .ok (.aload_n 0, 1) := by decide +kernel
theorem dX6_joinClumps_66 : decode cX6_joinClumps 66 = .ok (.getfield 9, 3) := by decide +kernel
theorem dX6_joinClumps_69 : decode cX6_joinClumps 69 = .ok (.iload 4, 2) := by decide +kernel
theorem dX6_joinClumps_71 : decode cX6_joinClumps 71 = .ok (.aload_n 0, 1) := by decide +kernel
theorem dX6_joinClumps_72 : decode cX6_joinClumps 72 = .ok (.getfield 9, 3) := by decide +kernel
theorem dX6_joinClumps_75 : decode cX6_joinClumps 75 = .ok (.iload_n 1, 1) := by decide +kernel
theorem dX6_joinClumps_76 : decode cX6_joinClumps 76 = .ok (.iaload, 1) := by decide +kernel
theorem dX6_joinClumps_77 : decode cX6_joinClumps 77 = .ok (.iastore, 1) := by decide +kernel
theorem dX6_joinClumps_78 : decode cX6_joinClumps 78 = .ok (.iinc 4 1, 3) := by decide +kernel
theorem dX6_joinClumps_81 : decode cX6_joinClumps 81 = .ok (.goto (-34), 3) := by decide +kernel
theorem dX6_joinClumps_84 : decode cX6_joinClumps 84 = .ok (.iconst 1, 1) := by decide +kernel
theorem dX6_joinClumps_85 : decode cX6_joinClumps 85 = .ok (.ireturn, 1) := by decide +kernel
theorem dX7_init_0 : decode cX7_init 0 = .ok (.aload_n 0, 1) := by decide +kernel
theorem dX7_init_1 : decode cX7_init 1 = .ok (.invokespecial 3, 3) := by decide +kernel
theorem dX7_init_4 : decode cX7_init 4 = .ok (.aload_n 0, 1) := by decide +kernel
theorem dX7_init_5 : decode cX7_init 5 = .ok (.bipush 16, 2) := by decide +kernel
theorem dX7_init_7 : decode cX7_init 7 = .ok (.anewarray 11, 3) := by decide +kernel
theorem dX7_init_10 : decode cX7_init 10 = .ok (.putfield 13, 3) := by decide +kernel
theorem dX7_init_13 : decode cX7_init 13 = .ok (.aload_n 0, 1) := by decide +kernel
theorem dX7_init_14 : decode cX7_init 14 = .ok (.iconst 0, 1) := by decide +kernel
theorem dX7_init_15 : decode cX7_init 15 = .ok (.putfield 17, 3) := by decide +kernel
theorem dX7_init_18 : decode cX7_init 18 = .ok (.iconst 0, 1) := by decide +kernel
theorem dX7_init_19 : decode cX7_init 19 = .ok (.istore_n 1, 1) := by decide +kernel
theorem dX7_init_20 : decode cX7_init 20 = .ok (.iload_n 1, 1) := by decide +kernel
theorem dX7_init_21 : decode cX7_init 21 = .ok (.bipush 16, 2) := by decide +kernel
theorem dX7_init_23 : decode cX7_init 23 = .ok (.if_icmp .ge 22, 3) := by decide +kernel
theorem dX7_init_26 : decode cX7_init 26 = .ok (.aload_n 0, 1) := by decide +kernel
theorem dX7_init_27 : decode cX7_init 27 = .ok (.getfield 13, 3) := by decide +kernel
theorem dX7_init_30 : decode cX7_init 30 = .ok (.iload_n 1, 1) := by decide +kernel
theorem dX7_init_31 : decode cX7_init 31 = .ok (.new 11, 3) := by decide +kernel
theorem dX7_init_34 : decode cX7_init 34 = .ok (.dup, 1) := by decide +kernel
theorem dX7_init_35 : decode cX7_init 35 = .ok (.invokespecial 21, 3) := by decide +kernel
theorem dX7_init_38 : decode cX7_init 38 = .ok (.aastore, 1) := by decide +kernel
theorem dX7_init_39 : decode cX7_init 39 = .ok (.iinc 1 1, 3) := by decide +kernel
theorem dX7_init_42 : decode cX7_init 42 = .ok (.goto (-22), 3) := by decide +kernel
theorem dX7_init_45 : decode cX7_init 45 = .ok (.return_, 1) := by decide +kernel
theorem dX7_run_0 : decode cX7_run 0 = .ok (.aload_n 0, 1) := by decide +kernel
theorem dX7_run_1 : decode cX7_run 1 = .ok (.iconst 0, 1) := by decide +kernel
theorem dX7_run_2 : decode cX7_run 2 = .ok (.putfield 17, 3) := by decide +kernel
theorem dX7_run_5 : decode cX7_run 5 = .ok (.iconst 0, 1) := by decide +kernel
theorem dX7_run_6 : decode cX7_run 6 = .ok (.istore 4, 2) := by decide +kernel
theorem dX7_run_8 : decode cX7_run 8 = .ok (.iload 4, 2) := by decide +kernel
theorem dX7_run_10 : decode cX7_run 10 = .ok (.aload_n 1, 1) := by decide +kernel
theorem dX7_run_11 : decode cX7_run 11 = .ok (.getfield 22, 3) := by decide +kernel
theorem dX7_run_14 : decode cX7_run 14 = .ok (.if_icmp .ge 39, 3) := by decide +kernel
theorem dX7_run_17 : decode cX7_run 17 = .ok (.iload 4, 2) := by decide +kernel
theorem dX7_run_19 : decode cX7_run 19 = .ok (.aload_n 1, 1) := by decide +kernel
theorem dX7_run_20 : decode cX7_run 20 = .ok (.getfield 27, 3) := by decide +kernel
theorem dX7_run_23 : decode cX7_run 23 = .ok (.arraylength, 1) := by decide +kernel
theorem dX7_run_24 : decode cX7_run 24 = .ok (.if_icmp .ge 29, 3) := by decide +kernel
theorem dX7_run_27 : decode cX7_run 27 = .ok (.aload_n 0, 1) := by decide +kernel
theorem dX7_run_28 : decode cX7_run 28 = .ok (.aload_n 1, 1) := by decide +kernel
theorem dX7_run_29 : decode cX7_run 29 = .ok (.getfield 27, 3) := by decide +kernel
theorem dX7_run_32 : decode cX7_run 32 = .ok (.iload 4, 2) := by decide +kernel
theorem dX7_run_34 : decode cX7_run 34 = .ok (.iaload, 1) := by decide +kernel
theorem dX7_run_35 : decode cX7_run 35 = .ok (.aload_n 1, 1) := by decide +kernel
theorem dX7_run_36 : decode cX7_run 36 = .ok (.getfield 31, 3) := by decide +kernel
theorem dX7_run_39 : decode cX7_run 39 = .ok (.iload 4, 2) := by decide +kernel
theorem dX7_run_41 : decode cX7_run 41 = .ok (.iaload, 1) := by decide +kernel
theorem dX7_run_42 : decode cX7_run 42 = .ok (.aload_n 2, 1) := by decide +kernel
theorem dX7_run_43 : decode cX7_run 43 = .ok (.aload_n 3, 1) := by decide +kernel
theorem dX7_run_44 : decode cX7_run 44 = .ok (.invokevirtual 34, 3) := by decide +kernel
theorem dX7_run_47 : decode cX7_run 47 = .ok (.iinc 4 1, 3) := by decide +kernel
theorem dX7_run_50 : decode cX7_run 50 = .ok (.goto (-42), 3) := by decide +kernel
theorem dX7_run_53 : decode cX7_run 53 = .ok (.return_, 1) := by decide +kernel
theorem dX7_doStep_0 : decode cX7_doStep 0 = .ok (.iload_n 1, 1) := by decide +kernel
theorem dX7_doStep_1 : decode cX7_doStep 1 = .ok (.tableswitch 153 0 5 #[39, 62, 72, 86, 98, 135], 39) := by decide +kernel
theorem dX7_doStep_40 : decode cX7_doStep 40 = .ok (.iload_n 2, 1) := by decide +kernel
theorem dX7_doStep_41 : decode cX7_doStep 41 = .ok (.invokestatic 38, 3) := by decide +kernel
theorem dX7_doStep_44 : decode cX7_doStep 44 = .ok (.ifCond .eq 136, 3) := by decide +kernel
theorem dX7_doStep_47 : decode cX7_doStep 47 = .ok (.aload_n 0, 1) := by decide +kernel
theorem dX7_doStep_48 : decode cX7_doStep 48 = .ok (.invokevirtual 42, 3) := by decide +kernel
theorem dX7_doStep_51 : decode cX7_doStep 51 = .ok (.aload_n 3, 1) := by decide +kernel
theorem dX7_doStep_52 : decode cX7_doStep 52 = .ok (.getfield 46, 3) := by decide +kernel
theorem dX7_doStep_55 : decode cX7_doStep 55 = .ok (.iload_n 2, 1) := by decide +kernel
theorem dX7_doStep_56 : decode cX7_doStep 56 = .ok (.aaload, 1) := by decide +kernel
theorem dX7_doStep_57 : decode cX7_doStep 57 = .ok (.invokevirtual 51, 3) := by decide +kernel
theorem dX7_doStep_60 : decode cX7_doStep 60 = .ok (.goto 120, 3) := by decide +kernel
theorem dX7_doStep_63 : decode cX7_doStep 63 = .ok (.aload_n 0, 1) := by decide +kernel
theorem dX7_doStep_64 : decode cX7_doStep 64 = .ok (.invokevirtual 42, 3) := by decide +kernel
theorem dX7_doStep_67 : decode cX7_doStep 67 = .ok (.invokevirtual 55, 3) := by decide +kernel
theorem dX7_doStep_70 : decode cX7_doStep 70 = .ok (.goto 110, 3) := by decide +kernel
theorem dX7_doStep_73 : decode cX7_doStep 73 = .ok (.aload_n 0, 1) := by decide +kernel
theorem dX7_doStep_74 : decode cX7_doStep 74 = .ok (.invokevirtual 42, 3) := by decide +kernel
theorem dX7_doStep_77 : decode cX7_doStep 77 = .ok (.aload_n 3, 1) := by decide +kernel
theorem dX7_doStep_78 : decode cX7_doStep 78 = .ok (.getfield 58, 3) := by decide +kernel
theorem dX7_doStep_81 : decode cX7_doStep 81 = .ok (.invokevirtual 61, 3) := by decide +kernel
theorem dX7_doStep_84 : decode cX7_doStep 84 = .ok (.goto 96, 3) := by decide +kernel
theorem dX7_doStep_87 : decode cX7_doStep 87 = .ok (.aload_n 0, 1) := by decide +kernel
theorem dX7_doStep_88 : decode cX7_doStep 88 = .ok (.iconst 0, 1) := by decide +kernel
theorem dX7_doStep_89 : decode cX7_doStep 89 = .ok (.invokevirtual 65, 3) := by decide +kernel
theorem dX7_doStep_92 : decode cX7_doStep 92 = .ok (.iload_n 2, 1) := by decide +kernel
theorem dX7_doStep_93 : decode cX7_doStep 93 = .ok (.invokevirtual 69, 3) := by decide +kernel
theorem dX7_doStep_96 : decode cX7_doStep 96 = .ok (.goto 84, 3) := by decide +kernel
theorem dX7_doStep_99 : decode cX7_doStep 99 = .ok (.aload 4, 2) := by decide +kernel
theorem dX7_doStep_101 : decode cX7_doStep 101 = .ok (.iload_n 2, 1) := by decide +kernel
theorem dX7_doStep_102 : decode cX7_doStep 102 = .ok (.aload_n 0, 1) := by decide +kernel
theorem dX7_doStep_103 : decode cX7_doStep 103 = .ok (.iconst 1, 1) := by decide +kernel
theorem dX7_doStep_104 : decode cX7_doStep 104 = .ok (.invokevirtual 65, 3) := by decide +kernel
theorem dX7_doStep_107 : decode cX7_doStep 107 = .ok (.aload_n 0, 1) := by decide +kernel
theorem dX7_doStep_108 : decode cX7_doStep 108 = .ok (.iconst 0, 1) := by decide +kernel
theorem dX7_doStep_109 : decode cX7_doStep 109 = .ok (.invokevirtual 65, 3) := by decide +kernel
theorem dX7_doStep_112 : decode cX7_doStep 112 = .ok (.aload_n 3, 1) := by decide +kernel
theorem dX7_doStep_113 : decode cX7_doStep 113 = .ok (.getfield 58, 3) := by decide +kernel
theorem dX7_doStep_116 : decode cX7_doStep 116 = .ok (.invokevirtual 72, 3) := by decide +kernel
theorem dX7_doStep_119 : decode cX7_doStep 119 = .ok (.aload_n 0, 1) := by decide +kernel
theorem dX7_doStep_120 : decode cX7_doStep 120 = .ok (.iconst 0, 1) := by decide +kernel
theorem dX7_doStep_121 : decode cX7_doStep 121 = .ok (.aload_n 0, 1) := by decide +kernel
theorem dX7_doStep_122 : decode cX7_doStep 122 = .ok (.getfield 17, 3) := by decide +kernel
theorem dX7_doStep_125 : decode cX7_doStep 125 = .ok (.iconst 1, 1) := by decide +kernel
theorem dX7_doStep_126 : decode cX7_doStep 126 = .ok (.isub, 1) := by decide +kernel
theorem dX7_doStep_127 : decode cX7_doStep 127 = .ok (.invokestatic 78, 3) := by decide +kernel
theorem dX7_doStep_130 : decode cX7_doStep 130 = .ok (.putfield 17, 3) := by decide +kernel
theorem dX7_doStep_133 : decode cX7_doStep 133 = .ok (.goto 47, 3) := by decide +kernel
theorem dX7_doStep_136 : decode cX7_doStep 136 = .ok (.aload 4, 2) := by decide +kernel
theorem dX7_doStep_138 : decode cX7_doStep 138 = .ok (.iload_n 2, 1) := by decide +kernel
theorem dX7_doStep_139 : decode cX7_doStep 139 = .ok (.aload_n 0, 1) := by decide +kernel
theorem dX7_doStep_140 : decode cX7_doStep 140 = .ok (.iconst 0, 1) := by decide +kernel
theorem dX7_doStep_141 : decode cX7_doStep 141 = .ok (.invokevirtual 65, 3) := by decide +kernel
theorem dX7_doStep_144 : decode cX7_doStep 144 = .ok (.aload_n 3, 1) := by decide +kernel
theorem dX7_doStep_145 : decode cX7_doStep 145 = .ok (.getfield 58, 3) := by decide +kernel
theorem dX7_doStep_148 : decode cX7_doStep 148 = .ok (.invokevirtual 84, 3) := by decide +kernel
theorem dX7_doStep_151 : decode cX7_doStep 151 = .ok (.goto 29, 3) := by decide +kernel
theorem dX7_doStep_154 : decode cX7_doStep 154 = .ok (.iload_n 2, 1) := by decide +kernel
theorem dX7_doStep_155 : decode cX7_doStep 155 = .ok (.invokestatic 38, 3) := by decide +kernel
theorem dX7_doStep_158 : decode cX7_doStep 158 = .ok (.ifCond .eq 17, 3) := by decide +kernel
theorem dX7_doStep_161 : decode cX7_doStep 161 = .ok (.aload_n 3, 1) := by decide +kernel
theorem dX7_doStep_162 : decode cX7_doStep 162 = .ok (.getfield 46, 3) := by decide +kernel
theorem dX7_doStep_165 : decode cX7_doStep 165 = .ok (.iload_n 2, 1) := by decide +kernel
theorem dX7_doStep_166 : decode cX7_doStep 166 = .ok (.aaload, 1) := by decide +kernel
theorem dX7_doStep_167 : decode cX7_doStep 167 = .ok (.aload_n 0, 1) := by decide +kernel
theorem dX7_doStep_168 : decode cX7_doStep 168 = .ok (.iconst 0, 1) := by decide +kernel
theorem dX7_doStep_169 : decode cX7_doStep 169 = .ok (.invokevirtual 65, 3) := by decide +kernel
theorem dX7_doStep_172 : decode cX7_doStep 172 = .ok (.invokevirtual 51, 3) := by decide +kernel
theorem dX7_doStep_175 : decode cX7_doStep 175 = .ok (.aload_n 0, 1) := by decide +kernel
theorem dX7_doStep_176 : decode cX7_doStep 176 = .ok (.iconst 0, 1) := by decide +kernel
theorem dX7_doStep_177 : decode cX7_doStep 177 = .ok (.putfield 17, 3) := by decide +kernel
theorem dX7_doStep_180 : decode cX7_doStep 180 = .ok (.return_, 1) := by decide +kernel
theorem dX7_isRegisterNumber_0 : decode cX7_isRegisterNumber 0 = .ok (.iload_n 0, 1) := by decide +kernel
theorem dX7_isRegisterNumber_1 : decode cX7_isRegisterNumber 1 = .ok (.ifCond .lt 13, 3) := by decide +kernel
theorem dX7_isRegisterNumber_4 : decode cX7_isRegisterNumber 4 = .ok (.iload_n 0, 1) := by decide +kernel
theorem dX7_isRegisterNumber_5 : decode cX7_isRegisterNumber 5 = .ok (.bipush 10, 2) := by decide +kernel
theorem dX7_isRegisterNumber_7 : decode cX7_isRegisterNumber 7 = .ok (.if_icmp .ge 7, 3) := by decide +kernel
theorem dX7_isRegisterNumber_10 : decode cX7_isRegisterNumber 10 = .ok (.iconst 1, 1) := by decide +kernel
theorem dX7_isRegisterNumber_11 : decode cX7_isRegisterNumber 11 = .ok (.goto 4, 3) := by decide +kernel
theorem dX7_isRegisterNumber_14 : decode cX7_isRegisterNumber 14 = .ok (.iconst 0, 1) := by decide +kernel
theorem dX7_isRegisterNumber_15 : decode cX7_isRegisterNumber 15 = .ok (.ireturn, 1) := by decide +kernel
theorem dX7_pushed_0 : decode cX7_pushed 0 = .ok (.aload_n 0, 1) := by decide +kernel
theorem dX7_pushed_1 : decode cX7_pushed 1 = .ok (.bipush 16, 2) := by decide +kernel
theorem dX7_pushed_3 : decode cX7_pushed 3 = .ok (.aload_n 0, 1) := by decide +kernel
theorem dX7_pushed_4 : decode cX7_pushed 4 = .ok (.getfield 17, 3) := by decide +kernel
theorem dX7_pushed_7 : decode cX7_pushed 7 = .ok (.iconst 1, 1) := by decide +kernel
theorem dX7_pushed_8 : decode cX7_pushed 8 = .ok (.iadd, 1) := by decide +kernel
theorem dX7_pushed_9 : decode cX7_pushed 9 = .ok (.invokestatic 88, 3) := by decide +kernel
theorem dX7_pushed_12 : decode cX7_pushed 12 = .ok (.putfield 17, 3) := by decide +kernel
theorem dX7_pushed_15 : decode cX7_pushed 15 = .ok (.aload_n 0, 1) := by decide +kernel
theorem dX7_pushed_16 : decode cX7_pushed 16 = .ok (.iconst 0, 1) := by decide +kernel
theorem dX7_pushed_17 : decode cX7_pushed 17 = .ok (.invokevirtual 65, 3) := by decide +kernel
theorem dX7_pushed_20 : decode cX7_pushed 20 = .ok (.areturn, 1) := by decide +kernel
theorem dX7_top_0 : decode cX7_top 0 = .ok (.iconst 0, 1) := by decide +kernel
theorem dX7_top_1 : decode cX7_top 1 = .ok (.bipush 15, 2) := by decide +kernel
theorem dX7_top_3 : decode cX7_top 3 = .ok (.aload_n 0, 1) := by decide +kernel
theorem dX7_top_4 : decode cX7_top 4 = .ok (.getfield 17, 3) := by decide +kernel
theorem dX7_top_7 : decode cX7_top 7 = .ok (.iconst 1, 1) := by decide +kernel
theorem dX7_top_8 : decode cX7_top 8 = .ok (.isub, 1) := by decide +kernel
theorem dX7_top_9 : decode cX7_top 9 = .ok (.iload_n 1, 1) := by decide +kernel
theorem dX7_top_10 : decode cX7_top 10 = .ok (.isub, 1) := by decide +kernel
theorem dX7_top_11 : decode cX7_top 11 = .ok (.invokestatic 88, 3) := by decide +kernel
theorem dX7_top_14 : decode cX7_top 14 = .ok (.invokestatic 78, 3) := by decide +kernel
theorem dX7_top_17 : decode cX7_top 17 = .ok (.istore_n 2, 1) := by decide +kernel
theorem dX7_top_18 : decode cX7_top 18 = .ok (.aload_n 0, 1) := by decide +kernel
theorem dX7_top_19 : decode cX7_top 19 = .ok (.getfield 13, 3) := by decide +kernel
theorem dX7_top_22 : decode cX7_top 22 = .ok (.iload_n 2, 1) := by decide +kernel
theorem dX7_top_23 : decode cX7_top 23 = .ok (.aaload, 1) := by decide +kernel
theorem dX7_top_24 : decode cX7_top 24 = .ok (.areturn, 1) := by decide +kernel
theorem dX8_init_0 : decode cX8_init 0 = .ok (.aload_n 0, 1) := by decide +kernel
theorem dX8_init_1 : decode cX8_init 1 = .ok (.invokespecial 3, 3) := by decide +kernel
theorem dX8_init_4 : decode cX8_init 4 = .ok (.aload_n 0, 1) := by decide +kernel
theorem dX8_init_5 : decode cX8_init 5 = .ok (.sipush 1024, 3) := by decide +kernel
theorem dX8_init_8 : decode cX8_init 8 = .ok (.newarray .int, 2) := by decide +kernel
theorem dX8_init_10 : decode cX8_init 10 = .ok (.putfield 9, 3) := by decide +kernel
theorem dX8_init_13 : decode cX8_init 13 = .ok (.aload_n 0, 1) := by decide +kernel
theorem dX8_init_14 : decode cX8_init 14 = .ok (.sipush 991, 3) := by decide +kernel
theorem dX8_init_17 : decode cX8_init 17 = .ok (.newarray .int, 2) := by decide +kernel
theorem dX8_init_19 : decode cX8_init 19 = .ok (.putfield 15, 3) := by decide +kernel
theorem dX8_init_22 : decode cX8_init 22 = .ok (.return_, 1) := by decide +kernel
theorem dX8_weighSets_0 : decode cX8_weighSets 0 = .ok (.aload_n 0, 1) := by decide +kernel
theorem dX8_weighSets_1 : decode cX8_weighSets 1 = .ok (.getfield 9, 3) := by decide +kernel
theorem dX8_weighSets_4 : decode cX8_weighSets 4 = .ok (.iconst 0, 1) := by decide +kernel
theorem dX8_weighSets_5 : decode cX8_weighSets 5 = .ok (.iconst 0, 1) := by decide +kernel
theorem dX8_weighSets_6 : decode cX8_weighSets 6 = .ok (.iastore, 1) := by decide +kernel
theorem dX8_weighSets_7 : decode cX8_weighSets 7 = .ok (.iconst 0, 1) := by decide +kernel
theorem dX8_weighSets_8 : decode cX8_weighSets 8 = .ok (.istore_n 2, 1) := by decide +kernel
theorem dX8_weighSets_9 : decode cX8_weighSets 9 = .ok (.iload_n 2, 1) := by decide +kernel
theorem dX8_weighSets_10 : decode cX8_weighSets 10 = .ok (.aload_n 1, 1) := by decide +kernel
theorem dX8_weighSets_11 : decode cX8_weighSets 11 = .ok (.getfield 18, 3) := by decide +kernel
theorem dX8_weighSets_14 : decode cX8_weighSets 14 = .ok (.if_icmp .ge 57, 3) := by decide +kernel
theorem dX8_weighSets_17 : decode cX8_weighSets 17 = .ok (.iload_n 2, 1) := by decide +kernel
theorem dX8_weighSets_18 : decode cX8_weighSets 18 = .ok (.bipush 10, 2) := by decide +kernel
theorem dX8_weighSets_20 : decode cX8_weighSets 20 = .ok (.if_icmp .ge 51, 3) := by decide +kernel
theorem dX8_weighSets_23 : decode cX8_weighSets 23 = .ok (.iconst 1, 1) := by decide +kernel
theorem dX8_weighSets_24 : decode cX8_weighSets 24 = .ok (.iload_n 2, 1) := by decide +kernel
theorem dX8_weighSets_25 : decode cX8_weighSets 25 = .ok (.ishl, 1) := by decide +kernel
theorem dX8_weighSets_26 : decode cX8_weighSets 26 = .ok (.istore_n 3, 1) := by decide +kernel
theorem dX8_weighSets_27 : decode cX8_weighSets 27 = .ok (.iconst 0, 1) := by decide +kernel
theorem dX8_weighSets_28 : decode cX8_weighSets 28 = .ok (.istore 4, 2) := by decide +kernel
theorem dX8_weighSets_30 : decode cX8_weighSets 30 = .ok (.iload 4, 2) := by decide +kernel
theorem dX8_weighSets_32 : decode cX8_weighSets 32 = .ok (.iload_n 3, 1) := by decide +kernel
theorem dX8_weighSets_33 : decode cX8_weighSets 33 = .ok (.if_icmp .ge 32, 3) := by decide +kernel
theorem dX8_weighSets_36 : decode cX8_weighSets 36 = .ok (.aload_n 0, 1) := by decide +kernel
theorem dX8_weighSets_37 : decode cX8_weighSets 37 = .ok (.getfield 9, 3) := by decide +kernel
theorem dX8_weighSets_40 : decode cX8_weighSets 40 = .ok (.iload_n 3, 1) := by decide +kernel
theorem dX8_weighSets_41 : decode cX8_weighSets 41 = .ok (.iload 4, 2) := by decide +kernel
theorem dX8_weighSets_43 : decode cX8_weighSets 43 = .ok (.iadd, 1) := by decide +kernel
theorem dX8_weighSets_44 : decode cX8_weighSets 44 = .ok (.aload_n 0, 1) := by decide +kernel
theorem dX8_weighSets_45 : decode cX8_weighSets 45 = .ok (.getfield 9, 3) := by decide +kernel
theorem dX8_weighSets_48 : decode cX8_weighSets 48 = .ok (.iload 4, 2) := by decide +kernel
theorem dX8_weighSets_50 : decode cX8_weighSets 50 = .ok (.iaload, 1) := by decide +kernel
theorem dX8_weighSets_51 : decode cX8_weighSets 51 = .ok (.aload_n 1, 1) := by decide +kernel
theorem dX8_weighSets_52 : decode cX8_weighSets 52 = .ok (.getfield 24, 3) := by decide +kernel
theorem dX8_weighSets_55 : decode cX8_weighSets 55 = .ok (.iload_n 2, 1) := by decide +kernel
theorem dX8_weighSets_56 : decode cX8_weighSets 56 = .ok (.iaload, 1) := by decide +kernel
theorem dX8_weighSets_57 : decode cX8_weighSets 57 = .ok (.iadd, 1) := by decide +kernel
theorem dX8_weighSets_58 : decode cX8_weighSets 58 = .ok (.iastore, 1) := by decide +kernel
theorem dX8_weighSets_59 : decode cX8_weighSets 59 = .ok (.iinc 4 1, 3) := by decide +kernel
theorem dX8_weighSets_62 : decode cX8_weighSets 62 = .ok (.goto (-32), 3) := by decide +kernel
theorem dX8_weighSets_65 : decode cX8_weighSets 65 = .ok (.iinc 2 1, 3) := by decide +kernel
theorem dX8_weighSets_68 : decode cX8_weighSets 68 = .ok (.goto (-59), 3) := by decide +kernel
theorem dX8_weighSets_71 : decode cX8_weighSets 71 = .ok (.return_, 1) := by decide +kernel
theorem dX8_sum_0 : decode cX8_sum 0 = .ok (.aload_n 2, 1) := by decide +kernel
theorem dX8_sum_1 : decode cX8_sum 1 = .ok (.invokevirtual 27, 3) := by decide +kernel
theorem dX8_sum_4 : decode cX8_sum 4 = .ok (.ifCond .eq 14, 3) := by decide +kernel
theorem dX8_sum_7 : decode cX8_sum 7 = .ok (.iload_n 3, 1) := by decide +kernel
theorem dX8_sum_8 : decode cX8_sum 8 = .ok (.iconst 2, 1) := by decide +kernel
theorem dX8_sum_9 : decode cX8_sum 9 = .ok (.if_icmp .ne 7, 3) := by decide +kernel
theorem dX8_sum_12 : decode cX8_sum 12 = .ok (.iconst 0, 1) := by decide +kernel
theorem dX8_sum_13 : decode cX8_sum 13 = .ok (.goto 4, 3) := by decide +kernel
theorem dX8_sum_16 : decode cX8_sum 16 = .ok (.iconst (-1), 1) := by decide +kernel
theorem dX8_sum_17 : decode cX8_sum 17 = .ok (.ireturn, 1) := by decide +kernel
theorem dX8_sum_18 : decode cX8_sum 18 = .ok (.aload_n 0, 1) := by decide +kernel
theorem dX8_sum_19 : decode cX8_sum 19 = .ok (.aload_n 1, 1) := by decide +kernel
theorem dX8_sum_20 : decode cX8_sum 20 = .ok (.invokevirtual 33, 3) := by decide +kernel
theorem dX8_sum_23 : decode cX8_sum 23 = .ok (.sipush 990, 3) := by decide +kernel
theorem dX8_sum_26 : decode cX8_sum 26 = .ok (.istore 4, 2) := by decide +kernel
theorem dX8_sum_28 : decode cX8_sum 28 = .ok (.iconst 0, 1) := by decide +kernel
theorem dX8_sum_29 : decode cX8_sum 29 = .ok (.istore 5, 2) := by decide +kernel
theorem dX8_sum_31 : decode cX8_sum 31 = .ok (.iconst 0, 1) := by decide +kernel
theorem dX8_sum_32 : decode cX8_sum 32 = .ok (.istore 6, 2) := by decide +kernel
theorem dX8_sum_34 : decode cX8_sum 34 = .ok (.aload_n 2, 1) := by decide +kernel
theorem dX8_sum_35 : decode cX8_sum 35 = .ok (.iconst 0, 1) := by decide +kernel
theorem dX8_sum_36 : decode cX8_sum 36 = .ok (.invokevirtual 37, 3) := by decide +kernel
theorem dX8_sum_39 : decode cX8_sum 39 = .ok (.istore 7, 2) := by decide +kernel
theorem dX8_sum_41 : decode cX8_sum 41 = .ok (.iconst 0, 1) := by decide +kernel
theorem dX8_sum_42 : decode cX8_sum 42 = .ok (.istore 8, 2) := by decide +kernel
theorem dX8_sum_44 : decode cX8_sum 44 = .ok (.iload 8, 2) := by decide +kernel
theorem dX8_sum_46 : decode cX8_sum 46 = .ok (.sipush 1024, 3) := by decide +kernel
theorem dX8_sum_49 : decode cX8_sum 49 = .ok (.if_icmp .ge 64, 3) := by decide +kernel
theorem dX8_sum_52 : decode cX8_sum 52 = .ok (.iload 7, 2) := by decide +kernel
theorem dX8_sum_54 : decode cX8_sum 54 = .ok (.ifCond .lt 59, 3) := by decide +kernel
theorem dX8_sum_57 : decode cX8_sum 57 = .ok (.iload 4, 2) := by decide +kernel
theorem dX8_sum_59 : decode cX8_sum 59 = .ok (.aload_n 0, 1) := by decide +kernel
theorem dX8_sum_60 : decode cX8_sum 60 = .ok (.getfield 9, 3) := by decide +kernel
theorem dX8_sum_63 : decode cX8_sum 63 = .ok (.iload 7, 2) := by decide +kernel
theorem dX8_sum_65 : decode cX8_sum 65 = .ok (.iaload, 1) := by decide +kernel
theorem dX8_sum_66 : decode cX8_sum 66 = .ok (.invokestatic 41, 3) := by decide +kernel
theorem dX8_sum_69 : decode cX8_sum 69 = .ok (.istore 4, 2) := by decide +kernel
theorem dX8_sum_71 : decode cX8_sum 71 = .ok (.iload 5, 2) := by decide +kernel
theorem dX8_sum_73 : decode cX8_sum 73 = .ok (.aload_n 0, 1) := by decide +kernel
theorem dX8_sum_74 : decode cX8_sum 74 = .ok (.getfield 9, 3) := by decide +kernel
theorem dX8_sum_77 : decode cX8_sum 77 = .ok (.iload 7, 2) := by decide +kernel
theorem dX8_sum_79 : decode cX8_sum 79 = .ok (.iaload, 1) := by decide +kernel
theorem dX8_sum_80 : decode cX8_sum 80 = .ok (.invokestatic 47, 3) := by decide +kernel
theorem dX8_sum_83 : decode cX8_sum 83 = .ok (.istore 5, 2) := by decide +kernel
theorem dX8_sum_85 : decode cX8_sum 85 = .ok (.iload 6, 2) := by decide +kernel
theorem dX8_sum_87 : decode cX8_sum 87 = .ok (.aload_n 0, 1) := by decide +kernel
theorem dX8_sum_88 : decode cX8_sum 88 = .ok (.getfield 9, 3) := by decide +kernel
theorem dX8_sum_91 : decode cX8_sum 91 = .ok (.iload 7, 2) := by decide +kernel
theorem dX8_sum_93 : decode cX8_sum 93 = .ok (.iaload, 1) := by decide +kernel
theorem dX8_sum_94 : decode cX8_sum 94 = .ok (.iadd, 1) := by decide +kernel
theorem dX8_sum_95 : decode cX8_sum 95 = .ok (.istore 6, 2) := by decide +kernel
theorem dX8_sum_97 : decode cX8_sum 97 = .ok (.aload_n 2, 1) := by decide +kernel
theorem dX8_sum_98 : decode cX8_sum 98 = .ok (.iload 7, 2) := by decide +kernel
theorem dX8_sum_100 : decode cX8_sum 100 = .ok (.iconst 1, 1) := by decide +kernel
theorem dX8_sum_101 : decode cX8_sum 101 = .ok (.iadd, 1) := by decide +kernel
theorem dX8_sum_102 : decode cX8_sum 102 = .ok (.invokevirtual 37, 3) := by decide +kernel
theorem dX8_sum_105 : decode cX8_sum 105 = .ok (.istore 7, 2) := by decide +kernel
theorem dX8_sum_107 : decode cX8_sum 107 = .ok (.iinc 8 1, 3) := by decide +kernel
theorem dX8_sum_110 : decode cX8_sum 110 = .ok (.goto (-66), 3) := by decide +kernel
theorem dX8_sum_113 : decode cX8_sum 113 = .ok (.iload_n 3, 1) := by decide +kernel
theorem dX8_sum_114 : decode cX8_sum 114 = .ok (.ifCond .ne 6, 3) := by decide +kernel
theorem dX8_sum_117 : decode cX8_sum 117 = .ok (.iload 4, 2) := by decide +kernel
theorem dX8_sum_119 : decode cX8_sum 119 = .ok (.ireturn, 1) := by decide +kernel
theorem dX8_sum_120 : decode cX8_sum 120 = .ok (.iload_n 3, 1) := by decide +kernel
theorem dX8_sum_121 : decode cX8_sum 121 = .ok (.iconst 1, 1) := by decide +kernel
theorem dX8_sum_122 : decode cX8_sum 122 = .ok (.if_icmp .ne 8, 3) := by decide +kernel
theorem dX8_sum_125 : decode cX8_sum 125 = .ok (.iload 5, 2) := by decide +kernel
theorem dX8_sum_127 : decode cX8_sum 127 = .ok (.goto 5, 3) := by decide +kernel
theorem dX8_sum_130 : decode cX8_sum 130 = .ok (.iload 6, 2) := by decide +kernel
theorem dX8_sum_132 : decode cX8_sum 132 = .ok (.ireturn, 1) := by decide +kernel
theorem dX8_pick_0 : decode cX8_pick 0 = .ok (.iload_n 3, 1) := by decide +kernel
theorem dX8_pick_1 : decode cX8_pick 1 = .ok (.ifCond .lt 11, 3) := by decide +kernel
theorem dX8_pick_4 : decode cX8_pick 4 = .ok (.iload_n 3, 1) := by decide +kernel
theorem dX8_pick_5 : decode cX8_pick 5 = .ok (.aload_n 2, 1) := by decide +kernel
theorem dX8_pick_6 : decode cX8_pick 6 = .ok (.invokevirtual 50, 3) := by decide +kernel
theorem dX8_pick_9 : decode cX8_pick 9 = .ok (.if_icmp .lt 5, 3) := by decide +kernel
theorem dX8_pick_12 : decode cX8_pick 12 = .ok (.iconst (-1), 1) := by decide +kernel
theorem dX8_pick_13 : decode cX8_pick 13 = .ok (.ireturn, 1) := by decide +kernel
theorem dX8_pick_14 : decode cX8_pick 14 = .ok (.aload_n 0, 1) := by decide +kernel
theorem dX8_pick_15 : decode cX8_pick 15 = .ok (.aload_n 1, 1) := by decide +kernel
theorem dX8_pick_16 : decode cX8_pick 16 = .ok (.invokevirtual 33, 3) := by decide +kernel
theorem dX8_pick_19 : decode cX8_pick 19 = .ok (.aload_n 0, 1) := by decide +kernel
theorem dX8_pick_20 : decode cX8_pick 20 = .ok (.getfield 15, 3) := by decide +kernel
theorem dX8_pick_23 : decode cX8_pick 23 = .ok (.iconst 0, 1) := by decide +kernel
theorem dX8_pick_24 : decode cX8_pick 24 = .ok (.invokestatic 54, 3) := by decide +kernel
theorem dX8_pick_27 : decode cX8_pick 27 = .ok (.aload_n 2, 1) := by decide +kernel
theorem dX8_pick_28 : decode cX8_pick 28 = .ok (.iconst 0, 1) := by decide +kernel
theorem dX8_pick_29 : decode cX8_pick 29 = .ok (.invokevirtual 37, 3) := by decide +kernel
theorem dX8_pick_32 : decode cX8_pick 32 = .ok (.istore 4, 2) := by decide +kernel
theorem dX8_pick_34 : decode cX8_pick 34 = .ok (.iconst 0, 1) := by decide +kernel
theorem dX8_pick_35 : decode cX8_pick 35 = .ok (.istore 5, 2) := by decide +kernel
theorem dX8_pick_37 : decode cX8_pick 37 = .ok (.iload 5, 2) := by decide +kernel
theorem dX8_pick_39 : decode cX8_pick 39 = .ok (.sipush 1024, 3) := by decide +kernel
theorem dX8_pick_42 : decode cX8_pick 42 = .ok (.if_icmp .ge 65, 3) := by decide +kernel
theorem dX8_pick_45 : decode cX8_pick 45 = .ok (.iload 4, 2) := by decide +kernel
theorem dX8_pick_47 : decode cX8_pick 47 = .ok (.ifCond .lt 60, 3) := by decide +kernel
theorem dX8_pick_50 : decode cX8_pick 50 = .ok (.aload_n 0, 1) := by decide +kernel
theorem dX8_pick_51 : decode cX8_pick 51 = .ok (.getfield 9, 3) := by decide +kernel
theorem dX8_pick_54 : decode cX8_pick 54 = .ok (.iload 4, 2) := by decide +kernel
theorem dX8_pick_56 : decode cX8_pick 56 = .ok (.iaload, 1) := by decide +kernel
theorem dX8_pick_57 : decode cX8_pick 57 = .ok (.ifCond .lt 34, 3) := by decide +kernel
theorem dX8_pick_60 : decode cX8_pick 60 = .ok (.aload_n 0, 1) := by decide +kernel
theorem dX8_pick_61 : decode cX8_pick 61 = .ok (.getfield 9, 3) := by decide +kernel
theorem dX8_pick_64 : decode cX8_pick 64 = .ok (.iload 4, 2) := by decide +kernel
theorem dX8_pick_66 : decode cX8_pick 66 = .ok (.iaload, 1) := by decide +kernel
theorem dX8_pick_67 : decode cX8_pick 67 = .ok (.aload_n 0, 1) := by decide +kernel
theorem dX8_pick_68 : decode cX8_pick 68 = .ok (.getfield 15, 3) := by decide +kernel
theorem dX8_pick_71 : decode cX8_pick 71 = .ok (.arraylength, 1) := by decide +kernel
theorem dX8_pick_72 : decode cX8_pick 72 = .ok (.if_icmp .ge 19, 3) := by decide +kernel
theorem dX8_pick_75 : decode cX8_pick 75 = .ok (.aload_n 0, 1) := by decide +kernel
theorem dX8_pick_76 : decode cX8_pick 76 = .ok (.getfield 15, 3) := by decide +kernel
theorem dX8_pick_79 : decode cX8_pick 79 = .ok (.aload_n 0, 1) := by decide +kernel
theorem dX8_pick_80 : decode cX8_pick 80 = .ok (.getfield 9, 3) := by decide +kernel
theorem dX8_pick_83 : decode cX8_pick 83 = .ok (.iload 4, 2) := by decide +kernel
theorem dX8_pick_85 : decode cX8_pick 85 = .ok (.iaload, 1) := by decide +kernel
theorem dX8_pick_86 : decode cX8_pick 86 = .ok (.dup2, 1) := by decide +kernel
theorem dX8_pick_87 : decode cX8_pick 87 = .ok (.iaload, 1) := by decide +kernel
theorem dX8_pick_88 : decode cX8_pick 88 = .ok (.iconst 1, 1) := by decide +kernel
theorem dX8_pick_89 : decode cX8_pick 89 = .ok (.iadd, 1) := by decide +kernel
theorem dX8_pick_90 : decode cX8_pick 90 = .ok (.iastore, 1) := by decide +kernel
theorem dX8_pick_91 : decode cX8_pick 91 = .ok (.aload_n 2, 1) := by decide +kernel
theorem dX8_pick_92 : decode cX8_pick 92 = .ok (.iload 4, 2) := by decide +kernel
theorem dX8_pick_94 : decode cX8_pick 94 = .ok (.iconst 1, 1) := by decide +kernel
theorem dX8_pick_95 : decode cX8_pick 95 = .ok (.iadd, 1) := by decide +kernel
theorem dX8_pick_96 : decode cX8_pick 96 = .ok (.invokevirtual 37, 3) := by decide +kernel
theorem dX8_pick_99 : decode cX8_pick 99 = .ok (.istore 4, 2) := by decide +kernel
theorem dX8_pick_101 : decode cX8_pick 101 = .ok (.iinc 5 1, 3) := by decide +kernel
theorem dX8_pick_104 : decode cX8_pick 104 = .ok (.goto (-67), 3) := by decide +kernel
theorem dX8_pick_107 : decode cX8_pick 107 = .ok (.iload_n 3, 1) := by decide +kernel
theorem dX8_pick_108 : decode cX8_pick 108 = .ok (.istore 5, 2) := by decide +kernel
theorem dX8_pick_110 : decode cX8_pick 110 = .ok (.iconst 0, 1) := by decide +kernel
theorem dX8_pick_111 : decode cX8_pick 111 = .ok (.istore 6, 2) := by decide +kernel
theorem dX8_pick_113 : decode cX8_pick 113 = .ok (.iload 6, 2) := by decide +kernel
theorem dX8_pick_115 : decode cX8_pick 115 = .ok (.aload_n 0, 1) := by decide +kernel
theorem dX8_pick_116 : decode cX8_pick 116 = .ok (.getfield 15, 3) := by decide +kernel
theorem dX8_pick_119 : decode cX8_pick 119 = .ok (.arraylength, 1) := by decide +kernel
theorem dX8_pick_120 : decode cX8_pick 120 = .ok (.if_icmp .ge 43, 3) := by decide +kernel
theorem dX8_pick_123 : decode cX8_pick 123 = .ok (.iload 5, 2) := by decide +kernel
theorem dX8_pick_125 : decode cX8_pick 125 = .ok (.aload_n 0, 1) := by decide +kernel
theorem dX8_pick_126 : decode cX8_pick 126 = .ok (.getfield 15, 3) := by decide +kernel
theorem dX8_pick_129 : decode cX8_pick 129 = .ok (.iload 6, 2) := by decide +kernel
theorem dX8_pick_131 : decode cX8_pick 131 = .ok (.iaload, 1) := by decide +kernel
theorem dX8_pick_132 : decode cX8_pick 132 = .ok (.if_icmp .ge 13, 3) := by decide +kernel
theorem dX8_pick_135 : decode cX8_pick 135 = .ok (.aload_n 0, 1) := by decide +kernel
theorem dX8_pick_136 : decode cX8_pick 136 = .ok (.aload_n 2, 1) := by decide +kernel
theorem dX8_pick_137 : decode cX8_pick 137 = .ok (.iload 6, 2) := by decide +kernel
theorem dX8_pick_139 : decode cX8_pick 139 = .ok (.iload 5, 2) := by decide +kernel
theorem dX8_pick_141 : decode cX8_pick 141 = .ok (.invokevirtual 60, 3) := by decide +kernel
theorem dX8_pick_144 : decode cX8_pick 144 = .ok (.ireturn, 1) := by decide +kernel
theorem dX8_pick_145 : decode cX8_pick 145 = .ok (.iload 5, 2) := by decide +kernel
theorem dX8_pick_147 : decode cX8_pick 147 = .ok (.aload_n 0, 1) := by decide +kernel
theorem dX8_pick_148 : decode cX8_pick 148 = .ok (.getfield 15, 3) := by decide +kernel
theorem dX8_pick_151 : decode cX8_pick 151 = .ok (.iload 6, 2) := by decide +kernel
theorem dX8_pick_153 : decode cX8_pick 153 = .ok (.iaload, 1) := by decide +kernel
theorem dX8_pick_154 : decode cX8_pick 154 = .ok (.isub, 1) := by decide +kernel
theorem dX8_pick_155 : decode cX8_pick 155 = .ok (.istore 5, 2) := by decide +kernel
theorem dX8_pick_157 : decode cX8_pick 157 = .ok (.iinc 6 1, 3) := by decide +kernel
theorem dX8_pick_160 : decode cX8_pick 160 = .ok (.goto (-47), 3) := by decide +kernel
theorem dX8_pick_163 : decode cX8_pick 163 = .ok (.iconst (-1), 1) := by decide +kernel
theorem dX8_pick_164 : decode cX8_pick 164 = .ok (.ireturn, 1) := by decide +kernel
theorem dX8_pickOfLoad_0 : decode cX8_pickOfLoad 0 = .ok (.iload_n 3, 1) := by decide +kernel
theorem dX8_pickOfLoad_1 : decode cX8_pickOfLoad 1 = .ok (.istore 4, 2) := by decide +kernel
theorem dX8_pickOfLoad_3 : decode cX8_pickOfLoad 3 = .ok (.aload_n 1, 1) := by decide +kernel
theorem dX8_pickOfLoad_4 : decode cX8_pickOfLoad 4 = .ok (.iconst 0, 1) := by decide +kernel
theorem dX8_pickOfLoad_5 : decode cX8_pickOfLoad 5 = .ok (.invokevirtual 37, 3) := by decide +kernel
theorem dX8_pickOfLoad_8 : decode cX8_pickOfLoad 8 = .ok (.istore 5, 2) := by decide +kernel
theorem dX8_pickOfLoad_10 : decode cX8_pickOfLoad 10 = .ok (.iconst 0, 1) := by decide +kernel
theorem dX8_pickOfLoad_11 : decode cX8_pickOfLoad 11 = .ok (.istore 6, 2) := by decide +kernel
theorem dX8_pickOfLoad_13 : decode cX8_pickOfLoad 13 = .ok (.iload 6, 2) := by decide +kernel
theorem dX8_pickOfLoad_15 : decode cX8_pickOfLoad 15 = .ok (.sipush 1024, 3) := by decide +kernel
theorem dX8_pickOfLoad_18 : decode cX8_pickOfLoad 18 = .ok (.if_icmp .ge 46, 3) := by decide +kernel
theorem dX8_pickOfLoad_21 : decode cX8_pickOfLoad 21 = .ok (.iload 5, 2) := by decide +kernel
theorem dX8_pickOfLoad_23 : decode cX8_pickOfLoad 23 = .ok (.ifCond .lt 41, 3) := by decide +kernel
theorem dX8_pickOfLoad_26 : decode cX8_pickOfLoad 26 = .ok (.aload_n 0, 1) := by decide +kernel
theorem dX8_pickOfLoad_27 : decode cX8_pickOfLoad 27 = .ok (.getfield 9, 3) := by decide +kernel
theorem dX8_pickOfLoad_30 : decode cX8_pickOfLoad 30 = .ok (.iload 5, 2) := by decide +kernel
theorem dX8_pickOfLoad_32 : decode cX8_pickOfLoad 32 = .ok (.iaload, 1) := by decide +kernel
theorem dX8_pickOfLoad_33 : decode cX8_pickOfLoad 33 = .ok (.iload_n 2, 1) := by decide +kernel
theorem dX8_pickOfLoad_34 : decode cX8_pickOfLoad 34 = .ok (.if_icmp .ne 14, 3) := by decide +kernel
theorem dX8_pickOfLoad_37 : decode cX8_pickOfLoad 37 = .ok (.iload 4, 2) := by decide +kernel
theorem dX8_pickOfLoad_39 : decode cX8_pickOfLoad 39 = .ok (.ifCond .ne 6, 3) := by decide +kernel
theorem dX8_pickOfLoad_42 : decode cX8_pickOfLoad 42 = .ok (.iload 5, 2) := by decide +kernel
theorem dX8_pickOfLoad_44 : decode cX8_pickOfLoad 44 = .ok (.ireturn, 1) := by decide +kernel
theorem dX8_pickOfLoad_45 : decode cX8_pickOfLoad 45 = .ok (.iinc 4 (-1), 3) := by decide +kernel
theorem dX8_pickOfLoad_48 : decode cX8_pickOfLoad 48 = .ok (.aload_n 1, 1) := by decide +kernel
theorem dX8_pickOfLoad_49 : decode cX8_pickOfLoad 49 = .ok (.iload 5, 2) := by decide +kernel
theorem dX8_pickOfLoad_51 : decode cX8_pickOfLoad 51 = .ok (.iconst 1, 1) := by decide +kernel
theorem dX8_pickOfLoad_52 : decode cX8_pickOfLoad 52 = .ok (.iadd, 1) := by decide +kernel
theorem dX8_pickOfLoad_53 : decode cX8_pickOfLoad 53 = .ok (.invokevirtual 37, 3) := by decide +kernel
theorem dX8_pickOfLoad_56 : decode cX8_pickOfLoad 56 = .ok (.istore 5, 2) := by decide +kernel
theorem dX8_pickOfLoad_58 : decode cX8_pickOfLoad 58 = .ok (.iinc 6 1, 3) := by decide +kernel
theorem dX8_pickOfLoad_61 : decode cX8_pickOfLoad 61 = .ok (.goto (-48), 3) := by decide +kernel
theorem dX8_pickOfLoad_64 : decode cX8_pickOfLoad 64 = .ok (.iconst (-1), 1) := by decide +kernel
theorem dX8_pickOfLoad_65 : decode cX8_pickOfLoad 65 = .ok (.ireturn, 1) := by decide +kernel
theorem dX9_init_0 : decode cX9_init 0 = .ok (.aload_n 0, 1) := by decide +kernel
theorem dX9_init_1 : decode cX9_init 1 = .ok (.invokespecial 3, 3) := by decide +kernel
theorem dX9_init_4 : decode cX9_init 4 = .ok (.aload_n 0, 1) := by decide +kernel
theorem dX9_init_5 : decode cX9_init 5 = .ok (.bipush 60, 2) := by decide +kernel
theorem dX9_init_7 : decode cX9_init 7 = .ok (.newarray .long, 2) := by decide +kernel
theorem dX9_init_9 : decode cX9_init 9 = .ok (.putfield 9, 3) := by decide +kernel
theorem dX9_init_12 : decode cX9_init 12 = .ok (.aload_n 0, 1) := by decide +kernel
theorem dX9_init_13 : decode cX9_init 13 = .ok (.iconst 0, 1) := by decide +kernel
theorem dX9_init_14 : decode cX9_init 14 = .ok (.putfield 15, 3) := by decide +kernel
theorem dX9_init_17 : decode cX9_init 17 = .ok (.aload_n 0, 1) := by decide +kernel
theorem dX9_init_18 : decode cX9_init 18 = .ok (.iconst (-1), 1) := by decide +kernel
theorem dX9_init_19 : decode cX9_init 19 = .ok (.putfield 19, 3) := by decide +kernel
theorem dX9_init_22 : decode cX9_init 22 = .ok (.return_, 1) := by decide +kernel
theorem dX9_isBare_0 : decode cX9_isBare 0 = .ok (.aload_n 0, 1) := by decide +kernel
theorem dX9_isBare_1 : decode cX9_isBare 1 = .ok (.getfield 19, 3) := by decide +kernel
theorem dX9_isBare_4 : decode cX9_isBare 4 = .ok (.ifCond .ge 7, 3) := by decide +kernel
theorem dX9_isBare_7 : decode cX9_isBare 7 = .ok (.iconst 1, 1) := by decide +kernel
theorem dX9_isBare_8 : decode cX9_isBare 8 = .ok (.goto 4, 3) := by decide +kernel
theorem dX9_isBare_11 : decode cX9_isBare 11 = .ok (.iconst 0, 1) := by decide +kernel
theorem dX9_isBare_12 : decode cX9_isBare 12 = .ok (.ireturn, 1) := by decide +kernel
theorem dX9_start_0 : decode cX9_start 0 = .ok (.aload_n 0, 1) := by decide +kernel
theorem dX9_start_1 : decode cX9_start 1 = .ok (.getfield 9, 3) := by decide +kernel
theorem dX9_start_4 : decode cX9_start 4 = .ok (.lconst 0, 1) := by decide +kernel
theorem dX9_start_5 : decode cX9_start 5 = .ok (.invokestatic 22, 3) := by decide +kernel
theorem dX9_start_8 : decode cX9_start 8 = .ok (.aload_n 0, 1) := by decide +kernel
theorem dX9_start_9 : decode cX9_start 9 = .ok (.iload_n 1, 1) := by decide +kernel
theorem dX9_start_10 : decode cX9_start 10 = .ok (.putfield 15, 3) := by decide +kernel
theorem dX9_start_13 : decode cX9_start 13 = .ok (.aload_n 0, 1) := by decide +kernel
theorem dX9_start_14 : decode cX9_start 14 = .ok (.bipush 60, 2) := by decide +kernel
theorem dX9_start_16 : decode cX9_start 16 = .ok (.iload_n 2, 1) := by decide +kernel
theorem dX9_start_17 : decode cX9_start 17 = .ok (.invokestatic 28, 3) := by decide +kernel
theorem dX9_start_20 : decode cX9_start 20 = .ok (.putfield 19, 3) := by decide +kernel
theorem dX9_start_23 : decode cX9_start 23 = .ok (.return_, 1) := by decide +kernel
theorem dX9_cut_0 : decode cX9_cut 0 = .ok (.aload_n 0, 1) := by decide +kernel
theorem dX9_cut_1 : decode cX9_cut 1 = .ok (.getfield 15, 3) := by decide +kernel
theorem dX9_cut_4 : decode cX9_cut 4 = .ok (.tableswitch 42 0 2 #[28, 33, 38], 28) := by decide +kernel
theorem dX9_cut_32 : decode cX9_cut 32 = .ok (.lload_n 1, 1) := by decide +kernel
theorem dX9_cut_33 : decode cX9_cut 33 = .ok (.l2i, 1) := by decide +kernel
theorem dX9_cut_34 : decode cX9_cut 34 = .ok (.i2b, 1) := by decide +kernel
theorem dX9_cut_35 : decode cX9_cut 35 = .ok (.i2l, 1) := by decide +kernel
theorem dX9_cut_36 : decode cX9_cut 36 = .ok (.lreturn, 1) := by decide +kernel
theorem dX9_cut_37 : decode cX9_cut 37 = .ok (.lload_n 1, 1) := by decide +kernel
theorem dX9_cut_38 : decode cX9_cut 38 = .ok (.l2i, 1) := by decide +kernel
theorem dX9_cut_39 : decode cX9_cut 39 = .ok (.i2s, 1) := by decide +kernel
theorem dX9_cut_40 : decode cX9_cut 40 = .ok (.i2l, 1) := by decide +kernel
theorem dX9_cut_41 : decode cX9_cut 41 = .ok (.lreturn, 1) := by decide +kernel
theorem dX9_cut_42 : decode cX9_cut 42 = .ok (.lload_n 1, 1) := by decide +kernel
theorem dX9_cut_43 : decode cX9_cut 43 = .ok (.l2i, 1) := by decide +kernel
theorem dX9_cut_44 : decode cX9_cut 44 = .ok (.i2l, 1) := by decide +kernel
theorem dX9_cut_45 : decode cX9_cut 45 = .ok (.lreturn, 1) := by decide +kernel
theorem dX9_cut_46 : decode cX9_cut 46 = .ok (.lload_n 1, 1) := by decide +kernel
theorem dX9_cut_47 : decode cX9_cut 47 = .ok (.lreturn, 1) := by decide +kernel
theorem dX9_spans_0 : decode cX9_spans 0 = .ok (.iload_n 1, 1) := by decide +kernel
theorem dX9_spans_1 : decode cX9_spans 1 = .ok (.ifCond .lt 25, 3) := by decide +kernel
theorem dX9_spans_4 : decode cX9_spans 4 = .ok (.iload_n 2, 1) := by decide +kernel
theorem dX9_spans_5 : decode cX9_spans 5 = .ok (.ifCond .lt 21, 3) := by decide +kernel
theorem dX9_spans_8 : decode cX9_spans 8 = .ok (.iload_n 1, 1) := by decide +kernel
theorem dX9_spans_9 : decode cX9_spans 9 = .ok (.i2l, 1) := by decide +kernel
theorem dX9_spans_10 : decode cX9_spans 10 = .ok (.iload_n 2, 1) := by decide +kernel
theorem dX9_spans_11 : decode cX9_spans 11 = .ok (.i2l, 1) := by decide +kernel
theorem dX9_spans_12 : decode cX9_spans 12 = .ok (.ladd, 1) := by decide +kernel
theorem dX9_spans_13 : decode cX9_spans 13 = .ok (.aload_n 0, 1) := by decide +kernel
theorem dX9_spans_14 : decode cX9_spans 14 = .ok (.getfield 19, 3) := by decide +kernel
theorem dX9_spans_17 : decode cX9_spans 17 = .ok (.i2l, 1) := by decide +kernel
theorem dX9_spans_18 : decode cX9_spans 18 = .ok (.lcmp, 1) := by decide +kernel
theorem dX9_spans_19 : decode cX9_spans 19 = .ok (.ifCond .gt 7, 3) := by decide +kernel
theorem dX9_spans_22 : decode cX9_spans 22 = .ok (.iconst 1, 1) := by decide +kernel
theorem dX9_spans_23 : decode cX9_spans 23 = .ok (.goto 4, 3) := by decide +kernel
theorem dX9_spans_26 : decode cX9_spans 26 = .ok (.iconst 0, 1) := by decide +kernel
theorem dX9_spans_27 : decode cX9_spans 27 = .ok (.ireturn, 1) := by decide +kernel
theorem dX10_init_0 : decode cX10_init 0 = .ok (.aload_n 0, 1) := by decide +kernel
theorem dX10_init_1 : decode cX10_init 1 = .ok (.invokespecial 3, 3) := by decide +kernel
theorem dX10_init_4 : decode cX10_init 4 = .ok (.aload_n 0, 1) := by decide +kernel
theorem dX10_init_5 : decode cX10_init 5 = .ok (.iconst 0, 1) := by decide +kernel
theorem dX10_init_6 : decode cX10_init 6 = .ok (.putfield 9, 3) := by decide +kernel
theorem dX10_init_9 : decode cX10_init 9 = .ok (.aload_n 0, 1) := by decide +kernel
theorem dX10_init_10 : decode cX10_init 10 = .ok (.iconst 0, 1) := by decide +kernel
theorem dX10_init_11 : decode cX10_init 11 = .ok (.putfield 15, 3) := by decide +kernel
theorem dX10_init_14 : decode cX10_init 14 = .ok (.aload_n 0, 1) := by decide +kernel
theorem dX10_init_15 : decode cX10_init 15 = .ok (.iconst 0, 1) := by decide +kernel
theorem dX10_init_16 : decode cX10_init 16 = .ok (.putfield 18, 3) := by decide +kernel
theorem dX10_init_19 : decode cX10_init 19 = .ok (.aload_n 0, 1) := by decide +kernel
theorem dX10_init_20 : decode cX10_init 20 = .ok (.bipush 10, 2) := by decide +kernel
theorem dX10_init_22 : decode cX10_init 22 = .ok (.newarray .int, 2) := by decide +kernel
theorem dX10_init_24 : decode cX10_init 24 = .ok (.putfield 21, 3) := by decide +kernel
theorem dX10_init_27 : decode cX10_init 27 = .ok (.aload_n 0, 1) := by decide +kernel
theorem dX10_init_28 : decode cX10_init 28 = .ok (.bipush 10, 2) := by decide +kernel
theorem dX10_init_30 : decode cX10_init 30 = .ok (.newarray .int, 2) := by decide +kernel
theorem dX10_init_32 : decode cX10_init 32 = .ok (.putfield 25, 3) := by decide +kernel
theorem dX10_init_35 : decode cX10_init 35 = .ok (.aload_n 0, 1) := by decide +kernel
theorem dX10_init_36 : decode cX10_init 36 = .ok (.bipush 10, 2) := by decide +kernel
theorem dX10_init_38 : decode cX10_init 38 = .ok (.newarray .int, 2) := by decide +kernel
theorem dX10_init_40 : decode cX10_init 40 = .ok (.putfield 28, 3) := by decide +kernel
theorem dX10_init_43 : decode cX10_init 43 = .ok (.aload_n 0, 1) := by decide +kernel
theorem dX10_init_44 : decode cX10_init 44 = .ok (.bipush 10, 2) := by decide +kernel
theorem dX10_init_46 : decode cX10_init 46 = .ok (.newarray .int, 2) := by decide +kernel
theorem dX10_init_48 : decode cX10_init 48 = .ok (.putfield 31, 3) := by decide +kernel
theorem dX10_init_51 : decode cX10_init 51 = .ok (.aload_n 0, 1) := by decide +kernel
theorem dX10_init_52 : decode cX10_init 52 = .ok (.bipush 10, 2) := by decide +kernel
theorem dX10_init_54 : decode cX10_init 54 = .ok (.anewarray 34, 3) := by decide +kernel
theorem dX10_init_57 : decode cX10_init 57 = .ok (.putfield 36, 3) := by decide +kernel
theorem dX10_init_60 : decode cX10_init 60 = .ok (.iconst 0, 1) := by decide +kernel
theorem dX10_init_61 : decode cX10_init 61 = .ok (.istore_n 1, 1) := by decide +kernel
theorem dX10_init_62 : decode cX10_init 62 = .ok (.iload_n 1, 1) := by decide +kernel
theorem dX10_init_63 : decode cX10_init 63 = .ok (.bipush 10, 2) := by decide +kernel
theorem dX10_init_65 : decode cX10_init 65 = .ok (.if_icmp .ge 22, 3) := by decide +kernel
theorem dX10_init_68 : decode cX10_init 68 = .ok (.aload_n 0, 1) := by decide +kernel
theorem dX10_init_69 : decode cX10_init 69 = .ok (.getfield 36, 3) := by decide +kernel
theorem dX10_init_72 : decode cX10_init 72 = .ok (.iload_n 1, 1) := by decide +kernel
theorem dX10_init_73 : decode cX10_init 73 = .ok (.new 34, 3) := by decide +kernel
theorem dX10_init_76 : decode cX10_init 76 = .ok (.dup, 1) := by decide +kernel
theorem dX10_init_77 : decode cX10_init 77 = .ok (.invokespecial 40, 3) := by decide +kernel
theorem dX10_init_80 : decode cX10_init 80 = .ok (.aastore, 1) := by decide +kernel
theorem dX10_init_81 : decode cX10_init 81 = .ok (.iinc 1 1, 3) := by decide +kernel
theorem dX10_init_84 : decode cX10_init 84 = .ok (.goto (-22), 3) := by decide +kernel
theorem dX10_init_87 : decode cX10_init 87 = .ok (.return_, 1) := by decide +kernel
theorem dX10_clear_0 : decode cX10_clear 0 = .ok (.aload_n 0, 1) := by decide +kernel
theorem dX10_clear_1 : decode cX10_clear 1 = .ok (.iconst 0, 1) := by decide +kernel
theorem dX10_clear_2 : decode cX10_clear 2 = .ok (.putfield 9, 3) := by decide +kernel
theorem dX10_clear_5 : decode cX10_clear 5 = .ok (.aload_n 0, 1) := by decide +kernel
theorem dX10_clear_6 : decode cX10_clear 6 = .ok (.iconst 0, 1) := by decide +kernel
theorem dX10_clear_7 : decode cX10_clear 7 = .ok (.putfield 15, 3) := by decide +kernel
theorem dX10_clear_10 : decode cX10_clear 10 = .ok (.aload_n 0, 1) := by decide +kernel
theorem dX10_clear_11 : decode cX10_clear 11 = .ok (.iconst 0, 1) := by decide +kernel
theorem dX10_clear_12 : decode cX10_clear 12 = .ok (.putfield 18, 3) := by decide +kernel
theorem dX10_clear_15 : decode cX10_clear 15 = .ok (.iconst 0, 1) := by decide +kernel
theorem dX10_clear_16 : decode cX10_clear 16 = .ok (.istore_n 1, 1) := by decide +kernel
theorem dX10_clear_17 : decode cX10_clear 17 = .ok (.iload_n 1, 1) := by decide +kernel
theorem dX10_clear_18 : decode cX10_clear 18 = .ok (.bipush 10, 2) := by decide +kernel
theorem dX10_clear_20 : decode cX10_clear 20 = .ok (.if_icmp .ge 23, 3) := by decide +kernel
theorem dX10_clear_23 : decode cX10_clear 23 = .ok (.aload_n 0, 1) := by decide +kernel
theorem dX10_clear_24 : decode cX10_clear 24 = .ok (.getfield 28, 3) := by decide +kernel
theorem dX10_clear_27 : decode cX10_clear 27 = .ok (.iload_n 1, 1) := by decide +kernel
theorem dX10_clear_28 : decode cX10_clear 28 = .ok (.iconst 1, 1) := by decide +kernel
theorem dX10_clear_29 : decode cX10_clear 29 = .ok (.iastore, 1) := by decide +kernel
theorem dX10_clear_30 : decode cX10_clear 30 = .ok (.aload_n 0, 1) := by decide +kernel
theorem dX10_clear_31 : decode cX10_clear 31 = .ok (.getfield 31, 3) := by decide +kernel
theorem dX10_clear_34 : decode cX10_clear 34 = .ok (.iload_n 1, 1) := by decide +kernel
theorem dX10_clear_35 : decode cX10_clear 35 = .ok (.iload_n 1, 1) := by decide +kernel
theorem dX10_clear_36 : decode cX10_clear 36 = .ok (.iastore, 1) := by decide +kernel
theorem dX10_clear_37 : decode cX10_clear 37 = .ok (.iinc 1 1, 3) := by decide +kernel
theorem dX10_clear_40 : decode cX10_clear 40 = .ok (.goto (-23), 3) := by decide +kernel
theorem dX10_clear_43 : decode cX10_clear 43 = .ok (.iconst 0, 1) := by decide +kernel
theorem dX10_clear_44 : decode cX10_clear 44 = .ok (.istore_n 1, 1) := by decide +kernel
theorem dX10_clear_45 : decode cX10_clear 45 = .ok (.iload_n 1, 1) := by decide +kernel
theorem dX10_clear_46 : decode cX10_clear 46 = .ok (.bipush 10, 2) := by decide +kernel
theorem dX10_clear_48 : decode cX10_clear 48 = .ok (.if_icmp .ge 18, 3) := by decide +kernel
theorem dX10_clear_51 : decode cX10_clear 51 = .ok (.aload_n 0, 1) := by decide +kernel
theorem dX10_clear_52 : decode cX10_clear 52 = .ok (.getfield 36, 3) := by decide +kernel
theorem dX10_clear_55 : decode cX10_clear 55 = .ok (.iload_n 1, 1) := by decide +kernel
theorem dX10_clear_56 : decode cX10_clear 56 = .ok (.aaload, 1) := by decide +kernel
theorem dX10_clear_57 : decode cX10_clear 57 = .ok (.invokevirtual 41, 3) := by decide +kernel
theorem dX10_clear_60 : decode cX10_clear 60 = .ok (.iinc 1 1, 3) := by decide +kernel
theorem dX10_clear_63 : decode cX10_clear 63 = .ok (.goto (-18), 3) := by decide +kernel
theorem dX10_clear_66 : decode cX10_clear 66 = .ok (.return_, 1) := by decide +kernel
theorem dX10_copyFrom_0 : decode cX10_copyFrom 0 = .ok (.aload_n 0, 1) := by decide +kernel
theorem dX10_copyFrom_1 : decode cX10_copyFrom 1 = .ok (.aload_n 1, 1) := by decide +kernel
theorem dX10_copyFrom_2 : decode cX10_copyFrom 2 = .ok (.getfield 9, 3) := by decide +kernel
theorem dX10_copyFrom_5 : decode cX10_copyFrom 5 = .ok (.putfield 9, 3) := by decide +kernel
theorem dX10_copyFrom_8 : decode cX10_copyFrom 8 = .ok (.aload_n 0, 1) := by decide +kernel
theorem dX10_copyFrom_9 : decode cX10_copyFrom 9 = .ok (.aload_n 1, 1) := by decide +kernel
theorem dX10_copyFrom_10 : decode cX10_copyFrom 10 = .ok (.getfield 15, 3) := by decide +kernel
theorem dX10_copyFrom_13 : decode cX10_copyFrom 13 = .ok (.putfield 15, 3) := by decide +kernel
theorem dX10_copyFrom_16 : decode cX10_copyFrom 16 = .ok (.aload_n 0, 1) := by decide +kernel
theorem dX10_copyFrom_17 : decode cX10_copyFrom 17 = .ok (.aload_n 1, 1) := by decide +kernel
theorem dX10_copyFrom_18 : decode cX10_copyFrom 18 = .ok (.getfield 18, 3) := by decide +kernel
theorem dX10_copyFrom_21 : decode cX10_copyFrom 21 = .ok (.putfield 18, 3) := by decide +kernel
theorem dX10_copyFrom_24 : decode cX10_copyFrom 24 = .ok (.aload_n 1, 1) := by decide +kernel
theorem dX10_copyFrom_25 : decode cX10_copyFrom 25 = .ok (.getfield 21, 3) := by decide +kernel
theorem dX10_copyFrom_28 : decode cX10_copyFrom 28 = .ok (.iconst 0, 1) := by decide +kernel
theorem dX10_copyFrom_29 : decode cX10_copyFrom 29 = .ok (.aload_n 0, 1) := by decide +kernel
theorem dX10_copyFrom_30 : decode cX10_copyFrom 30 = .ok (.getfield 21, 3) := by decide +kernel
theorem dX10_copyFrom_33 : decode cX10_copyFrom 33 = .ok (.iconst 0, 1) := by decide +kernel
theorem dX10_copyFrom_34 : decode cX10_copyFrom 34 = .ok (.bipush 10, 2) := by decide +kernel
theorem dX10_copyFrom_36 : decode cX10_copyFrom 36 = .ok (.invokestatic 44, 3) := by decide +kernel
theorem dX10_copyFrom_39 : decode cX10_copyFrom 39 = .ok (.aload_n 1, 1) := by decide +kernel
theorem dX10_copyFrom_40 : decode cX10_copyFrom 40 = .ok (.getfield 25, 3) := by decide +kernel
theorem dX10_copyFrom_43 : decode cX10_copyFrom 43 = .ok (.iconst 0, 1) := by decide +kernel
theorem dX10_copyFrom_44 : decode cX10_copyFrom 44 = .ok (.aload_n 0, 1) := by decide +kernel
theorem dX10_copyFrom_45 : decode cX10_copyFrom 45 = .ok (.getfield 25, 3) := by decide +kernel
theorem dX10_copyFrom_48 : decode cX10_copyFrom 48 = .ok (.iconst 0, 1) := by decide +kernel
theorem dX10_copyFrom_49 : decode cX10_copyFrom 49 = .ok (.bipush 10, 2) := by decide +kernel
theorem dX10_copyFrom_51 : decode cX10_copyFrom 51 = .ok (.invokestatic 44, 3) := by decide +kernel
theorem dX10_copyFrom_54 : decode cX10_copyFrom 54 = .ok (.aload_n 1, 1) := by decide +kernel
theorem dX10_copyFrom_55 : decode cX10_copyFrom 55 = .ok (.getfield 28, 3) := by decide +kernel
theorem dX10_copyFrom_58 : decode cX10_copyFrom 58 = .ok (.iconst 0, 1) := by decide +kernel
theorem dX10_copyFrom_59 : decode cX10_copyFrom 59 = .ok (.aload_n 0, 1) := by decide +kernel
theorem dX10_copyFrom_60 : decode cX10_copyFrom 60 = .ok (.getfield 28, 3) := by decide +kernel
theorem dX10_copyFrom_63 : decode cX10_copyFrom 63 = .ok (.iconst 0, 1) := by decide +kernel
theorem dX10_copyFrom_64 : decode cX10_copyFrom 64 = .ok (.bipush 10, 2) := by decide +kernel
theorem dX10_copyFrom_66 : decode cX10_copyFrom 66 = .ok (.invokestatic 44, 3) := by decide +kernel
theorem dX10_copyFrom_69 : decode cX10_copyFrom 69 = .ok (.aload_n 1, 1) := by decide +kernel
theorem dX10_copyFrom_70 : decode cX10_copyFrom 70 = .ok (.getfield 31, 3) := by decide +kernel
theorem dX10_copyFrom_73 : decode cX10_copyFrom 73 = .ok (.iconst 0, 1) := by decide +kernel
theorem dX10_copyFrom_74 : decode cX10_copyFrom 74 = .ok (.aload_n 0, 1) := by decide +kernel
theorem dX10_copyFrom_75 : decode cX10_copyFrom 75 = .ok (.getfield 31, 3) := by decide +kernel
theorem dX10_copyFrom_78 : decode cX10_copyFrom 78 = .ok (.iconst 0, 1) := by decide +kernel
theorem dX10_copyFrom_79 : decode cX10_copyFrom 79 = .ok (.bipush 10, 2) := by decide +kernel
theorem dX10_copyFrom_81 : decode cX10_copyFrom 81 = .ok (.invokestatic 44, 3) := by decide +kernel
theorem dX10_copyFrom_84 : decode cX10_copyFrom 84 = .ok (.iconst 0, 1) := by decide +kernel
theorem dX10_copyFrom_85 : decode cX10_copyFrom 85 = .ok (.istore_n 2, 1) := by decide +kernel
theorem dX10_copyFrom_86 : decode cX10_copyFrom 86 = .ok (.iload_n 2, 1) := by decide +kernel
theorem dX10_copyFrom_87 : decode cX10_copyFrom 87 = .ok (.bipush 10, 2) := by decide +kernel
theorem dX10_copyFrom_89 : decode cX10_copyFrom 89 = .ok (.if_icmp .ge 24, 3) := by decide +kernel
theorem dX10_copyFrom_92 : decode cX10_copyFrom 92 = .ok (.aload_n 0, 1) := by decide +kernel
theorem dX10_copyFrom_93 : decode cX10_copyFrom 93 = .ok (.getfield 36, 3) := by decide +kernel
theorem dX10_copyFrom_96 : decode cX10_copyFrom 96 = .ok (.iload_n 2, 1) := by decide +kernel
theorem dX10_copyFrom_97 : decode cX10_copyFrom 97 = .ok (.aaload, 1) := by decide +kernel
theorem dX10_copyFrom_98 : decode cX10_copyFrom 98 = .ok (.aload_n 1, 1) := by decide +kernel
theorem dX10_copyFrom_99 : decode cX10_copyFrom 99 = .ok (.getfield 36, 3) := by decide +kernel
theorem dX10_copyFrom_102 : decode cX10_copyFrom 102 = .ok (.iload_n 2, 1) := by decide +kernel
theorem dX10_copyFrom_103 : decode cX10_copyFrom 103 = .ok (.aaload, 1) := by decide +kernel
theorem dX10_copyFrom_104 : decode cX10_copyFrom 104 = .ok (.invokevirtual 50, 3) := by decide +kernel
theorem dX10_copyFrom_107 : decode cX10_copyFrom 107 = .ok (.iinc 2 1, 3) := by decide +kernel
theorem dX10_copyFrom_110 : decode cX10_copyFrom 110 = .ok (.goto (-24), 3) := by decide +kernel
theorem dX10_copyFrom_113 : decode cX10_copyFrom 113 = .ok (.return_, 1) := by decide +kernel
theorem dX10_addEdge_0 : decode cX10_addEdge 0 = .ok (.aload_n 0, 1) := by decide +kernel
theorem dX10_addEdge_1 : decode cX10_addEdge 1 = .ok (.getfield 18, 3) := by decide +kernel
theorem dX10_addEdge_4 : decode cX10_addEdge 4 = .ok (.ifCond .lt 42, 3) := by decide +kernel
theorem dX10_addEdge_7 : decode cX10_addEdge 7 = .ok (.aload_n 0, 1) := by decide +kernel
theorem dX10_addEdge_8 : decode cX10_addEdge 8 = .ok (.getfield 18, 3) := by decide +kernel
theorem dX10_addEdge_11 : decode cX10_addEdge 11 = .ok (.bipush 10, 2) := by decide +kernel
theorem dX10_addEdge_13 : decode cX10_addEdge 13 = .ok (.if_icmp .ge 33, 3) := by decide +kernel
theorem dX10_addEdge_16 : decode cX10_addEdge 16 = .ok (.aload_n 0, 1) := by decide +kernel
theorem dX10_addEdge_17 : decode cX10_addEdge 17 = .ok (.getfield 21, 3) := by decide +kernel
theorem dX10_addEdge_20 : decode cX10_addEdge 20 = .ok (.aload_n 0, 1) := by decide +kernel
theorem dX10_addEdge_21 : decode cX10_addEdge 21 = .ok (.getfield 18, 3) := by decide +kernel
theorem dX10_addEdge_24 : decode cX10_addEdge 24 = .ok (.iload_n 1, 1) := by decide +kernel
theorem dX10_addEdge_25 : decode cX10_addEdge 25 = .ok (.iastore, 1) := by decide +kernel
theorem dX10_addEdge_26 : decode cX10_addEdge 26 = .ok (.aload_n 0, 1) := by decide +kernel
theorem dX10_addEdge_27 : decode cX10_addEdge 27 = .ok (.getfield 25, 3) := by decide +kernel
theorem dX10_addEdge_30 : decode cX10_addEdge 30 = .ok (.aload_n 0, 1) := by decide +kernel
theorem dX10_addEdge_31 : decode cX10_addEdge 31 = .ok (.getfield 18, 3) := by decide +kernel
theorem dX10_addEdge_34 : decode cX10_addEdge 34 = .ok (.iload_n 2, 1) := by decide +kernel
theorem dX10_addEdge_35 : decode cX10_addEdge 35 = .ok (.iastore, 1) := by decide +kernel
theorem dX10_addEdge_36 : decode cX10_addEdge 36 = .ok (.aload_n 0, 1) := by decide +kernel
theorem dX10_addEdge_37 : decode cX10_addEdge 37 = .ok (.dup, 1) := by decide +kernel
theorem dX10_addEdge_38 : decode cX10_addEdge 38 = .ok (.getfield 18, 3) := by decide +kernel
theorem dX10_addEdge_41 : decode cX10_addEdge 41 = .ok (.iconst 1, 1) := by decide +kernel
theorem dX10_addEdge_42 : decode cX10_addEdge 42 = .ok (.iadd, 1) := by decide +kernel
theorem dX10_addEdge_43 : decode cX10_addEdge 43 = .ok (.putfield 18, 3) := by decide +kernel
theorem dX10_addEdge_46 : decode cX10_addEdge 46 = .ok (.return_, 1) := by decide +kernel
theorem dX10_load_0 : decode cX10_load 0 = .ok (.iconst 0, 1) := by decide +kernel
theorem dX10_load_1 : decode cX10_load 1 = .ok (.istore_n 2, 1) := by decide +kernel
theorem dX10_load_2 : decode cX10_load 2 = .ok (.iconst 0, 1) := by decide +kernel
theorem dX10_load_3 : decode cX10_load 3 = .ok (.istore_n 3, 1) := by decide +kernel
theorem dX10_load_4 : decode cX10_load 4 = .ok (.iload_n 3, 1) := by decide +kernel
theorem dX10_load_5 : decode cX10_load 5 = .ok (.aload_n 0, 1) := by decide +kernel
theorem dX10_load_6 : decode cX10_load 6 = .ok (.getfield 9, 3) := by decide +kernel
theorem dX10_load_9 : decode cX10_load 9 = .ok (.if_icmp .ge 32, 3) := by decide +kernel
theorem dX10_load_12 : decode cX10_load 12 = .ok (.iload_n 3, 1) := by decide +kernel
theorem dX10_load_13 : decode cX10_load 13 = .ok (.bipush 10, 2) := by decide +kernel
theorem dX10_load_15 : decode cX10_load 15 = .ok (.if_icmp .ge 26, 3) := by decide +kernel
theorem dX10_load_18 : decode cX10_load 18 = .ok (.iload_n 1, 1) := by decide +kernel
theorem dX10_load_19 : decode cX10_load 19 = .ok (.iload_n 3, 1) := by decide +kernel
theorem dX10_load_20 : decode cX10_load 20 = .ok (.ishr, 1) := by decide +kernel
theorem dX10_load_21 : decode cX10_load 21 = .ok (.iconst 1, 1) := by decide +kernel
theorem dX10_load_22 : decode cX10_load 22 = .ok (.iand, 1) := by decide +kernel
theorem dX10_load_23 : decode cX10_load 23 = .ok (.ifCond .eq 12, 3) := by decide +kernel
theorem dX10_load_26 : decode cX10_load 26 = .ok (.iload_n 2, 1) := by decide +kernel
theorem dX10_load_27 : decode cX10_load 27 = .ok (.aload_n 0, 1) := by decide +kernel
theorem dX10_load_28 : decode cX10_load 28 = .ok (.getfield 28, 3) := by decide +kernel
theorem dX10_load_31 : decode cX10_load 31 = .ok (.iload_n 3, 1) := by decide +kernel
theorem dX10_load_32 : decode cX10_load 32 = .ok (.iaload, 1) := by decide +kernel
theorem dX10_load_33 : decode cX10_load 33 = .ok (.iadd, 1) := by decide +kernel
theorem dX10_load_34 : decode cX10_load 34 = .ok (.istore_n 2, 1) := by decide +kernel
theorem dX10_load_35 : decode cX10_load 35 = .ok (.iinc 3 1, 3) := by decide +kernel
theorem dX10_load_38 : decode cX10_load 38 = .ok (.goto (-34), 3) := by decide +kernel
theorem dX10_load_41 : decode cX10_load 41 = .ok (.iload_n 2, 1) := by decide +kernel
theorem dX10_load_42 : decode cX10_load 42 = .ok (.ireturn, 1) := by decide +kernel
theorem dX10_moveName_0 : decode cX10_moveName 0 = .ok (.aload_n 0, 1) := by decide +kernel
theorem dX10_moveName_1 : decode cX10_moveName 1 = .ok (.iload_n 1, 1) := by decide +kernel
theorem dX10_moveName_2 : decode cX10_moveName 2 = .ok (.invokevirtual 54, 3) := by decide +kernel
theorem dX10_moveName_5 : decode cX10_moveName 5 = .ok (.istore_n 3, 1) := by decide +kernel
theorem dX10_moveName_6 : decode cX10_moveName 6 = .ok (.iload_n 3, 1) := by decide +kernel
theorem dX10_moveName_7 : decode cX10_moveName 7 = .ok (.ifCond .lt 13, 3) := by decide +kernel
theorem dX10_moveName_10 : decode cX10_moveName 10 = .ok (.iload_n 2, 1) := by decide +kernel
theorem dX10_moveName_11 : decode cX10_moveName 11 = .ok (.ifCond .lt 9, 3) := by decide +kernel
theorem dX10_moveName_14 : decode cX10_moveName 14 = .ok (.iload_n 2, 1) := by decide +kernel
theorem dX10_moveName_15 : decode cX10_moveName 15 = .ok (.bipush 10, 2) := by decide +kernel
theorem dX10_moveName_17 : decode cX10_moveName 17 = .ok (.if_icmp .lt 5, 3) := by decide +kernel
theorem dX10_moveName_20 : decode cX10_moveName 20 = .ok (.iconst (-1), 1) := by decide +kernel
theorem dX10_moveName_21 : decode cX10_moveName 21 = .ok (.ireturn, 1) := by decide +kernel
theorem dX10_moveName_22 : decode cX10_moveName 22 = .ok (.iload_n 3, 1) := by decide +kernel
theorem dX10_moveName_23 : decode cX10_moveName 23 = .ok (.iload_n 2, 1) := by decide +kernel
theorem dX10_moveName_24 : decode cX10_moveName 24 = .ok (.if_icmp .ge 7, 3) := by decide +kernel
theorem dX10_moveName_27 : decode cX10_moveName 27 = .ok (.iconst 1, 1) := by decide +kernel
theorem dX10_moveName_28 : decode cX10_moveName 28 = .ok (.goto 4, 3) := by decide +kernel
theorem dX10_moveName_31 : decode cX10_moveName 31 = .ok (.iconst (-1), 1) := by decide +kernel
theorem dX10_moveName_32 : decode cX10_moveName 32 = .ok (.istore 4, 2) := by decide +kernel
theorem dX10_moveName_34 : decode cX10_moveName 34 = .ok (.iload_n 3, 1) := by decide +kernel
theorem dX10_moveName_35 : decode cX10_moveName 35 = .ok (.istore 5, 2) := by decide +kernel
theorem dX10_moveName_37 : decode cX10_moveName 37 = .ok (.iload 5, 2) := by decide +kernel
theorem dX10_moveName_39 : decode cX10_moveName 39 = .ok (.iload_n 2, 1) := by decide +kernel
theorem dX10_moveName_40 : decode cX10_moveName 40 = .ok (.if_icmp .eq 42, 3) := by decide +kernel
theorem dX10_moveName_43 : decode cX10_moveName 43 = .ok (.iload 5, 2) := by decide +kernel
theorem dX10_moveName_45 : decode cX10_moveName 45 = .ok (.ifCond .lt 37, 3) := by decide +kernel
theorem dX10_moveName_48 : decode cX10_moveName 48 = .ok (.iload 5, 2) := by decide +kernel
theorem dX10_moveName_50 : decode cX10_moveName 50 = .ok (.bipush 10, 2) := by decide +kernel
theorem dX10_moveName_52 : decode cX10_moveName 52 = .ok (.if_icmp .ge 30, 3) := by decide +kernel
theorem dX10_moveName_55 : decode cX10_moveName 55 = .ok (.aload_n 0, 1) := by decide +kernel
theorem dX10_moveName_56 : decode cX10_moveName 56 = .ok (.getfield 31, 3) := by decide +kernel
theorem dX10_moveName_59 : decode cX10_moveName 59 = .ok (.iload 5, 2) := by decide +kernel
theorem dX10_moveName_61 : decode cX10_moveName 61 = .ok (.aload_n 0, 1) := by decide +kernel
theorem dX10_moveName_62 : decode cX10_moveName 62 = .ok (.getfield 31, 3) := by decide +kernel
theorem dX10_moveName_65 : decode cX10_moveName 65 = .ok (.iload 5, 2) := by decide +kernel
theorem dX10_moveName_67 : decode cX10_moveName 67 = .ok (.iload 4, 2) := by decide +kernel
theorem dX10_moveName_69 : decode cX10_moveName 69 = .ok (.iadd, 1) := by decide +kernel
theorem dX10_moveName_70 : decode cX10_moveName 70 = .ok (.iaload, 1) := by decide +kernel
theorem dX10_moveName_71 : decode cX10_moveName 71 = .ok (.iastore, 1) := by decide +kernel
theorem dX10_moveName_72 : decode cX10_moveName 72 = .ok (.iload 5, 2) := by decide +kernel
theorem dX10_moveName_74 : decode cX10_moveName 74 = .ok (.iload 4, 2) := by decide +kernel
theorem dX10_moveName_76 : decode cX10_moveName 76 = .ok (.iadd, 1) := by decide +kernel
theorem dX10_moveName_77 : decode cX10_moveName 77 = .ok (.istore 5, 2) := by decide +kernel
theorem dX10_moveName_79 : decode cX10_moveName 79 = .ok (.goto (-42), 3) := by decide +kernel
theorem dX10_moveName_82 : decode cX10_moveName 82 = .ok (.aload_n 0, 1) := by decide +kernel
theorem dX10_moveName_83 : decode cX10_moveName 83 = .ok (.getfield 31, 3) := by decide +kernel
theorem dX10_moveName_86 : decode cX10_moveName 86 = .ok (.iload_n 2, 1) := by decide +kernel
theorem dX10_moveName_87 : decode cX10_moveName 87 = .ok (.iload_n 1, 1) := by decide +kernel
theorem dX10_moveName_88 : decode cX10_moveName 88 = .ok (.iastore, 1) := by decide +kernel
theorem dX10_moveName_89 : decode cX10_moveName 89 = .ok (.iload_n 3, 1) := by decide +kernel
theorem dX10_moveName_90 : decode cX10_moveName 90 = .ok (.ireturn, 1) := by decide +kernel
theorem dX10_placeOf_0 : decode cX10_placeOf 0 = .ok (.iconst 0, 1) := by decide +kernel
theorem dX10_placeOf_1 : decode cX10_placeOf 1 = .ok (.istore_n 2, 1) := by decide +kernel
theorem dX10_placeOf_2 : decode cX10_placeOf 2 = .ok (.iload_n 2, 1) := by decide +kernel
theorem dX10_placeOf_3 : decode cX10_placeOf 3 = .ok (.aload_n 0, 1) := by decide +kernel
theorem dX10_placeOf_4 : decode cX10_placeOf 4 = .ok (.getfield 9, 3) := by decide +kernel
theorem dX10_placeOf_7 : decode cX10_placeOf 7 = .ok (.if_icmp .ge 27, 3) := by decide +kernel
theorem dX10_placeOf_10 : decode cX10_placeOf 10 = .ok (.iload_n 2, 1) := by decide +kernel
theorem dX10_placeOf_11 : decode cX10_placeOf 11 = .ok (.bipush 10, 2) := by decide +kernel
theorem dX10_placeOf_13 : decode cX10_placeOf 13 = .ok (.if_icmp .ge 21, 3) := by decide +kernel
theorem dX10_placeOf_16 : decode cX10_placeOf 16 = .ok (.aload_n 0, 1) := by decide +kernel
theorem dX10_placeOf_17 : decode cX10_placeOf 17 = .ok (.getfield 31, 3) := by decide +kernel
theorem dX10_placeOf_20 : decode cX10_placeOf 20 = .ok (.iload_n 2, 1) := by decide +kernel
theorem dX10_placeOf_21 : decode cX10_placeOf 21 = .ok (.iaload, 1) := by decide +kernel
theorem dX10_placeOf_22 : decode cX10_placeOf 22 = .ok (.iload_n 1, 1) := by decide +kernel
theorem dX10_placeOf_23 : decode cX10_placeOf 23 = .ok (.if_icmp .ne 5, 3) := by decide +kernel
theorem dX10_placeOf_26 : decode cX10_placeOf 26 = .ok (.iload_n 2, 1) := by decide +kernel
theorem dX10_placeOf_27 : decode cX10_placeOf 27 = .ok (.ireturn, 1) := by decide +kernel
theorem dX10_placeOf_28 : decode cX10_placeOf 28 = .ok (.iinc 2 1, 3) := by decide +kernel
theorem dX10_placeOf_31 : decode cX10_placeOf 31 = .ok (.goto (-29), 3) := by decide +kernel
theorem dX10_placeOf_34 : decode cX10_placeOf 34 = .ok (.iconst (-1), 1) := by decide +kernel
theorem dX10_placeOf_35 : decode cX10_placeOf 35 = .ok (.ireturn, 1) := by decide +kernel
theorem dX10_filledRegisters_0 : decode cX10_filledRegisters 0 = .ok (.iconst 0, 1) := by decide +kernel
theorem dX10_filledRegisters_1 : decode cX10_filledRegisters 1 = .ok (.istore_n 1, 1) := by decide +kernel
theorem dX10_filledRegisters_2 : decode cX10_filledRegisters 2 = .ok (.iconst 0, 1) := by decide +kernel
theorem dX10_filledRegisters_3 : decode cX10_filledRegisters 3 = .ok (.istore_n 2, 1) := by decide +kernel
theorem dX10_filledRegisters_4 : decode cX10_filledRegisters 4 = .ok (.iload_n 2, 1) := by decide +kernel
theorem dX10_filledRegisters_5 : decode cX10_filledRegisters 5 = .ok (.bipush 10, 2) := by decide +kernel
theorem dX10_filledRegisters_7 : decode cX10_filledRegisters 7 = .ok (.if_icmp .ge 27, 3) := by decide +kernel
theorem dX10_filledRegisters_10 : decode cX10_filledRegisters 10 = .ok (.aload_n 0, 1) := by decide +kernel
theorem dX10_filledRegisters_11 : decode cX10_filledRegisters 11 = .ok (.getfield 36, 3) := by decide +kernel
theorem dX10_filledRegisters_14 : decode cX10_filledRegisters 14 = .ok (.iload_n 2, 1) := by decide +kernel
theorem dX10_filledRegisters_15 : decode cX10_filledRegisters 15 = .ok (.aaload, 1) := by decide +kernel
theorem dX10_filledRegisters_16 : decode cX10_filledRegisters 16 = .ok (.invokevirtual 58, 3) := by decide +kernel
theorem dX10_filledRegisters_19 : decode cX10_filledRegisters 19 = .ok (.ifCond .ne 9, 3) := by decide +kernel
theorem dX10_filledRegisters_22 : decode cX10_filledRegisters 22 = .ok (.iload_n 1, 1) := by decide +kernel
theorem dX10_filledRegisters_23 : decode cX10_filledRegisters 23 = .ok (.iconst 1, 1) := by decide +kernel
theorem dX10_filledRegisters_24 : decode cX10_filledRegisters 24 = .ok (.iload_n 2, 1) := by decide +kernel
theorem dX10_filledRegisters_25 : decode cX10_filledRegisters 25 = .ok (.ishl, 1) := by decide +kernel
theorem dX10_filledRegisters_26 : decode cX10_filledRegisters 26 = .ok (.ior, 1) := by decide +kernel
theorem dX10_filledRegisters_27 : decode cX10_filledRegisters 27 = .ok (.istore_n 1, 1) := by decide +kernel
theorem dX10_filledRegisters_28 : decode cX10_filledRegisters 28 = .ok (.iinc 2 1, 3) := by decide +kernel
theorem dX10_filledRegisters_31 : decode cX10_filledRegisters 31 = .ok (.goto (-27), 3) := by decide +kernel
theorem dX10_filledRegisters_34 : decode cX10_filledRegisters 34 = .ok (.iload_n 1, 1) := by decide +kernel
theorem dX10_filledRegisters_35 : decode cX10_filledRegisters 35 = .ok (.ireturn, 1) := by decide +kernel
theorem dX10_unlikeFamilies_0 : decode cX10_unlikeFamilies 0 = .ok (.iconst 0, 1) := by decide +kernel
theorem dX10_unlikeFamilies_1 : decode cX10_unlikeFamilies 1 = .ok (.istore_n 1, 1) := by decide +kernel
theorem dX10_unlikeFamilies_2 : decode cX10_unlikeFamilies 2 = .ok (.iconst 0, 1) := by decide +kernel
theorem dX10_unlikeFamilies_3 : decode cX10_unlikeFamilies 3 = .ok (.istore_n 2, 1) := by decide +kernel
theorem dX10_unlikeFamilies_4 : decode cX10_unlikeFamilies 4 = .ok (.iload_n 2, 1) := by decide +kernel
theorem dX10_unlikeFamilies_5 : decode cX10_unlikeFamilies 5 = .ok (.bipush 10, 2) := by decide +kernel
theorem dX10_unlikeFamilies_7 : decode cX10_unlikeFamilies 7 = .ok (.if_icmp .ge 21, 3) := by decide +kernel
theorem dX10_unlikeFamilies_10 : decode cX10_unlikeFamilies 10 = .ok (.aload_n 0, 1) := by decide +kernel
theorem dX10_unlikeFamilies_11 : decode cX10_unlikeFamilies 11 = .ok (.iload_n 2, 1) := by decide +kernel
theorem dX10_unlikeFamilies_12 : decode cX10_unlikeFamilies 12 = .ok (.invokevirtual 62, 3) := by decide +kernel
theorem dX10_unlikeFamilies_15 : decode cX10_unlikeFamilies 15 = .ok (.iload_n 2, 1) := by decide +kernel
theorem dX10_unlikeFamilies_16 : decode cX10_unlikeFamilies 16 = .ok (.if_icmp .ne 6, 3) := by decide +kernel
theorem dX10_unlikeFamilies_19 : decode cX10_unlikeFamilies 19 = .ok (.iinc 1 1, 3) := by decide +kernel
theorem dX10_unlikeFamilies_22 : decode cX10_unlikeFamilies 22 = .ok (.iinc 2 1, 3) := by decide +kernel
theorem dX10_unlikeFamilies_25 : decode cX10_unlikeFamilies 25 = .ok (.goto (-21), 3) := by decide +kernel
theorem dX10_unlikeFamilies_28 : decode cX10_unlikeFamilies 28 = .ok (.iload_n 1, 1) := by decide +kernel
theorem dX10_unlikeFamilies_29 : decode cX10_unlikeFamilies 29 = .ok (.ireturn, 1) := by decide +kernel
theorem dX10_firstLike_0 : decode cX10_firstLike 0 = .ok (.iconst 0, 1) := by decide +kernel
theorem dX10_firstLike_1 : decode cX10_firstLike 1 = .ok (.istore_n 2, 1) := by decide +kernel
theorem dX10_firstLike_2 : decode cX10_firstLike 2 = .ok (.iload_n 2, 1) := by decide +kernel
theorem dX10_firstLike_3 : decode cX10_firstLike 3 = .ok (.iload_n 1, 1) := by decide +kernel
theorem dX10_firstLike_4 : decode cX10_firstLike 4 = .ok (.if_icmp .ge 41, 3) := by decide +kernel
theorem dX10_firstLike_7 : decode cX10_firstLike 7 = .ok (.iload_n 2, 1) := by decide +kernel
theorem dX10_firstLike_8 : decode cX10_firstLike 8 = .ok (.bipush 10, 2) := by decide +kernel
theorem dX10_firstLike_10 : decode cX10_firstLike 10 = .ok (.if_icmp .ge 35, 3) := by decide +kernel
theorem dX10_firstLike_13 : decode cX10_firstLike 13 = .ok (.iload_n 1, 1) := by decide +kernel
theorem dX10_firstLike_14 : decode cX10_firstLike 14 = .ok (.bipush 10, 2) := by decide +kernel
theorem dX10_firstLike_16 : decode cX10_firstLike 16 = .ok (.if_icmp .ge 23, 3) := by decide +kernel
theorem dX10_firstLike_19 : decode cX10_firstLike 19 = .ok (.aload_n 0, 1) := by decide +kernel
theorem dX10_firstLike_20 : decode cX10_firstLike 20 = .ok (.getfield 36, 3) := by decide +kernel
theorem dX10_firstLike_23 : decode cX10_firstLike 23 = .ok (.iload_n 2, 1) := by decide +kernel
theorem dX10_firstLike_24 : decode cX10_firstLike 24 = .ok (.aaload, 1) := by decide +kernel
theorem dX10_firstLike_25 : decode cX10_firstLike 25 = .ok (.aload_n 0, 1) := by decide +kernel
theorem dX10_firstLike_26 : decode cX10_firstLike 26 = .ok (.getfield 36, 3) := by decide +kernel
theorem dX10_firstLike_29 : decode cX10_firstLike 29 = .ok (.iload_n 1, 1) := by decide +kernel
theorem dX10_firstLike_30 : decode cX10_firstLike 30 = .ok (.aaload, 1) := by decide +kernel
theorem dX10_firstLike_31 : decode cX10_firstLike 31 = .ok (.invokevirtual 65, 3) := by decide +kernel
theorem dX10_firstLike_34 : decode cX10_firstLike 34 = .ok (.ifCond .eq 5, 3) := by decide +kernel
theorem dX10_firstLike_37 : decode cX10_firstLike 37 = .ok (.iload_n 2, 1) := by decide +kernel
theorem dX10_firstLike_38 : decode cX10_firstLike 38 = .ok (.ireturn, 1) := by decide +kernel
theorem dX10_firstLike_39 : decode cX10_firstLike 39 = .ok (.iinc 2 1, 3) := by decide +kernel
theorem dX10_firstLike_42 : decode cX10_firstLike 42 = .ok (.goto (-40), 3) := by decide +kernel
theorem dX10_firstLike_45 : decode cX10_firstLike 45 = .ok (.iload_n 1, 1) := by decide +kernel
theorem dX10_firstLike_46 : decode cX10_firstLike 46 = .ok (.ireturn, 1) := by decide +kernel
theorem dX11_init_0 : decode cX11_init 0 = .ok (.aload_n 0, 1) := by decide +kernel
theorem dX11_init_1 : decode cX11_init 1 = .ok (.invokespecial 1, 3) := by decide +kernel
theorem dX11_init_4 : decode cX11_init 4 = .ok (.aload_n 0, 1) := by decide +kernel
theorem dX11_init_5 : decode cX11_init 5 = .ok (.sipush 600, 3) := by decide +kernel
theorem dX11_init_8 : decode cX11_init 8 = .ok (.newarray .byte, 2) := by decide +kernel
theorem dX11_init_10 : decode cX11_init 10 = .ok (.putfield 9, 3) := by decide +kernel
theorem dX11_init_13 : decode cX11_init 13 = .ok (.aload_n 0, 1) := by decide +kernel
theorem dX11_init_14 : decode cX11_init 14 = .ok (.iconst 0, 1) := by decide +kernel
theorem dX11_init_15 : decode cX11_init 15 = .ok (.putfield 13, 3) := by decide +kernel
theorem dX11_init_18 : decode cX11_init 18 = .ok (.aload_n 0, 1) := by decide +kernel
theorem dX11_init_19 : decode cX11_init 19 = .ok (.iconst 0, 1) := by decide +kernel
theorem dX11_init_20 : decode cX11_init 20 = .ok (.putfield 17, 3) := by decide +kernel
theorem dX11_init_23 : decode cX11_init 23 = .ok (.aload_n 0, 1) := by decide +kernel
theorem dX11_init_24 : decode cX11_init 24 = .ok (.iconst (-1), 1) := by decide +kernel
theorem dX11_init_25 : decode cX11_init 25 = .ok (.putfield 20, 3) := by decide +kernel
theorem dX11_init_28 : decode cX11_init 28 = .ok (.aload_n 0, 1) := by decide +kernel
theorem dX11_init_29 : decode cX11_init 29 = .ok (.new 23, 3) := by decide +kernel
theorem dX11_init_32 : decode cX11_init 32 = .ok (.dup, 1) := by decide +kernel
theorem dX11_init_33 : decode cX11_init 33 = .ok (.invokespecial 25, 3) := by decide +kernel
theorem dX11_init_36 : decode cX11_init 36 = .ok (.putfield 26, 3) := by decide +kernel
theorem dX11_init_39 : decode cX11_init 39 = .ok (.aload_n 0, 1) := by decide +kernel
theorem dX11_init_40 : decode cX11_init 40 = .ok (.new 23, 3) := by decide +kernel
theorem dX11_init_43 : decode cX11_init 43 = .ok (.dup, 1) := by decide +kernel
theorem dX11_init_44 : decode cX11_init 44 = .ok (.invokespecial 25, 3) := by decide +kernel
theorem dX11_init_47 : decode cX11_init 47 = .ok (.putfield 30, 3) := by decide +kernel
theorem dX11_init_50 : decode cX11_init 50 = .ok (.aload_n 0, 1) := by decide +kernel
theorem dX11_init_51 : decode cX11_init 51 = .ok (.iconst 3, 1) := by decide +kernel
theorem dX11_init_52 : decode cX11_init 52 = .ok (.anewarray 23, 3) := by decide +kernel
theorem dX11_init_55 : decode cX11_init 55 = .ok (.putfield 33, 3) := by decide +kernel
theorem dX11_init_58 : decode cX11_init 58 = .ok (.aload_n 0, 1) := by decide +kernel
theorem dX11_init_59 : decode cX11_init 59 = .ok (.iconst 3, 1) := by decide +kernel
theorem dX11_init_60 : decode cX11_init 60 = .ok (.newarray .boolean, 2) := by decide +kernel
theorem dX11_init_62 : decode cX11_init 62 = .ok (.putfield 37, 3) := by decide +kernel
theorem dX11_init_65 : decode cX11_init 65 = .ok (.aload_n 0, 1) := by decide +kernel
theorem dX11_init_66 : decode cX11_init 66 = .ok (.iconst 4, 1) := by decide +kernel
theorem dX11_init_67 : decode cX11_init 67 = .ok (.anewarray 41, 3) := by decide +kernel
theorem dX11_init_70 : decode cX11_init 70 = .ok (.putfield 43, 3) := by decide +kernel
theorem dX11_init_73 : decode cX11_init 73 = .ok (.aload_n 0, 1) := by decide +kernel
theorem dX11_init_74 : decode cX11_init 74 = .ok (.new 47, 3) := by decide +kernel
theorem dX11_init_77 : decode cX11_init 77 = .ok (.dup, 1) := by decide +kernel
theorem dX11_init_78 : decode cX11_init 78 = .ok (.invokespecial 49, 3) := by decide +kernel
theorem dX11_init_81 : decode cX11_init 81 = .ok (.putfield 50, 3) := by decide +kernel
theorem dX11_init_84 : decode cX11_init 84 = .ok (.aload_n 0, 1) := by decide +kernel
theorem dX11_init_85 : decode cX11_init 85 = .ok (.new 54, 3) := by decide +kernel
theorem dX11_init_88 : decode cX11_init 88 = .ok (.dup, 1) := by decide +kernel
theorem dX11_init_89 : decode cX11_init 89 = .ok (.invokespecial 56, 3) := by decide +kernel
theorem dX11_init_92 : decode cX11_init 92 = .ok (.putfield 57, 3) := by decide +kernel
theorem dX11_init_95 : decode cX11_init 95 = .ok (.aload_n 0, 1) := by decide +kernel
theorem dX11_init_96 : decode cX11_init 96 = .ok (.new 61, 3) := by decide +kernel
theorem dX11_init_99 : decode cX11_init 99 = .ok (.dup, 1) := by decide +kernel
theorem dX11_init_100 : decode cX11_init 100 = .ok (.invokespecial 63, 3) := by decide +kernel
theorem dX11_init_103 : decode cX11_init 103 = .ok (.putfield 64, 3) := by decide +kernel
theorem dX11_init_106 : decode cX11_init 106 = .ok (.aload_n 0, 1) := by decide +kernel
theorem dX11_init_107 : decode cX11_init 107 = .ok (.new 68, 3) := by decide +kernel
theorem dX11_init_110 : decode cX11_init 110 = .ok (.dup, 1) := by decide +kernel
theorem dX11_init_111 : decode cX11_init 111 = .ok (.invokespecial 70, 3) := by decide +kernel
theorem dX11_init_114 : decode cX11_init 114 = .ok (.putfield 71, 3) := by decide +kernel
theorem dX11_init_117 : decode cX11_init 117 = .ok (.aload_n 0, 1) := by decide +kernel
theorem dX11_init_118 : decode cX11_init 118 = .ok (.new 75, 3) := by decide +kernel
theorem dX11_init_121 : decode cX11_init 121 = .ok (.dup, 1) := by decide +kernel
theorem dX11_init_122 : decode cX11_init 122 = .ok (.invokespecial 77, 3) := by decide +kernel
theorem dX11_init_125 : decode cX11_init 125 = .ok (.putfield 78, 3) := by decide +kernel
theorem dX11_init_128 : decode cX11_init 128 = .ok (.aload_n 0, 1) := by decide +kernel
theorem dX11_init_129 : decode cX11_init 129 = .ok (.new 82, 3) := by decide +kernel
theorem dX11_init_132 : decode cX11_init 132 = .ok (.dup, 1) := by decide +kernel
theorem dX11_init_133 : decode cX11_init 133 = .ok (.invokespecial 84, 3) := by decide +kernel
theorem dX11_init_136 : decode cX11_init 136 = .ok (.putfield 85, 3) := by decide +kernel
theorem dX11_init_139 : decode cX11_init 139 = .ok (.aload_n 0, 1) := by decide +kernel
theorem dX11_init_140 : decode cX11_init 140 = .ok (.new 89, 3) := by decide +kernel
theorem dX11_init_143 : decode cX11_init 143 = .ok (.dup, 1) := by decide +kernel
theorem dX11_init_144 : decode cX11_init 144 = .ok (.invokespecial 91, 3) := by decide +kernel
theorem dX11_init_147 : decode cX11_init 147 = .ok (.putfield 92, 3) := by decide +kernel
theorem dX11_init_150 : decode cX11_init 150 = .ok (.aload_n 0, 1) := by decide +kernel
theorem dX11_init_151 : decode cX11_init 151 = .ok (.new 96, 3) := by decide +kernel
theorem dX11_init_154 : decode cX11_init 154 = .ok (.dup, 1) := by decide +kernel
theorem dX11_init_155 : decode cX11_init 155 = .ok (.invokespecial 98, 3) := by decide +kernel
theorem dX11_init_158 : decode cX11_init 158 = .ok (.putfield 99, 3) := by decide +kernel
theorem dX11_init_161 : decode cX11_init 161 = .ok (.aload_n 0, 1) := by decide +kernel
theorem dX11_init_162 : decode cX11_init 162 = .ok (.new 103, 3) := by decide +kernel
theorem dX11_init_165 : decode cX11_init 165 = .ok (.dup, 1) := by decide +kernel
theorem dX11_init_166 : decode cX11_init 166 = .ok (.invokespecial 105, 3) := by decide +kernel
theorem dX11_init_169 : decode cX11_init 169 = .ok (.putfield 106, 3) := by decide +kernel
theorem dX11_init_172 : decode cX11_init 172 = .ok (.aload_n 0, 1) := by decide +kernel
theorem dX11_init_173 : decode cX11_init 173 = .ok (.new 103, 3) := by decide +kernel
theorem dX11_init_176 : decode cX11_init 176 = .ok (.dup, 1) := by decide +kernel
theorem dX11_init_177 : decode cX11_init 177 = .ok (.invokespecial 105, 3) := by decide +kernel
theorem dX11_init_180 : decode cX11_init 180 = .ok (.putfield 110, 3) := by decide +kernel
theorem dX11_init_183 : decode cX11_init 183 = .ok (.iconst 0, 1) := by decide +kernel
theorem dX11_init_184 : decode cX11_init 184 = .ok (.istore_n 1, 1) := by decide +kernel
theorem dX11_init_185 : decode cX11_init 185 = .ok (.iload_n 1, 1) := by decide +kernel
theorem dX11_init_186 : decode cX11_init 186 = .ok (.iconst 3, 1) := by decide +kernel
theorem dX11_init_187 : decode cX11_init 187 = .ok (.if_icmp .ge 22, 3) := by decide +kernel
theorem dX11_init_190 : decode cX11_init 190 = .ok (.aload_n 0, 1) := by decide +kernel
theorem dX11_init_191 : decode cX11_init 191 = .ok (.getfield 33, 3) := by decide +kernel
theorem dX11_init_194 : decode cX11_init 194 = .ok (.iload_n 1, 1) := by decide +kernel
theorem dX11_init_195 : decode cX11_init 195 = .ok (.new 23, 3) := by decide +kernel
theorem dX11_init_198 : decode cX11_init 198 = .ok (.dup, 1) := by decide +kernel
theorem dX11_init_199 : decode cX11_init 199 = .ok (.invokespecial 25, 3) := by decide +kernel
theorem dX11_init_202 : decode cX11_init 202 = .ok (.aastore, 1) := by decide +kernel
theorem dX11_init_203 : decode cX11_init 203 = .ok (.iinc 1 1, 3) := by decide +kernel
theorem dX11_init_206 : decode cX11_init 206 = .ok (.goto (-21), 3) := by decide +kernel
theorem dX11_init_209 : decode cX11_init 209 = .ok (.iconst 0, 1) := by decide +kernel
theorem dX11_init_210 : decode cX11_init 210 = .ok (.istore_n 1, 1) := by decide +kernel
theorem dX11_init_211 : decode cX11_init 211 = .ok (.iload_n 1, 1) := by decide +kernel
theorem dX11_init_212 : decode cX11_init 212 = .ok (.iconst 4, 1) := by decide +kernel
theorem dX11_init_213 : decode cX11_init 213 = .ok (.if_icmp .ge 22, 3) := by decide +kernel
theorem dX11_init_216 : decode cX11_init 216 = .ok (.aload_n 0, 1) := by decide +kernel
theorem dX11_init_217 : decode cX11_init 217 = .ok (.getfield 43, 3) := by decide +kernel
theorem dX11_init_220 : decode cX11_init 220 = .ok (.iload_n 1, 1) := by decide +kernel
theorem dX11_init_221 : decode cX11_init 221 = .ok (.new 41, 3) := by decide +kernel
theorem dX11_init_224 : decode cX11_init 224 = .ok (.dup, 1) := by decide +kernel
theorem dX11_init_225 : decode cX11_init 225 = .ok (.invokespecial 113, 3) := by decide +kernel
theorem dX11_init_228 : decode cX11_init 228 = .ok (.aastore, 1) := by decide +kernel
theorem dX11_init_229 : decode cX11_init 229 = .ok (.iinc 1 1, 3) := by decide +kernel
theorem dX11_init_232 : decode cX11_init 232 = .ok (.goto (-21), 3) := by decide +kernel
theorem dX11_init_235 : decode cX11_init 235 = .ok (.return_, 1) := by decide +kernel
theorem dX11_feed_0 : decode cX11_feed 0 = .ok (.aload_n 0, 1) := by decide +kernel
theorem dX11_feed_1 : decode cX11_feed 1 = .ok (.getfield 13, 3) := by decide +kernel
theorem dX11_feed_4 : decode cX11_feed 4 = .ok (.ifCond .lt 16, 3) := by decide +kernel
theorem dX11_feed_7 : decode cX11_feed 7 = .ok (.aload_n 0, 1) := by decide +kernel
theorem dX11_feed_8 : decode cX11_feed 8 = .ok (.getfield 13, 3) := by decide +kernel
theorem dX11_feed_11 : decode cX11_feed 11 = .ok (.bipush 20, 2) := by decide +kernel
theorem dX11_feed_13 : decode cX11_feed 13 = .ok (.iadd, 1) := by decide +kernel
theorem dX11_feed_14 : decode cX11_feed 14 = .ok (.sipush 600, 3) := by decide +kernel
theorem dX11_feed_17 : decode cX11_feed 17 = .ok (.if_icmp .le 5, 3) := by decide +kernel
theorem dX11_feed_20 : decode cX11_feed 20 = .ok (.iconst (-1), 1) := by decide +kernel
theorem dX11_feed_21 : decode cX11_feed 21 = .ok (.ireturn, 1) := by decide +kernel
theorem dX11_feed_22 : decode cX11_feed 22 = .ok (.aload_n 0, 1) := by decide +kernel
theorem dX11_feed_23 : decode cX11_feed 23 = .ok (.iload_n 1, 1) := by decide +kernel
theorem dX11_feed_24 : decode cX11_feed 24 = .ok (.aload_n 0, 1) := by decide +kernel
theorem dX11_feed_25 : decode cX11_feed 25 = .ok (.getfield 13, 3) := by decide +kernel
theorem dX11_feed_28 : decode cX11_feed 28 = .ok (.invokevirtual 114, 3) := by decide +kernel
theorem dX11_feed_31 : decode cX11_feed 31 = .ok (.aload_n 0, 1) := by decide +kernel
theorem dX11_feed_32 : decode cX11_feed 32 = .ok (.iload_n 2, 1) := by decide +kernel
theorem dX11_feed_33 : decode cX11_feed 33 = .ok (.aload_n 0, 1) := by decide +kernel
theorem dX11_feed_34 : decode cX11_feed 34 = .ok (.getfield 13, 3) := by decide +kernel
theorem dX11_feed_37 : decode cX11_feed 37 = .ok (.iconst 4, 1) := by decide +kernel
theorem dX11_feed_38 : decode cX11_feed 38 = .ok (.iadd, 1) := by decide +kernel
theorem dX11_feed_39 : decode cX11_feed 39 = .ok (.invokevirtual 114, 3) := by decide +kernel
theorem dX11_feed_42 : decode cX11_feed 42 = .ok (.aload_n 0, 1) := by decide +kernel
theorem dX11_feed_43 : decode cX11_feed 43 = .ok (.iload_n 3, 1) := by decide +kernel
theorem dX11_feed_44 : decode cX11_feed 44 = .ok (.aload_n 0, 1) := by decide +kernel
theorem dX11_feed_45 : decode cX11_feed 45 = .ok (.getfield 13, 3) := by decide +kernel
theorem dX11_feed_48 : decode cX11_feed 48 = .ok (.bipush 8, 2) := by decide +kernel
theorem dX11_feed_50 : decode cX11_feed 50 = .ok (.iadd, 1) := by decide +kernel
theorem dX11_feed_51 : decode cX11_feed 51 = .ok (.invokevirtual 114, 3) := by decide +kernel
theorem dX11_feed_54 : decode cX11_feed 54 = .ok (.aload_n 0, 1) := by decide +kernel
theorem dX11_feed_55 : decode cX11_feed 55 = .ok (.iload 4, 2) := by decide +kernel
theorem dX11_feed_57 : decode cX11_feed 57 = .ok (.aload_n 0, 1) := by decide +kernel
theorem dX11_feed_58 : decode cX11_feed 58 = .ok (.getfield 13, 3) := by decide +kernel
theorem dX11_feed_61 : decode cX11_feed 61 = .ok (.bipush 12, 2) := by decide +kernel
theorem dX11_feed_63 : decode cX11_feed 63 = .ok (.iadd, 1) := by decide +kernel
theorem dX11_feed_64 : decode cX11_feed 64 = .ok (.invokevirtual 114, 3) := by decide +kernel
theorem dX11_feed_67 : decode cX11_feed 67 = .ok (.aload_n 0, 1) := by decide +kernel
theorem dX11_feed_68 : decode cX11_feed 68 = .ok (.iload 5, 2) := by decide +kernel
theorem dX11_feed_70 : decode cX11_feed 70 = .ok (.aload_n 0, 1) := by decide +kernel
theorem dX11_feed_71 : decode cX11_feed 71 = .ok (.getfield 13, 3) := by decide +kernel
theorem dX11_feed_74 : decode cX11_feed 74 = .ok (.bipush 16, 2) := by decide +kernel
theorem dX11_feed_76 : decode cX11_feed 76 = .ok (.iadd, 1) := by decide +kernel
theorem dX11_feed_77 : decode cX11_feed 77 = .ok (.invokevirtual 114, 3) := by decide +kernel
theorem dX11_feed_80 : decode cX11_feed 80 = .ok (.aload_n 0, 1) := by decide +kernel
theorem dX11_feed_81 : decode cX11_feed 81 = .ok (.dup, 1) := by decide +kernel
theorem dX11_feed_82 : decode cX11_feed 82 = .ok (.getfield 13, 3) := by decide +kernel
theorem dX11_feed_85 : decode cX11_feed 85 = .ok (.bipush 20, 2) := by decide +kernel
theorem dX11_feed_87 : decode cX11_feed 87 = .ok (.iadd, 1) := by decide +kernel
theorem dX11_feed_88 : decode cX11_feed 88 = .ok (.putfield 13, 3) := by decide +kernel
theorem dX11_feed_91 : decode cX11_feed 91 = .ok (.aload_n 0, 1) := by decide +kernel
theorem dX11_feed_92 : decode cX11_feed 92 = .ok (.getfield 13, 3) := by decide +kernel
theorem dX11_feed_95 : decode cX11_feed 95 = .ok (.ireturn, 1) := by decide +kernel
theorem dX11_end_0 : decode cX11_end 0 = .ok (.iload_n 1, 1) := by decide +kernel
theorem dX11_end_1 : decode cX11_end 1 = .ok (.ifCond .lt 11, 3) := by decide +kernel
theorem dX11_end_4 : decode cX11_end 4 = .ok (.iload_n 1, 1) := by decide +kernel
theorem dX11_end_5 : decode cX11_end 5 = .ok (.aload_n 0, 1) := by decide +kernel
theorem dX11_end_6 : decode cX11_end 6 = .ok (.getfield 13, 3) := by decide +kernel
theorem dX11_end_9 : decode cX11_end 9 = .ok (.if_icmp .le 5, 3) := by decide +kernel
theorem dX11_end_12 : decode cX11_end 12 = .ok (.iconst (-1), 1) := by decide +kernel
theorem dX11_end_13 : decode cX11_end 13 = .ok (.ireturn, 1) := by decide +kernel
theorem dX11_end_14 : decode cX11_end 14 = .ok (.aload_n 0, 1) := by decide +kernel
theorem dX11_end_15 : decode cX11_end 15 = .ok (.iload_n 1, 1) := by decide +kernel
theorem dX11_end_16 : decode cX11_end 16 = .ok (.putfield 13, 3) := by decide +kernel
theorem dX11_end_19 : decode cX11_end 19 = .ok (.iload_n 1, 1) := by decide +kernel
theorem dX11_end_20 : decode cX11_end 20 = .ok (.ireturn, 1) := by decide +kernel
theorem dX11_world_0 : decode cX11_world 0 = .ok (.aload_n 0, 1) := by decide +kernel
theorem dX11_world_1 : decode cX11_world 1 = .ok (.getfield 30, 3) := by decide +kernel
theorem dX11_world_4 : decode cX11_world 4 = .ok (.invokevirtual 118, 3) := by decide +kernel
theorem dX11_world_7 : decode cX11_world 7 = .ok (.aload_n 0, 1) := by decide +kernel
theorem dX11_world_8 : decode cX11_world 8 = .ok (.getfield 50, 3) := by decide +kernel
theorem dX11_world_11 : decode cX11_world 11 = .ok (.aload_n 0, 1) := by decide +kernel
theorem dX11_world_12 : decode cX11_world 12 = .ok (.getfield 9, 3) := by decide +kernel
theorem dX11_world_15 : decode cX11_world 15 = .ok (.aload_n 0, 1) := by decide +kernel
theorem dX11_world_16 : decode cX11_world 16 = .ok (.getfield 13, 3) := by decide +kernel
theorem dX11_world_19 : decode cX11_world 19 = .ok (.aload_n 0, 1) := by decide +kernel
theorem dX11_world_20 : decode cX11_world 20 = .ok (.getfield 30, 3) := by decide +kernel
theorem dX11_world_23 : decode cX11_world 23 = .ok (.invokevirtual 121, 3) := by decide +kernel
theorem dX11_world_26 : decode cX11_world 26 = .ok (.istore_n 1, 1) := by decide +kernel
theorem dX11_world_27 : decode cX11_world 27 = .ok (.aload_n 0, 1) := by decide +kernel
theorem dX11_world_28 : decode cX11_world 28 = .ok (.invokevirtual 125, 3) := by decide +kernel
theorem dX11_world_31 : decode cX11_world 31 = .ok (.iload_n 1, 1) := by decide +kernel
theorem dX11_world_32 : decode cX11_world 32 = .ok (.ifCond .ne 6, 3) := by decide +kernel
theorem dX11_world_35 : decode cX11_world 35 = .ok (.bipush (-4), 2) := by decide +kernel
theorem dX11_world_37 : decode cX11_world 37 = .ok (.ireturn, 1) := by decide +kernel
theorem dX11_world_38 : decode cX11_world 38 = .ok (.aload_n 0, 1) := by decide +kernel
theorem dX11_world_39 : decode cX11_world 39 = .ok (.getfield 57, 3) := by decide +kernel
theorem dX11_world_42 : decode cX11_world 42 = .ok (.aload_n 0, 1) := by decide +kernel
theorem dX11_world_43 : decode cX11_world 43 = .ok (.getfield 50, 3) := by decide +kernel
theorem dX11_world_46 : decode cX11_world 46 = .ok (.aload_n 0, 1) := by decide +kernel
theorem dX11_world_47 : decode cX11_world 47 = .ok (.getfield 30, 3) := by decide +kernel
theorem dX11_world_50 : decode cX11_world 50 = .ok (.aload_n 0, 1) := by decide +kernel
theorem dX11_world_51 : decode cX11_world 51 = .ok (.getfield 64, 3) := by decide +kernel
theorem dX11_world_54 : decode cX11_world 54 = .ok (.invokevirtual 128, 3) := by decide +kernel
theorem dX11_world_57 : decode cX11_world 57 = .ok (.aload_n 0, 1) := by decide +kernel
theorem dX11_world_58 : decode cX11_world 58 = .ok (.getfield 26, 3) := by decide +kernel
theorem dX11_world_61 : decode cX11_world 61 = .ok (.astore_n 2, 1) := by decide +kernel
theorem dX11_world_62 : decode cX11_world 62 = .ok (.aload_n 0, 1) := by decide +kernel
theorem dX11_world_63 : decode cX11_world 63 = .ok (.aload_n 0, 1) := by decide +kernel
theorem dX11_world_64 : decode cX11_world 64 = .ok (.getfield 30, 3) := by decide +kernel
theorem dX11_world_67 : decode cX11_world 67 = .ok (.putfield 26, 3) := by decide +kernel
theorem dX11_world_70 : decode cX11_world 70 = .ok (.aload_n 0, 1) := by decide +kernel
theorem dX11_world_71 : decode cX11_world 71 = .ok (.aload_n 2, 1) := by decide +kernel
theorem dX11_world_72 : decode cX11_world 72 = .ok (.putfield 30, 3) := by decide +kernel
theorem dX11_world_75 : decode cX11_world 75 = .ok (.aload_n 0, 1) := by decide +kernel
theorem dX11_world_76 : decode cX11_world 76 = .ok (.getfield 26, 3) := by decide +kernel
theorem dX11_world_79 : decode cX11_world 79 = .ok (.getfield 132, 3) := by decide +kernel
theorem dX11_world_82 : decode cX11_world 82 = .ok (.ireturn, 1) := by decide +kernel
theorem dX11_put_0 : decode cX11_put 0 = .ok (.aload_n 0, 1) := by decide +kernel
theorem dX11_put_1 : decode cX11_put 1 = .ok (.iload_n 1, 1) := by decide +kernel
theorem dX11_put_2 : decode cX11_put 2 = .ok (.invokevirtual 135, 3) := by decide +kernel
theorem dX11_put_5 : decode cX11_put 5 = .ok (.ifCond .ne 11, 3) := by decide +kernel
theorem dX11_put_8 : decode cX11_put 8 = .ok (.aload_n 0, 1) := by decide +kernel
theorem dX11_put_9 : decode cX11_put 9 = .ok (.iconst 0, 1) := by decide +kernel
theorem dX11_put_10 : decode cX11_put 10 = .ok (.putfield 13, 3) := by decide +kernel
theorem dX11_put_13 : decode cX11_put 13 = .ok (.bipush (-2), 2) := by decide +kernel
theorem dX11_put_15 : decode cX11_put 15 = .ok (.ireturn, 1) := by decide +kernel
theorem dX11_put_16 : decode cX11_put 16 = .ok (.aload_n 0, 1) := by decide +kernel
theorem dX11_put_17 : decode cX11_put 17 = .ok (.getfield 50, 3) := by decide +kernel
theorem dX11_put_20 : decode cX11_put 20 = .ok (.aload_n 0, 1) := by decide +kernel
theorem dX11_put_21 : decode cX11_put 21 = .ok (.getfield 9, 3) := by decide +kernel
theorem dX11_put_24 : decode cX11_put 24 = .ok (.aload_n 0, 1) := by decide +kernel
theorem dX11_put_25 : decode cX11_put 25 = .ok (.getfield 13, 3) := by decide +kernel
theorem dX11_put_28 : decode cX11_put 28 = .ok (.aload_n 0, 1) := by decide +kernel
theorem dX11_put_29 : decode cX11_put 29 = .ok (.getfield 26, 3) := by decide +kernel
theorem dX11_put_32 : decode cX11_put 32 = .ok (.getfield 139, 3) := by decide +kernel
theorem dX11_put_35 : decode cX11_put 35 = .ok (.iload_n 1, 1) := by decide +kernel
theorem dX11_put_36 : decode cX11_put 36 = .ok (.invokevirtual 142, 3) := by decide +kernel
theorem dX11_put_39 : decode cX11_put 39 = .ok (.istore_n 2, 1) := by decide +kernel
theorem dX11_put_40 : decode cX11_put 40 = .ok (.aload_n 0, 1) := by decide +kernel
theorem dX11_put_41 : decode cX11_put 41 = .ok (.invokevirtual 125, 3) := by decide +kernel
theorem dX11_put_44 : decode cX11_put 44 = .ok (.iload_n 2, 1) := by decide +kernel
theorem dX11_put_45 : decode cX11_put 45 = .ok (.ifCond .ne 6, 3) := by decide +kernel
theorem dX11_put_48 : decode cX11_put 48 = .ok (.bipush (-4), 2) := by decide +kernel
theorem dX11_put_50 : decode cX11_put 50 = .ok (.ireturn, 1) := by decide +kernel
theorem dX11_put_51 : decode cX11_put 51 = .ok (.aload_n 0, 1) := by decide +kernel
theorem dX11_put_52 : decode cX11_put 52 = .ok (.getfield 57, 3) := by decide +kernel
theorem dX11_put_55 : decode cX11_put 55 = .ok (.aload_n 0, 1) := by decide +kernel
theorem dX11_put_56 : decode cX11_put 56 = .ok (.getfield 50, 3) := by decide +kernel
theorem dX11_put_59 : decode cX11_put 59 = .ok (.aload_n 0, 1) := by decide +kernel
theorem dX11_put_60 : decode cX11_put 60 = .ok (.getfield 26, 3) := by decide +kernel
theorem dX11_put_63 : decode cX11_put 63 = .ok (.aload_n 0, 1) := by decide +kernel
theorem dX11_put_64 : decode cX11_put 64 = .ok (.getfield 64, 3) := by decide +kernel
theorem dX11_put_67 : decode cX11_put 67 = .ok (.invokevirtual 128, 3) := by decide +kernel
theorem dX11_put_70 : decode cX11_put 70 = .ok (.aload_n 0, 1) := by decide +kernel
theorem dX11_put_71 : decode cX11_put 71 = .ok (.getfield 26, 3) := by decide +kernel
theorem dX11_put_74 : decode cX11_put 74 = .ok (.getfield 146, 3) := by decide +kernel
theorem dX11_put_77 : decode cX11_put 77 = .ok (.iload_n 1, 1) := by decide +kernel
theorem dX11_put_78 : decode cX11_put 78 = .ok (.aaload, 1) := by decide +kernel
theorem dX11_put_79 : decode cX11_put 79 = .ok (.invokevirtual 150, 3) := by decide +kernel
theorem dX11_put_82 : decode cX11_put 82 = .ok (.ireturn, 1) := by decide +kernel
theorem dX11_fault_0 : decode cX11_fault 0 = .ok (.iload_n 1, 1) := by decide +kernel
theorem dX11_fault_1 : decode cX11_fault 1 = .ok (.ifCond .ne 8, 3) := by decide +kernel
theorem dX11_fault_4 : decode cX11_fault 4 = .ok (.aload_n 0, 1) := by decide +kernel
theorem dX11_fault_5 : decode cX11_fault 5 = .ok (.getfield 17, 3) := by decide +kernel
theorem dX11_fault_8 : decode cX11_fault 8 = .ok (.ireturn, 1) := by decide +kernel
theorem dX11_fault_9 : decode cX11_fault 9 = .ok (.iload_n 1, 1) := by decide +kernel
theorem dX11_fault_10 : decode cX11_fault 10 = .ok (.iconst 1, 1) := by decide +kernel
theorem dX11_fault_11 : decode cX11_fault 11 = .ok (.if_icmp .ne 10, 3) := by decide +kernel
theorem dX11_fault_14 : decode cX11_fault 14 = .ok (.aload_n 0, 1) := by decide +kernel
theorem dX11_fault_15 : decode cX11_fault 15 = .ok (.getfield 20, 3) := by decide +kernel
theorem dX11_fault_18 : decode cX11_fault 18 = .ok (.goto 4, 3) := by decide +kernel
theorem dX11_fault_21 : decode cX11_fault 21 = .ok (.iconst (-1), 1) := by decide +kernel
theorem dX11_fault_22 : decode cX11_fault 22 = .ok (.ireturn, 1) := by decide +kernel
theorem dX11_size_0 : decode cX11_size 0 = .ok (.aload_n 0, 1) := by decide +kernel
theorem dX11_size_1 : decode cX11_size 1 = .ok (.iload_n 1, 1) := by decide +kernel
theorem dX11_size_2 : decode cX11_size 2 = .ok (.invokevirtual 135, 3) := by decide +kernel
theorem dX11_size_5 : decode cX11_size 5 = .ok (.ifCond .eq 18, 3) := by decide +kernel
theorem dX11_size_8 : decode cX11_size 8 = .ok (.aload_n 0, 1) := by decide +kernel
theorem dX11_size_9 : decode cX11_size 9 = .ok (.getfield 26, 3) := by decide +kernel
theorem dX11_size_12 : decode cX11_size 12 = .ok (.getfield 146, 3) := by decide +kernel
theorem dX11_size_15 : decode cX11_size 15 = .ok (.iload_n 1, 1) := by decide +kernel
theorem dX11_size_16 : decode cX11_size 16 = .ok (.aaload, 1) := by decide +kernel
theorem dX11_size_17 : decode cX11_size 17 = .ok (.invokevirtual 150, 3) := by decide +kernel
theorem dX11_size_20 : decode cX11_size 20 = .ok (.goto 5, 3) := by decide +kernel
theorem dX11_size_23 : decode cX11_size 23 = .ok (.bipush (-2), 2) := by decide +kernel
theorem dX11_size_25 : decode cX11_size 25 = .ok (.ireturn, 1) := by decide +kernel
theorem dX11_has_0 : decode cX11_has 0 = .ok (.aload_n 0, 1) := by decide +kernel
theorem dX11_has_1 : decode cX11_has 1 = .ok (.iload_n 1, 1) := by decide +kernel
theorem dX11_has_2 : decode cX11_has 2 = .ok (.invokevirtual 135, 3) := by decide +kernel
theorem dX11_has_5 : decode cX11_has 5 = .ok (.ifCond .eq 11, 3) := by decide +kernel
theorem dX11_has_8 : decode cX11_has 8 = .ok (.aload_n 0, 1) := by decide +kernel
theorem dX11_has_9 : decode cX11_has 9 = .ok (.iload_n 2, 1) := by decide +kernel
theorem dX11_has_10 : decode cX11_has 10 = .ok (.invokevirtual 154, 3) := by decide +kernel
theorem dX11_has_13 : decode cX11_has 13 = .ok (.ifCond .ne 6, 3) := by decide +kernel
theorem dX11_has_16 : decode cX11_has 16 = .ok (.bipush (-2), 2) := by decide +kernel
theorem dX11_has_18 : decode cX11_has 18 = .ok (.ireturn, 1) := by decide +kernel
theorem dX11_has_19 : decode cX11_has 19 = .ok (.aload_n 0, 1) := by decide +kernel
theorem dX11_has_20 : decode cX11_has 20 = .ok (.getfield 26, 3) := by decide +kernel
theorem dX11_has_23 : decode cX11_has 23 = .ok (.getfield 146, 3) := by decide +kernel
theorem dX11_has_26 : decode cX11_has 26 = .ok (.iload_n 1, 1) := by decide +kernel
theorem dX11_has_27 : decode cX11_has 27 = .ok (.aaload, 1) := by decide +kernel
theorem dX11_has_28 : decode cX11_has 28 = .ok (.iload_n 2, 1) := by decide +kernel
theorem dX11_has_29 : decode cX11_has 29 = .ok (.invokevirtual 157, 3) := by decide +kernel
theorem dX11_has_32 : decode cX11_has 32 = .ok (.ifCond .eq 7, 3) := by decide +kernel
theorem dX11_has_35 : decode cX11_has 35 = .ok (.iconst 1, 1) := by decide +kernel
theorem dX11_has_36 : decode cX11_has 36 = .ok (.goto 4, 3) := by decide +kernel
theorem dX11_has_39 : decode cX11_has 39 = .ok (.iconst 0, 1) := by decide +kernel
theorem dX11_has_40 : decode cX11_has 40 = .ok (.ireturn, 1) := by decide +kernel
theorem dX11_makes_0 : decode cX11_makes 0 = .ok (.aload_n 0, 1) := by decide +kernel
theorem dX11_makes_1 : decode cX11_makes 1 = .ok (.iload_n 1, 1) := by decide +kernel
theorem dX11_makes_2 : decode cX11_makes 2 = .ok (.invokevirtual 135, 3) := by decide +kernel
theorem dX11_makes_5 : decode cX11_makes 5 = .ok (.ifCond .eq 30, 3) := by decide +kernel
theorem dX11_makes_8 : decode cX11_makes 8 = .ok (.aload_n 0, 1) := by decide +kernel
theorem dX11_makes_9 : decode cX11_makes 9 = .ok (.iload_n 3, 1) := by decide +kernel
theorem dX11_makes_10 : decode cX11_makes 10 = .ok (.invokevirtual 135, 3) := by decide +kernel
theorem dX11_makes_13 : decode cX11_makes 13 = .ok (.ifCond .eq 22, 3) := by decide +kernel
theorem dX11_makes_16 : decode cX11_makes 16 = .ok (.aload_n 0, 1) := by decide +kernel
theorem dX11_makes_17 : decode cX11_makes 17 = .ok (.iload 4, 2) := by decide +kernel
theorem dX11_makes_19 : decode cX11_makes 19 = .ok (.invokevirtual 135, 3) := by decide +kernel
theorem dX11_makes_22 : decode cX11_makes 22 = .ok (.ifCond .eq 13, 3) := by decide +kernel
theorem dX11_makes_25 : decode cX11_makes 25 = .ok (.iload_n 2, 1) := by decide +kernel
theorem dX11_makes_26 : decode cX11_makes 26 = .ok (.ifCond .lt 9, 3) := by decide +kernel
theorem dX11_makes_29 : decode cX11_makes 29 = .ok (.iload_n 2, 1) := by decide +kernel
theorem dX11_makes_30 : decode cX11_makes 30 = .ok (.bipush 6, 2) := by decide +kernel
theorem dX11_makes_32 : decode cX11_makes 32 = .ok (.if_icmp .le 6, 3) := by decide +kernel
theorem dX11_makes_35 : decode cX11_makes 35 = .ok (.bipush (-2), 2) := by decide +kernel
theorem dX11_makes_37 : decode cX11_makes 37 = .ok (.ireturn, 1) := by decide +kernel
theorem dX11_makes_38 : decode cX11_makes 38 = .ok (.aload_n 0, 1) := by decide +kernel
theorem dX11_makes_39 : decode cX11_makes 39 = .ok (.getfield 106, 3) := by decide +kernel
theorem dX11_makes_42 : decode cX11_makes 42 = .ok (.aload_n 0, 1) := by decide +kernel
theorem dX11_makes_43 : decode cX11_makes 43 = .ok (.getfield 26, 3) := by decide +kernel
theorem dX11_makes_46 : decode cX11_makes 46 = .ok (.getfield 146, 3) := by decide +kernel
theorem dX11_makes_49 : decode cX11_makes 49 = .ok (.iload_n 3, 1) := by decide +kernel
theorem dX11_makes_50 : decode cX11_makes 50 = .ok (.aaload, 1) := by decide +kernel
theorem dX11_makes_51 : decode cX11_makes 51 = .ok (.invokevirtual 160, 3) := by decide +kernel
theorem dX11_makes_54 : decode cX11_makes 54 = .ok (.aload_n 0, 1) := by decide +kernel
theorem dX11_makes_55 : decode cX11_makes 55 = .ok (.getfield 64, 3) := by decide +kernel
theorem dX11_makes_58 : decode cX11_makes 58 = .ok (.iload_n 2, 1) := by decide +kernel
theorem dX11_makes_59 : decode cX11_makes 59 = .ok (.aload_n 0, 1) := by decide +kernel
theorem dX11_makes_60 : decode cX11_makes 60 = .ok (.getfield 106, 3) := by decide +kernel
theorem dX11_makes_63 : decode cX11_makes 63 = .ok (.aload_n 0, 1) := by decide +kernel
theorem dX11_makes_64 : decode cX11_makes 64 = .ok (.getfield 26, 3) := by decide +kernel
theorem dX11_makes_67 : decode cX11_makes 67 = .ok (.getfield 146, 3) := by decide +kernel
theorem dX11_makes_70 : decode cX11_makes 70 = .ok (.iload 4, 2) := by decide +kernel
theorem dX11_makes_72 : decode cX11_makes 72 = .ok (.aaload, 1) := by decide +kernel
theorem dX11_makes_73 : decode cX11_makes 73 = .ok (.aload_n 0, 1) := by decide +kernel
theorem dX11_makes_74 : decode cX11_makes 74 = .ok (.getfield 26, 3) := by decide +kernel
theorem dX11_makes_77 : decode cX11_makes 77 = .ok (.getfield 139, 3) := by decide +kernel
theorem dX11_makes_80 : decode cX11_makes 80 = .ok (.invokevirtual 164, 3) := by decide +kernel
theorem dX11_makes_83 : decode cX11_makes 83 = .ok (.aload_n 0, 1) := by decide +kernel
theorem dX11_makes_84 : decode cX11_makes 84 = .ok (.iload_n 1, 1) := by decide +kernel
theorem dX11_makes_85 : decode cX11_makes 85 = .ok (.invokevirtual 168, 3) := by decide +kernel
theorem dX11_makes_88 : decode cX11_makes 88 = .ok (.ireturn, 1) := by decide +kernel
theorem dX11_turn_0 : decode cX11_turn 0 = .ok (.aload_n 0, 1) := by decide +kernel
theorem dX11_turn_1 : decode cX11_turn 1 = .ok (.iload_n 1, 1) := by decide +kernel
theorem dX11_turn_2 : decode cX11_turn 2 = .ok (.invokevirtual 135, 3) := by decide +kernel
theorem dX11_turn_5 : decode cX11_turn 5 = .ok (.ifCond .eq 21, 3) := by decide +kernel
theorem dX11_turn_8 : decode cX11_turn 8 = .ok (.aload_n 0, 1) := by decide +kernel
theorem dX11_turn_9 : decode cX11_turn 9 = .ok (.iload_n 3, 1) := by decide +kernel
theorem dX11_turn_10 : decode cX11_turn 10 = .ok (.invokevirtual 135, 3) := by decide +kernel
theorem dX11_turn_13 : decode cX11_turn 13 = .ok (.ifCond .eq 13, 3) := by decide +kernel
theorem dX11_turn_16 : decode cX11_turn 16 = .ok (.iload_n 2, 1) := by decide +kernel
theorem dX11_turn_17 : decode cX11_turn 17 = .ok (.ifCond .lt 9, 3) := by decide +kernel
theorem dX11_turn_20 : decode cX11_turn 20 = .ok (.iload_n 2, 1) := by decide +kernel
theorem dX11_turn_21 : decode cX11_turn 21 = .ok (.bipush 6, 2) := by decide +kernel
theorem dX11_turn_23 : decode cX11_turn 23 = .ok (.if_icmp .le 6, 3) := by decide +kernel
theorem dX11_turn_26 : decode cX11_turn 26 = .ok (.bipush (-2), 2) := by decide +kernel
theorem dX11_turn_28 : decode cX11_turn 28 = .ok (.ireturn, 1) := by decide +kernel
theorem dX11_turn_29 : decode cX11_turn 29 = .ok (.aload_n 0, 1) := by decide +kernel
theorem dX11_turn_30 : decode cX11_turn 30 = .ok (.getfield 106, 3) := by decide +kernel
theorem dX11_turn_33 : decode cX11_turn 33 = .ok (.aload_n 0, 1) := by decide +kernel
theorem dX11_turn_34 : decode cX11_turn 34 = .ok (.getfield 26, 3) := by decide +kernel
theorem dX11_turn_37 : decode cX11_turn 37 = .ok (.getfield 146, 3) := by decide +kernel
theorem dX11_turn_40 : decode cX11_turn 40 = .ok (.iload_n 3, 1) := by decide +kernel
theorem dX11_turn_41 : decode cX11_turn 41 = .ok (.aaload, 1) := by decide +kernel
theorem dX11_turn_42 : decode cX11_turn 42 = .ok (.invokevirtual 160, 3) := by decide +kernel
theorem dX11_turn_45 : decode cX11_turn 45 = .ok (.aload_n 0, 1) := by decide +kernel
theorem dX11_turn_46 : decode cX11_turn 46 = .ok (.getfield 64, 3) := by decide +kernel
theorem dX11_turn_49 : decode cX11_turn 49 = .ok (.iload_n 2, 1) := by decide +kernel
theorem dX11_turn_50 : decode cX11_turn 50 = .ok (.aload_n 0, 1) := by decide +kernel
theorem dX11_turn_51 : decode cX11_turn 51 = .ok (.getfield 106, 3) := by decide +kernel
theorem dX11_turn_54 : decode cX11_turn 54 = .ok (.aload_n 0, 1) := by decide +kernel
theorem dX11_turn_55 : decode cX11_turn 55 = .ok (.getfield 26, 3) := by decide +kernel
theorem dX11_turn_58 : decode cX11_turn 58 = .ok (.getfield 139, 3) := by decide +kernel
theorem dX11_turn_61 : decode cX11_turn 61 = .ok (.invokevirtual 172, 3) := by decide +kernel
theorem dX11_turn_64 : decode cX11_turn 64 = .ok (.aload_n 0, 1) := by decide +kernel
theorem dX11_turn_65 : decode cX11_turn 65 = .ok (.iload_n 1, 1) := by decide +kernel
theorem dX11_turn_66 : decode cX11_turn 66 = .ok (.invokevirtual 168, 3) := by decide +kernel
theorem dX11_turn_69 : decode cX11_turn 69 = .ok (.ireturn, 1) := by decide +kernel
theorem dX11_sets_0 : decode cX11_sets 0 = .ok (.aload_n 0, 1) := by decide +kernel
theorem dX11_sets_1 : decode cX11_sets 1 = .ok (.iload_n 1, 1) := by decide +kernel
theorem dX11_sets_2 : decode cX11_sets 2 = .ok (.invokevirtual 135, 3) := by decide +kernel
theorem dX11_sets_5 : decode cX11_sets 5 = .ok (.ifCond .eq 11, 3) := by decide +kernel
theorem dX11_sets_8 : decode cX11_sets 8 = .ok (.aload_n 0, 1) := by decide +kernel
theorem dX11_sets_9 : decode cX11_sets 9 = .ok (.iload_n 2, 1) := by decide +kernel
theorem dX11_sets_10 : decode cX11_sets 10 = .ok (.invokevirtual 154, 3) := by decide +kernel
theorem dX11_sets_13 : decode cX11_sets 13 = .ok (.ifCond .ne 6, 3) := by decide +kernel
theorem dX11_sets_16 : decode cX11_sets 16 = .ok (.bipush (-2), 2) := by decide +kernel
theorem dX11_sets_18 : decode cX11_sets 18 = .ok (.ireturn, 1) := by decide +kernel
theorem dX11_sets_19 : decode cX11_sets 19 = .ok (.aload_n 0, 1) := by decide +kernel
theorem dX11_sets_20 : decode cX11_sets 20 = .ok (.getfield 26, 3) := by decide +kernel
theorem dX11_sets_23 : decode cX11_sets 23 = .ok (.getfield 146, 3) := by decide +kernel
theorem dX11_sets_26 : decode cX11_sets 26 = .ok (.iload_n 1, 1) := by decide +kernel
theorem dX11_sets_27 : decode cX11_sets 27 = .ok (.aaload, 1) := by decide +kernel
theorem dX11_sets_28 : decode cX11_sets 28 = .ok (.astore 4, 2) := by decide +kernel
theorem dX11_sets_30 : decode cX11_sets 30 = .ok (.aload 4, 2) := by decide +kernel
theorem dX11_sets_32 : decode cX11_sets 32 = .ok (.iload_n 2, 1) := by decide +kernel
theorem dX11_sets_33 : decode cX11_sets 33 = .ok (.invokevirtual 157, 3) := by decide +kernel
theorem dX11_sets_36 : decode cX11_sets 36 = .ok (.iload_n 3, 1) := by decide +kernel
theorem dX11_sets_37 : decode cX11_sets 37 = .ok (.if_icmp .ne 5, 3) := by decide +kernel
theorem dX11_sets_40 : decode cX11_sets 40 = .ok (.iconst 0, 1) := by decide +kernel
theorem dX11_sets_41 : decode cX11_sets 41 = .ok (.ireturn, 1) := by decide +kernel
theorem dX11_sets_42 : decode cX11_sets 42 = .ok (.iload_n 3, 1) := by decide +kernel
theorem dX11_sets_43 : decode cX11_sets 43 = .ok (.ifCond .eq 12, 3) := by decide +kernel
theorem dX11_sets_46 : decode cX11_sets 46 = .ok (.aload 4, 2) := by decide +kernel
theorem dX11_sets_48 : decode cX11_sets 48 = .ok (.iload_n 2, 1) := by decide +kernel
theorem dX11_sets_49 : decode cX11_sets 49 = .ok (.invokevirtual 176, 3) := by decide +kernel
theorem dX11_sets_52 : decode cX11_sets 52 = .ok (.goto 9, 3) := by decide +kernel
theorem dX11_sets_55 : decode cX11_sets 55 = .ok (.aload 4, 2) := by decide +kernel
theorem dX11_sets_57 : decode cX11_sets 57 = .ok (.iload_n 2, 1) := by decide +kernel
theorem dX11_sets_58 : decode cX11_sets 58 = .ok (.invokevirtual 180, 3) := by decide +kernel
theorem dX11_sets_61 : decode cX11_sets 61 = .ok (.iconst 1, 1) := by decide +kernel
theorem dX11_sets_62 : decode cX11_sets 62 = .ok (.ireturn, 1) := by decide +kernel
theorem dX11_change_0 : decode cX11_change 0 = .ok (.aload_n 0, 1) := by decide +kernel
theorem dX11_change_1 : decode cX11_change 1 = .ok (.iload_n 1, 1) := by decide +kernel
theorem dX11_change_2 : decode cX11_change 2 = .ok (.invokevirtual 135, 3) := by decide +kernel
theorem dX11_change_5 : decode cX11_change 5 = .ok (.ifCond .eq 19, 3) := by decide +kernel
theorem dX11_change_8 : decode cX11_change 8 = .ok (.aload_n 0, 1) := by decide +kernel
theorem dX11_change_9 : decode cX11_change 9 = .ok (.iload_n 2, 1) := by decide +kernel
theorem dX11_change_10 : decode cX11_change 10 = .ok (.invokevirtual 135, 3) := by decide +kernel
theorem dX11_change_13 : decode cX11_change 13 = .ok (.ifCond .eq 11, 3) := by decide +kernel
theorem dX11_change_16 : decode cX11_change 16 = .ok (.aload_n 0, 1) := by decide +kernel
theorem dX11_change_17 : decode cX11_change 17 = .ok (.iload_n 3, 1) := by decide +kernel
theorem dX11_change_18 : decode cX11_change 18 = .ok (.invokevirtual 183, 3) := by decide +kernel
theorem dX11_change_21 : decode cX11_change 21 = .ok (.ifCond .ne 6, 3) := by decide +kernel
theorem dX11_change_24 : decode cX11_change 24 = .ok (.bipush (-2), 2) := by decide +kernel
theorem dX11_change_26 : decode cX11_change 26 = .ok (.ireturn, 1) := by decide +kernel
theorem dX11_change_27 : decode cX11_change 27 = .ok (.aload_n 0, 1) := by decide +kernel
theorem dX11_change_28 : decode cX11_change 28 = .ok (.getfield 106, 3) := by decide +kernel
theorem dX11_change_31 : decode cX11_change 31 = .ok (.aload_n 0, 1) := by decide +kernel
theorem dX11_change_32 : decode cX11_change 32 = .ok (.getfield 26, 3) := by decide +kernel
theorem dX11_change_35 : decode cX11_change 35 = .ok (.getfield 146, 3) := by decide +kernel
theorem dX11_change_38 : decode cX11_change 38 = .ok (.iload_n 2, 1) := by decide +kernel
theorem dX11_change_39 : decode cX11_change 39 = .ok (.aaload, 1) := by decide +kernel
theorem dX11_change_40 : decode cX11_change 40 = .ok (.invokevirtual 160, 3) := by decide +kernel
theorem dX11_change_43 : decode cX11_change 43 = .ok (.aload_n 0, 1) := by decide +kernel
theorem dX11_change_44 : decode cX11_change 44 = .ok (.getfield 106, 3) := by decide +kernel
theorem dX11_change_47 : decode cX11_change 47 = .ok (.iload_n 3, 1) := by decide +kernel
theorem dX11_change_48 : decode cX11_change 48 = .ok (.invokevirtual 186, 3) := by decide +kernel
theorem dX11_change_51 : decode cX11_change 51 = .ok (.aload_n 0, 1) := by decide +kernel
theorem dX11_change_52 : decode cX11_change 52 = .ok (.iload_n 1, 1) := by decide +kernel
theorem dX11_change_53 : decode cX11_change 53 = .ok (.invokevirtual 168, 3) := by decide +kernel
theorem dX11_change_56 : decode cX11_change 56 = .ok (.ireturn, 1) := by decide +kernel
theorem dX11_half_0 : decode cX11_half 0 = .ok (.aload_n 0, 1) := by decide +kernel
theorem dX11_half_1 : decode cX11_half 1 = .ok (.iload_n 1, 1) := by decide +kernel
theorem dX11_half_2 : decode cX11_half 2 = .ok (.invokevirtual 135, 3) := by decide +kernel
theorem dX11_half_5 : decode cX11_half 5 = .ok (.ifCond .eq 19, 3) := by decide +kernel
theorem dX11_half_8 : decode cX11_half 8 = .ok (.aload_n 0, 1) := by decide +kernel
theorem dX11_half_9 : decode cX11_half 9 = .ok (.iload_n 2, 1) := by decide +kernel
theorem dX11_half_10 : decode cX11_half 10 = .ok (.invokevirtual 135, 3) := by decide +kernel
theorem dX11_half_13 : decode cX11_half 13 = .ok (.ifCond .eq 11, 3) := by decide +kernel
theorem dX11_half_16 : decode cX11_half 16 = .ok (.aload_n 0, 1) := by decide +kernel
theorem dX11_half_17 : decode cX11_half 17 = .ok (.iload_n 3, 1) := by decide +kernel
theorem dX11_half_18 : decode cX11_half 18 = .ok (.invokevirtual 183, 3) := by decide +kernel
theorem dX11_half_21 : decode cX11_half 21 = .ok (.ifCond .ne 6, 3) := by decide +kernel
theorem dX11_half_24 : decode cX11_half 24 = .ok (.bipush (-2), 2) := by decide +kernel
theorem dX11_half_26 : decode cX11_half 26 = .ok (.ireturn, 1) := by decide +kernel
theorem dX11_half_27 : decode cX11_half 27 = .ok (.aload_n 0, 1) := by decide +kernel
theorem dX11_half_28 : decode cX11_half 28 = .ok (.getfield 106, 3) := by decide +kernel
theorem dX11_half_31 : decode cX11_half 31 = .ok (.aload_n 0, 1) := by decide +kernel
theorem dX11_half_32 : decode cX11_half 32 = .ok (.getfield 26, 3) := by decide +kernel
theorem dX11_half_35 : decode cX11_half 35 = .ok (.getfield 146, 3) := by decide +kernel
theorem dX11_half_38 : decode cX11_half 38 = .ok (.iload_n 2, 1) := by decide +kernel
theorem dX11_half_39 : decode cX11_half 39 = .ok (.aaload, 1) := by decide +kernel
theorem dX11_half_40 : decode cX11_half 40 = .ok (.invokevirtual 160, 3) := by decide +kernel
theorem dX11_half_43 : decode cX11_half 43 = .ok (.iload 4, 2) := by decide +kernel
theorem dX11_half_45 : decode cX11_half 45 = .ok (.ifCond .eq 11, 3) := by decide +kernel
theorem dX11_half_48 : decode cX11_half 48 = .ok (.aload_n 0, 1) := by decide +kernel
theorem dX11_half_49 : decode cX11_half 49 = .ok (.getfield 106, 3) := by decide +kernel
theorem dX11_half_52 : decode cX11_half 52 = .ok (.iload_n 3, 1) := by decide +kernel
theorem dX11_half_53 : decode cX11_half 53 = .ok (.invokevirtual 186, 3) := by decide +kernel
theorem dX11_half_56 : decode cX11_half 56 = .ok (.aload_n 0, 1) := by decide +kernel
theorem dX11_half_57 : decode cX11_half 57 = .ok (.getfield 106, 3) := by decide +kernel
theorem dX11_half_60 : decode cX11_half 60 = .ok (.iload_n 3, 1) := by decide +kernel
theorem dX11_half_61 : decode cX11_half 61 = .ok (.invokevirtual 189, 3) := by decide +kernel
theorem dX11_half_64 : decode cX11_half 64 = .ok (.aload_n 0, 1) := by decide +kernel
theorem dX11_half_65 : decode cX11_half 65 = .ok (.iload_n 1, 1) := by decide +kernel
theorem dX11_half_66 : decode cX11_half 66 = .ok (.invokevirtual 168, 3) := by decide +kernel
theorem dX11_half_69 : decode cX11_half 69 = .ok (.ireturn, 1) := by decide +kernel
theorem dX11_level_0 : decode cX11_level 0 = .ok (.aload_n 0, 1) := by decide +kernel
theorem dX11_level_1 : decode cX11_level 1 = .ok (.iload_n 1, 1) := by decide +kernel
theorem dX11_level_2 : decode cX11_level 2 = .ok (.invokevirtual 135, 3) := by decide +kernel
theorem dX11_level_5 : decode cX11_level 5 = .ok (.ifCond .eq 21, 3) := by decide +kernel
theorem dX11_level_8 : decode cX11_level 8 = .ok (.aload_n 0, 1) := by decide +kernel
theorem dX11_level_9 : decode cX11_level 9 = .ok (.iload_n 2, 1) := by decide +kernel
theorem dX11_level_10 : decode cX11_level 10 = .ok (.invokevirtual 135, 3) := by decide +kernel
theorem dX11_level_13 : decode cX11_level 13 = .ok (.ifCond .eq 13, 3) := by decide +kernel
theorem dX11_level_16 : decode cX11_level 16 = .ok (.iload_n 3, 1) := by decide +kernel
theorem dX11_level_17 : decode cX11_level 17 = .ok (.ifCond .lt 9, 3) := by decide +kernel
theorem dX11_level_20 : decode cX11_level 20 = .ok (.iload_n 3, 1) := by decide +kernel
theorem dX11_level_21 : decode cX11_level 21 = .ok (.bipush 10, 2) := by decide +kernel
theorem dX11_level_23 : decode cX11_level 23 = .ok (.if_icmp .le 6, 3) := by decide +kernel
theorem dX11_level_26 : decode cX11_level 26 = .ok (.bipush (-2), 2) := by decide +kernel
theorem dX11_level_28 : decode cX11_level 28 = .ok (.ireturn, 1) := by decide +kernel
theorem dX11_level_29 : decode cX11_level 29 = .ok (.aload_n 0, 1) := by decide +kernel
theorem dX11_level_30 : decode cX11_level 30 = .ok (.getfield 26, 3) := by decide +kernel
theorem dX11_level_33 : decode cX11_level 33 = .ok (.getfield 146, 3) := by decide +kernel
theorem dX11_level_36 : decode cX11_level 36 = .ok (.iload_n 2, 1) := by decide +kernel
theorem dX11_level_37 : decode cX11_level 37 = .ok (.aaload, 1) := by decide +kernel
theorem dX11_level_38 : decode cX11_level 38 = .ok (.astore 4, 2) := by decide +kernel
theorem dX11_level_40 : decode cX11_level 40 = .ok (.aload_n 0, 1) := by decide +kernel
theorem dX11_level_41 : decode cX11_level 41 = .ok (.getfield 106, 3) := by decide +kernel
theorem dX11_level_44 : decode cX11_level 44 = .ok (.invokevirtual 192, 3) := by decide +kernel
theorem dX11_level_47 : decode cX11_level 47 = .ok (.iconst 0, 1) := by decide +kernel
theorem dX11_level_48 : decode cX11_level 48 = .ok (.istore 5, 2) := by decide +kernel
theorem dX11_level_50 : decode cX11_level 50 = .ok (.iload 5, 2) := by decide +kernel
theorem dX11_level_52 : decode cX11_level 52 = .ok (.iconst 1, 1) := by decide +kernel
theorem dX11_level_53 : decode cX11_level 53 = .ok (.aload_n 0, 1) := by decide +kernel
theorem dX11_level_54 : decode cX11_level 54 = .ok (.getfield 26, 3) := by decide +kernel
theorem dX11_level_57 : decode cX11_level 57 = .ok (.getfield 139, 3) := by decide +kernel
theorem dX11_level_60 : decode cX11_level 60 = .ok (.ishl, 1) := by decide +kernel
theorem dX11_level_61 : decode cX11_level 61 = .ok (.if_icmp .ge 37, 3) := by decide +kernel
theorem dX11_level_64 : decode cX11_level 64 = .ok (.iload 5, 2) := by decide +kernel
theorem dX11_level_66 : decode cX11_level 66 = .ok (.invokestatic 193, 3) := by decide +kernel
theorem dX11_level_69 : decode cX11_level 69 = .ok (.iload_n 3, 1) := by decide +kernel
theorem dX11_level_70 : decode cX11_level 70 = .ok (.if_icmp .ne 22, 3) := by decide +kernel
theorem dX11_level_73 : decode cX11_level 73 = .ok (.aload 4, 2) := by decide +kernel
theorem dX11_level_75 : decode cX11_level 75 = .ok (.iload 5, 2) := by decide +kernel
theorem dX11_level_77 : decode cX11_level 77 = .ok (.invokevirtual 157, 3) := by decide +kernel
theorem dX11_level_80 : decode cX11_level 80 = .ok (.ifCond .eq 12, 3) := by decide +kernel
theorem dX11_level_83 : decode cX11_level 83 = .ok (.aload_n 0, 1) := by decide +kernel
theorem dX11_level_84 : decode cX11_level 84 = .ok (.getfield 106, 3) := by decide +kernel
theorem dX11_level_87 : decode cX11_level 87 = .ok (.iload 5, 2) := by decide +kernel
theorem dX11_level_89 : decode cX11_level 89 = .ok (.invokevirtual 176, 3) := by decide +kernel
theorem dX11_level_92 : decode cX11_level 92 = .ok (.iinc 5 1, 3) := by decide +kernel
theorem dX11_level_95 : decode cX11_level 95 = .ok (.goto (-45), 3) := by decide +kernel
theorem dX11_level_98 : decode cX11_level 98 = .ok (.aload_n 0, 1) := by decide +kernel
theorem dX11_level_99 : decode cX11_level 99 = .ok (.iload_n 1, 1) := by decide +kernel
theorem dX11_level_100 : decode cX11_level 100 = .ok (.invokevirtual 168, 3) := by decide +kernel
theorem dX11_level_103 : decode cX11_level 103 = .ok (.ireturn, 1) := by decide +kernel
theorem dX11_nth_0 : decode cX11_nth 0 = .ok (.aload_n 0, 1) := by decide +kernel
theorem dX11_nth_1 : decode cX11_nth 1 = .ok (.iload_n 1, 1) := by decide +kernel
theorem dX11_nth_2 : decode cX11_nth 2 = .ok (.invokevirtual 135, 3) := by decide +kernel
theorem dX11_nth_5 : decode cX11_nth 5 = .ok (.ifCond .eq 19, 3) := by decide +kernel
theorem dX11_nth_8 : decode cX11_nth 8 = .ok (.aload_n 0, 1) := by decide +kernel
theorem dX11_nth_9 : decode cX11_nth 9 = .ok (.getfield 26, 3) := by decide +kernel
theorem dX11_nth_12 : decode cX11_nth 12 = .ok (.getfield 146, 3) := by decide +kernel
theorem dX11_nth_15 : decode cX11_nth 15 = .ok (.iload_n 1, 1) := by decide +kernel
theorem dX11_nth_16 : decode cX11_nth 16 = .ok (.aaload, 1) := by decide +kernel
theorem dX11_nth_17 : decode cX11_nth 17 = .ok (.iload_n 2, 1) := by decide +kernel
theorem dX11_nth_18 : decode cX11_nth 18 = .ok (.invokevirtual 198, 3) := by decide +kernel
theorem dX11_nth_21 : decode cX11_nth 21 = .ok (.goto 5, 3) := by decide +kernel
theorem dX11_nth_24 : decode cX11_nth 24 = .ok (.bipush (-2), 2) := by decide +kernel
theorem dX11_nth_26 : decode cX11_nth 26 = .ok (.ireturn, 1) := by decide +kernel
theorem dX11_rank_0 : decode cX11_rank 0 = .ok (.aload_n 0, 1) := by decide +kernel
theorem dX11_rank_1 : decode cX11_rank 1 = .ok (.iload_n 1, 1) := by decide +kernel
theorem dX11_rank_2 : decode cX11_rank 2 = .ok (.invokevirtual 135, 3) := by decide +kernel
theorem dX11_rank_5 : decode cX11_rank 5 = .ok (.ifCond .eq 11, 3) := by decide +kernel
theorem dX11_rank_8 : decode cX11_rank 8 = .ok (.aload_n 0, 1) := by decide +kernel
theorem dX11_rank_9 : decode cX11_rank 9 = .ok (.iload_n 2, 1) := by decide +kernel
theorem dX11_rank_10 : decode cX11_rank 10 = .ok (.invokevirtual 154, 3) := by decide +kernel
theorem dX11_rank_13 : decode cX11_rank 13 = .ok (.ifCond .ne 6, 3) := by decide +kernel
theorem dX11_rank_16 : decode cX11_rank 16 = .ok (.bipush (-2), 2) := by decide +kernel
theorem dX11_rank_18 : decode cX11_rank 18 = .ok (.ireturn, 1) := by decide +kernel
theorem dX11_rank_19 : decode cX11_rank 19 = .ok (.aload_n 0, 1) := by decide +kernel
theorem dX11_rank_20 : decode cX11_rank 20 = .ok (.getfield 26, 3) := by decide +kernel
theorem dX11_rank_23 : decode cX11_rank 23 = .ok (.getfield 146, 3) := by decide +kernel
theorem dX11_rank_26 : decode cX11_rank 26 = .ok (.iload_n 1, 1) := by decide +kernel
theorem dX11_rank_27 : decode cX11_rank 27 = .ok (.aaload, 1) := by decide +kernel
theorem dX11_rank_28 : decode cX11_rank 28 = .ok (.iload_n 2, 1) := by decide +kernel
theorem dX11_rank_29 : decode cX11_rank 29 = .ok (.invokevirtual 201, 3) := by decide +kernel
theorem dX11_rank_32 : decode cX11_rank 32 = .ok (.ireturn, 1) := by decide +kernel
