theorem zbX5_family_0 : zby cX5_family 0 20 = [42, 16, 123, 182, 0, 73, 87, 42, 4, 3, 182, 0, 76, 87, 42, 180, 0, 44, 42, 180] := by decide +kernel
theorem dX5_family_0 : decode cX5_family 0 = .ok (.aload_n 0, 1) := dq_42 (zby_at (j := 0) zbX5_family_0 rfl)
theorem dX5_family_1 : decode cX5_family 1 = .ok (.bipush 123, 2) := dq_16 (zby_at (j := 1) zbX5_family_0 rfl) (zby_at (j := 2) zbX5_family_0 rfl) rfl
theorem dX5_family_3 : decode cX5_family 3 = .ok (.invokevirtual 73, 3) := dq_182 (zby_at (j := 3) zbX5_family_0 rfl) (zby_at (j := 4) zbX5_family_0 rfl) (zby_at (j := 5) zbX5_family_0 rfl)
theorem dX5_family_6 : decode cX5_family 6 = .ok (.pop, 1) := dq_87 (zby_at (j := 6) zbX5_family_0 rfl)
theorem dX5_family_7 : decode cX5_family 7 = .ok (.aload_n 0, 1) := dq_42 (zby_at (j := 7) zbX5_family_0 rfl)
theorem dX5_family_8 : decode cX5_family 8 = .ok (.iconst 1, 1) := dq_4 (zby_at (j := 8) zbX5_family_0 rfl)
theorem dX5_family_9 : decode cX5_family 9 = .ok (.iconst 0, 1) := dq_3 (zby_at (j := 9) zbX5_family_0 rfl)
theorem dX5_family_10 : decode cX5_family 10 = .ok (.invokevirtual 76, 3) := dq_182 (zby_at (j := 10) zbX5_family_0 rfl) (zby_at (j := 11) zbX5_family_0 rfl) (zby_at (j := 12) zbX5_family_0 rfl)
theorem dX5_family_13 : decode cX5_family 13 = .ok (.pop, 1) := dq_87 (zby_at (j := 13) zbX5_family_0 rfl)
theorem dX5_family_14 : decode cX5_family 14 = .ok (.aload_n 0, 1) := dq_42 (zby_at (j := 14) zbX5_family_0 rfl)
theorem dX5_family_15 : decode cX5_family 15 = .ok (.getfield 44, 3) := dq_180 (zby_at (j := 15) zbX5_family_0 rfl) (zby_at (j := 16) zbX5_family_0 rfl) (zby_at (j := 17) zbX5_family_0 rfl)
theorem zbX5_family_1 : zby cX5_family 16 20 = [0, 44, 42, 180, 0, 41, 46, 16, 125, 160, 0, 10, 42, 16, 125, 182, 0, 73, 172, 3] := by decide +kernel
theorem dX5_family_18 : decode cX5_family 18 = .ok (.aload_n 0, 1) := dq_42 (zby_at (j := 2) zbX5_family_1 rfl)
theorem dX5_family_19 : decode cX5_family 19 = .ok (.getfield 41, 3) := dq_180 (zby_at (j := 3) zbX5_family_1 rfl) (zby_at (j := 4) zbX5_family_1 rfl) (zby_at (j := 5) zbX5_family_1 rfl)
theorem dX5_family_22 : decode cX5_family 22 = .ok (.iaload, 1) := dq_46 (zby_at (j := 6) zbX5_family_1 rfl)
theorem dX5_family_23 : decode cX5_family 23 = .ok (.bipush 125, 2) := dq_16 (zby_at (j := 7) zbX5_family_1 rfl) (zby_at (j := 8) zbX5_family_1 rfl) rfl
theorem dX5_family_25 : decode cX5_family 25 = .ok (.if_icmp .ne 10, 3) := dq_160 (zby_at (j := 9) zbX5_family_1 rfl) (zby_at (j := 10) zbX5_family_1 rfl) (zby_at (j := 11) zbX5_family_1 rfl) rfl
theorem dX5_family_28 : decode cX5_family 28 = .ok (.aload_n 0, 1) := dq_42 (zby_at (j := 12) zbX5_family_1 rfl)
theorem dX5_family_29 : decode cX5_family 29 = .ok (.bipush 125, 2) := dq_16 (zby_at (j := 13) zbX5_family_1 rfl) (zby_at (j := 14) zbX5_family_1 rfl) rfl
theorem dX5_family_31 : decode cX5_family 31 = .ok (.invokevirtual 73, 3) := dq_182 (zby_at (j := 15) zbX5_family_1 rfl) (zby_at (j := 16) zbX5_family_1 rfl) (zby_at (j := 17) zbX5_family_1 rfl)
theorem zbX5_family_2 : zby cX5_family 32 20 = [0, 73, 172, 3, 60, 27, 17, 2, 89, 162, 0, 46, 42, 182, 0, 192, 154, 0, 5, 3] := by decide +kernel
theorem dX5_family_34 : decode cX5_family 34 = .ok (.ireturn, 1) := dq_172 (zby_at (j := 2) zbX5_family_2 rfl)
theorem dX5_family_35 : decode cX5_family 35 = .ok (.iconst 0, 1) := dq_3 (zby_at (j := 3) zbX5_family_2 rfl)
theorem dX5_family_36 : decode cX5_family 36 = .ok (.istore_n 1, 1) := dq_60 (zby_at (j := 4) zbX5_family_2 rfl)
theorem dX5_family_37 : decode cX5_family 37 = .ok (.iload_n 1, 1) := dq_27 (zby_at (j := 5) zbX5_family_2 rfl)
theorem dX5_family_38 : decode cX5_family 38 = .ok (.sipush 601, 3) := dq_17 (zby_at (j := 6) zbX5_family_2 rfl) (zby_at (j := 7) zbX5_family_2 rfl) (zby_at (j := 8) zbX5_family_2 rfl) rfl
theorem dX5_family_41 : decode cX5_family 41 = .ok (.if_icmp .ge 46, 3) := dq_162 (zby_at (j := 9) zbX5_family_2 rfl) (zby_at (j := 10) zbX5_family_2 rfl) (zby_at (j := 11) zbX5_family_2 rfl) rfl
theorem dX5_family_44 : decode cX5_family 44 = .ok (.aload_n 0, 1) := dq_42 (zby_at (j := 12) zbX5_family_2 rfl)
theorem dX5_family_45 : decode cX5_family 45 = .ok (.invokevirtual 192, 3) := dq_182 (zby_at (j := 13) zbX5_family_2 rfl) (zby_at (j := 14) zbX5_family_2 rfl) (zby_at (j := 15) zbX5_family_2 rfl)
theorem zbX5_family_3 : zby cX5_family 48 20 = [154, 0, 5, 3, 172, 42, 180, 0, 44, 42, 180, 0, 41, 46, 16, 44, 159, 0, 10, 42] := by decide +kernel
theorem dX5_family_48 : decode cX5_family 48 = .ok (.ifCond .ne 5, 3) := dq_154 (zby_at (j := 0) zbX5_family_3 rfl) (zby_at (j := 1) zbX5_family_3 rfl) (zby_at (j := 2) zbX5_family_3 rfl) rfl
theorem dX5_family_51 : decode cX5_family 51 = .ok (.iconst 0, 1) := dq_3 (zby_at (j := 3) zbX5_family_3 rfl)
theorem dX5_family_52 : decode cX5_family 52 = .ok (.ireturn, 1) := dq_172 (zby_at (j := 4) zbX5_family_3 rfl)
theorem dX5_family_53 : decode cX5_family 53 = .ok (.aload_n 0, 1) := dq_42 (zby_at (j := 5) zbX5_family_3 rfl)
theorem dX5_family_54 : decode cX5_family 54 = .ok (.getfield 44, 3) := dq_180 (zby_at (j := 6) zbX5_family_3 rfl) (zby_at (j := 7) zbX5_family_3 rfl) (zby_at (j := 8) zbX5_family_3 rfl)
theorem dX5_family_57 : decode cX5_family 57 = .ok (.aload_n 0, 1) := dq_42 (zby_at (j := 9) zbX5_family_3 rfl)
theorem dX5_family_58 : decode cX5_family 58 = .ok (.getfield 41, 3) := dq_180 (zby_at (j := 10) zbX5_family_3 rfl) (zby_at (j := 11) zbX5_family_3 rfl) (zby_at (j := 12) zbX5_family_3 rfl)
theorem dX5_family_61 : decode cX5_family 61 = .ok (.iaload, 1) := dq_46 (zby_at (j := 13) zbX5_family_3 rfl)
theorem dX5_family_62 : decode cX5_family 62 = .ok (.bipush 44, 2) := dq_16 (zby_at (j := 14) zbX5_family_3 rfl) (zby_at (j := 15) zbX5_family_3 rfl) rfl
theorem zbX5_family_4 : zby cX5_family 64 20 = [159, 0, 10, 42, 16, 125, 182, 0, 73, 172, 42, 16, 44, 182, 0, 73, 87, 132, 1, 1] := by decide +kernel
theorem dX5_family_64 : decode cX5_family 64 = .ok (.if_icmp .eq 10, 3) := dq_159 (zby_at (j := 0) zbX5_family_4 rfl) (zby_at (j := 1) zbX5_family_4 rfl) (zby_at (j := 2) zbX5_family_4 rfl) rfl
theorem dX5_family_67 : decode cX5_family 67 = .ok (.aload_n 0, 1) := dq_42 (zby_at (j := 3) zbX5_family_4 rfl)
theorem dX5_family_68 : decode cX5_family 68 = .ok (.bipush 125, 2) := dq_16 (zby_at (j := 4) zbX5_family_4 rfl) (zby_at (j := 5) zbX5_family_4 rfl) rfl
theorem dX5_family_70 : decode cX5_family 70 = .ok (.invokevirtual 73, 3) := dq_182 (zby_at (j := 6) zbX5_family_4 rfl) (zby_at (j := 7) zbX5_family_4 rfl) (zby_at (j := 8) zbX5_family_4 rfl)
theorem dX5_family_73 : decode cX5_family 73 = .ok (.ireturn, 1) := dq_172 (zby_at (j := 9) zbX5_family_4 rfl)
theorem dX5_family_74 : decode cX5_family 74 = .ok (.aload_n 0, 1) := dq_42 (zby_at (j := 10) zbX5_family_4 rfl)
theorem dX5_family_75 : decode cX5_family 75 = .ok (.bipush 44, 2) := dq_16 (zby_at (j := 11) zbX5_family_4 rfl) (zby_at (j := 12) zbX5_family_4 rfl) rfl
theorem dX5_family_77 : decode cX5_family 77 = .ok (.invokevirtual 73, 3) := dq_182 (zby_at (j := 13) zbX5_family_4 rfl) (zby_at (j := 14) zbX5_family_4 rfl) (zby_at (j := 15) zbX5_family_4 rfl)
theorem zbX5_family_5 : zby cX5_family 80 20 = [87, 132, 1, 1, 167, 255, 209, 42, 4, 182, 0, 153, 172] := by decide +kernel
theorem dX5_family_80 : decode cX5_family 80 = .ok (.pop, 1) := dq_87 (zby_at (j := 0) zbX5_family_5 rfl)
theorem dX5_family_81 : decode cX5_family 81 = .ok (.iinc 1 1, 3) := dq_132 (zby_at (j := 1) zbX5_family_5 rfl) (zby_at (j := 2) zbX5_family_5 rfl) (zby_at (j := 3) zbX5_family_5 rfl) rfl
theorem dX5_family_84 : decode cX5_family 84 = .ok (.goto (-47), 3) := dq_167 (zby_at (j := 4) zbX5_family_5 rfl) (zby_at (j := 5) zbX5_family_5 rfl) (zby_at (j := 6) zbX5_family_5 rfl) rfl
theorem dX5_family_87 : decode cX5_family 87 = .ok (.aload_n 0, 1) := dq_42 (zby_at (j := 7) zbX5_family_5 rfl)
theorem dX5_family_88 : decode cX5_family 88 = .ok (.iconst 1, 1) := dq_4 (zby_at (j := 8) zbX5_family_5 rfl)
theorem dX5_family_89 : decode cX5_family 89 = .ok (.invokevirtual 153, 3) := dq_182 (zby_at (j := 9) zbX5_family_5 rfl) (zby_at (j := 10) zbX5_family_5 rfl) (zby_at (j := 11) zbX5_family_5 rfl)
theorem dX5_family_92 : decode cX5_family 92 = .ok (.ireturn, 1) := dq_172 (zby_at (j := 12) zbX5_family_5 rfl)
theorem zbX5_member_0 : zby cX5_member 0 20 = [42, 180, 0, 44, 42, 180, 0, 41, 46, 6, 160, 0, 43, 42, 42, 180, 0, 47, 42, 180] := by decide +kernel
theorem dX5_member_0 : decode cX5_member 0 = .ok (.aload_n 0, 1) := dq_42 (zby_at (j := 0) zbX5_member_0 rfl)
theorem dX5_member_1 : decode cX5_member 1 = .ok (.getfield 44, 3) := dq_180 (zby_at (j := 1) zbX5_member_0 rfl) (zby_at (j := 2) zbX5_member_0 rfl) (zby_at (j := 3) zbX5_member_0 rfl)
theorem dX5_member_4 : decode cX5_member 4 = .ok (.aload_n 0, 1) := dq_42 (zby_at (j := 4) zbX5_member_0 rfl)
theorem dX5_member_5 : decode cX5_member 5 = .ok (.getfield 41, 3) := dq_180 (zby_at (j := 5) zbX5_member_0 rfl) (zby_at (j := 6) zbX5_member_0 rfl) (zby_at (j := 7) zbX5_member_0 rfl)
theorem dX5_member_8 : decode cX5_member 8 = .ok (.iaload, 1) := dq_46 (zby_at (j := 8) zbX5_member_0 rfl)
theorem dX5_member_9 : decode cX5_member 9 = .ok (.iconst 3, 1) := dq_6 (zby_at (j := 9) zbX5_member_0 rfl)
theorem dX5_member_10 : decode cX5_member 10 = .ok (.if_icmp .ne 43, 3) := dq_160 (zby_at (j := 10) zbX5_member_0 rfl) (zby_at (j := 11) zbX5_member_0 rfl) (zby_at (j := 12) zbX5_member_0 rfl) rfl
theorem dX5_member_13 : decode cX5_member 13 = .ok (.aload_n 0, 1) := dq_42 (zby_at (j := 13) zbX5_member_0 rfl)
theorem dX5_member_14 : decode cX5_member 14 = .ok (.aload_n 0, 1) := dq_42 (zby_at (j := 14) zbX5_member_0 rfl)
theorem dX5_member_15 : decode cX5_member 15 = .ok (.getfield 47, 3) := dq_180 (zby_at (j := 15) zbX5_member_0 rfl) (zby_at (j := 16) zbX5_member_0 rfl) (zby_at (j := 17) zbX5_member_0 rfl)
theorem zbX5_member_1 : zby cX5_member 16 20 = [0, 47, 42, 180, 0, 41, 46, 154, 0, 7, 4, 167, 0, 4, 3, 5, 182, 0, 149, 153] := by decide +kernel
theorem dX5_member_18 : decode cX5_member 18 = .ok (.aload_n 0, 1) := dq_42 (zby_at (j := 2) zbX5_member_1 rfl)
theorem dX5_member_19 : decode cX5_member 19 = .ok (.getfield 41, 3) := dq_180 (zby_at (j := 3) zbX5_member_1 rfl) (zby_at (j := 4) zbX5_member_1 rfl) (zby_at (j := 5) zbX5_member_1 rfl)
theorem dX5_member_22 : decode cX5_member 22 = .ok (.iaload, 1) := dq_46 (zby_at (j := 6) zbX5_member_1 rfl)
theorem dX5_member_23 : decode cX5_member 23 = .ok (.ifCond .ne 7, 3) := dq_154 (zby_at (j := 7) zbX5_member_1 rfl) (zby_at (j := 8) zbX5_member_1 rfl) (zby_at (j := 9) zbX5_member_1 rfl) rfl
theorem dX5_member_26 : decode cX5_member 26 = .ok (.iconst 1, 1) := dq_4 (zby_at (j := 10) zbX5_member_1 rfl)
theorem dX5_member_27 : decode cX5_member 27 = .ok (.goto 4, 3) := dq_167 (zby_at (j := 11) zbX5_member_1 rfl) (zby_at (j := 12) zbX5_member_1 rfl) (zby_at (j := 13) zbX5_member_1 rfl) rfl
theorem dX5_member_30 : decode cX5_member 30 = .ok (.iconst 0, 1) := dq_3 (zby_at (j := 14) zbX5_member_1 rfl)
theorem dX5_member_31 : decode cX5_member 31 = .ok (.iconst 2, 1) := dq_5 (zby_at (j := 15) zbX5_member_1 rfl)
theorem zbX5_member_2 : zby cX5_member 32 20 = [182, 0, 149, 153, 0, 16, 42, 6, 3, 182, 0, 76, 153, 0, 7, 4, 167, 0, 4, 3] := by decide +kernel
theorem dX5_member_32 : decode cX5_member 32 = .ok (.invokevirtual 149, 3) := dq_182 (zby_at (j := 0) zbX5_member_2 rfl) (zby_at (j := 1) zbX5_member_2 rfl) (zby_at (j := 2) zbX5_member_2 rfl)
theorem dX5_member_35 : decode cX5_member 35 = .ok (.ifCond .eq 16, 3) := dq_153 (zby_at (j := 3) zbX5_member_2 rfl) (zby_at (j := 4) zbX5_member_2 rfl) (zby_at (j := 5) zbX5_member_2 rfl) rfl
theorem dX5_member_38 : decode cX5_member 38 = .ok (.aload_n 0, 1) := dq_42 (zby_at (j := 6) zbX5_member_2 rfl)
theorem dX5_member_39 : decode cX5_member 39 = .ok (.iconst 3, 1) := dq_6 (zby_at (j := 7) zbX5_member_2 rfl)
theorem dX5_member_40 : decode cX5_member 40 = .ok (.iconst 0, 1) := dq_3 (zby_at (j := 8) zbX5_member_2 rfl)
theorem dX5_member_41 : decode cX5_member 41 = .ok (.invokevirtual 76, 3) := dq_182 (zby_at (j := 9) zbX5_member_2 rfl) (zby_at (j := 10) zbX5_member_2 rfl) (zby_at (j := 11) zbX5_member_2 rfl)
theorem dX5_member_44 : decode cX5_member 44 = .ok (.ifCond .eq 7, 3) := dq_153 (zby_at (j := 12) zbX5_member_2 rfl) (zby_at (j := 13) zbX5_member_2 rfl) (zby_at (j := 14) zbX5_member_2 rfl) rfl
theorem dX5_member_47 : decode cX5_member 47 = .ok (.iconst 1, 1) := dq_4 (zby_at (j := 15) zbX5_member_2 rfl)
theorem zbX5_member_3 : zby cX5_member 48 20 = [167, 0, 4, 3, 172, 42, 180, 0, 44, 42, 180, 0, 41, 46, 5, 159, 0, 10, 42, 3] := by decide +kernel
theorem dX5_member_48 : decode cX5_member 48 = .ok (.goto 4, 3) := dq_167 (zby_at (j := 0) zbX5_member_3 rfl) (zby_at (j := 1) zbX5_member_3 rfl) (zby_at (j := 2) zbX5_member_3 rfl) rfl
theorem dX5_member_51 : decode cX5_member 51 = .ok (.iconst 0, 1) := dq_3 (zby_at (j := 3) zbX5_member_3 rfl)
theorem dX5_member_52 : decode cX5_member 52 = .ok (.ireturn, 1) := dq_172 (zby_at (j := 4) zbX5_member_3 rfl)
theorem dX5_member_53 : decode cX5_member 53 = .ok (.aload_n 0, 1) := dq_42 (zby_at (j := 5) zbX5_member_3 rfl)
theorem dX5_member_54 : decode cX5_member 54 = .ok (.getfield 44, 3) := dq_180 (zby_at (j := 6) zbX5_member_3 rfl) (zby_at (j := 7) zbX5_member_3 rfl) (zby_at (j := 8) zbX5_member_3 rfl)
theorem dX5_member_57 : decode cX5_member 57 = .ok (.aload_n 0, 1) := dq_42 (zby_at (j := 9) zbX5_member_3 rfl)
theorem dX5_member_58 : decode cX5_member 58 = .ok (.getfield 41, 3) := dq_180 (zby_at (j := 10) zbX5_member_3 rfl) (zby_at (j := 11) zbX5_member_3 rfl) (zby_at (j := 12) zbX5_member_3 rfl)
theorem dX5_member_61 : decode cX5_member 61 = .ok (.iaload, 1) := dq_46 (zby_at (j := 13) zbX5_member_3 rfl)
theorem dX5_member_62 : decode cX5_member 62 = .ok (.iconst 2, 1) := dq_5 (zby_at (j := 14) zbX5_member_3 rfl)
theorem dX5_member_63 : decode cX5_member 63 = .ok (.if_icmp .eq 10, 3) := dq_159 (zby_at (j := 15) zbX5_member_3 rfl) (zby_at (j := 16) zbX5_member_3 rfl) (zby_at (j := 17) zbX5_member_3 rfl) rfl
theorem zbX5_member_4 : zby cX5_member 64 20 = [0, 10, 42, 3, 4, 182, 0, 149, 172, 3, 60, 4, 61, 42, 180, 0, 50, 42, 180, 0] := by decide +kernel
theorem dX5_member_66 : decode cX5_member 66 = .ok (.aload_n 0, 1) := dq_42 (zby_at (j := 2) zbX5_member_4 rfl)
theorem dX5_member_67 : decode cX5_member 67 = .ok (.iconst 0, 1) := dq_3 (zby_at (j := 3) zbX5_member_4 rfl)
theorem dX5_member_68 : decode cX5_member 68 = .ok (.iconst 1, 1) := dq_4 (zby_at (j := 4) zbX5_member_4 rfl)
theorem dX5_member_69 : decode cX5_member 69 = .ok (.invokevirtual 149, 3) := dq_182 (zby_at (j := 5) zbX5_member_4 rfl) (zby_at (j := 6) zbX5_member_4 rfl) (zby_at (j := 7) zbX5_member_4 rfl)
theorem dX5_member_72 : decode cX5_member 72 = .ok (.ireturn, 1) := dq_172 (zby_at (j := 8) zbX5_member_4 rfl)
theorem dX5_member_73 : decode cX5_member 73 = .ok (.iconst 0, 1) := dq_3 (zby_at (j := 9) zbX5_member_4 rfl)
theorem dX5_member_74 : decode cX5_member 74 = .ok (.istore_n 1, 1) := dq_60 (zby_at (j := 10) zbX5_member_4 rfl)
theorem dX5_member_75 : decode cX5_member 75 = .ok (.iconst 1, 1) := dq_4 (zby_at (j := 11) zbX5_member_4 rfl)
theorem dX5_member_76 : decode cX5_member 76 = .ok (.istore_n 2, 1) := dq_61 (zby_at (j := 12) zbX5_member_4 rfl)
theorem dX5_member_77 : decode cX5_member 77 = .ok (.aload_n 0, 1) := dq_42 (zby_at (j := 13) zbX5_member_4 rfl)
theorem dX5_member_78 : decode cX5_member 78 = .ok (.getfield 50, 3) := dq_180 (zby_at (j := 14) zbX5_member_4 rfl) (zby_at (j := 15) zbX5_member_4 rfl) (zby_at (j := 16) zbX5_member_4 rfl)
theorem zbX5_member_5 : zby cX5_member 80 20 = [50, 42, 180, 0, 41, 46, 62, 29, 42, 180, 0, 53, 42, 180, 0, 41, 46, 162, 0, 76] := by decide +kernel
theorem dX5_member_81 : decode cX5_member 81 = .ok (.aload_n 0, 1) := dq_42 (zby_at (j := 1) zbX5_member_5 rfl)
theorem dX5_member_82 : decode cX5_member 82 = .ok (.getfield 41, 3) := dq_180 (zby_at (j := 2) zbX5_member_5 rfl) (zby_at (j := 3) zbX5_member_5 rfl) (zby_at (j := 4) zbX5_member_5 rfl)
theorem dX5_member_85 : decode cX5_member 85 = .ok (.iaload, 1) := dq_46 (zby_at (j := 5) zbX5_member_5 rfl)
theorem dX5_member_86 : decode cX5_member 86 = .ok (.istore_n 3, 1) := dq_62 (zby_at (j := 6) zbX5_member_5 rfl)
theorem dX5_member_87 : decode cX5_member 87 = .ok (.iload_n 3, 1) := dq_29 (zby_at (j := 7) zbX5_member_5 rfl)
theorem dX5_member_88 : decode cX5_member 88 = .ok (.aload_n 0, 1) := dq_42 (zby_at (j := 8) zbX5_member_5 rfl)
theorem dX5_member_89 : decode cX5_member 89 = .ok (.getfield 53, 3) := dq_180 (zby_at (j := 9) zbX5_member_5 rfl) (zby_at (j := 10) zbX5_member_5 rfl) (zby_at (j := 11) zbX5_member_5 rfl)
theorem dX5_member_92 : decode cX5_member 92 = .ok (.aload_n 0, 1) := dq_42 (zby_at (j := 12) zbX5_member_5 rfl)
theorem dX5_member_93 : decode cX5_member 93 = .ok (.getfield 41, 3) := dq_180 (zby_at (j := 13) zbX5_member_5 rfl) (zby_at (j := 14) zbX5_member_5 rfl) (zby_at (j := 15) zbX5_member_5 rfl)
theorem zbX5_member_6 : zby cX5_member 96 20 = [46, 162, 0, 76, 29, 42, 180, 0, 32, 162, 0, 68, 42, 180, 0, 28, 29, 51, 16, 97] := by decide +kernel
theorem dX5_member_96 : decode cX5_member 96 = .ok (.iaload, 1) := dq_46 (zby_at (j := 0) zbX5_member_6 rfl)
theorem dX5_member_97 : decode cX5_member 97 = .ok (.if_icmp .ge 76, 3) := dq_162 (zby_at (j := 1) zbX5_member_6 rfl) (zby_at (j := 2) zbX5_member_6 rfl) (zby_at (j := 3) zbX5_member_6 rfl) rfl
theorem dX5_member_100 : decode cX5_member 100 = .ok (.iload_n 3, 1) := dq_29 (zby_at (j := 4) zbX5_member_6 rfl)
theorem dX5_member_101 : decode cX5_member 101 = .ok (.aload_n 0, 1) := dq_42 (zby_at (j := 5) zbX5_member_6 rfl)
theorem dX5_member_102 : decode cX5_member 102 = .ok (.getfield 32, 3) := dq_180 (zby_at (j := 6) zbX5_member_6 rfl) (zby_at (j := 7) zbX5_member_6 rfl) (zby_at (j := 8) zbX5_member_6 rfl)
theorem dX5_member_105 : decode cX5_member 105 = .ok (.if_icmp .ge 68, 3) := dq_162 (zby_at (j := 9) zbX5_member_6 rfl) (zby_at (j := 10) zbX5_member_6 rfl) (zby_at (j := 11) zbX5_member_6 rfl) rfl
theorem dX5_member_108 : decode cX5_member 108 = .ok (.aload_n 0, 1) := dq_42 (zby_at (j := 12) zbX5_member_6 rfl)
theorem dX5_member_109 : decode cX5_member 109 = .ok (.getfield 28, 3) := dq_180 (zby_at (j := 13) zbX5_member_6 rfl) (zby_at (j := 14) zbX5_member_6 rfl) (zby_at (j := 15) zbX5_member_6 rfl)
theorem zbX5_member_7 : zby cX5_member 112 20 = [29, 51, 16, 97, 100, 54, 4, 28, 153, 0, 30, 21, 4, 155, 0, 25, 21, 4, 42, 180] := by decide +kernel
theorem dX5_member_112 : decode cX5_member 112 = .ok (.iload_n 3, 1) := dq_29 (zby_at (j := 0) zbX5_member_7 rfl)
theorem dX5_member_113 : decode cX5_member 113 = .ok (.baload, 1) := dq_51 (zby_at (j := 1) zbX5_member_7 rfl)
theorem dX5_member_114 : decode cX5_member 114 = .ok (.bipush 97, 2) := dq_16 (zby_at (j := 2) zbX5_member_7 rfl) (zby_at (j := 3) zbX5_member_7 rfl) rfl
theorem dX5_member_116 : decode cX5_member 116 = .ok (.isub, 1) := dq_100 (zby_at (j := 4) zbX5_member_7 rfl)
theorem dX5_member_117 : decode cX5_member 117 = .ok (.istore 4, 2) := dq_54 (zby_at (j := 5) zbX5_member_7 rfl) (zby_at (j := 6) zbX5_member_7 rfl)
theorem dX5_member_119 : decode cX5_member 119 = .ok (.iload_n 2, 1) := dq_28 (zby_at (j := 7) zbX5_member_7 rfl)
theorem dX5_member_120 : decode cX5_member 120 = .ok (.ifCond .eq 30, 3) := dq_153 (zby_at (j := 8) zbX5_member_7 rfl) (zby_at (j := 9) zbX5_member_7 rfl) (zby_at (j := 10) zbX5_member_7 rfl) rfl
theorem dX5_member_123 : decode cX5_member 123 = .ok (.iload 4, 2) := dq_21 (zby_at (j := 11) zbX5_member_7 rfl) (zby_at (j := 12) zbX5_member_7 rfl)
theorem dX5_member_125 : decode cX5_member 125 = .ok (.ifCond .lt 25, 3) := dq_155 (zby_at (j := 13) zbX5_member_7 rfl) (zby_at (j := 14) zbX5_member_7 rfl) (zby_at (j := 15) zbX5_member_7 rfl) rfl
theorem zbX5_member_8 : zby cX5_member 128 20 = [21, 4, 42, 180, 0, 35, 162, 0, 16, 27, 21, 4, 122, 4, 126, 154, 0, 7, 4, 167] := by decide +kernel
theorem dX5_member_128 : decode cX5_member 128 = .ok (.iload 4, 2) := dq_21 (zby_at (j := 0) zbX5_member_8 rfl) (zby_at (j := 1) zbX5_member_8 rfl)
theorem dX5_member_130 : decode cX5_member 130 = .ok (.aload_n 0, 1) := dq_42 (zby_at (j := 2) zbX5_member_8 rfl)
theorem dX5_member_131 : decode cX5_member 131 = .ok (.getfield 35, 3) := dq_180 (zby_at (j := 3) zbX5_member_8 rfl) (zby_at (j := 4) zbX5_member_8 rfl) (zby_at (j := 5) zbX5_member_8 rfl)
theorem dX5_member_134 : decode cX5_member 134 = .ok (.if_icmp .ge 16, 3) := dq_162 (zby_at (j := 6) zbX5_member_8 rfl) (zby_at (j := 7) zbX5_member_8 rfl) (zby_at (j := 8) zbX5_member_8 rfl) rfl
theorem dX5_member_137 : decode cX5_member 137 = .ok (.iload_n 1, 1) := dq_27 (zby_at (j := 9) zbX5_member_8 rfl)
theorem dX5_member_138 : decode cX5_member 138 = .ok (.iload 4, 2) := dq_21 (zby_at (j := 10) zbX5_member_8 rfl) (zby_at (j := 11) zbX5_member_8 rfl)
theorem dX5_member_140 : decode cX5_member 140 = .ok (.ishr, 1) := dq_122 (zby_at (j := 12) zbX5_member_8 rfl)
theorem dX5_member_141 : decode cX5_member 141 = .ok (.iconst 1, 1) := dq_4 (zby_at (j := 13) zbX5_member_8 rfl)
theorem dX5_member_142 : decode cX5_member 142 = .ok (.iand, 1) := dq_126 (zby_at (j := 14) zbX5_member_8 rfl)
theorem dX5_member_143 : decode cX5_member 143 = .ok (.ifCond .ne 7, 3) := dq_154 (zby_at (j := 15) zbX5_member_8 rfl) (zby_at (j := 16) zbX5_member_8 rfl) (zby_at (j := 17) zbX5_member_8 rfl) rfl
theorem zbX5_member_9 : zby cX5_member 144 20 = [0, 7, 4, 167, 0, 4, 3, 61, 27, 28, 153, 0, 10, 4, 21, 4, 120, 167, 0, 4] := by decide +kernel
theorem dX5_member_146 : decode cX5_member 146 = .ok (.iconst 1, 1) := dq_4 (zby_at (j := 2) zbX5_member_9 rfl)
theorem dX5_member_147 : decode cX5_member 147 = .ok (.goto 4, 3) := dq_167 (zby_at (j := 3) zbX5_member_9 rfl) (zby_at (j := 4) zbX5_member_9 rfl) (zby_at (j := 5) zbX5_member_9 rfl) rfl
theorem dX5_member_150 : decode cX5_member 150 = .ok (.iconst 0, 1) := dq_3 (zby_at (j := 6) zbX5_member_9 rfl)
theorem dX5_member_151 : decode cX5_member 151 = .ok (.istore_n 2, 1) := dq_61 (zby_at (j := 7) zbX5_member_9 rfl)
theorem dX5_member_152 : decode cX5_member 152 = .ok (.iload_n 1, 1) := dq_27 (zby_at (j := 8) zbX5_member_9 rfl)
theorem dX5_member_153 : decode cX5_member 153 = .ok (.iload_n 2, 1) := dq_28 (zby_at (j := 9) zbX5_member_9 rfl)
theorem dX5_member_154 : decode cX5_member 154 = .ok (.ifCond .eq 10, 3) := dq_153 (zby_at (j := 10) zbX5_member_9 rfl) (zby_at (j := 11) zbX5_member_9 rfl) (zby_at (j := 12) zbX5_member_9 rfl) rfl
theorem dX5_member_157 : decode cX5_member 157 = .ok (.iconst 1, 1) := dq_4 (zby_at (j := 13) zbX5_member_9 rfl)
theorem dX5_member_158 : decode cX5_member 158 = .ok (.iload 4, 2) := dq_21 (zby_at (j := 14) zbX5_member_9 rfl) (zby_at (j := 15) zbX5_member_9 rfl)
theorem zbX5_member_10 : zby cX5_member 160 20 = [120, 167, 0, 4, 3, 128, 60, 132, 3, 1, 167, 255, 173, 42, 28, 5, 182, 0, 149, 153] := by decide +kernel
theorem dX5_member_160 : decode cX5_member 160 = .ok (.ishl, 1) := dq_120 (zby_at (j := 0) zbX5_member_10 rfl)
theorem dX5_member_161 : decode cX5_member 161 = .ok (.goto 4, 3) := dq_167 (zby_at (j := 1) zbX5_member_10 rfl) (zby_at (j := 2) zbX5_member_10 rfl) (zby_at (j := 3) zbX5_member_10 rfl) rfl
theorem dX5_member_164 : decode cX5_member 164 = .ok (.iconst 0, 1) := dq_3 (zby_at (j := 4) zbX5_member_10 rfl)
theorem dX5_member_165 : decode cX5_member 165 = .ok (.ior, 1) := dq_128 (zby_at (j := 5) zbX5_member_10 rfl)
theorem dX5_member_166 : decode cX5_member 166 = .ok (.istore_n 1, 1) := dq_60 (zby_at (j := 6) zbX5_member_10 rfl)
theorem dX5_member_167 : decode cX5_member 167 = .ok (.iinc 3 1, 3) := dq_132 (zby_at (j := 7) zbX5_member_10 rfl) (zby_at (j := 8) zbX5_member_10 rfl) (zby_at (j := 9) zbX5_member_10 rfl) rfl
theorem dX5_member_170 : decode cX5_member 170 = .ok (.goto (-83), 3) := dq_167 (zby_at (j := 10) zbX5_member_10 rfl) (zby_at (j := 11) zbX5_member_10 rfl) (zby_at (j := 12) zbX5_member_10 rfl) rfl
theorem dX5_member_173 : decode cX5_member 173 = .ok (.aload_n 0, 1) := dq_42 (zby_at (j := 13) zbX5_member_10 rfl)
theorem dX5_member_174 : decode cX5_member 174 = .ok (.iload_n 2, 1) := dq_28 (zby_at (j := 14) zbX5_member_10 rfl)
theorem dX5_member_175 : decode cX5_member 175 = .ok (.iconst 2, 1) := dq_5 (zby_at (j := 15) zbX5_member_10 rfl)
theorem zbX5_member_11 : zby cX5_member 176 20 = [182, 0, 149, 153, 0, 16, 42, 6, 27, 182, 0, 76, 153, 0, 7, 4, 167, 0, 4, 3] := by decide +kernel
theorem dX5_member_176 : decode cX5_member 176 = .ok (.invokevirtual 149, 3) := dq_182 (zby_at (j := 0) zbX5_member_11 rfl) (zby_at (j := 1) zbX5_member_11 rfl) (zby_at (j := 2) zbX5_member_11 rfl)
theorem dX5_member_179 : decode cX5_member 179 = .ok (.ifCond .eq 16, 3) := dq_153 (zby_at (j := 3) zbX5_member_11 rfl) (zby_at (j := 4) zbX5_member_11 rfl) (zby_at (j := 5) zbX5_member_11 rfl) rfl
theorem dX5_member_182 : decode cX5_member 182 = .ok (.aload_n 0, 1) := dq_42 (zby_at (j := 6) zbX5_member_11 rfl)
theorem dX5_member_183 : decode cX5_member 183 = .ok (.iconst 3, 1) := dq_6 (zby_at (j := 7) zbX5_member_11 rfl)
theorem dX5_member_184 : decode cX5_member 184 = .ok (.iload_n 1, 1) := dq_27 (zby_at (j := 8) zbX5_member_11 rfl)
theorem dX5_member_185 : decode cX5_member 185 = .ok (.invokevirtual 76, 3) := dq_182 (zby_at (j := 9) zbX5_member_11 rfl) (zby_at (j := 10) zbX5_member_11 rfl) (zby_at (j := 11) zbX5_member_11 rfl)
theorem dX5_member_188 : decode cX5_member 188 = .ok (.ifCond .eq 7, 3) := dq_153 (zby_at (j := 12) zbX5_member_11 rfl) (zby_at (j := 13) zbX5_member_11 rfl) (zby_at (j := 14) zbX5_member_11 rfl) rfl
theorem dX5_member_191 : decode cX5_member 191 = .ok (.iconst 1, 1) := dq_4 (zby_at (j := 15) zbX5_member_11 rfl)
theorem zbX5_member_12 : zby cX5_member 192 20 = [167, 0, 4, 3, 172] := by decide +kernel
theorem dX5_member_192 : decode cX5_member 192 = .ok (.goto 4, 3) := dq_167 (zby_at (j := 0) zbX5_member_12 rfl) (zby_at (j := 1) zbX5_member_12 rfl) (zby_at (j := 2) zbX5_member_12 rfl) rfl
theorem dX5_member_195 : decode cX5_member 195 = .ok (.iconst 0, 1) := dq_3 (zby_at (j := 3) zbX5_member_12 rfl)
theorem dX5_member_196 : decode cX5_member 196 = .ok (.ireturn, 1) := dq_172 (zby_at (j := 4) zbX5_member_12 rfl)
theorem zbX6_init_0 : zby cX6_init 0 20 = [42, 183, 0, 3, 42, 16, 8, 188, 10, 181, 0, 9, 177] := by decide +kernel
theorem dX6_init_0 : decode cX6_init 0 = .ok (.aload_n 0, 1) := dq_42 (zby_at (j := 0) zbX6_init_0 rfl)
theorem dX6_init_1 : decode cX6_init 1 = .ok (.invokespecial 3, 3) := dq_183 (zby_at (j := 1) zbX6_init_0 rfl) (zby_at (j := 2) zbX6_init_0 rfl) (zby_at (j := 3) zbX6_init_0 rfl)
theorem dX6_init_4 : decode cX6_init 4 = .ok (.aload_n 0, 1) := dq_42 (zby_at (j := 4) zbX6_init_0 rfl)
theorem dX6_init_5 : decode cX6_init 5 = .ok (.bipush 8, 2) := dq_16 (zby_at (j := 5) zbX6_init_0 rfl) (zby_at (j := 6) zbX6_init_0 rfl) rfl
theorem dX6_init_7 : decode cX6_init 7 = .ok (.newarray .int, 2) := dq_188_10 (zby_at (j := 7) zbX6_init_0 rfl) (zby_at (j := 8) zbX6_init_0 rfl)
theorem dX6_init_9 : decode cX6_init 9 = .ok (.putfield 9, 3) := dq_181 (zby_at (j := 9) zbX6_init_0 rfl) (zby_at (j := 10) zbX6_init_0 rfl) (zby_at (j := 11) zbX6_init_0 rfl)
theorem dX6_init_12 : decode cX6_init 12 = .ok (.return_, 1) := dq_177 (zby_at (j := 12) zbX6_init_0 rfl)
theorem zbX6_findWays_0 : zby cX6_findWays 0 20 = [25, 4, 182, 0, 15, 28, 29, 160, 0, 10, 25, 4, 3, 182, 0, 20, 177, 43, 28, 29] := by decide +kernel
theorem dX6_findWays_0 : decode cX6_findWays 0 = .ok (.aload 4, 2) := dq_25 (zby_at (j := 0) zbX6_findWays_0 rfl) (zby_at (j := 1) zbX6_findWays_0 rfl)
theorem dX6_findWays_2 : decode cX6_findWays 2 = .ok (.invokevirtual 15, 3) := dq_182 (zby_at (j := 2) zbX6_findWays_0 rfl) (zby_at (j := 3) zbX6_findWays_0 rfl) (zby_at (j := 4) zbX6_findWays_0 rfl)
theorem dX6_findWays_5 : decode cX6_findWays 5 = .ok (.iload_n 2, 1) := dq_28 (zby_at (j := 5) zbX6_findWays_0 rfl)
theorem dX6_findWays_6 : decode cX6_findWays 6 = .ok (.iload_n 3, 1) := dq_29 (zby_at (j := 6) zbX6_findWays_0 rfl)
theorem dX6_findWays_7 : decode cX6_findWays 7 = .ok (.if_icmp .ne 10, 3) := dq_160 (zby_at (j := 7) zbX6_findWays_0 rfl) (zby_at (j := 8) zbX6_findWays_0 rfl) (zby_at (j := 9) zbX6_findWays_0 rfl) rfl
theorem dX6_findWays_10 : decode cX6_findWays 10 = .ok (.aload 4, 2) := dq_25 (zby_at (j := 10) zbX6_findWays_0 rfl) (zby_at (j := 11) zbX6_findWays_0 rfl)
theorem dX6_findWays_12 : decode cX6_findWays 12 = .ok (.iconst 0, 1) := dq_3 (zby_at (j := 12) zbX6_findWays_0 rfl)
theorem dX6_findWays_13 : decode cX6_findWays 13 = .ok (.invokevirtual 20, 3) := dq_182 (zby_at (j := 13) zbX6_findWays_0 rfl) (zby_at (j := 14) zbX6_findWays_0 rfl) (zby_at (j := 15) zbX6_findWays_0 rfl)
theorem zbX6_findWays_1 : zby cX6_findWays 16 20 = [177, 43, 28, 29, 4, 28, 120, 3, 25, 4, 184, 0, 24, 177] := by decide +kernel
theorem dX6_findWays_16 : decode cX6_findWays 16 = .ok (.return_, 1) := dq_177 (zby_at (j := 0) zbX6_findWays_1 rfl)
theorem dX6_findWays_17 : decode cX6_findWays 17 = .ok (.aload_n 1, 1) := dq_43 (zby_at (j := 1) zbX6_findWays_1 rfl)
theorem dX6_findWays_18 : decode cX6_findWays 18 = .ok (.iload_n 2, 1) := dq_28 (zby_at (j := 2) zbX6_findWays_1 rfl)
theorem dX6_findWays_19 : decode cX6_findWays 19 = .ok (.iload_n 3, 1) := dq_29 (zby_at (j := 3) zbX6_findWays_1 rfl)
theorem dX6_findWays_20 : decode cX6_findWays 20 = .ok (.iconst 1, 1) := dq_4 (zby_at (j := 4) zbX6_findWays_1 rfl)
theorem dX6_findWays_21 : decode cX6_findWays 21 = .ok (.iload_n 2, 1) := dq_28 (zby_at (j := 5) zbX6_findWays_1 rfl)
theorem dX6_findWays_22 : decode cX6_findWays 22 = .ok (.ishl, 1) := dq_120 (zby_at (j := 6) zbX6_findWays_1 rfl)
theorem dX6_findWays_23 : decode cX6_findWays 23 = .ok (.iconst 0, 1) := dq_3 (zby_at (j := 7) zbX6_findWays_1 rfl)
theorem dX6_findWays_24 : decode cX6_findWays 24 = .ok (.aload 4, 2) := dq_25 (zby_at (j := 8) zbX6_findWays_1 rfl) (zby_at (j := 9) zbX6_findWays_1 rfl)
theorem dX6_findWays_26 : decode cX6_findWays 26 = .ok (.invokestatic 24, 3) := dq_184 (zby_at (j := 10) zbX6_findWays_1 rfl) (zby_at (j := 11) zbX6_findWays_1 rfl) (zby_at (j := 12) zbX6_findWays_1 rfl)
theorem dX6_findWays_29 : decode cX6_findWays 29 = .ok (.return_, 1) := dq_177 (zby_at (j := 13) zbX6_findWays_1 rfl)
theorem zbX6_walk_0 : zby cX6_walk 0 20 = [3, 54, 6, 21, 6, 42, 180, 0, 28, 162, 0, 94, 21, 6, 16, 10, 162, 0, 87, 42] := by decide +kernel
theorem dX6_walk_0 : decode cX6_walk 0 = .ok (.iconst 0, 1) := dq_3 (zby_at (j := 0) zbX6_walk_0 rfl)
theorem dX6_walk_1 : decode cX6_walk 1 = .ok (.istore 6, 2) := dq_54 (zby_at (j := 1) zbX6_walk_0 rfl) (zby_at (j := 2) zbX6_walk_0 rfl)
theorem dX6_walk_3 : decode cX6_walk 3 = .ok (.iload 6, 2) := dq_21 (zby_at (j := 3) zbX6_walk_0 rfl) (zby_at (j := 4) zbX6_walk_0 rfl)
theorem dX6_walk_5 : decode cX6_walk 5 = .ok (.aload_n 0, 1) := dq_42 (zby_at (j := 5) zbX6_walk_0 rfl)
theorem dX6_walk_6 : decode cX6_walk 6 = .ok (.getfield 28, 3) := dq_180 (zby_at (j := 6) zbX6_walk_0 rfl) (zby_at (j := 7) zbX6_walk_0 rfl) (zby_at (j := 8) zbX6_walk_0 rfl)
theorem dX6_walk_9 : decode cX6_walk 9 = .ok (.if_icmp .ge 94, 3) := dq_162 (zby_at (j := 9) zbX6_walk_0 rfl) (zby_at (j := 10) zbX6_walk_0 rfl) (zby_at (j := 11) zbX6_walk_0 rfl) rfl
theorem dX6_walk_12 : decode cX6_walk 12 = .ok (.iload 6, 2) := dq_21 (zby_at (j := 12) zbX6_walk_0 rfl) (zby_at (j := 13) zbX6_walk_0 rfl)
theorem dX6_walk_14 : decode cX6_walk 14 = .ok (.bipush 10, 2) := dq_16 (zby_at (j := 14) zbX6_walk_0 rfl) (zby_at (j := 15) zbX6_walk_0 rfl) rfl
theorem zbX6_walk_1 : zby cX6_walk 16 20 = [162, 0, 87, 42, 21, 6, 27, 184, 0, 34, 54, 7, 21, 7, 155, 0, 67, 29, 21, 7] := by decide +kernel
theorem dX6_walk_16 : decode cX6_walk 16 = .ok (.if_icmp .ge 87, 3) := dq_162 (zby_at (j := 0) zbX6_walk_1 rfl) (zby_at (j := 1) zbX6_walk_1 rfl) (zby_at (j := 2) zbX6_walk_1 rfl) rfl
theorem dX6_walk_19 : decode cX6_walk 19 = .ok (.aload_n 0, 1) := dq_42 (zby_at (j := 3) zbX6_walk_1 rfl)
theorem dX6_walk_20 : decode cX6_walk 20 = .ok (.iload 6, 2) := dq_21 (zby_at (j := 4) zbX6_walk_1 rfl) (zby_at (j := 5) zbX6_walk_1 rfl)
theorem dX6_walk_22 : decode cX6_walk 22 = .ok (.iload_n 1, 1) := dq_27 (zby_at (j := 6) zbX6_walk_1 rfl)
theorem dX6_walk_23 : decode cX6_walk 23 = .ok (.invokestatic 34, 3) := dq_184 (zby_at (j := 7) zbX6_walk_1 rfl) (zby_at (j := 8) zbX6_walk_1 rfl) (zby_at (j := 9) zbX6_walk_1 rfl)
theorem dX6_walk_26 : decode cX6_walk 26 = .ok (.istore 7, 2) := dq_54 (zby_at (j := 10) zbX6_walk_1 rfl) (zby_at (j := 11) zbX6_walk_1 rfl)
theorem dX6_walk_28 : decode cX6_walk 28 = .ok (.iload 7, 2) := dq_21 (zby_at (j := 12) zbX6_walk_1 rfl) (zby_at (j := 13) zbX6_walk_1 rfl)
theorem dX6_walk_30 : decode cX6_walk 30 = .ok (.ifCond .lt 67, 3) := dq_155 (zby_at (j := 14) zbX6_walk_1 rfl) (zby_at (j := 15) zbX6_walk_1 rfl) (zby_at (j := 16) zbX6_walk_1 rfl) rfl
theorem zbX6_walk_2 : zby cX6_walk 32 20 = [67, 29, 21, 7, 122, 4, 126, 153, 0, 6, 167, 0, 55, 21, 7, 28, 160, 0, 18, 25] := by decide +kernel
theorem dX6_walk_33 : decode cX6_walk 33 = .ok (.iload_n 3, 1) := dq_29 (zby_at (j := 1) zbX6_walk_2 rfl)
theorem dX6_walk_34 : decode cX6_walk 34 = .ok (.iload 7, 2) := dq_21 (zby_at (j := 2) zbX6_walk_2 rfl) (zby_at (j := 3) zbX6_walk_2 rfl)
theorem dX6_walk_36 : decode cX6_walk 36 = .ok (.ishr, 1) := dq_122 (zby_at (j := 4) zbX6_walk_2 rfl)
theorem dX6_walk_37 : decode cX6_walk 37 = .ok (.iconst 1, 1) := dq_4 (zby_at (j := 5) zbX6_walk_2 rfl)
theorem dX6_walk_38 : decode cX6_walk 38 = .ok (.iand, 1) := dq_126 (zby_at (j := 6) zbX6_walk_2 rfl)
theorem dX6_walk_39 : decode cX6_walk 39 = .ok (.ifCond .eq 6, 3) := dq_153 (zby_at (j := 7) zbX6_walk_2 rfl) (zby_at (j := 8) zbX6_walk_2 rfl) (zby_at (j := 9) zbX6_walk_2 rfl) rfl
theorem dX6_walk_42 : decode cX6_walk 42 = .ok (.goto 55, 3) := dq_167 (zby_at (j := 10) zbX6_walk_2 rfl) (zby_at (j := 11) zbX6_walk_2 rfl) (zby_at (j := 12) zbX6_walk_2 rfl) rfl
theorem dX6_walk_45 : decode cX6_walk 45 = .ok (.iload 7, 2) := dq_21 (zby_at (j := 13) zbX6_walk_2 rfl) (zby_at (j := 14) zbX6_walk_2 rfl)
theorem dX6_walk_47 : decode cX6_walk 47 = .ok (.iload_n 2, 1) := dq_28 (zby_at (j := 15) zbX6_walk_2 rfl)
theorem zbX6_walk_3 : zby cX6_walk 48 20 = [160, 0, 18, 25, 5, 21, 4, 4, 21, 6, 120, 128, 182, 0, 20, 167, 0, 34, 29, 184] := by decide +kernel
theorem dX6_walk_48 : decode cX6_walk 48 = .ok (.if_icmp .ne 18, 3) := dq_160 (zby_at (j := 0) zbX6_walk_3 rfl) (zby_at (j := 1) zbX6_walk_3 rfl) (zby_at (j := 2) zbX6_walk_3 rfl) rfl
theorem dX6_walk_51 : decode cX6_walk 51 = .ok (.aload 5, 2) := dq_25 (zby_at (j := 3) zbX6_walk_3 rfl) (zby_at (j := 4) zbX6_walk_3 rfl)
theorem dX6_walk_53 : decode cX6_walk 53 = .ok (.iload 4, 2) := dq_21 (zby_at (j := 5) zbX6_walk_3 rfl) (zby_at (j := 6) zbX6_walk_3 rfl)
theorem dX6_walk_55 : decode cX6_walk 55 = .ok (.iconst 1, 1) := dq_4 (zby_at (j := 7) zbX6_walk_3 rfl)
theorem dX6_walk_56 : decode cX6_walk 56 = .ok (.iload 6, 2) := dq_21 (zby_at (j := 8) zbX6_walk_3 rfl) (zby_at (j := 9) zbX6_walk_3 rfl)
theorem dX6_walk_58 : decode cX6_walk 58 = .ok (.ishl, 1) := dq_120 (zby_at (j := 10) zbX6_walk_3 rfl)
theorem dX6_walk_59 : decode cX6_walk 59 = .ok (.ior, 1) := dq_128 (zby_at (j := 11) zbX6_walk_3 rfl)
theorem dX6_walk_60 : decode cX6_walk 60 = .ok (.invokevirtual 20, 3) := dq_182 (zby_at (j := 12) zbX6_walk_3 rfl) (zby_at (j := 13) zbX6_walk_3 rfl) (zby_at (j := 14) zbX6_walk_3 rfl)
theorem dX6_walk_63 : decode cX6_walk 63 = .ok (.goto 34, 3) := dq_167 (zby_at (j := 15) zbX6_walk_3 rfl) (zby_at (j := 16) zbX6_walk_3 rfl) (zby_at (j := 17) zbX6_walk_3 rfl) rfl
theorem zbX6_walk_4 : zby cX6_walk 64 20 = [0, 34, 29, 184, 0, 38, 16, 8, 162, 0, 25, 42, 21, 7, 28, 29, 4, 21, 7, 120] := by decide +kernel
theorem dX6_walk_66 : decode cX6_walk 66 = .ok (.iload_n 3, 1) := dq_29 (zby_at (j := 2) zbX6_walk_4 rfl)
theorem dX6_walk_67 : decode cX6_walk 67 = .ok (.invokestatic 38, 3) := dq_184 (zby_at (j := 3) zbX6_walk_4 rfl) (zby_at (j := 4) zbX6_walk_4 rfl) (zby_at (j := 5) zbX6_walk_4 rfl)
theorem dX6_walk_70 : decode cX6_walk 70 = .ok (.bipush 8, 2) := dq_16 (zby_at (j := 6) zbX6_walk_4 rfl) (zby_at (j := 7) zbX6_walk_4 rfl) rfl
theorem dX6_walk_72 : decode cX6_walk 72 = .ok (.if_icmp .ge 25, 3) := dq_162 (zby_at (j := 8) zbX6_walk_4 rfl) (zby_at (j := 9) zbX6_walk_4 rfl) (zby_at (j := 10) zbX6_walk_4 rfl) rfl
theorem dX6_walk_75 : decode cX6_walk 75 = .ok (.aload_n 0, 1) := dq_42 (zby_at (j := 11) zbX6_walk_4 rfl)
theorem dX6_walk_76 : decode cX6_walk 76 = .ok (.iload 7, 2) := dq_21 (zby_at (j := 12) zbX6_walk_4 rfl) (zby_at (j := 13) zbX6_walk_4 rfl)
theorem dX6_walk_78 : decode cX6_walk 78 = .ok (.iload_n 2, 1) := dq_28 (zby_at (j := 14) zbX6_walk_4 rfl)
theorem dX6_walk_79 : decode cX6_walk 79 = .ok (.iload_n 3, 1) := dq_29 (zby_at (j := 15) zbX6_walk_4 rfl)
theorem zbX6_walk_5 : zby cX6_walk 80 20 = [4, 21, 7, 120, 128, 21, 4, 4, 21, 6, 120, 128, 25, 5, 184, 0, 24, 132, 6, 1] := by decide +kernel
theorem dX6_walk_80 : decode cX6_walk 80 = .ok (.iconst 1, 1) := dq_4 (zby_at (j := 0) zbX6_walk_5 rfl)
theorem dX6_walk_81 : decode cX6_walk 81 = .ok (.iload 7, 2) := dq_21 (zby_at (j := 1) zbX6_walk_5 rfl) (zby_at (j := 2) zbX6_walk_5 rfl)
theorem dX6_walk_83 : decode cX6_walk 83 = .ok (.ishl, 1) := dq_120 (zby_at (j := 3) zbX6_walk_5 rfl)
theorem dX6_walk_84 : decode cX6_walk 84 = .ok (.ior, 1) := dq_128 (zby_at (j := 4) zbX6_walk_5 rfl)
theorem dX6_walk_85 : decode cX6_walk 85 = .ok (.iload 4, 2) := dq_21 (zby_at (j := 5) zbX6_walk_5 rfl) (zby_at (j := 6) zbX6_walk_5 rfl)
theorem dX6_walk_87 : decode cX6_walk 87 = .ok (.iconst 1, 1) := dq_4 (zby_at (j := 7) zbX6_walk_5 rfl)
theorem dX6_walk_88 : decode cX6_walk 88 = .ok (.iload 6, 2) := dq_21 (zby_at (j := 8) zbX6_walk_5 rfl) (zby_at (j := 9) zbX6_walk_5 rfl)
theorem dX6_walk_90 : decode cX6_walk 90 = .ok (.ishl, 1) := dq_120 (zby_at (j := 10) zbX6_walk_5 rfl)
theorem dX6_walk_91 : decode cX6_walk 91 = .ok (.ior, 1) := dq_128 (zby_at (j := 11) zbX6_walk_5 rfl)
theorem dX6_walk_92 : decode cX6_walk 92 = .ok (.aload 5, 2) := dq_25 (zby_at (j := 12) zbX6_walk_5 rfl) (zby_at (j := 13) zbX6_walk_5 rfl)
theorem dX6_walk_94 : decode cX6_walk 94 = .ok (.invokestatic 24, 3) := dq_184 (zby_at (j := 14) zbX6_walk_5 rfl) (zby_at (j := 15) zbX6_walk_5 rfl) (zby_at (j := 16) zbX6_walk_5 rfl)
theorem zbX6_walk_6 : zby cX6_walk 96 20 = [24, 132, 6, 1, 167, 255, 159, 177] := by decide +kernel
theorem dX6_walk_97 : decode cX6_walk 97 = .ok (.iinc 6 1, 3) := dq_132 (zby_at (j := 1) zbX6_walk_6 rfl) (zby_at (j := 2) zbX6_walk_6 rfl) (zby_at (j := 3) zbX6_walk_6 rfl) rfl
theorem dX6_walk_100 : decode cX6_walk 100 = .ok (.goto (-97), 3) := dq_167 (zby_at (j := 4) zbX6_walk_6 rfl) (zby_at (j := 5) zbX6_walk_6 rfl) (zby_at (j := 6) zbX6_walk_6 rfl) rfl
theorem dX6_walk_103 : decode cX6_walk 103 = .ok (.return_, 1) := dq_177 (zby_at (j := 7) zbX6_walk_6 rfl)
theorem zbX6_acrossFrom_0 : zby cX6_acrossFrom 0 20 = [27, 155, 0, 9, 27, 16, 10, 161, 0, 5, 2, 172, 42, 180, 0, 44, 27, 46, 28, 160] := by decide +kernel
theorem dX6_acrossFrom_0 : decode cX6_acrossFrom 0 = .ok (.iload_n 1, 1) := dq_27 (zby_at (j := 0) zbX6_acrossFrom_0 rfl)
theorem dX6_acrossFrom_1 : decode cX6_acrossFrom 1 = .ok (.ifCond .lt 9, 3) := dq_155 (zby_at (j := 1) zbX6_acrossFrom_0 rfl) (zby_at (j := 2) zbX6_acrossFrom_0 rfl) (zby_at (j := 3) zbX6_acrossFrom_0 rfl) rfl
theorem dX6_acrossFrom_4 : decode cX6_acrossFrom 4 = .ok (.iload_n 1, 1) := dq_27 (zby_at (j := 4) zbX6_acrossFrom_0 rfl)
theorem dX6_acrossFrom_5 : decode cX6_acrossFrom 5 = .ok (.bipush 10, 2) := dq_16 (zby_at (j := 5) zbX6_acrossFrom_0 rfl) (zby_at (j := 6) zbX6_acrossFrom_0 rfl) rfl
theorem dX6_acrossFrom_7 : decode cX6_acrossFrom 7 = .ok (.if_icmp .lt 5, 3) := dq_161 (zby_at (j := 7) zbX6_acrossFrom_0 rfl) (zby_at (j := 8) zbX6_acrossFrom_0 rfl) (zby_at (j := 9) zbX6_acrossFrom_0 rfl) rfl
theorem dX6_acrossFrom_10 : decode cX6_acrossFrom 10 = .ok (.iconst (-1), 1) := dq_2 (zby_at (j := 10) zbX6_acrossFrom_0 rfl)
theorem dX6_acrossFrom_11 : decode cX6_acrossFrom 11 = .ok (.ireturn, 1) := dq_172 (zby_at (j := 11) zbX6_acrossFrom_0 rfl)
theorem dX6_acrossFrom_12 : decode cX6_acrossFrom 12 = .ok (.aload_n 0, 1) := dq_42 (zby_at (j := 12) zbX6_acrossFrom_0 rfl)
theorem dX6_acrossFrom_13 : decode cX6_acrossFrom 13 = .ok (.getfield 44, 3) := dq_180 (zby_at (j := 13) zbX6_acrossFrom_0 rfl) (zby_at (j := 14) zbX6_acrossFrom_0 rfl) (zby_at (j := 15) zbX6_acrossFrom_0 rfl)
theorem zbX6_acrossFrom_1 : zby cX6_acrossFrom 16 20 = [27, 46, 28, 160, 0, 10, 42, 180, 0, 47, 27, 46, 172, 42, 180, 0, 47, 27, 46, 28] := by decide +kernel
theorem dX6_acrossFrom_16 : decode cX6_acrossFrom 16 = .ok (.iload_n 1, 1) := dq_27 (zby_at (j := 0) zbX6_acrossFrom_1 rfl)
theorem dX6_acrossFrom_17 : decode cX6_acrossFrom 17 = .ok (.iaload, 1) := dq_46 (zby_at (j := 1) zbX6_acrossFrom_1 rfl)
theorem dX6_acrossFrom_18 : decode cX6_acrossFrom 18 = .ok (.iload_n 2, 1) := dq_28 (zby_at (j := 2) zbX6_acrossFrom_1 rfl)
theorem dX6_acrossFrom_19 : decode cX6_acrossFrom 19 = .ok (.if_icmp .ne 10, 3) := dq_160 (zby_at (j := 3) zbX6_acrossFrom_1 rfl) (zby_at (j := 4) zbX6_acrossFrom_1 rfl) (zby_at (j := 5) zbX6_acrossFrom_1 rfl) rfl
theorem dX6_acrossFrom_22 : decode cX6_acrossFrom 22 = .ok (.aload_n 0, 1) := dq_42 (zby_at (j := 6) zbX6_acrossFrom_1 rfl)
theorem dX6_acrossFrom_23 : decode cX6_acrossFrom 23 = .ok (.getfield 47, 3) := dq_180 (zby_at (j := 7) zbX6_acrossFrom_1 rfl) (zby_at (j := 8) zbX6_acrossFrom_1 rfl) (zby_at (j := 9) zbX6_acrossFrom_1 rfl)
theorem dX6_acrossFrom_26 : decode cX6_acrossFrom 26 = .ok (.iload_n 1, 1) := dq_27 (zby_at (j := 10) zbX6_acrossFrom_1 rfl)
theorem dX6_acrossFrom_27 : decode cX6_acrossFrom 27 = .ok (.iaload, 1) := dq_46 (zby_at (j := 11) zbX6_acrossFrom_1 rfl)
theorem dX6_acrossFrom_28 : decode cX6_acrossFrom 28 = .ok (.ireturn, 1) := dq_172 (zby_at (j := 12) zbX6_acrossFrom_1 rfl)
theorem dX6_acrossFrom_29 : decode cX6_acrossFrom 29 = .ok (.aload_n 0, 1) := dq_42 (zby_at (j := 13) zbX6_acrossFrom_1 rfl)
theorem dX6_acrossFrom_30 : decode cX6_acrossFrom 30 = .ok (.getfield 47, 3) := dq_180 (zby_at (j := 14) zbX6_acrossFrom_1 rfl) (zby_at (j := 15) zbX6_acrossFrom_1 rfl) (zby_at (j := 16) zbX6_acrossFrom_1 rfl)
theorem zbX6_acrossFrom_2 : zby cX6_acrossFrom 32 20 = [47, 27, 46, 28, 160, 0, 12, 42, 180, 0, 44, 27, 46, 167, 0, 4, 2, 172] := by decide +kernel
theorem dX6_acrossFrom_33 : decode cX6_acrossFrom 33 = .ok (.iload_n 1, 1) := dq_27 (zby_at (j := 1) zbX6_acrossFrom_2 rfl)
theorem dX6_acrossFrom_34 : decode cX6_acrossFrom 34 = .ok (.iaload, 1) := dq_46 (zby_at (j := 2) zbX6_acrossFrom_2 rfl)
theorem dX6_acrossFrom_35 : decode cX6_acrossFrom 35 = .ok (.iload_n 2, 1) := dq_28 (zby_at (j := 3) zbX6_acrossFrom_2 rfl)
theorem dX6_acrossFrom_36 : decode cX6_acrossFrom 36 = .ok (.if_icmp .ne 12, 3) := dq_160 (zby_at (j := 4) zbX6_acrossFrom_2 rfl) (zby_at (j := 5) zbX6_acrossFrom_2 rfl) (zby_at (j := 6) zbX6_acrossFrom_2 rfl) rfl
theorem dX6_acrossFrom_39 : decode cX6_acrossFrom 39 = .ok (.aload_n 0, 1) := dq_42 (zby_at (j := 7) zbX6_acrossFrom_2 rfl)
theorem dX6_acrossFrom_40 : decode cX6_acrossFrom 40 = .ok (.getfield 44, 3) := dq_180 (zby_at (j := 8) zbX6_acrossFrom_2 rfl) (zby_at (j := 9) zbX6_acrossFrom_2 rfl) (zby_at (j := 10) zbX6_acrossFrom_2 rfl)
theorem dX6_acrossFrom_43 : decode cX6_acrossFrom 43 = .ok (.iload_n 1, 1) := dq_27 (zby_at (j := 11) zbX6_acrossFrom_2 rfl)
theorem dX6_acrossFrom_44 : decode cX6_acrossFrom 44 = .ok (.iaload, 1) := dq_46 (zby_at (j := 12) zbX6_acrossFrom_2 rfl)
theorem dX6_acrossFrom_45 : decode cX6_acrossFrom 45 = .ok (.goto 4, 3) := dq_167 (zby_at (j := 13) zbX6_acrossFrom_2 rfl) (zby_at (j := 14) zbX6_acrossFrom_2 rfl) (zby_at (j := 15) zbX6_acrossFrom_2 rfl) rfl
theorem zbX6_acrossFrom_3 : zby cX6_acrossFrom 48 20 = [2, 172] := by decide +kernel
theorem dX6_acrossFrom_48 : decode cX6_acrossFrom 48 = .ok (.iconst (-1), 1) := dq_2 (zby_at (j := 0) zbX6_acrossFrom_3 rfl)
theorem dX6_acrossFrom_49 : decode cX6_acrossFrom 49 = .ok (.ireturn, 1) := dq_172 (zby_at (j := 1) zbX6_acrossFrom_3 rfl)
theorem zbX6_findSets_0 : zby cX6_findSets 0 20 = [45, 182, 0, 15, 43, 4, 43, 180, 0, 28, 120, 4, 100, 184, 0, 50, 54, 4, 3, 54] := by decide +kernel
theorem dX6_findSets_0 : decode cX6_findSets 0 = .ok (.aload_n 3, 1) := dq_45 (zby_at (j := 0) zbX6_findSets_0 rfl)
theorem dX6_findSets_1 : decode cX6_findSets 1 = .ok (.invokevirtual 15, 3) := dq_182 (zby_at (j := 1) zbX6_findSets_0 rfl) (zby_at (j := 2) zbX6_findSets_0 rfl) (zby_at (j := 3) zbX6_findSets_0 rfl)
theorem dX6_findSets_4 : decode cX6_findSets 4 = .ok (.aload_n 1, 1) := dq_43 (zby_at (j := 4) zbX6_findSets_0 rfl)
theorem dX6_findSets_5 : decode cX6_findSets 5 = .ok (.iconst 1, 1) := dq_4 (zby_at (j := 5) zbX6_findSets_0 rfl)
theorem dX6_findSets_6 : decode cX6_findSets 6 = .ok (.aload_n 1, 1) := dq_43 (zby_at (j := 6) zbX6_findSets_0 rfl)
theorem dX6_findSets_7 : decode cX6_findSets 7 = .ok (.getfield 28, 3) := dq_180 (zby_at (j := 7) zbX6_findSets_0 rfl) (zby_at (j := 8) zbX6_findSets_0 rfl) (zby_at (j := 9) zbX6_findSets_0 rfl)
theorem dX6_findSets_10 : decode cX6_findSets 10 = .ok (.ishl, 1) := dq_120 (zby_at (j := 10) zbX6_findSets_0 rfl)
theorem dX6_findSets_11 : decode cX6_findSets 11 = .ok (.iconst 1, 1) := dq_4 (zby_at (j := 11) zbX6_findSets_0 rfl)
theorem dX6_findSets_12 : decode cX6_findSets 12 = .ok (.isub, 1) := dq_100 (zby_at (j := 12) zbX6_findSets_0 rfl)
theorem dX6_findSets_13 : decode cX6_findSets 13 = .ok (.invokestatic 50, 3) := dq_184 (zby_at (j := 13) zbX6_findSets_0 rfl) (zby_at (j := 14) zbX6_findSets_0 rfl) (zby_at (j := 15) zbX6_findSets_0 rfl)
theorem zbX6_findSets_1 : zby cX6_findSets 16 20 = [54, 4, 3, 54, 5, 21, 5, 4, 43, 180, 0, 28, 120, 162, 0, 36, 21, 5, 17, 4] := by decide +kernel
theorem dX6_findSets_16 : decode cX6_findSets 16 = .ok (.istore 4, 2) := dq_54 (zby_at (j := 0) zbX6_findSets_1 rfl) (zby_at (j := 1) zbX6_findSets_1 rfl)
theorem dX6_findSets_18 : decode cX6_findSets 18 = .ok (.iconst 0, 1) := dq_3 (zby_at (j := 2) zbX6_findSets_1 rfl)
theorem dX6_findSets_19 : decode cX6_findSets 19 = .ok (.istore 5, 2) := dq_54 (zby_at (j := 3) zbX6_findSets_1 rfl) (zby_at (j := 4) zbX6_findSets_1 rfl)
theorem dX6_findSets_21 : decode cX6_findSets 21 = .ok (.iload 5, 2) := dq_21 (zby_at (j := 5) zbX6_findSets_1 rfl) (zby_at (j := 6) zbX6_findSets_1 rfl)
theorem dX6_findSets_23 : decode cX6_findSets 23 = .ok (.iconst 1, 1) := dq_4 (zby_at (j := 7) zbX6_findSets_1 rfl)
theorem dX6_findSets_24 : decode cX6_findSets 24 = .ok (.aload_n 1, 1) := dq_43 (zby_at (j := 8) zbX6_findSets_1 rfl)
theorem dX6_findSets_25 : decode cX6_findSets 25 = .ok (.getfield 28, 3) := dq_180 (zby_at (j := 9) zbX6_findSets_1 rfl) (zby_at (j := 10) zbX6_findSets_1 rfl) (zby_at (j := 11) zbX6_findSets_1 rfl)
theorem dX6_findSets_28 : decode cX6_findSets 28 = .ok (.ishl, 1) := dq_120 (zby_at (j := 12) zbX6_findSets_1 rfl)
theorem dX6_findSets_29 : decode cX6_findSets 29 = .ok (.if_icmp .ge 36, 3) := dq_162 (zby_at (j := 13) zbX6_findSets_1 rfl) (zby_at (j := 14) zbX6_findSets_1 rfl) (zby_at (j := 15) zbX6_findSets_1 rfl) rfl
theorem zbX6_findSets_2 : zby cX6_findSets 32 20 = [21, 5, 17, 4, 0, 162, 0, 28, 42, 43, 28, 21, 5, 21, 4, 182, 0, 54, 153, 0] := by decide +kernel
theorem dX6_findSets_32 : decode cX6_findSets 32 = .ok (.iload 5, 2) := dq_21 (zby_at (j := 0) zbX6_findSets_2 rfl) (zby_at (j := 1) zbX6_findSets_2 rfl)
theorem dX6_findSets_34 : decode cX6_findSets 34 = .ok (.sipush 1024, 3) := dq_17 (zby_at (j := 2) zbX6_findSets_2 rfl) (zby_at (j := 3) zbX6_findSets_2 rfl) (zby_at (j := 4) zbX6_findSets_2 rfl) rfl
theorem dX6_findSets_37 : decode cX6_findSets 37 = .ok (.if_icmp .ge 28, 3) := dq_162 (zby_at (j := 5) zbX6_findSets_2 rfl) (zby_at (j := 6) zbX6_findSets_2 rfl) (zby_at (j := 7) zbX6_findSets_2 rfl) rfl
theorem dX6_findSets_40 : decode cX6_findSets 40 = .ok (.aload_n 0, 1) := dq_42 (zby_at (j := 8) zbX6_findSets_2 rfl)
theorem dX6_findSets_41 : decode cX6_findSets 41 = .ok (.aload_n 1, 1) := dq_43 (zby_at (j := 9) zbX6_findSets_2 rfl)
theorem dX6_findSets_42 : decode cX6_findSets 42 = .ok (.iload_n 2, 1) := dq_28 (zby_at (j := 10) zbX6_findSets_2 rfl)
theorem dX6_findSets_43 : decode cX6_findSets 43 = .ok (.iload 5, 2) := dq_21 (zby_at (j := 11) zbX6_findSets_2 rfl) (zby_at (j := 12) zbX6_findSets_2 rfl)
theorem dX6_findSets_45 : decode cX6_findSets 45 = .ok (.iload 4, 2) := dq_21 (zby_at (j := 13) zbX6_findSets_2 rfl) (zby_at (j := 14) zbX6_findSets_2 rfl)
theorem dX6_findSets_47 : decode cX6_findSets 47 = .ok (.invokevirtual 54, 3) := dq_182 (zby_at (j := 15) zbX6_findSets_2 rfl) (zby_at (j := 16) zbX6_findSets_2 rfl) (zby_at (j := 17) zbX6_findSets_2 rfl)
theorem zbX6_findSets_3 : zby cX6_findSets 48 20 = [0, 54, 153, 0, 9, 45, 21, 5, 182, 0, 20, 132, 5, 1, 167, 255, 215, 177] := by decide +kernel
theorem dX6_findSets_50 : decode cX6_findSets 50 = .ok (.ifCond .eq 9, 3) := dq_153 (zby_at (j := 2) zbX6_findSets_3 rfl) (zby_at (j := 3) zbX6_findSets_3 rfl) (zby_at (j := 4) zbX6_findSets_3 rfl) rfl
theorem dX6_findSets_53 : decode cX6_findSets 53 = .ok (.aload_n 3, 1) := dq_45 (zby_at (j := 5) zbX6_findSets_3 rfl)
theorem dX6_findSets_54 : decode cX6_findSets 54 = .ok (.iload 5, 2) := dq_21 (zby_at (j := 6) zbX6_findSets_3 rfl) (zby_at (j := 7) zbX6_findSets_3 rfl)
theorem dX6_findSets_56 : decode cX6_findSets 56 = .ok (.invokevirtual 20, 3) := dq_182 (zby_at (j := 8) zbX6_findSets_3 rfl) (zby_at (j := 9) zbX6_findSets_3 rfl) (zby_at (j := 10) zbX6_findSets_3 rfl)
theorem dX6_findSets_59 : decode cX6_findSets 59 = .ok (.iinc 5 1, 3) := dq_132 (zby_at (j := 11) zbX6_findSets_3 rfl) (zby_at (j := 12) zbX6_findSets_3 rfl) (zby_at (j := 13) zbX6_findSets_3 rfl) rfl
theorem dX6_findSets_62 : decode cX6_findSets 62 = .ok (.goto (-41), 3) := dq_167 (zby_at (j := 14) zbX6_findSets_3 rfl) (zby_at (j := 15) zbX6_findSets_3 rfl) (zby_at (j := 16) zbX6_findSets_3 rfl) rfl
theorem zbX6_findSets_4 : zby cX6_findSets 64 20 = [215, 177] := by decide +kernel
theorem dX6_findSets_65 : decode cX6_findSets 65 = .ok (.return_, 1) := dq_177 (zby_at (j := 1) zbX6_findSets_4 rfl)
theorem zbX6_isOneOf_0 : zby cX6_isOneOf 0 20 = [21, 4, 184, 0, 38, 54, 5, 29, 184, 0, 38, 54, 6, 28, 171, 0, 0, 0, 0, 75] := by decide +kernel
theorem dX6_isOneOf_0 : decode cX6_isOneOf 0 = .ok (.iload 4, 2) := dq_21 (zby_at (j := 0) zbX6_isOneOf_0 rfl) (zby_at (j := 1) zbX6_isOneOf_0 rfl)
theorem dX6_isOneOf_2 : decode cX6_isOneOf 2 = .ok (.invokestatic 38, 3) := dq_184 (zby_at (j := 2) zbX6_isOneOf_0 rfl) (zby_at (j := 3) zbX6_isOneOf_0 rfl) (zby_at (j := 4) zbX6_isOneOf_0 rfl)
theorem dX6_isOneOf_5 : decode cX6_isOneOf 5 = .ok (.istore 5, 2) := dq_54 (zby_at (j := 5) zbX6_isOneOf_0 rfl) (zby_at (j := 6) zbX6_isOneOf_0 rfl)
theorem dX6_isOneOf_7 : decode cX6_isOneOf 7 = .ok (.iload_n 3, 1) := dq_29 (zby_at (j := 7) zbX6_isOneOf_0 rfl)
theorem dX6_isOneOf_8 : decode cX6_isOneOf 8 = .ok (.invokestatic 38, 3) := dq_184 (zby_at (j := 8) zbX6_isOneOf_0 rfl) (zby_at (j := 9) zbX6_isOneOf_0 rfl) (zby_at (j := 10) zbX6_isOneOf_0 rfl)
theorem dX6_isOneOf_11 : decode cX6_isOneOf 11 = .ok (.istore 6, 2) := dq_54 (zby_at (j := 11) zbX6_isOneOf_0 rfl) (zby_at (j := 12) zbX6_isOneOf_0 rfl)
theorem dX6_isOneOf_13 : decode cX6_isOneOf 13 = .ok (.iload_n 2, 1) := dq_28 (zby_at (j := 13) zbX6_isOneOf_0 rfl)
theorem dX6_isOneOf_14 : decode cX6_isOneOf 14 = .ok (.lookupswitch 75 #[(0, 26), (1, 54)], 26) := by decide +kernel
theorem zbX6_isOneOf_2 : zby cX6_isOneOf 32 20 = [0, 0, 0, 1, 0, 0, 0, 54, 21, 6, 3, 21, 5, 4, 100, 184, 0, 58, 160, 0] := by decide +kernel
theorem dX6_isOneOf_40 : decode cX6_isOneOf 40 = .ok (.iload 6, 2) := dq_21 (zby_at (j := 8) zbX6_isOneOf_2 rfl) (zby_at (j := 9) zbX6_isOneOf_2 rfl)
theorem dX6_isOneOf_42 : decode cX6_isOneOf 42 = .ok (.iconst 0, 1) := dq_3 (zby_at (j := 10) zbX6_isOneOf_2 rfl)
theorem dX6_isOneOf_43 : decode cX6_isOneOf 43 = .ok (.iload 5, 2) := dq_21 (zby_at (j := 11) zbX6_isOneOf_2 rfl) (zby_at (j := 12) zbX6_isOneOf_2 rfl)
theorem dX6_isOneOf_45 : decode cX6_isOneOf 45 = .ok (.iconst 1, 1) := dq_4 (zby_at (j := 13) zbX6_isOneOf_2 rfl)
theorem dX6_isOneOf_46 : decode cX6_isOneOf 46 = .ok (.isub, 1) := dq_100 (zby_at (j := 14) zbX6_isOneOf_2 rfl)
theorem dX6_isOneOf_47 : decode cX6_isOneOf 47 = .ok (.invokestatic 58, 3) := dq_184 (zby_at (j := 15) zbX6_isOneOf_2 rfl) (zby_at (j := 16) zbX6_isOneOf_2 rfl) (zby_at (j := 17) zbX6_isOneOf_2 rfl)
theorem zbX6_isOneOf_3 : zby cX6_isOneOf 48 20 = [0, 58, 160, 0, 16, 42, 43, 29, 182, 0, 64, 153, 0, 7, 4, 167, 0, 4, 3, 172] := by decide +kernel
theorem dX6_isOneOf_50 : decode cX6_isOneOf 50 = .ok (.if_icmp .ne 16, 3) := dq_160 (zby_at (j := 2) zbX6_isOneOf_3 rfl) (zby_at (j := 3) zbX6_isOneOf_3 rfl) (zby_at (j := 4) zbX6_isOneOf_3 rfl) rfl
theorem dX6_isOneOf_53 : decode cX6_isOneOf 53 = .ok (.aload_n 0, 1) := dq_42 (zby_at (j := 5) zbX6_isOneOf_3 rfl)
theorem dX6_isOneOf_54 : decode cX6_isOneOf 54 = .ok (.aload_n 1, 1) := dq_43 (zby_at (j := 6) zbX6_isOneOf_3 rfl)
theorem dX6_isOneOf_55 : decode cX6_isOneOf 55 = .ok (.iload_n 3, 1) := dq_29 (zby_at (j := 7) zbX6_isOneOf_3 rfl)
theorem dX6_isOneOf_56 : decode cX6_isOneOf 56 = .ok (.invokevirtual 64, 3) := dq_182 (zby_at (j := 8) zbX6_isOneOf_3 rfl) (zby_at (j := 9) zbX6_isOneOf_3 rfl) (zby_at (j := 10) zbX6_isOneOf_3 rfl)
theorem dX6_isOneOf_59 : decode cX6_isOneOf 59 = .ok (.ifCond .eq 7, 3) := dq_153 (zby_at (j := 11) zbX6_isOneOf_3 rfl) (zby_at (j := 12) zbX6_isOneOf_3 rfl) (zby_at (j := 13) zbX6_isOneOf_3 rfl) rfl
theorem dX6_isOneOf_62 : decode cX6_isOneOf 62 = .ok (.iconst 1, 1) := dq_4 (zby_at (j := 14) zbX6_isOneOf_3 rfl)
theorem dX6_isOneOf_63 : decode cX6_isOneOf 63 = .ok (.goto 4, 3) := dq_167 (zby_at (j := 15) zbX6_isOneOf_3 rfl) (zby_at (j := 16) zbX6_isOneOf_3 rfl) (zby_at (j := 17) zbX6_isOneOf_3 rfl) rfl
theorem zbX6_isOneOf_4 : zby cX6_isOneOf 64 20 = [0, 4, 3, 172, 43, 29, 184, 0, 50, 184, 0, 38, 5, 21, 6, 104, 160, 0, 7, 4] := by decide +kernel
theorem dX6_isOneOf_66 : decode cX6_isOneOf 66 = .ok (.iconst 0, 1) := dq_3 (zby_at (j := 2) zbX6_isOneOf_4 rfl)
theorem dX6_isOneOf_67 : decode cX6_isOneOf 67 = .ok (.ireturn, 1) := dq_172 (zby_at (j := 3) zbX6_isOneOf_4 rfl)
theorem dX6_isOneOf_68 : decode cX6_isOneOf 68 = .ok (.aload_n 1, 1) := dq_43 (zby_at (j := 4) zbX6_isOneOf_4 rfl)
theorem dX6_isOneOf_69 : decode cX6_isOneOf 69 = .ok (.iload_n 3, 1) := dq_29 (zby_at (j := 5) zbX6_isOneOf_4 rfl)
theorem dX6_isOneOf_70 : decode cX6_isOneOf 70 = .ok (.invokestatic 50, 3) := dq_184 (zby_at (j := 6) zbX6_isOneOf_4 rfl) (zby_at (j := 7) zbX6_isOneOf_4 rfl) (zby_at (j := 8) zbX6_isOneOf_4 rfl)
theorem dX6_isOneOf_73 : decode cX6_isOneOf 73 = .ok (.invokestatic 38, 3) := dq_184 (zby_at (j := 9) zbX6_isOneOf_4 rfl) (zby_at (j := 10) zbX6_isOneOf_4 rfl) (zby_at (j := 11) zbX6_isOneOf_4 rfl)
theorem dX6_isOneOf_76 : decode cX6_isOneOf 76 = .ok (.iconst 2, 1) := dq_5 (zby_at (j := 12) zbX6_isOneOf_4 rfl)
theorem dX6_isOneOf_77 : decode cX6_isOneOf 77 = .ok (.iload 6, 2) := dq_21 (zby_at (j := 13) zbX6_isOneOf_4 rfl) (zby_at (j := 14) zbX6_isOneOf_4 rfl)
theorem dX6_isOneOf_79 : decode cX6_isOneOf 79 = .ok (.imul, 1) := dq_104 (zby_at (j := 15) zbX6_isOneOf_4 rfl)
theorem zbX6_isOneOf_5 : zby cX6_isOneOf 80 20 = [160, 0, 7, 4, 167, 0, 4, 3, 172, 43, 29, 184, 0, 50, 21, 4, 160, 0, 7, 4] := by decide +kernel
theorem dX6_isOneOf_80 : decode cX6_isOneOf 80 = .ok (.if_icmp .ne 7, 3) := dq_160 (zby_at (j := 0) zbX6_isOneOf_5 rfl) (zby_at (j := 1) zbX6_isOneOf_5 rfl) (zby_at (j := 2) zbX6_isOneOf_5 rfl) rfl
theorem dX6_isOneOf_83 : decode cX6_isOneOf 83 = .ok (.iconst 1, 1) := dq_4 (zby_at (j := 3) zbX6_isOneOf_5 rfl)
theorem dX6_isOneOf_84 : decode cX6_isOneOf 84 = .ok (.goto 4, 3) := dq_167 (zby_at (j := 4) zbX6_isOneOf_5 rfl) (zby_at (j := 5) zbX6_isOneOf_5 rfl) (zby_at (j := 6) zbX6_isOneOf_5 rfl) rfl
theorem dX6_isOneOf_87 : decode cX6_isOneOf 87 = .ok (.iconst 0, 1) := dq_3 (zby_at (j := 7) zbX6_isOneOf_5 rfl)
theorem dX6_isOneOf_88 : decode cX6_isOneOf 88 = .ok (.ireturn, 1) := dq_172 (zby_at (j := 8) zbX6_isOneOf_5 rfl)
theorem dX6_isOneOf_89 : decode cX6_isOneOf 89 = .ok (.aload_n 1, 1) := dq_43 (zby_at (j := 9) zbX6_isOneOf_5 rfl)
theorem dX6_isOneOf_90 : decode cX6_isOneOf 90 = .ok (.iload_n 3, 1) := dq_29 (zby_at (j := 10) zbX6_isOneOf_5 rfl)
theorem dX6_isOneOf_91 : decode cX6_isOneOf 91 = .ok (.invokestatic 50, 3) := dq_184 (zby_at (j := 11) zbX6_isOneOf_5 rfl) (zby_at (j := 12) zbX6_isOneOf_5 rfl) (zby_at (j := 13) zbX6_isOneOf_5 rfl)
theorem dX6_isOneOf_94 : decode cX6_isOneOf 94 = .ok (.iload 4, 2) := dq_21 (zby_at (j := 14) zbX6_isOneOf_5 rfl) (zby_at (j := 15) zbX6_isOneOf_5 rfl)
theorem zbX6_isOneOf_6 : zby cX6_isOneOf 96 20 = [160, 0, 7, 4, 167, 0, 4, 3, 172] := by decide +kernel
theorem dX6_isOneOf_96 : decode cX6_isOneOf 96 = .ok (.if_icmp .ne 7, 3) := dq_160 (zby_at (j := 0) zbX6_isOneOf_6 rfl) (zby_at (j := 1) zbX6_isOneOf_6 rfl) (zby_at (j := 2) zbX6_isOneOf_6 rfl) rfl
theorem dX6_isOneOf_99 : decode cX6_isOneOf 99 = .ok (.iconst 1, 1) := dq_4 (zby_at (j := 3) zbX6_isOneOf_6 rfl)
theorem dX6_isOneOf_100 : decode cX6_isOneOf 100 = .ok (.goto 4, 3) := dq_167 (zby_at (j := 4) zbX6_isOneOf_6 rfl) (zby_at (j := 5) zbX6_isOneOf_6 rfl) (zby_at (j := 6) zbX6_isOneOf_6 rfl) rfl
theorem dX6_isOneOf_103 : decode cX6_isOneOf 103 = .ok (.iconst 0, 1) := dq_3 (zby_at (j := 7) zbX6_isOneOf_6 rfl)
theorem dX6_isOneOf_104 : decode cX6_isOneOf 104 = .ok (.ireturn, 1) := dq_172 (zby_at (j := 8) zbX6_isOneOf_6 rfl)
theorem zbX6_touchedBy_0 : zby cX6_touchedBy 0 20 = [3, 61, 3, 62, 29, 42, 180, 0, 28, 162, 0, 43, 29, 16, 10, 162, 0, 37, 27, 29] := by decide +kernel
theorem dX6_touchedBy_0 : decode cX6_touchedBy 0 = .ok (.iconst 0, 1) := dq_3 (zby_at (j := 0) zbX6_touchedBy_0 rfl)
theorem dX6_touchedBy_1 : decode cX6_touchedBy 1 = .ok (.istore_n 2, 1) := dq_61 (zby_at (j := 1) zbX6_touchedBy_0 rfl)
theorem dX6_touchedBy_2 : decode cX6_touchedBy 2 = .ok (.iconst 0, 1) := dq_3 (zby_at (j := 2) zbX6_touchedBy_0 rfl)
theorem dX6_touchedBy_3 : decode cX6_touchedBy 3 = .ok (.istore_n 3, 1) := dq_62 (zby_at (j := 3) zbX6_touchedBy_0 rfl)
theorem dX6_touchedBy_4 : decode cX6_touchedBy 4 = .ok (.iload_n 3, 1) := dq_29 (zby_at (j := 4) zbX6_touchedBy_0 rfl)
theorem dX6_touchedBy_5 : decode cX6_touchedBy 5 = .ok (.aload_n 0, 1) := dq_42 (zby_at (j := 5) zbX6_touchedBy_0 rfl)
theorem dX6_touchedBy_6 : decode cX6_touchedBy 6 = .ok (.getfield 28, 3) := dq_180 (zby_at (j := 6) zbX6_touchedBy_0 rfl) (zby_at (j := 7) zbX6_touchedBy_0 rfl) (zby_at (j := 8) zbX6_touchedBy_0 rfl)
theorem dX6_touchedBy_9 : decode cX6_touchedBy 9 = .ok (.if_icmp .ge 43, 3) := dq_162 (zby_at (j := 9) zbX6_touchedBy_0 rfl) (zby_at (j := 10) zbX6_touchedBy_0 rfl) (zby_at (j := 11) zbX6_touchedBy_0 rfl) rfl
theorem dX6_touchedBy_12 : decode cX6_touchedBy 12 = .ok (.iload_n 3, 1) := dq_29 (zby_at (j := 12) zbX6_touchedBy_0 rfl)
theorem dX6_touchedBy_13 : decode cX6_touchedBy 13 = .ok (.bipush 10, 2) := dq_16 (zby_at (j := 13) zbX6_touchedBy_0 rfl) (zby_at (j := 14) zbX6_touchedBy_0 rfl) rfl
theorem dX6_touchedBy_15 : decode cX6_touchedBy 15 = .ok (.if_icmp .ge 37, 3) := dq_162 (zby_at (j := 15) zbX6_touchedBy_0 rfl) (zby_at (j := 16) zbX6_touchedBy_0 rfl) (zby_at (j := 17) zbX6_touchedBy_0 rfl) rfl
theorem zbX6_touchedBy_1 : zby cX6_touchedBy 16 20 = [0, 37, 27, 29, 122, 4, 126, 153, 0, 23, 28, 4, 42, 180, 0, 44, 29, 46, 120, 4] := by decide +kernel
theorem dX6_touchedBy_18 : decode cX6_touchedBy 18 = .ok (.iload_n 1, 1) := dq_27 (zby_at (j := 2) zbX6_touchedBy_1 rfl)
theorem dX6_touchedBy_19 : decode cX6_touchedBy 19 = .ok (.iload_n 3, 1) := dq_29 (zby_at (j := 3) zbX6_touchedBy_1 rfl)
theorem dX6_touchedBy_20 : decode cX6_touchedBy 20 = .ok (.ishr, 1) := dq_122 (zby_at (j := 4) zbX6_touchedBy_1 rfl)
theorem dX6_touchedBy_21 : decode cX6_touchedBy 21 = .ok (.iconst 1, 1) := dq_4 (zby_at (j := 5) zbX6_touchedBy_1 rfl)
theorem dX6_touchedBy_22 : decode cX6_touchedBy 22 = .ok (.iand, 1) := dq_126 (zby_at (j := 6) zbX6_touchedBy_1 rfl)
theorem dX6_touchedBy_23 : decode cX6_touchedBy 23 = .ok (.ifCond .eq 23, 3) := dq_153 (zby_at (j := 7) zbX6_touchedBy_1 rfl) (zby_at (j := 8) zbX6_touchedBy_1 rfl) (zby_at (j := 9) zbX6_touchedBy_1 rfl) rfl
theorem dX6_touchedBy_26 : decode cX6_touchedBy 26 = .ok (.iload_n 2, 1) := dq_28 (zby_at (j := 10) zbX6_touchedBy_1 rfl)
theorem dX6_touchedBy_27 : decode cX6_touchedBy 27 = .ok (.iconst 1, 1) := dq_4 (zby_at (j := 11) zbX6_touchedBy_1 rfl)
theorem dX6_touchedBy_28 : decode cX6_touchedBy 28 = .ok (.aload_n 0, 1) := dq_42 (zby_at (j := 12) zbX6_touchedBy_1 rfl)
theorem dX6_touchedBy_29 : decode cX6_touchedBy 29 = .ok (.getfield 44, 3) := dq_180 (zby_at (j := 13) zbX6_touchedBy_1 rfl) (zby_at (j := 14) zbX6_touchedBy_1 rfl) (zby_at (j := 15) zbX6_touchedBy_1 rfl)
theorem zbX6_touchedBy_2 : zby cX6_touchedBy 32 20 = [29, 46, 120, 4, 42, 180, 0, 47, 29, 46, 120, 128, 128, 61, 132, 3, 1, 167, 255, 211] := by decide +kernel
theorem dX6_touchedBy_32 : decode cX6_touchedBy 32 = .ok (.iload_n 3, 1) := dq_29 (zby_at (j := 0) zbX6_touchedBy_2 rfl)
theorem dX6_touchedBy_33 : decode cX6_touchedBy 33 = .ok (.iaload, 1) := dq_46 (zby_at (j := 1) zbX6_touchedBy_2 rfl)
theorem dX6_touchedBy_34 : decode cX6_touchedBy 34 = .ok (.ishl, 1) := dq_120 (zby_at (j := 2) zbX6_touchedBy_2 rfl)
theorem dX6_touchedBy_35 : decode cX6_touchedBy 35 = .ok (.iconst 1, 1) := dq_4 (zby_at (j := 3) zbX6_touchedBy_2 rfl)
theorem dX6_touchedBy_36 : decode cX6_touchedBy 36 = .ok (.aload_n 0, 1) := dq_42 (zby_at (j := 4) zbX6_touchedBy_2 rfl)
theorem dX6_touchedBy_37 : decode cX6_touchedBy 37 = .ok (.getfield 47, 3) := dq_180 (zby_at (j := 5) zbX6_touchedBy_2 rfl) (zby_at (j := 6) zbX6_touchedBy_2 rfl) (zby_at (j := 7) zbX6_touchedBy_2 rfl)
theorem dX6_touchedBy_40 : decode cX6_touchedBy 40 = .ok (.iload_n 3, 1) := dq_29 (zby_at (j := 8) zbX6_touchedBy_2 rfl)
theorem dX6_touchedBy_41 : decode cX6_touchedBy 41 = .ok (.iaload, 1) := dq_46 (zby_at (j := 9) zbX6_touchedBy_2 rfl)
theorem dX6_touchedBy_42 : decode cX6_touchedBy 42 = .ok (.ishl, 1) := dq_120 (zby_at (j := 10) zbX6_touchedBy_2 rfl)
theorem dX6_touchedBy_43 : decode cX6_touchedBy 43 = .ok (.ior, 1) := dq_128 (zby_at (j := 11) zbX6_touchedBy_2 rfl)
theorem dX6_touchedBy_44 : decode cX6_touchedBy 44 = .ok (.ior, 1) := dq_128 (zby_at (j := 12) zbX6_touchedBy_2 rfl)
theorem dX6_touchedBy_45 : decode cX6_touchedBy 45 = .ok (.istore_n 2, 1) := dq_61 (zby_at (j := 13) zbX6_touchedBy_2 rfl)
theorem dX6_touchedBy_46 : decode cX6_touchedBy 46 = .ok (.iinc 3 1, 3) := dq_132 (zby_at (j := 14) zbX6_touchedBy_2 rfl) (zby_at (j := 15) zbX6_touchedBy_2 rfl) (zby_at (j := 16) zbX6_touchedBy_2 rfl) rfl
theorem zbX6_touchedBy_3 : zby cX6_touchedBy 48 20 = [1, 167, 255, 211, 28, 172] := by decide +kernel
theorem dX6_touchedBy_49 : decode cX6_touchedBy 49 = .ok (.goto (-45), 3) := dq_167 (zby_at (j := 1) zbX6_touchedBy_3 rfl) (zby_at (j := 2) zbX6_touchedBy_3 rfl) (zby_at (j := 3) zbX6_touchedBy_3 rfl) rfl
theorem dX6_touchedBy_52 : decode cX6_touchedBy 52 = .ok (.iload_n 2, 1) := dq_28 (zby_at (j := 4) zbX6_touchedBy_3 rfl)
theorem dX6_touchedBy_53 : decode cX6_touchedBy 53 = .ok (.ireturn, 1) := dq_172 (zby_at (j := 5) zbX6_touchedBy_3 rfl)
theorem zbX6_isWithoutRing_0 : zby cX6_isWithoutRing 0 20 = [3, 62, 29, 16, 8, 162, 0, 16, 42, 180, 0, 9, 29, 29, 79, 132, 3, 1, 167, 255] := by decide +kernel
theorem dX6_isWithoutRing_0 : decode cX6_isWithoutRing 0 = .ok (.iconst 0, 1) := dq_3 (zby_at (j := 0) zbX6_isWithoutRing_0 rfl)
theorem dX6_isWithoutRing_1 : decode cX6_isWithoutRing 1 = .ok (.istore_n 3, 1) := dq_62 (zby_at (j := 1) zbX6_isWithoutRing_0 rfl)
theorem dX6_isWithoutRing_2 : decode cX6_isWithoutRing 2 = .ok (.iload_n 3, 1) := dq_29 (zby_at (j := 2) zbX6_isWithoutRing_0 rfl)
theorem dX6_isWithoutRing_3 : decode cX6_isWithoutRing 3 = .ok (.bipush 8, 2) := dq_16 (zby_at (j := 3) zbX6_isWithoutRing_0 rfl) (zby_at (j := 4) zbX6_isWithoutRing_0 rfl) rfl
theorem dX6_isWithoutRing_5 : decode cX6_isWithoutRing 5 = .ok (.if_icmp .ge 16, 3) := dq_162 (zby_at (j := 5) zbX6_isWithoutRing_0 rfl) (zby_at (j := 6) zbX6_isWithoutRing_0 rfl) (zby_at (j := 7) zbX6_isWithoutRing_0 rfl) rfl
theorem dX6_isWithoutRing_8 : decode cX6_isWithoutRing 8 = .ok (.aload_n 0, 1) := dq_42 (zby_at (j := 8) zbX6_isWithoutRing_0 rfl)
theorem dX6_isWithoutRing_9 : decode cX6_isWithoutRing 9 = .ok (.getfield 9, 3) := dq_180 (zby_at (j := 9) zbX6_isWithoutRing_0 rfl) (zby_at (j := 10) zbX6_isWithoutRing_0 rfl) (zby_at (j := 11) zbX6_isWithoutRing_0 rfl)
theorem dX6_isWithoutRing_12 : decode cX6_isWithoutRing 12 = .ok (.iload_n 3, 1) := dq_29 (zby_at (j := 12) zbX6_isWithoutRing_0 rfl)
theorem dX6_isWithoutRing_13 : decode cX6_isWithoutRing 13 = .ok (.iload_n 3, 1) := dq_29 (zby_at (j := 13) zbX6_isWithoutRing_0 rfl)
theorem dX6_isWithoutRing_14 : decode cX6_isWithoutRing 14 = .ok (.iastore, 1) := dq_79 (zby_at (j := 14) zbX6_isWithoutRing_0 rfl)
theorem dX6_isWithoutRing_15 : decode cX6_isWithoutRing 15 = .ok (.iinc 3 1, 3) := dq_132 (zby_at (j := 15) zbX6_isWithoutRing_0 rfl) (zby_at (j := 16) zbX6_isWithoutRing_0 rfl) (zby_at (j := 17) zbX6_isWithoutRing_0 rfl) rfl
theorem zbX6_isWithoutRing_1 : zby cX6_isWithoutRing 16 20 = [3, 1, 167, 255, 240, 3, 62, 29, 43, 180, 0, 28, 162, 0, 44, 29, 16, 10, 162, 0] := by decide +kernel
theorem dX6_isWithoutRing_18 : decode cX6_isWithoutRing 18 = .ok (.goto (-16), 3) := dq_167 (zby_at (j := 2) zbX6_isWithoutRing_1 rfl) (zby_at (j := 3) zbX6_isWithoutRing_1 rfl) (zby_at (j := 4) zbX6_isWithoutRing_1 rfl) rfl
theorem dX6_isWithoutRing_21 : decode cX6_isWithoutRing 21 = .ok (.iconst 0, 1) := dq_3 (zby_at (j := 5) zbX6_isWithoutRing_1 rfl)
theorem dX6_isWithoutRing_22 : decode cX6_isWithoutRing 22 = .ok (.istore_n 3, 1) := dq_62 (zby_at (j := 6) zbX6_isWithoutRing_1 rfl)
theorem dX6_isWithoutRing_23 : decode cX6_isWithoutRing 23 = .ok (.iload_n 3, 1) := dq_29 (zby_at (j := 7) zbX6_isWithoutRing_1 rfl)
theorem dX6_isWithoutRing_24 : decode cX6_isWithoutRing 24 = .ok (.aload_n 1, 1) := dq_43 (zby_at (j := 8) zbX6_isWithoutRing_1 rfl)
theorem dX6_isWithoutRing_25 : decode cX6_isWithoutRing 25 = .ok (.getfield 28, 3) := dq_180 (zby_at (j := 9) zbX6_isWithoutRing_1 rfl) (zby_at (j := 10) zbX6_isWithoutRing_1 rfl) (zby_at (j := 11) zbX6_isWithoutRing_1 rfl)
theorem dX6_isWithoutRing_28 : decode cX6_isWithoutRing 28 = .ok (.if_icmp .ge 44, 3) := dq_162 (zby_at (j := 12) zbX6_isWithoutRing_1 rfl) (zby_at (j := 13) zbX6_isWithoutRing_1 rfl) (zby_at (j := 14) zbX6_isWithoutRing_1 rfl) rfl
theorem dX6_isWithoutRing_31 : decode cX6_isWithoutRing 31 = .ok (.iload_n 3, 1) := dq_29 (zby_at (j := 15) zbX6_isWithoutRing_1 rfl)
theorem zbX6_isWithoutRing_2 : zby cX6_isWithoutRing 32 20 = [16, 10, 162, 0, 38, 28, 29, 122, 4, 126, 153, 0, 24, 42, 43, 180, 0, 44, 29, 46] := by decide +kernel
theorem dX6_isWithoutRing_32 : decode cX6_isWithoutRing 32 = .ok (.bipush 10, 2) := dq_16 (zby_at (j := 0) zbX6_isWithoutRing_2 rfl) (zby_at (j := 1) zbX6_isWithoutRing_2 rfl) rfl
theorem dX6_isWithoutRing_34 : decode cX6_isWithoutRing 34 = .ok (.if_icmp .ge 38, 3) := dq_162 (zby_at (j := 2) zbX6_isWithoutRing_2 rfl) (zby_at (j := 3) zbX6_isWithoutRing_2 rfl) (zby_at (j := 4) zbX6_isWithoutRing_2 rfl) rfl
theorem dX6_isWithoutRing_37 : decode cX6_isWithoutRing 37 = .ok (.iload_n 2, 1) := dq_28 (zby_at (j := 5) zbX6_isWithoutRing_2 rfl)
theorem dX6_isWithoutRing_38 : decode cX6_isWithoutRing 38 = .ok (.iload_n 3, 1) := dq_29 (zby_at (j := 6) zbX6_isWithoutRing_2 rfl)
theorem dX6_isWithoutRing_39 : decode cX6_isWithoutRing 39 = .ok (.ishr, 1) := dq_122 (zby_at (j := 7) zbX6_isWithoutRing_2 rfl)
theorem dX6_isWithoutRing_40 : decode cX6_isWithoutRing 40 = .ok (.iconst 1, 1) := dq_4 (zby_at (j := 8) zbX6_isWithoutRing_2 rfl)
theorem dX6_isWithoutRing_41 : decode cX6_isWithoutRing 41 = .ok (.iand, 1) := dq_126 (zby_at (j := 9) zbX6_isWithoutRing_2 rfl)
theorem dX6_isWithoutRing_42 : decode cX6_isWithoutRing 42 = .ok (.ifCond .eq 24, 3) := dq_153 (zby_at (j := 10) zbX6_isWithoutRing_2 rfl) (zby_at (j := 11) zbX6_isWithoutRing_2 rfl) (zby_at (j := 12) zbX6_isWithoutRing_2 rfl) rfl
theorem dX6_isWithoutRing_45 : decode cX6_isWithoutRing 45 = .ok (.aload_n 0, 1) := dq_42 (zby_at (j := 13) zbX6_isWithoutRing_2 rfl)
theorem dX6_isWithoutRing_46 : decode cX6_isWithoutRing 46 = .ok (.aload_n 1, 1) := dq_43 (zby_at (j := 14) zbX6_isWithoutRing_2 rfl)
theorem dX6_isWithoutRing_47 : decode cX6_isWithoutRing 47 = .ok (.getfield 44, 3) := dq_180 (zby_at (j := 15) zbX6_isWithoutRing_2 rfl) (zby_at (j := 16) zbX6_isWithoutRing_2 rfl) (zby_at (j := 17) zbX6_isWithoutRing_2 rfl)
theorem zbX6_isWithoutRing_3 : zby cX6_isWithoutRing 48 20 = [0, 44, 29, 46, 43, 180, 0, 47, 29, 46, 182, 0, 68, 154, 0, 5, 3, 172, 132, 3] := by decide +kernel
theorem dX6_isWithoutRing_50 : decode cX6_isWithoutRing 50 = .ok (.iload_n 3, 1) := dq_29 (zby_at (j := 2) zbX6_isWithoutRing_3 rfl)
theorem dX6_isWithoutRing_51 : decode cX6_isWithoutRing 51 = .ok (.iaload, 1) := dq_46 (zby_at (j := 3) zbX6_isWithoutRing_3 rfl)
theorem dX6_isWithoutRing_52 : decode cX6_isWithoutRing 52 = .ok (.aload_n 1, 1) := dq_43 (zby_at (j := 4) zbX6_isWithoutRing_3 rfl)
theorem dX6_isWithoutRing_53 : decode cX6_isWithoutRing 53 = .ok (.getfield 47, 3) := dq_180 (zby_at (j := 5) zbX6_isWithoutRing_3 rfl) (zby_at (j := 6) zbX6_isWithoutRing_3 rfl) (zby_at (j := 7) zbX6_isWithoutRing_3 rfl)
theorem dX6_isWithoutRing_56 : decode cX6_isWithoutRing 56 = .ok (.iload_n 3, 1) := dq_29 (zby_at (j := 8) zbX6_isWithoutRing_3 rfl)
theorem dX6_isWithoutRing_57 : decode cX6_isWithoutRing 57 = .ok (.iaload, 1) := dq_46 (zby_at (j := 9) zbX6_isWithoutRing_3 rfl)
theorem dX6_isWithoutRing_58 : decode cX6_isWithoutRing 58 = .ok (.invokevirtual 68, 3) := dq_182 (zby_at (j := 10) zbX6_isWithoutRing_3 rfl) (zby_at (j := 11) zbX6_isWithoutRing_3 rfl) (zby_at (j := 12) zbX6_isWithoutRing_3 rfl)
theorem dX6_isWithoutRing_61 : decode cX6_isWithoutRing 61 = .ok (.ifCond .ne 5, 3) := dq_154 (zby_at (j := 13) zbX6_isWithoutRing_3 rfl) (zby_at (j := 14) zbX6_isWithoutRing_3 rfl) (zby_at (j := 15) zbX6_isWithoutRing_3 rfl) rfl
theorem zbX6_isWithoutRing_4 : zby cX6_isWithoutRing 64 20 = [3, 172, 132, 3, 1, 167, 255, 210, 4, 172] := by decide +kernel
theorem dX6_isWithoutRing_64 : decode cX6_isWithoutRing 64 = .ok (.iconst 0, 1) := dq_3 (zby_at (j := 0) zbX6_isWithoutRing_4 rfl)
theorem dX6_isWithoutRing_65 : decode cX6_isWithoutRing 65 = .ok (.ireturn, 1) := dq_172 (zby_at (j := 1) zbX6_isWithoutRing_4 rfl)
theorem dX6_isWithoutRing_66 : decode cX6_isWithoutRing 66 = .ok (.iinc 3 1, 3) := dq_132 (zby_at (j := 2) zbX6_isWithoutRing_4 rfl) (zby_at (j := 3) zbX6_isWithoutRing_4 rfl) (zby_at (j := 4) zbX6_isWithoutRing_4 rfl) rfl
theorem dX6_isWithoutRing_69 : decode cX6_isWithoutRing 69 = .ok (.goto (-46), 3) := dq_167 (zby_at (j := 5) zbX6_isWithoutRing_4 rfl) (zby_at (j := 6) zbX6_isWithoutRing_4 rfl) (zby_at (j := 7) zbX6_isWithoutRing_4 rfl) rfl
theorem dX6_isWithoutRing_72 : decode cX6_isWithoutRing 72 = .ok (.iconst 1, 1) := dq_4 (zby_at (j := 8) zbX6_isWithoutRing_4 rfl)
theorem dX6_isWithoutRing_73 : decode cX6_isWithoutRing 73 = .ok (.ireturn, 1) := dq_172 (zby_at (j := 9) zbX6_isWithoutRing_4 rfl)
theorem zbX6_joinClumps_0 : zby cX6_joinClumps 0 20 = [27, 155, 0, 34, 27, 16, 8, 162, 0, 28, 28, 155, 0, 24, 28, 16, 8, 162, 0, 18] := by decide +kernel
theorem dX6_joinClumps_0 : decode cX6_joinClumps 0 = .ok (.iload_n 1, 1) := dq_27 (zby_at (j := 0) zbX6_joinClumps_0 rfl)
theorem dX6_joinClumps_1 : decode cX6_joinClumps 1 = .ok (.ifCond .lt 34, 3) := dq_155 (zby_at (j := 1) zbX6_joinClumps_0 rfl) (zby_at (j := 2) zbX6_joinClumps_0 rfl) (zby_at (j := 3) zbX6_joinClumps_0 rfl) rfl
theorem dX6_joinClumps_4 : decode cX6_joinClumps 4 = .ok (.iload_n 1, 1) := dq_27 (zby_at (j := 4) zbX6_joinClumps_0 rfl)
theorem dX6_joinClumps_5 : decode cX6_joinClumps 5 = .ok (.bipush 8, 2) := dq_16 (zby_at (j := 5) zbX6_joinClumps_0 rfl) (zby_at (j := 6) zbX6_joinClumps_0 rfl) rfl
theorem dX6_joinClumps_7 : decode cX6_joinClumps 7 = .ok (.if_icmp .ge 28, 3) := dq_162 (zby_at (j := 7) zbX6_joinClumps_0 rfl) (zby_at (j := 8) zbX6_joinClumps_0 rfl) (zby_at (j := 9) zbX6_joinClumps_0 rfl) rfl
theorem dX6_joinClumps_10 : decode cX6_joinClumps 10 = .ok (.iload_n 2, 1) := dq_28 (zby_at (j := 10) zbX6_joinClumps_0 rfl)
theorem dX6_joinClumps_11 : decode cX6_joinClumps 11 = .ok (.ifCond .lt 24, 3) := dq_155 (zby_at (j := 11) zbX6_joinClumps_0 rfl) (zby_at (j := 12) zbX6_joinClumps_0 rfl) (zby_at (j := 13) zbX6_joinClumps_0 rfl) rfl
theorem dX6_joinClumps_14 : decode cX6_joinClumps 14 = .ok (.iload_n 2, 1) := dq_28 (zby_at (j := 14) zbX6_joinClumps_0 rfl)
theorem dX6_joinClumps_15 : decode cX6_joinClumps 15 = .ok (.bipush 8, 2) := dq_16 (zby_at (j := 15) zbX6_joinClumps_0 rfl) (zby_at (j := 16) zbX6_joinClumps_0 rfl) rfl
theorem zbX6_joinClumps_1 : zby cX6_joinClumps 16 20 = [8, 162, 0, 18, 42, 180, 0, 9, 27, 46, 42, 180, 0, 9, 28, 46, 160, 0, 5, 3] := by decide +kernel
theorem dX6_joinClumps_17 : decode cX6_joinClumps 17 = .ok (.if_icmp .ge 18, 3) := dq_162 (zby_at (j := 1) zbX6_joinClumps_1 rfl) (zby_at (j := 2) zbX6_joinClumps_1 rfl) (zby_at (j := 3) zbX6_joinClumps_1 rfl) rfl
theorem dX6_joinClumps_20 : decode cX6_joinClumps 20 = .ok (.aload_n 0, 1) := dq_42 (zby_at (j := 4) zbX6_joinClumps_1 rfl)
theorem dX6_joinClumps_21 : decode cX6_joinClumps 21 = .ok (.getfield 9, 3) := dq_180 (zby_at (j := 5) zbX6_joinClumps_1 rfl) (zby_at (j := 6) zbX6_joinClumps_1 rfl) (zby_at (j := 7) zbX6_joinClumps_1 rfl)
theorem dX6_joinClumps_24 : decode cX6_joinClumps 24 = .ok (.iload_n 1, 1) := dq_27 (zby_at (j := 8) zbX6_joinClumps_1 rfl)
theorem dX6_joinClumps_25 : decode cX6_joinClumps 25 = .ok (.iaload, 1) := dq_46 (zby_at (j := 9) zbX6_joinClumps_1 rfl)
theorem dX6_joinClumps_26 : decode cX6_joinClumps 26 = .ok (.aload_n 0, 1) := dq_42 (zby_at (j := 10) zbX6_joinClumps_1 rfl)
theorem dX6_joinClumps_27 : decode cX6_joinClumps 27 = .ok (.getfield 9, 3) := dq_180 (zby_at (j := 11) zbX6_joinClumps_1 rfl) (zby_at (j := 12) zbX6_joinClumps_1 rfl) (zby_at (j := 13) zbX6_joinClumps_1 rfl)
theorem dX6_joinClumps_30 : decode cX6_joinClumps 30 = .ok (.iload_n 2, 1) := dq_28 (zby_at (j := 14) zbX6_joinClumps_1 rfl)
theorem dX6_joinClumps_31 : decode cX6_joinClumps 31 = .ok (.iaload, 1) := dq_46 (zby_at (j := 15) zbX6_joinClumps_1 rfl)
theorem zbX6_joinClumps_2 : zby cX6_joinClumps 32 20 = [160, 0, 5, 3, 172, 42, 180, 0, 9, 28, 46, 62, 3, 54, 4, 21, 4, 16, 8, 162] := by decide +kernel
theorem dX6_joinClumps_32 : decode cX6_joinClumps 32 = .ok (.if_icmp .ne 5, 3) := dq_160 (zby_at (j := 0) zbX6_joinClumps_2 rfl) (zby_at (j := 1) zbX6_joinClumps_2 rfl) (zby_at (j := 2) zbX6_joinClumps_2 rfl) rfl
theorem dX6_joinClumps_35 : decode cX6_joinClumps 35 = .ok (.iconst 0, 1) := dq_3 (zby_at (j := 3) zbX6_joinClumps_2 rfl)
theorem dX6_joinClumps_36 : decode cX6_joinClumps 36 = .ok (.ireturn, 1) := dq_172 (zby_at (j := 4) zbX6_joinClumps_2 rfl)
theorem dX6_joinClumps_37 : decode cX6_joinClumps 37 = .ok (.aload_n 0, 1) := dq_42 (zby_at (j := 5) zbX6_joinClumps_2 rfl)
theorem dX6_joinClumps_38 : decode cX6_joinClumps 38 = .ok (.getfield 9, 3) := dq_180 (zby_at (j := 6) zbX6_joinClumps_2 rfl) (zby_at (j := 7) zbX6_joinClumps_2 rfl) (zby_at (j := 8) zbX6_joinClumps_2 rfl)
theorem dX6_joinClumps_41 : decode cX6_joinClumps 41 = .ok (.iload_n 2, 1) := dq_28 (zby_at (j := 9) zbX6_joinClumps_2 rfl)
theorem dX6_joinClumps_42 : decode cX6_joinClumps 42 = .ok (.iaload, 1) := dq_46 (zby_at (j := 10) zbX6_joinClumps_2 rfl)
theorem dX6_joinClumps_43 : decode cX6_joinClumps 43 = .ok (.istore_n 3, 1) := dq_62 (zby_at (j := 11) zbX6_joinClumps_2 rfl)
theorem dX6_joinClumps_44 : decode cX6_joinClumps 44 = .ok (.iconst 0, 1) := dq_3 (zby_at (j := 12) zbX6_joinClumps_2 rfl)
theorem dX6_joinClumps_45 : decode cX6_joinClumps 45 = .ok (.istore 4, 2) := dq_54 (zby_at (j := 13) zbX6_joinClumps_2 rfl) (zby_at (j := 14) zbX6_joinClumps_2 rfl)
theorem dX6_joinClumps_47 : decode cX6_joinClumps 47 = .ok (.iload 4, 2) := dq_21 (zby_at (j := 15) zbX6_joinClumps_2 rfl) (zby_at (j := 16) zbX6_joinClumps_2 rfl)
theorem zbX6_joinClumps_3 : zby cX6_joinClumps 48 20 = [4, 16, 8, 162, 0, 33, 42, 180, 0, 9, 21, 4, 46, 29, 160, 0, 16, 42, 180, 0] := by decide +kernel
theorem dX6_joinClumps_49 : decode cX6_joinClumps 49 = .ok (.bipush 8, 2) := dq_16 (zby_at (j := 1) zbX6_joinClumps_3 rfl) (zby_at (j := 2) zbX6_joinClumps_3 rfl) rfl
theorem dX6_joinClumps_51 : decode cX6_joinClumps 51 = .ok (.if_icmp .ge 33, 3) := dq_162 (zby_at (j := 3) zbX6_joinClumps_3 rfl) (zby_at (j := 4) zbX6_joinClumps_3 rfl) (zby_at (j := 5) zbX6_joinClumps_3 rfl) rfl
theorem dX6_joinClumps_54 : decode cX6_joinClumps 54 = .ok (.aload_n 0, 1) := dq_42 (zby_at (j := 6) zbX6_joinClumps_3 rfl)
theorem dX6_joinClumps_55 : decode cX6_joinClumps 55 = .ok (.getfield 9, 3) := dq_180 (zby_at (j := 7) zbX6_joinClumps_3 rfl) (zby_at (j := 8) zbX6_joinClumps_3 rfl) (zby_at (j := 9) zbX6_joinClumps_3 rfl)
theorem dX6_joinClumps_58 : decode cX6_joinClumps 58 = .ok (.iload 4, 2) := dq_21 (zby_at (j := 10) zbX6_joinClumps_3 rfl) (zby_at (j := 11) zbX6_joinClumps_3 rfl)
theorem dX6_joinClumps_60 : decode cX6_joinClumps 60 = .ok (.iaload, 1) := dq_46 (zby_at (j := 12) zbX6_joinClumps_3 rfl)
theorem dX6_joinClumps_61 : decode cX6_joinClumps 61 = .ok (.iload_n 3, 1) := dq_29 (zby_at (j := 13) zbX6_joinClumps_3 rfl)
theorem dX6_joinClumps_62 : decode cX6_joinClumps 62 = .ok (.if_icmp .ne 16, 3) := dq_160 (zby_at (j := 14) zbX6_joinClumps_3 rfl) (zby_at (j := 15) zbX6_joinClumps_3 rfl) (zby_at (j := 16) zbX6_joinClumps_3 rfl) rfl
theorem zbX6_joinClumps_4 : zby cX6_joinClumps 64 20 = [16, 42, 180, 0, 9, 21, 4, 42, 180, 0, 9, 27, 46, 79, 132, 4, 1, 167, 255, 222] := by decide +kernel
theorem dX6_joinClumps_65 : decode cX6_joinClumps 65 = .ok (.aload_n 0, 1) := dq_42 (zby_at (j := 1) zbX6_joinClumps_4 rfl)
theorem dX6_joinClumps_66 : decode cX6_joinClumps 66 = .ok (.getfield 9, 3) := dq_180 (zby_at (j := 2) zbX6_joinClumps_4 rfl) (zby_at (j := 3) zbX6_joinClumps_4 rfl) (zby_at (j := 4) zbX6_joinClumps_4 rfl)
theorem dX6_joinClumps_69 : decode cX6_joinClumps 69 = .ok (.iload 4, 2) := dq_21 (zby_at (j := 5) zbX6_joinClumps_4 rfl) (zby_at (j := 6) zbX6_joinClumps_4 rfl)
theorem dX6_joinClumps_71 : decode cX6_joinClumps 71 = .ok (.aload_n 0, 1) := dq_42 (zby_at (j := 7) zbX6_joinClumps_4 rfl)
theorem dX6_joinClumps_72 : decode cX6_joinClumps 72 = .ok (.getfield 9, 3) := dq_180 (zby_at (j := 8) zbX6_joinClumps_4 rfl) (zby_at (j := 9) zbX6_joinClumps_4 rfl) (zby_at (j := 10) zbX6_joinClumps_4 rfl)
theorem dX6_joinClumps_75 : decode cX6_joinClumps 75 = .ok (.iload_n 1, 1) := dq_27 (zby_at (j := 11) zbX6_joinClumps_4 rfl)
theorem dX6_joinClumps_76 : decode cX6_joinClumps 76 = .ok (.iaload, 1) := dq_46 (zby_at (j := 12) zbX6_joinClumps_4 rfl)
theorem dX6_joinClumps_77 : decode cX6_joinClumps 77 = .ok (.iastore, 1) := dq_79 (zby_at (j := 13) zbX6_joinClumps_4 rfl)
theorem dX6_joinClumps_78 : decode cX6_joinClumps 78 = .ok (.iinc 4 1, 3) := dq_132 (zby_at (j := 14) zbX6_joinClumps_4 rfl) (zby_at (j := 15) zbX6_joinClumps_4 rfl) (zby_at (j := 16) zbX6_joinClumps_4 rfl) rfl
theorem zbX6_joinClumps_5 : zby cX6_joinClumps 80 20 = [1, 167, 255, 222, 4, 172] := by decide +kernel
theorem dX6_joinClumps_81 : decode cX6_joinClumps 81 = .ok (.goto (-34), 3) := dq_167 (zby_at (j := 1) zbX6_joinClumps_5 rfl) (zby_at (j := 2) zbX6_joinClumps_5 rfl) (zby_at (j := 3) zbX6_joinClumps_5 rfl) rfl
theorem dX6_joinClumps_84 : decode cX6_joinClumps 84 = .ok (.iconst 1, 1) := dq_4 (zby_at (j := 4) zbX6_joinClumps_5 rfl)
theorem dX6_joinClumps_85 : decode cX6_joinClumps 85 = .ok (.ireturn, 1) := dq_172 (zby_at (j := 5) zbX6_joinClumps_5 rfl)
theorem zbX7_init_0 : zby cX7_init 0 20 = [42, 183, 0, 3, 42, 16, 16, 189, 0, 11, 181, 0, 13, 42, 3, 181, 0, 17, 3, 60] := by decide +kernel
theorem dX7_init_0 : decode cX7_init 0 = .ok (.aload_n 0, 1) := dq_42 (zby_at (j := 0) zbX7_init_0 rfl)
theorem dX7_init_1 : decode cX7_init 1 = .ok (.invokespecial 3, 3) := dq_183 (zby_at (j := 1) zbX7_init_0 rfl) (zby_at (j := 2) zbX7_init_0 rfl) (zby_at (j := 3) zbX7_init_0 rfl)
theorem dX7_init_4 : decode cX7_init 4 = .ok (.aload_n 0, 1) := dq_42 (zby_at (j := 4) zbX7_init_0 rfl)
theorem dX7_init_5 : decode cX7_init 5 = .ok (.bipush 16, 2) := dq_16 (zby_at (j := 5) zbX7_init_0 rfl) (zby_at (j := 6) zbX7_init_0 rfl) rfl
theorem dX7_init_7 : decode cX7_init 7 = .ok (.anewarray 11, 3) := dq_189 (zby_at (j := 7) zbX7_init_0 rfl) (zby_at (j := 8) zbX7_init_0 rfl) (zby_at (j := 9) zbX7_init_0 rfl)
theorem dX7_init_10 : decode cX7_init 10 = .ok (.putfield 13, 3) := dq_181 (zby_at (j := 10) zbX7_init_0 rfl) (zby_at (j := 11) zbX7_init_0 rfl) (zby_at (j := 12) zbX7_init_0 rfl)
theorem dX7_init_13 : decode cX7_init 13 = .ok (.aload_n 0, 1) := dq_42 (zby_at (j := 13) zbX7_init_0 rfl)
theorem dX7_init_14 : decode cX7_init 14 = .ok (.iconst 0, 1) := dq_3 (zby_at (j := 14) zbX7_init_0 rfl)
theorem dX7_init_15 : decode cX7_init 15 = .ok (.putfield 17, 3) := dq_181 (zby_at (j := 15) zbX7_init_0 rfl) (zby_at (j := 16) zbX7_init_0 rfl) (zby_at (j := 17) zbX7_init_0 rfl)
theorem zbX7_init_1 : zby cX7_init 16 20 = [0, 17, 3, 60, 27, 16, 16, 162, 0, 22, 42, 180, 0, 13, 27, 187, 0, 11, 89, 183] := by decide +kernel
theorem dX7_init_18 : decode cX7_init 18 = .ok (.iconst 0, 1) := dq_3 (zby_at (j := 2) zbX7_init_1 rfl)
theorem dX7_init_19 : decode cX7_init 19 = .ok (.istore_n 1, 1) := dq_60 (zby_at (j := 3) zbX7_init_1 rfl)
theorem dX7_init_20 : decode cX7_init 20 = .ok (.iload_n 1, 1) := dq_27 (zby_at (j := 4) zbX7_init_1 rfl)
theorem dX7_init_21 : decode cX7_init 21 = .ok (.bipush 16, 2) := dq_16 (zby_at (j := 5) zbX7_init_1 rfl) (zby_at (j := 6) zbX7_init_1 rfl) rfl
theorem dX7_init_23 : decode cX7_init 23 = .ok (.if_icmp .ge 22, 3) := dq_162 (zby_at (j := 7) zbX7_init_1 rfl) (zby_at (j := 8) zbX7_init_1 rfl) (zby_at (j := 9) zbX7_init_1 rfl) rfl
theorem dX7_init_26 : decode cX7_init 26 = .ok (.aload_n 0, 1) := dq_42 (zby_at (j := 10) zbX7_init_1 rfl)
theorem dX7_init_27 : decode cX7_init 27 = .ok (.getfield 13, 3) := dq_180 (zby_at (j := 11) zbX7_init_1 rfl) (zby_at (j := 12) zbX7_init_1 rfl) (zby_at (j := 13) zbX7_init_1 rfl)
theorem dX7_init_30 : decode cX7_init 30 = .ok (.iload_n 1, 1) := dq_27 (zby_at (j := 14) zbX7_init_1 rfl)
theorem dX7_init_31 : decode cX7_init 31 = .ok (.new 11, 3) := dq_187 (zby_at (j := 15) zbX7_init_1 rfl) (zby_at (j := 16) zbX7_init_1 rfl) (zby_at (j := 17) zbX7_init_1 rfl)
theorem zbX7_init_2 : zby cX7_init 32 20 = [0, 11, 89, 183, 0, 21, 83, 132, 1, 1, 167, 255, 234, 177] := by decide +kernel
theorem dX7_init_34 : decode cX7_init 34 = .ok (.dup, 1) := dq_89 (zby_at (j := 2) zbX7_init_2 rfl)
theorem dX7_init_35 : decode cX7_init 35 = .ok (.invokespecial 21, 3) := dq_183 (zby_at (j := 3) zbX7_init_2 rfl) (zby_at (j := 4) zbX7_init_2 rfl) (zby_at (j := 5) zbX7_init_2 rfl)
theorem dX7_init_38 : decode cX7_init 38 = .ok (.aastore, 1) := dq_83 (zby_at (j := 6) zbX7_init_2 rfl)
theorem dX7_init_39 : decode cX7_init 39 = .ok (.iinc 1 1, 3) := dq_132 (zby_at (j := 7) zbX7_init_2 rfl) (zby_at (j := 8) zbX7_init_2 rfl) (zby_at (j := 9) zbX7_init_2 rfl) rfl
theorem dX7_init_42 : decode cX7_init 42 = .ok (.goto (-22), 3) := dq_167 (zby_at (j := 10) zbX7_init_2 rfl) (zby_at (j := 11) zbX7_init_2 rfl) (zby_at (j := 12) zbX7_init_2 rfl) rfl
theorem dX7_init_45 : decode cX7_init 45 = .ok (.return_, 1) := dq_177 (zby_at (j := 13) zbX7_init_2 rfl)
theorem zbX7_run_0 : zby cX7_run 0 20 = [42, 3, 181, 0, 17, 3, 54, 4, 21, 4, 43, 180, 0, 22, 162, 0, 39, 21, 4, 43] := by decide +kernel
theorem dX7_run_0 : decode cX7_run 0 = .ok (.aload_n 0, 1) := dq_42 (zby_at (j := 0) zbX7_run_0 rfl)
theorem dX7_run_1 : decode cX7_run 1 = .ok (.iconst 0, 1) := dq_3 (zby_at (j := 1) zbX7_run_0 rfl)
theorem dX7_run_2 : decode cX7_run 2 = .ok (.putfield 17, 3) := dq_181 (zby_at (j := 2) zbX7_run_0 rfl) (zby_at (j := 3) zbX7_run_0 rfl) (zby_at (j := 4) zbX7_run_0 rfl)
theorem dX7_run_5 : decode cX7_run 5 = .ok (.iconst 0, 1) := dq_3 (zby_at (j := 5) zbX7_run_0 rfl)
theorem dX7_run_6 : decode cX7_run 6 = .ok (.istore 4, 2) := dq_54 (zby_at (j := 6) zbX7_run_0 rfl) (zby_at (j := 7) zbX7_run_0 rfl)
theorem dX7_run_8 : decode cX7_run 8 = .ok (.iload 4, 2) := dq_21 (zby_at (j := 8) zbX7_run_0 rfl) (zby_at (j := 9) zbX7_run_0 rfl)
theorem dX7_run_10 : decode cX7_run 10 = .ok (.aload_n 1, 1) := dq_43 (zby_at (j := 10) zbX7_run_0 rfl)
theorem dX7_run_11 : decode cX7_run 11 = .ok (.getfield 22, 3) := dq_180 (zby_at (j := 11) zbX7_run_0 rfl) (zby_at (j := 12) zbX7_run_0 rfl) (zby_at (j := 13) zbX7_run_0 rfl)
theorem dX7_run_14 : decode cX7_run 14 = .ok (.if_icmp .ge 39, 3) := dq_162 (zby_at (j := 14) zbX7_run_0 rfl) (zby_at (j := 15) zbX7_run_0 rfl) (zby_at (j := 16) zbX7_run_0 rfl) rfl
theorem zbX7_run_1 : zby cX7_run 16 20 = [39, 21, 4, 43, 180, 0, 27, 190, 162, 0, 29, 42, 43, 180, 0, 27, 21, 4, 46, 43] := by decide +kernel
theorem dX7_run_17 : decode cX7_run 17 = .ok (.iload 4, 2) := dq_21 (zby_at (j := 1) zbX7_run_1 rfl) (zby_at (j := 2) zbX7_run_1 rfl)
theorem dX7_run_19 : decode cX7_run 19 = .ok (.aload_n 1, 1) := dq_43 (zby_at (j := 3) zbX7_run_1 rfl)
theorem dX7_run_20 : decode cX7_run 20 = .ok (.getfield 27, 3) := dq_180 (zby_at (j := 4) zbX7_run_1 rfl) (zby_at (j := 5) zbX7_run_1 rfl) (zby_at (j := 6) zbX7_run_1 rfl)
theorem dX7_run_23 : decode cX7_run 23 = .ok (.arraylength, 1) := dq_190 (zby_at (j := 7) zbX7_run_1 rfl)
theorem dX7_run_24 : decode cX7_run 24 = .ok (.if_icmp .ge 29, 3) := dq_162 (zby_at (j := 8) zbX7_run_1 rfl) (zby_at (j := 9) zbX7_run_1 rfl) (zby_at (j := 10) zbX7_run_1 rfl) rfl
theorem dX7_run_27 : decode cX7_run 27 = .ok (.aload_n 0, 1) := dq_42 (zby_at (j := 11) zbX7_run_1 rfl)
theorem dX7_run_28 : decode cX7_run 28 = .ok (.aload_n 1, 1) := dq_43 (zby_at (j := 12) zbX7_run_1 rfl)
theorem dX7_run_29 : decode cX7_run 29 = .ok (.getfield 27, 3) := dq_180 (zby_at (j := 13) zbX7_run_1 rfl) (zby_at (j := 14) zbX7_run_1 rfl) (zby_at (j := 15) zbX7_run_1 rfl)
theorem zbX7_run_2 : zby cX7_run 32 20 = [21, 4, 46, 43, 180, 0, 31, 21, 4, 46, 44, 45, 182, 0, 34, 132, 4, 1, 167, 255] := by decide +kernel
theorem dX7_run_32 : decode cX7_run 32 = .ok (.iload 4, 2) := dq_21 (zby_at (j := 0) zbX7_run_2 rfl) (zby_at (j := 1) zbX7_run_2 rfl)
theorem dX7_run_34 : decode cX7_run 34 = .ok (.iaload, 1) := dq_46 (zby_at (j := 2) zbX7_run_2 rfl)
theorem dX7_run_35 : decode cX7_run 35 = .ok (.aload_n 1, 1) := dq_43 (zby_at (j := 3) zbX7_run_2 rfl)
theorem dX7_run_36 : decode cX7_run 36 = .ok (.getfield 31, 3) := dq_180 (zby_at (j := 4) zbX7_run_2 rfl) (zby_at (j := 5) zbX7_run_2 rfl) (zby_at (j := 6) zbX7_run_2 rfl)
theorem dX7_run_39 : decode cX7_run 39 = .ok (.iload 4, 2) := dq_21 (zby_at (j := 7) zbX7_run_2 rfl) (zby_at (j := 8) zbX7_run_2 rfl)
theorem dX7_run_41 : decode cX7_run 41 = .ok (.iaload, 1) := dq_46 (zby_at (j := 9) zbX7_run_2 rfl)
theorem dX7_run_42 : decode cX7_run 42 = .ok (.aload_n 2, 1) := dq_44 (zby_at (j := 10) zbX7_run_2 rfl)
theorem dX7_run_43 : decode cX7_run 43 = .ok (.aload_n 3, 1) := dq_45 (zby_at (j := 11) zbX7_run_2 rfl)
theorem dX7_run_44 : decode cX7_run 44 = .ok (.invokevirtual 34, 3) := dq_182 (zby_at (j := 12) zbX7_run_2 rfl) (zby_at (j := 13) zbX7_run_2 rfl) (zby_at (j := 14) zbX7_run_2 rfl)
theorem dX7_run_47 : decode cX7_run 47 = .ok (.iinc 4 1, 3) := dq_132 (zby_at (j := 15) zbX7_run_2 rfl) (zby_at (j := 16) zbX7_run_2 rfl) (zby_at (j := 17) zbX7_run_2 rfl) rfl
theorem zbX7_run_3 : zby cX7_run 48 20 = [4, 1, 167, 255, 214, 177] := by decide +kernel
theorem dX7_run_50 : decode cX7_run 50 = .ok (.goto (-42), 3) := dq_167 (zby_at (j := 2) zbX7_run_3 rfl) (zby_at (j := 3) zbX7_run_3 rfl) (zby_at (j := 4) zbX7_run_3 rfl) rfl
theorem dX7_run_53 : decode cX7_run 53 = .ok (.return_, 1) := dq_177 (zby_at (j := 5) zbX7_run_3 rfl)
theorem zbX7_doStep_0 : zby cX7_doStep 0 20 = [27, 170, 0, 0, 0, 0, 0, 153, 0, 0, 0, 0, 0, 0, 0, 5, 0, 0, 0, 39] := by decide +kernel
theorem dX7_doStep_0 : decode cX7_doStep 0 = .ok (.iload_n 1, 1) := dq_27 (zby_at (j := 0) zbX7_doStep_0 rfl)
theorem dX7_doStep_1 : decode cX7_doStep 1 = .ok (.tableswitch 153 0 5 #[39, 62, 72, 86, 98, 135], 39) := by decide +kernel
theorem zbX7_doStep_2 : zby cX7_doStep 32 20 = [0, 0, 0, 98, 0, 0, 0, 135, 28, 184, 0, 38, 153, 0, 136, 42, 182, 0, 42, 45] := by decide +kernel
theorem dX7_doStep_40 : decode cX7_doStep 40 = .ok (.iload_n 2, 1) := dq_28 (zby_at (j := 8) zbX7_doStep_2 rfl)
theorem dX7_doStep_41 : decode cX7_doStep 41 = .ok (.invokestatic 38, 3) := dq_184 (zby_at (j := 9) zbX7_doStep_2 rfl) (zby_at (j := 10) zbX7_doStep_2 rfl) (zby_at (j := 11) zbX7_doStep_2 rfl)
theorem dX7_doStep_44 : decode cX7_doStep 44 = .ok (.ifCond .eq 136, 3) := dq_153 (zby_at (j := 12) zbX7_doStep_2 rfl) (zby_at (j := 13) zbX7_doStep_2 rfl) (zby_at (j := 14) zbX7_doStep_2 rfl) rfl
theorem dX7_doStep_47 : decode cX7_doStep 47 = .ok (.aload_n 0, 1) := dq_42 (zby_at (j := 15) zbX7_doStep_2 rfl)
theorem zbX7_doStep_3 : zby cX7_doStep 48 20 = [182, 0, 42, 45, 180, 0, 46, 28, 50, 182, 0, 51, 167, 0, 120, 42, 182, 0, 42, 182] := by decide +kernel
theorem dX7_doStep_48 : decode cX7_doStep 48 = .ok (.invokevirtual 42, 3) := dq_182 (zby_at (j := 0) zbX7_doStep_3 rfl) (zby_at (j := 1) zbX7_doStep_3 rfl) (zby_at (j := 2) zbX7_doStep_3 rfl)
theorem dX7_doStep_51 : decode cX7_doStep 51 = .ok (.aload_n 3, 1) := dq_45 (zby_at (j := 3) zbX7_doStep_3 rfl)
theorem dX7_doStep_52 : decode cX7_doStep 52 = .ok (.getfield 46, 3) := dq_180 (zby_at (j := 4) zbX7_doStep_3 rfl) (zby_at (j := 5) zbX7_doStep_3 rfl) (zby_at (j := 6) zbX7_doStep_3 rfl)
theorem dX7_doStep_55 : decode cX7_doStep 55 = .ok (.iload_n 2, 1) := dq_28 (zby_at (j := 7) zbX7_doStep_3 rfl)
theorem dX7_doStep_56 : decode cX7_doStep 56 = .ok (.aaload, 1) := dq_50 (zby_at (j := 8) zbX7_doStep_3 rfl)
theorem dX7_doStep_57 : decode cX7_doStep 57 = .ok (.invokevirtual 51, 3) := dq_182 (zby_at (j := 9) zbX7_doStep_3 rfl) (zby_at (j := 10) zbX7_doStep_3 rfl) (zby_at (j := 11) zbX7_doStep_3 rfl)
theorem dX7_doStep_60 : decode cX7_doStep 60 = .ok (.goto 120, 3) := dq_167 (zby_at (j := 12) zbX7_doStep_3 rfl) (zby_at (j := 13) zbX7_doStep_3 rfl) (zby_at (j := 14) zbX7_doStep_3 rfl) rfl
theorem dX7_doStep_63 : decode cX7_doStep 63 = .ok (.aload_n 0, 1) := dq_42 (zby_at (j := 15) zbX7_doStep_3 rfl)
theorem zbX7_doStep_4 : zby cX7_doStep 64 20 = [182, 0, 42, 182, 0, 55, 167, 0, 110, 42, 182, 0, 42, 45, 180, 0, 58, 182, 0, 61] := by decide +kernel
theorem dX7_doStep_64 : decode cX7_doStep 64 = .ok (.invokevirtual 42, 3) := dq_182 (zby_at (j := 0) zbX7_doStep_4 rfl) (zby_at (j := 1) zbX7_doStep_4 rfl) (zby_at (j := 2) zbX7_doStep_4 rfl)
theorem dX7_doStep_67 : decode cX7_doStep 67 = .ok (.invokevirtual 55, 3) := dq_182 (zby_at (j := 3) zbX7_doStep_4 rfl) (zby_at (j := 4) zbX7_doStep_4 rfl) (zby_at (j := 5) zbX7_doStep_4 rfl)
theorem dX7_doStep_70 : decode cX7_doStep 70 = .ok (.goto 110, 3) := dq_167 (zby_at (j := 6) zbX7_doStep_4 rfl) (zby_at (j := 7) zbX7_doStep_4 rfl) (zby_at (j := 8) zbX7_doStep_4 rfl) rfl
theorem dX7_doStep_73 : decode cX7_doStep 73 = .ok (.aload_n 0, 1) := dq_42 (zby_at (j := 9) zbX7_doStep_4 rfl)
theorem dX7_doStep_74 : decode cX7_doStep 74 = .ok (.invokevirtual 42, 3) := dq_182 (zby_at (j := 10) zbX7_doStep_4 rfl) (zby_at (j := 11) zbX7_doStep_4 rfl) (zby_at (j := 12) zbX7_doStep_4 rfl)
theorem dX7_doStep_77 : decode cX7_doStep 77 = .ok (.aload_n 3, 1) := dq_45 (zby_at (j := 13) zbX7_doStep_4 rfl)
theorem dX7_doStep_78 : decode cX7_doStep 78 = .ok (.getfield 58, 3) := dq_180 (zby_at (j := 14) zbX7_doStep_4 rfl) (zby_at (j := 15) zbX7_doStep_4 rfl) (zby_at (j := 16) zbX7_doStep_4 rfl)
theorem zbX7_doStep_5 : zby cX7_doStep 80 20 = [58, 182, 0, 61, 167, 0, 96, 42, 3, 182, 0, 65, 28, 182, 0, 69, 167, 0, 84, 25] := by decide +kernel
theorem dX7_doStep_81 : decode cX7_doStep 81 = .ok (.invokevirtual 61, 3) := dq_182 (zby_at (j := 1) zbX7_doStep_5 rfl) (zby_at (j := 2) zbX7_doStep_5 rfl) (zby_at (j := 3) zbX7_doStep_5 rfl)
theorem dX7_doStep_84 : decode cX7_doStep 84 = .ok (.goto 96, 3) := dq_167 (zby_at (j := 4) zbX7_doStep_5 rfl) (zby_at (j := 5) zbX7_doStep_5 rfl) (zby_at (j := 6) zbX7_doStep_5 rfl) rfl
theorem dX7_doStep_87 : decode cX7_doStep 87 = .ok (.aload_n 0, 1) := dq_42 (zby_at (j := 7) zbX7_doStep_5 rfl)
theorem dX7_doStep_88 : decode cX7_doStep 88 = .ok (.iconst 0, 1) := dq_3 (zby_at (j := 8) zbX7_doStep_5 rfl)
theorem dX7_doStep_89 : decode cX7_doStep 89 = .ok (.invokevirtual 65, 3) := dq_182 (zby_at (j := 9) zbX7_doStep_5 rfl) (zby_at (j := 10) zbX7_doStep_5 rfl) (zby_at (j := 11) zbX7_doStep_5 rfl)
theorem dX7_doStep_92 : decode cX7_doStep 92 = .ok (.iload_n 2, 1) := dq_28 (zby_at (j := 12) zbX7_doStep_5 rfl)
theorem dX7_doStep_93 : decode cX7_doStep 93 = .ok (.invokevirtual 69, 3) := dq_182 (zby_at (j := 13) zbX7_doStep_5 rfl) (zby_at (j := 14) zbX7_doStep_5 rfl) (zby_at (j := 15) zbX7_doStep_5 rfl)
theorem zbX7_doStep_6 : zby cX7_doStep 96 20 = [167, 0, 84, 25, 4, 28, 42, 4, 182, 0, 65, 42, 3, 182, 0, 65, 45, 180, 0, 58] := by decide +kernel
theorem dX7_doStep_96 : decode cX7_doStep 96 = .ok (.goto 84, 3) := dq_167 (zby_at (j := 0) zbX7_doStep_6 rfl) (zby_at (j := 1) zbX7_doStep_6 rfl) (zby_at (j := 2) zbX7_doStep_6 rfl) rfl
theorem dX7_doStep_99 : decode cX7_doStep 99 = .ok (.aload 4, 2) := dq_25 (zby_at (j := 3) zbX7_doStep_6 rfl) (zby_at (j := 4) zbX7_doStep_6 rfl)
theorem dX7_doStep_101 : decode cX7_doStep 101 = .ok (.iload_n 2, 1) := dq_28 (zby_at (j := 5) zbX7_doStep_6 rfl)
theorem dX7_doStep_102 : decode cX7_doStep 102 = .ok (.aload_n 0, 1) := dq_42 (zby_at (j := 6) zbX7_doStep_6 rfl)
theorem dX7_doStep_103 : decode cX7_doStep 103 = .ok (.iconst 1, 1) := dq_4 (zby_at (j := 7) zbX7_doStep_6 rfl)
theorem dX7_doStep_104 : decode cX7_doStep 104 = .ok (.invokevirtual 65, 3) := dq_182 (zby_at (j := 8) zbX7_doStep_6 rfl) (zby_at (j := 9) zbX7_doStep_6 rfl) (zby_at (j := 10) zbX7_doStep_6 rfl)
theorem dX7_doStep_107 : decode cX7_doStep 107 = .ok (.aload_n 0, 1) := dq_42 (zby_at (j := 11) zbX7_doStep_6 rfl)
theorem dX7_doStep_108 : decode cX7_doStep 108 = .ok (.iconst 0, 1) := dq_3 (zby_at (j := 12) zbX7_doStep_6 rfl)
theorem dX7_doStep_109 : decode cX7_doStep 109 = .ok (.invokevirtual 65, 3) := dq_182 (zby_at (j := 13) zbX7_doStep_6 rfl) (zby_at (j := 14) zbX7_doStep_6 rfl) (zby_at (j := 15) zbX7_doStep_6 rfl)
theorem zbX7_doStep_7 : zby cX7_doStep 112 20 = [45, 180, 0, 58, 182, 0, 72, 42, 3, 42, 180, 0, 17, 4, 100, 184, 0, 78, 181, 0] := by decide +kernel
theorem dX7_doStep_112 : decode cX7_doStep 112 = .ok (.aload_n 3, 1) := dq_45 (zby_at (j := 0) zbX7_doStep_7 rfl)
theorem dX7_doStep_113 : decode cX7_doStep 113 = .ok (.getfield 58, 3) := dq_180 (zby_at (j := 1) zbX7_doStep_7 rfl) (zby_at (j := 2) zbX7_doStep_7 rfl) (zby_at (j := 3) zbX7_doStep_7 rfl)
theorem dX7_doStep_116 : decode cX7_doStep 116 = .ok (.invokevirtual 72, 3) := dq_182 (zby_at (j := 4) zbX7_doStep_7 rfl) (zby_at (j := 5) zbX7_doStep_7 rfl) (zby_at (j := 6) zbX7_doStep_7 rfl)
theorem dX7_doStep_119 : decode cX7_doStep 119 = .ok (.aload_n 0, 1) := dq_42 (zby_at (j := 7) zbX7_doStep_7 rfl)
theorem dX7_doStep_120 : decode cX7_doStep 120 = .ok (.iconst 0, 1) := dq_3 (zby_at (j := 8) zbX7_doStep_7 rfl)
theorem dX7_doStep_121 : decode cX7_doStep 121 = .ok (.aload_n 0, 1) := dq_42 (zby_at (j := 9) zbX7_doStep_7 rfl)
theorem dX7_doStep_122 : decode cX7_doStep 122 = .ok (.getfield 17, 3) := dq_180 (zby_at (j := 10) zbX7_doStep_7 rfl) (zby_at (j := 11) zbX7_doStep_7 rfl) (zby_at (j := 12) zbX7_doStep_7 rfl)
theorem dX7_doStep_125 : decode cX7_doStep 125 = .ok (.iconst 1, 1) := dq_4 (zby_at (j := 13) zbX7_doStep_7 rfl)
theorem dX7_doStep_126 : decode cX7_doStep 126 = .ok (.isub, 1) := dq_100 (zby_at (j := 14) zbX7_doStep_7 rfl)
theorem dX7_doStep_127 : decode cX7_doStep 127 = .ok (.invokestatic 78, 3) := dq_184 (zby_at (j := 15) zbX7_doStep_7 rfl) (zby_at (j := 16) zbX7_doStep_7 rfl) (zby_at (j := 17) zbX7_doStep_7 rfl)
theorem zbX7_doStep_8 : zby cX7_doStep 128 20 = [0, 78, 181, 0, 17, 167, 0, 47, 25, 4, 28, 42, 3, 182, 0, 65, 45, 180, 0, 58] := by decide +kernel
theorem dX7_doStep_130 : decode cX7_doStep 130 = .ok (.putfield 17, 3) := dq_181 (zby_at (j := 2) zbX7_doStep_8 rfl) (zby_at (j := 3) zbX7_doStep_8 rfl) (zby_at (j := 4) zbX7_doStep_8 rfl)
theorem dX7_doStep_133 : decode cX7_doStep 133 = .ok (.goto 47, 3) := dq_167 (zby_at (j := 5) zbX7_doStep_8 rfl) (zby_at (j := 6) zbX7_doStep_8 rfl) (zby_at (j := 7) zbX7_doStep_8 rfl) rfl
theorem dX7_doStep_136 : decode cX7_doStep 136 = .ok (.aload 4, 2) := dq_25 (zby_at (j := 8) zbX7_doStep_8 rfl) (zby_at (j := 9) zbX7_doStep_8 rfl)
theorem dX7_doStep_138 : decode cX7_doStep 138 = .ok (.iload_n 2, 1) := dq_28 (zby_at (j := 10) zbX7_doStep_8 rfl)
theorem dX7_doStep_139 : decode cX7_doStep 139 = .ok (.aload_n 0, 1) := dq_42 (zby_at (j := 11) zbX7_doStep_8 rfl)
theorem dX7_doStep_140 : decode cX7_doStep 140 = .ok (.iconst 0, 1) := dq_3 (zby_at (j := 12) zbX7_doStep_8 rfl)
theorem dX7_doStep_141 : decode cX7_doStep 141 = .ok (.invokevirtual 65, 3) := dq_182 (zby_at (j := 13) zbX7_doStep_8 rfl) (zby_at (j := 14) zbX7_doStep_8 rfl) (zby_at (j := 15) zbX7_doStep_8 rfl)
theorem zbX7_doStep_9 : zby cX7_doStep 144 20 = [45, 180, 0, 58, 182, 0, 84, 167, 0, 29, 28, 184, 0, 38, 153, 0, 17, 45, 180, 0] := by decide +kernel
theorem dX7_doStep_144 : decode cX7_doStep 144 = .ok (.aload_n 3, 1) := dq_45 (zby_at (j := 0) zbX7_doStep_9 rfl)
theorem dX7_doStep_145 : decode cX7_doStep 145 = .ok (.getfield 58, 3) := dq_180 (zby_at (j := 1) zbX7_doStep_9 rfl) (zby_at (j := 2) zbX7_doStep_9 rfl) (zby_at (j := 3) zbX7_doStep_9 rfl)
theorem dX7_doStep_148 : decode cX7_doStep 148 = .ok (.invokevirtual 84, 3) := dq_182 (zby_at (j := 4) zbX7_doStep_9 rfl) (zby_at (j := 5) zbX7_doStep_9 rfl) (zby_at (j := 6) zbX7_doStep_9 rfl)
theorem dX7_doStep_151 : decode cX7_doStep 151 = .ok (.goto 29, 3) := dq_167 (zby_at (j := 7) zbX7_doStep_9 rfl) (zby_at (j := 8) zbX7_doStep_9 rfl) (zby_at (j := 9) zbX7_doStep_9 rfl) rfl
theorem dX7_doStep_154 : decode cX7_doStep 154 = .ok (.iload_n 2, 1) := dq_28 (zby_at (j := 10) zbX7_doStep_9 rfl)
theorem dX7_doStep_155 : decode cX7_doStep 155 = .ok (.invokestatic 38, 3) := dq_184 (zby_at (j := 11) zbX7_doStep_9 rfl) (zby_at (j := 12) zbX7_doStep_9 rfl) (zby_at (j := 13) zbX7_doStep_9 rfl)
theorem dX7_doStep_158 : decode cX7_doStep 158 = .ok (.ifCond .eq 17, 3) := dq_153 (zby_at (j := 14) zbX7_doStep_9 rfl) (zby_at (j := 15) zbX7_doStep_9 rfl) (zby_at (j := 16) zbX7_doStep_9 rfl) rfl
theorem zbX7_doStep_10 : zby cX7_doStep 160 20 = [17, 45, 180, 0, 46, 28, 50, 42, 3, 182, 0, 65, 182, 0, 51, 42, 3, 181, 0, 17] := by decide +kernel
theorem dX7_doStep_161 : decode cX7_doStep 161 = .ok (.aload_n 3, 1) := dq_45 (zby_at (j := 1) zbX7_doStep_10 rfl)
theorem dX7_doStep_162 : decode cX7_doStep 162 = .ok (.getfield 46, 3) := dq_180 (zby_at (j := 2) zbX7_doStep_10 rfl) (zby_at (j := 3) zbX7_doStep_10 rfl) (zby_at (j := 4) zbX7_doStep_10 rfl)
theorem dX7_doStep_165 : decode cX7_doStep 165 = .ok (.iload_n 2, 1) := dq_28 (zby_at (j := 5) zbX7_doStep_10 rfl)
theorem dX7_doStep_166 : decode cX7_doStep 166 = .ok (.aaload, 1) := dq_50 (zby_at (j := 6) zbX7_doStep_10 rfl)
theorem dX7_doStep_167 : decode cX7_doStep 167 = .ok (.aload_n 0, 1) := dq_42 (zby_at (j := 7) zbX7_doStep_10 rfl)
theorem dX7_doStep_168 : decode cX7_doStep 168 = .ok (.iconst 0, 1) := dq_3 (zby_at (j := 8) zbX7_doStep_10 rfl)
theorem dX7_doStep_169 : decode cX7_doStep 169 = .ok (.invokevirtual 65, 3) := dq_182 (zby_at (j := 9) zbX7_doStep_10 rfl) (zby_at (j := 10) zbX7_doStep_10 rfl) (zby_at (j := 11) zbX7_doStep_10 rfl)
theorem dX7_doStep_172 : decode cX7_doStep 172 = .ok (.invokevirtual 51, 3) := dq_182 (zby_at (j := 12) zbX7_doStep_10 rfl) (zby_at (j := 13) zbX7_doStep_10 rfl) (zby_at (j := 14) zbX7_doStep_10 rfl)
theorem dX7_doStep_175 : decode cX7_doStep 175 = .ok (.aload_n 0, 1) := dq_42 (zby_at (j := 15) zbX7_doStep_10 rfl)
theorem zbX7_doStep_11 : zby cX7_doStep 176 20 = [3, 181, 0, 17, 177] := by decide +kernel
theorem dX7_doStep_176 : decode cX7_doStep 176 = .ok (.iconst 0, 1) := dq_3 (zby_at (j := 0) zbX7_doStep_11 rfl)
theorem dX7_doStep_177 : decode cX7_doStep 177 = .ok (.putfield 17, 3) := dq_181 (zby_at (j := 1) zbX7_doStep_11 rfl) (zby_at (j := 2) zbX7_doStep_11 rfl) (zby_at (j := 3) zbX7_doStep_11 rfl)
theorem dX7_doStep_180 : decode cX7_doStep 180 = .ok (.return_, 1) := dq_177 (zby_at (j := 4) zbX7_doStep_11 rfl)
theorem zbX7_isRegisterNumber_0 : zby cX7_isRegisterNumber 0 20 = [26, 155, 0, 13, 26, 16, 10, 162, 0, 7, 4, 167, 0, 4, 3, 172] := by decide +kernel
theorem dX7_isRegisterNumber_0 : decode cX7_isRegisterNumber 0 = .ok (.iload_n 0, 1) := dq_26 (zby_at (j := 0) zbX7_isRegisterNumber_0 rfl)
theorem dX7_isRegisterNumber_1 : decode cX7_isRegisterNumber 1 = .ok (.ifCond .lt 13, 3) := dq_155 (zby_at (j := 1) zbX7_isRegisterNumber_0 rfl) (zby_at (j := 2) zbX7_isRegisterNumber_0 rfl) (zby_at (j := 3) zbX7_isRegisterNumber_0 rfl) rfl
theorem dX7_isRegisterNumber_4 : decode cX7_isRegisterNumber 4 = .ok (.iload_n 0, 1) := dq_26 (zby_at (j := 4) zbX7_isRegisterNumber_0 rfl)
theorem dX7_isRegisterNumber_5 : decode cX7_isRegisterNumber 5 = .ok (.bipush 10, 2) := dq_16 (zby_at (j := 5) zbX7_isRegisterNumber_0 rfl) (zby_at (j := 6) zbX7_isRegisterNumber_0 rfl) rfl
theorem dX7_isRegisterNumber_7 : decode cX7_isRegisterNumber 7 = .ok (.if_icmp .ge 7, 3) := dq_162 (zby_at (j := 7) zbX7_isRegisterNumber_0 rfl) (zby_at (j := 8) zbX7_isRegisterNumber_0 rfl) (zby_at (j := 9) zbX7_isRegisterNumber_0 rfl) rfl
theorem dX7_isRegisterNumber_10 : decode cX7_isRegisterNumber 10 = .ok (.iconst 1, 1) := dq_4 (zby_at (j := 10) zbX7_isRegisterNumber_0 rfl)
theorem dX7_isRegisterNumber_11 : decode cX7_isRegisterNumber 11 = .ok (.goto 4, 3) := dq_167 (zby_at (j := 11) zbX7_isRegisterNumber_0 rfl) (zby_at (j := 12) zbX7_isRegisterNumber_0 rfl) (zby_at (j := 13) zbX7_isRegisterNumber_0 rfl) rfl
theorem dX7_isRegisterNumber_14 : decode cX7_isRegisterNumber 14 = .ok (.iconst 0, 1) := dq_3 (zby_at (j := 14) zbX7_isRegisterNumber_0 rfl)
theorem dX7_isRegisterNumber_15 : decode cX7_isRegisterNumber 15 = .ok (.ireturn, 1) := dq_172 (zby_at (j := 15) zbX7_isRegisterNumber_0 rfl)
theorem zbX7_pushed_0 : zby cX7_pushed 0 20 = [42, 16, 16, 42, 180, 0, 17, 4, 96, 184, 0, 88, 181, 0, 17, 42, 3, 182, 0, 65] := by decide +kernel
theorem dX7_pushed_0 : decode cX7_pushed 0 = .ok (.aload_n 0, 1) := dq_42 (zby_at (j := 0) zbX7_pushed_0 rfl)
theorem dX7_pushed_1 : decode cX7_pushed 1 = .ok (.bipush 16, 2) := dq_16 (zby_at (j := 1) zbX7_pushed_0 rfl) (zby_at (j := 2) zbX7_pushed_0 rfl) rfl
theorem dX7_pushed_3 : decode cX7_pushed 3 = .ok (.aload_n 0, 1) := dq_42 (zby_at (j := 3) zbX7_pushed_0 rfl)
theorem dX7_pushed_4 : decode cX7_pushed 4 = .ok (.getfield 17, 3) := dq_180 (zby_at (j := 4) zbX7_pushed_0 rfl) (zby_at (j := 5) zbX7_pushed_0 rfl) (zby_at (j := 6) zbX7_pushed_0 rfl)
theorem dX7_pushed_7 : decode cX7_pushed 7 = .ok (.iconst 1, 1) := dq_4 (zby_at (j := 7) zbX7_pushed_0 rfl)
theorem dX7_pushed_8 : decode cX7_pushed 8 = .ok (.iadd, 1) := dq_96 (zby_at (j := 8) zbX7_pushed_0 rfl)
theorem dX7_pushed_9 : decode cX7_pushed 9 = .ok (.invokestatic 88, 3) := dq_184 (zby_at (j := 9) zbX7_pushed_0 rfl) (zby_at (j := 10) zbX7_pushed_0 rfl) (zby_at (j := 11) zbX7_pushed_0 rfl)
theorem dX7_pushed_12 : decode cX7_pushed 12 = .ok (.putfield 17, 3) := dq_181 (zby_at (j := 12) zbX7_pushed_0 rfl) (zby_at (j := 13) zbX7_pushed_0 rfl) (zby_at (j := 14) zbX7_pushed_0 rfl)
theorem dX7_pushed_15 : decode cX7_pushed 15 = .ok (.aload_n 0, 1) := dq_42 (zby_at (j := 15) zbX7_pushed_0 rfl)
theorem zbX7_pushed_1 : zby cX7_pushed 16 20 = [3, 182, 0, 65, 176] := by decide +kernel
theorem dX7_pushed_16 : decode cX7_pushed 16 = .ok (.iconst 0, 1) := dq_3 (zby_at (j := 0) zbX7_pushed_1 rfl)
theorem dX7_pushed_17 : decode cX7_pushed 17 = .ok (.invokevirtual 65, 3) := dq_182 (zby_at (j := 1) zbX7_pushed_1 rfl) (zby_at (j := 2) zbX7_pushed_1 rfl) (zby_at (j := 3) zbX7_pushed_1 rfl)
theorem dX7_pushed_20 : decode cX7_pushed 20 = .ok (.areturn, 1) := dq_176 (zby_at (j := 4) zbX7_pushed_1 rfl)
theorem zbX7_top_0 : zby cX7_top 0 20 = [3, 16, 15, 42, 180, 0, 17, 4, 100, 27, 100, 184, 0, 88, 184, 0, 78, 61, 42, 180] := by decide +kernel
theorem dX7_top_0 : decode cX7_top 0 = .ok (.iconst 0, 1) := dq_3 (zby_at (j := 0) zbX7_top_0 rfl)
theorem dX7_top_1 : decode cX7_top 1 = .ok (.bipush 15, 2) := dq_16 (zby_at (j := 1) zbX7_top_0 rfl) (zby_at (j := 2) zbX7_top_0 rfl) rfl
theorem dX7_top_3 : decode cX7_top 3 = .ok (.aload_n 0, 1) := dq_42 (zby_at (j := 3) zbX7_top_0 rfl)
theorem dX7_top_4 : decode cX7_top 4 = .ok (.getfield 17, 3) := dq_180 (zby_at (j := 4) zbX7_top_0 rfl) (zby_at (j := 5) zbX7_top_0 rfl) (zby_at (j := 6) zbX7_top_0 rfl)
theorem dX7_top_7 : decode cX7_top 7 = .ok (.iconst 1, 1) := dq_4 (zby_at (j := 7) zbX7_top_0 rfl)
theorem dX7_top_8 : decode cX7_top 8 = .ok (.isub, 1) := dq_100 (zby_at (j := 8) zbX7_top_0 rfl)
theorem dX7_top_9 : decode cX7_top 9 = .ok (.iload_n 1, 1) := dq_27 (zby_at (j := 9) zbX7_top_0 rfl)
theorem dX7_top_10 : decode cX7_top 10 = .ok (.isub, 1) := dq_100 (zby_at (j := 10) zbX7_top_0 rfl)
theorem dX7_top_11 : decode cX7_top 11 = .ok (.invokestatic 88, 3) := dq_184 (zby_at (j := 11) zbX7_top_0 rfl) (zby_at (j := 12) zbX7_top_0 rfl) (zby_at (j := 13) zbX7_top_0 rfl)
theorem dX7_top_14 : decode cX7_top 14 = .ok (.invokestatic 78, 3) := dq_184 (zby_at (j := 14) zbX7_top_0 rfl) (zby_at (j := 15) zbX7_top_0 rfl) (zby_at (j := 16) zbX7_top_0 rfl)
theorem zbX7_top_1 : zby cX7_top 16 20 = [78, 61, 42, 180, 0, 13, 28, 50, 176] := by decide +kernel
theorem dX7_top_17 : decode cX7_top 17 = .ok (.istore_n 2, 1) := dq_61 (zby_at (j := 1) zbX7_top_1 rfl)
theorem dX7_top_18 : decode cX7_top 18 = .ok (.aload_n 0, 1) := dq_42 (zby_at (j := 2) zbX7_top_1 rfl)
theorem dX7_top_19 : decode cX7_top 19 = .ok (.getfield 13, 3) := dq_180 (zby_at (j := 3) zbX7_top_1 rfl) (zby_at (j := 4) zbX7_top_1 rfl) (zby_at (j := 5) zbX7_top_1 rfl)
theorem dX7_top_22 : decode cX7_top 22 = .ok (.iload_n 2, 1) := dq_28 (zby_at (j := 6) zbX7_top_1 rfl)
theorem dX7_top_23 : decode cX7_top 23 = .ok (.aaload, 1) := dq_50 (zby_at (j := 7) zbX7_top_1 rfl)
theorem dX7_top_24 : decode cX7_top 24 = .ok (.areturn, 1) := dq_176 (zby_at (j := 8) zbX7_top_1 rfl)
theorem zbX8_init_0 : zby cX8_init 0 20 = [42, 183, 0, 3, 42, 17, 4, 0, 188, 10, 181, 0, 9, 42, 17, 3, 223, 188, 10, 181] := by decide +kernel
theorem dX8_init_0 : decode cX8_init 0 = .ok (.aload_n 0, 1) := dq_42 (zby_at (j := 0) zbX8_init_0 rfl)
theorem dX8_init_1 : decode cX8_init 1 = .ok (.invokespecial 3, 3) := dq_183 (zby_at (j := 1) zbX8_init_0 rfl) (zby_at (j := 2) zbX8_init_0 rfl) (zby_at (j := 3) zbX8_init_0 rfl)
theorem dX8_init_4 : decode cX8_init 4 = .ok (.aload_n 0, 1) := dq_42 (zby_at (j := 4) zbX8_init_0 rfl)
theorem dX8_init_5 : decode cX8_init 5 = .ok (.sipush 1024, 3) := dq_17 (zby_at (j := 5) zbX8_init_0 rfl) (zby_at (j := 6) zbX8_init_0 rfl) (zby_at (j := 7) zbX8_init_0 rfl) rfl
theorem dX8_init_8 : decode cX8_init 8 = .ok (.newarray .int, 2) := dq_188_10 (zby_at (j := 8) zbX8_init_0 rfl) (zby_at (j := 9) zbX8_init_0 rfl)
theorem dX8_init_10 : decode cX8_init 10 = .ok (.putfield 9, 3) := dq_181 (zby_at (j := 10) zbX8_init_0 rfl) (zby_at (j := 11) zbX8_init_0 rfl) (zby_at (j := 12) zbX8_init_0 rfl)
theorem dX8_init_13 : decode cX8_init 13 = .ok (.aload_n 0, 1) := dq_42 (zby_at (j := 13) zbX8_init_0 rfl)
theorem dX8_init_14 : decode cX8_init 14 = .ok (.sipush 991, 3) := dq_17 (zby_at (j := 14) zbX8_init_0 rfl) (zby_at (j := 15) zbX8_init_0 rfl) (zby_at (j := 16) zbX8_init_0 rfl) rfl
theorem zbX8_init_1 : zby cX8_init 16 20 = [223, 188, 10, 181, 0, 15, 177] := by decide +kernel
theorem dX8_init_17 : decode cX8_init 17 = .ok (.newarray .int, 2) := dq_188_10 (zby_at (j := 1) zbX8_init_1 rfl) (zby_at (j := 2) zbX8_init_1 rfl)
theorem dX8_init_19 : decode cX8_init 19 = .ok (.putfield 15, 3) := dq_181 (zby_at (j := 3) zbX8_init_1 rfl) (zby_at (j := 4) zbX8_init_1 rfl) (zby_at (j := 5) zbX8_init_1 rfl)
theorem dX8_init_22 : decode cX8_init 22 = .ok (.return_, 1) := dq_177 (zby_at (j := 6) zbX8_init_1 rfl)
theorem zbX8_weighSets_0 : zby cX8_weighSets 0 20 = [42, 180, 0, 9, 3, 3, 79, 3, 61, 28, 43, 180, 0, 18, 162, 0, 57, 28, 16, 10] := by decide +kernel
theorem dX8_weighSets_0 : decode cX8_weighSets 0 = .ok (.aload_n 0, 1) := dq_42 (zby_at (j := 0) zbX8_weighSets_0 rfl)
theorem dX8_weighSets_1 : decode cX8_weighSets 1 = .ok (.getfield 9, 3) := dq_180 (zby_at (j := 1) zbX8_weighSets_0 rfl) (zby_at (j := 2) zbX8_weighSets_0 rfl) (zby_at (j := 3) zbX8_weighSets_0 rfl)
theorem dX8_weighSets_4 : decode cX8_weighSets 4 = .ok (.iconst 0, 1) := dq_3 (zby_at (j := 4) zbX8_weighSets_0 rfl)
theorem dX8_weighSets_5 : decode cX8_weighSets 5 = .ok (.iconst 0, 1) := dq_3 (zby_at (j := 5) zbX8_weighSets_0 rfl)
theorem dX8_weighSets_6 : decode cX8_weighSets 6 = .ok (.iastore, 1) := dq_79 (zby_at (j := 6) zbX8_weighSets_0 rfl)
theorem dX8_weighSets_7 : decode cX8_weighSets 7 = .ok (.iconst 0, 1) := dq_3 (zby_at (j := 7) zbX8_weighSets_0 rfl)
theorem dX8_weighSets_8 : decode cX8_weighSets 8 = .ok (.istore_n 2, 1) := dq_61 (zby_at (j := 8) zbX8_weighSets_0 rfl)
theorem dX8_weighSets_9 : decode cX8_weighSets 9 = .ok (.iload_n 2, 1) := dq_28 (zby_at (j := 9) zbX8_weighSets_0 rfl)
theorem dX8_weighSets_10 : decode cX8_weighSets 10 = .ok (.aload_n 1, 1) := dq_43 (zby_at (j := 10) zbX8_weighSets_0 rfl)
theorem dX8_weighSets_11 : decode cX8_weighSets 11 = .ok (.getfield 18, 3) := dq_180 (zby_at (j := 11) zbX8_weighSets_0 rfl) (zby_at (j := 12) zbX8_weighSets_0 rfl) (zby_at (j := 13) zbX8_weighSets_0 rfl)
theorem dX8_weighSets_14 : decode cX8_weighSets 14 = .ok (.if_icmp .ge 57, 3) := dq_162 (zby_at (j := 14) zbX8_weighSets_0 rfl) (zby_at (j := 15) zbX8_weighSets_0 rfl) (zby_at (j := 16) zbX8_weighSets_0 rfl) rfl
theorem zbX8_weighSets_1 : zby cX8_weighSets 16 20 = [57, 28, 16, 10, 162, 0, 51, 4, 28, 120, 62, 3, 54, 4, 21, 4, 29, 162, 0, 32] := by decide +kernel
theorem dX8_weighSets_17 : decode cX8_weighSets 17 = .ok (.iload_n 2, 1) := dq_28 (zby_at (j := 1) zbX8_weighSets_1 rfl)
theorem dX8_weighSets_18 : decode cX8_weighSets 18 = .ok (.bipush 10, 2) := dq_16 (zby_at (j := 2) zbX8_weighSets_1 rfl) (zby_at (j := 3) zbX8_weighSets_1 rfl) rfl
theorem dX8_weighSets_20 : decode cX8_weighSets 20 = .ok (.if_icmp .ge 51, 3) := dq_162 (zby_at (j := 4) zbX8_weighSets_1 rfl) (zby_at (j := 5) zbX8_weighSets_1 rfl) (zby_at (j := 6) zbX8_weighSets_1 rfl) rfl
theorem dX8_weighSets_23 : decode cX8_weighSets 23 = .ok (.iconst 1, 1) := dq_4 (zby_at (j := 7) zbX8_weighSets_1 rfl)
theorem dX8_weighSets_24 : decode cX8_weighSets 24 = .ok (.iload_n 2, 1) := dq_28 (zby_at (j := 8) zbX8_weighSets_1 rfl)
theorem dX8_weighSets_25 : decode cX8_weighSets 25 = .ok (.ishl, 1) := dq_120 (zby_at (j := 9) zbX8_weighSets_1 rfl)
theorem dX8_weighSets_26 : decode cX8_weighSets 26 = .ok (.istore_n 3, 1) := dq_62 (zby_at (j := 10) zbX8_weighSets_1 rfl)
theorem dX8_weighSets_27 : decode cX8_weighSets 27 = .ok (.iconst 0, 1) := dq_3 (zby_at (j := 11) zbX8_weighSets_1 rfl)
theorem dX8_weighSets_28 : decode cX8_weighSets 28 = .ok (.istore 4, 2) := dq_54 (zby_at (j := 12) zbX8_weighSets_1 rfl) (zby_at (j := 13) zbX8_weighSets_1 rfl)
theorem dX8_weighSets_30 : decode cX8_weighSets 30 = .ok (.iload 4, 2) := dq_21 (zby_at (j := 14) zbX8_weighSets_1 rfl) (zby_at (j := 15) zbX8_weighSets_1 rfl)
theorem zbX8_weighSets_2 : zby cX8_weighSets 32 20 = [29, 162, 0, 32, 42, 180, 0, 9, 29, 21, 4, 96, 42, 180, 0, 9, 21, 4, 46, 43] := by decide +kernel
theorem dX8_weighSets_32 : decode cX8_weighSets 32 = .ok (.iload_n 3, 1) := dq_29 (zby_at (j := 0) zbX8_weighSets_2 rfl)
theorem dX8_weighSets_33 : decode cX8_weighSets 33 = .ok (.if_icmp .ge 32, 3) := dq_162 (zby_at (j := 1) zbX8_weighSets_2 rfl) (zby_at (j := 2) zbX8_weighSets_2 rfl) (zby_at (j := 3) zbX8_weighSets_2 rfl) rfl
theorem dX8_weighSets_36 : decode cX8_weighSets 36 = .ok (.aload_n 0, 1) := dq_42 (zby_at (j := 4) zbX8_weighSets_2 rfl)
theorem dX8_weighSets_37 : decode cX8_weighSets 37 = .ok (.getfield 9, 3) := dq_180 (zby_at (j := 5) zbX8_weighSets_2 rfl) (zby_at (j := 6) zbX8_weighSets_2 rfl) (zby_at (j := 7) zbX8_weighSets_2 rfl)
theorem dX8_weighSets_40 : decode cX8_weighSets 40 = .ok (.iload_n 3, 1) := dq_29 (zby_at (j := 8) zbX8_weighSets_2 rfl)
theorem dX8_weighSets_41 : decode cX8_weighSets 41 = .ok (.iload 4, 2) := dq_21 (zby_at (j := 9) zbX8_weighSets_2 rfl) (zby_at (j := 10) zbX8_weighSets_2 rfl)
theorem dX8_weighSets_43 : decode cX8_weighSets 43 = .ok (.iadd, 1) := dq_96 (zby_at (j := 11) zbX8_weighSets_2 rfl)
theorem dX8_weighSets_44 : decode cX8_weighSets 44 = .ok (.aload_n 0, 1) := dq_42 (zby_at (j := 12) zbX8_weighSets_2 rfl)
theorem dX8_weighSets_45 : decode cX8_weighSets 45 = .ok (.getfield 9, 3) := dq_180 (zby_at (j := 13) zbX8_weighSets_2 rfl) (zby_at (j := 14) zbX8_weighSets_2 rfl) (zby_at (j := 15) zbX8_weighSets_2 rfl)
theorem zbX8_weighSets_3 : zby cX8_weighSets 48 20 = [21, 4, 46, 43, 180, 0, 24, 28, 46, 96, 79, 132, 4, 1, 167, 255, 224, 132, 2, 1] := by decide +kernel
theorem dX8_weighSets_48 : decode cX8_weighSets 48 = .ok (.iload 4, 2) := dq_21 (zby_at (j := 0) zbX8_weighSets_3 rfl) (zby_at (j := 1) zbX8_weighSets_3 rfl)
theorem dX8_weighSets_50 : decode cX8_weighSets 50 = .ok (.iaload, 1) := dq_46 (zby_at (j := 2) zbX8_weighSets_3 rfl)
theorem dX8_weighSets_51 : decode cX8_weighSets 51 = .ok (.aload_n 1, 1) := dq_43 (zby_at (j := 3) zbX8_weighSets_3 rfl)
theorem dX8_weighSets_52 : decode cX8_weighSets 52 = .ok (.getfield 24, 3) := dq_180 (zby_at (j := 4) zbX8_weighSets_3 rfl) (zby_at (j := 5) zbX8_weighSets_3 rfl) (zby_at (j := 6) zbX8_weighSets_3 rfl)
theorem dX8_weighSets_55 : decode cX8_weighSets 55 = .ok (.iload_n 2, 1) := dq_28 (zby_at (j := 7) zbX8_weighSets_3 rfl)
theorem dX8_weighSets_56 : decode cX8_weighSets 56 = .ok (.iaload, 1) := dq_46 (zby_at (j := 8) zbX8_weighSets_3 rfl)
theorem dX8_weighSets_57 : decode cX8_weighSets 57 = .ok (.iadd, 1) := dq_96 (zby_at (j := 9) zbX8_weighSets_3 rfl)
theorem dX8_weighSets_58 : decode cX8_weighSets 58 = .ok (.iastore, 1) := dq_79 (zby_at (j := 10) zbX8_weighSets_3 rfl)
theorem dX8_weighSets_59 : decode cX8_weighSets 59 = .ok (.iinc 4 1, 3) := dq_132 (zby_at (j := 11) zbX8_weighSets_3 rfl) (zby_at (j := 12) zbX8_weighSets_3 rfl) (zby_at (j := 13) zbX8_weighSets_3 rfl) rfl
theorem dX8_weighSets_62 : decode cX8_weighSets 62 = .ok (.goto (-32), 3) := dq_167 (zby_at (j := 14) zbX8_weighSets_3 rfl) (zby_at (j := 15) zbX8_weighSets_3 rfl) (zby_at (j := 16) zbX8_weighSets_3 rfl) rfl
theorem zbX8_weighSets_4 : zby cX8_weighSets 64 20 = [224, 132, 2, 1, 167, 255, 197, 177] := by decide +kernel
theorem dX8_weighSets_65 : decode cX8_weighSets 65 = .ok (.iinc 2 1, 3) := dq_132 (zby_at (j := 1) zbX8_weighSets_4 rfl) (zby_at (j := 2) zbX8_weighSets_4 rfl) (zby_at (j := 3) zbX8_weighSets_4 rfl) rfl
theorem dX8_weighSets_68 : decode cX8_weighSets 68 = .ok (.goto (-59), 3) := dq_167 (zby_at (j := 4) zbX8_weighSets_4 rfl) (zby_at (j := 5) zbX8_weighSets_4 rfl) (zby_at (j := 6) zbX8_weighSets_4 rfl) rfl
theorem dX8_weighSets_71 : decode cX8_weighSets 71 = .ok (.return_, 1) := dq_177 (zby_at (j := 7) zbX8_weighSets_4 rfl)
theorem zbX8_sum_0 : zby cX8_sum 0 20 = [44, 182, 0, 27, 153, 0, 14, 29, 5, 160, 0, 7, 3, 167, 0, 4, 2, 172, 42, 43] := by decide +kernel
theorem dX8_sum_0 : decode cX8_sum 0 = .ok (.aload_n 2, 1) := dq_44 (zby_at (j := 0) zbX8_sum_0 rfl)
theorem dX8_sum_1 : decode cX8_sum 1 = .ok (.invokevirtual 27, 3) := dq_182 (zby_at (j := 1) zbX8_sum_0 rfl) (zby_at (j := 2) zbX8_sum_0 rfl) (zby_at (j := 3) zbX8_sum_0 rfl)
theorem dX8_sum_4 : decode cX8_sum 4 = .ok (.ifCond .eq 14, 3) := dq_153 (zby_at (j := 4) zbX8_sum_0 rfl) (zby_at (j := 5) zbX8_sum_0 rfl) (zby_at (j := 6) zbX8_sum_0 rfl) rfl
theorem dX8_sum_7 : decode cX8_sum 7 = .ok (.iload_n 3, 1) := dq_29 (zby_at (j := 7) zbX8_sum_0 rfl)
theorem dX8_sum_8 : decode cX8_sum 8 = .ok (.iconst 2, 1) := dq_5 (zby_at (j := 8) zbX8_sum_0 rfl)
theorem dX8_sum_9 : decode cX8_sum 9 = .ok (.if_icmp .ne 7, 3) := dq_160 (zby_at (j := 9) zbX8_sum_0 rfl) (zby_at (j := 10) zbX8_sum_0 rfl) (zby_at (j := 11) zbX8_sum_0 rfl) rfl
theorem dX8_sum_12 : decode cX8_sum 12 = .ok (.iconst 0, 1) := dq_3 (zby_at (j := 12) zbX8_sum_0 rfl)
theorem dX8_sum_13 : decode cX8_sum 13 = .ok (.goto 4, 3) := dq_167 (zby_at (j := 13) zbX8_sum_0 rfl) (zby_at (j := 14) zbX8_sum_0 rfl) (zby_at (j := 15) zbX8_sum_0 rfl) rfl
theorem zbX8_sum_1 : zby cX8_sum 16 20 = [2, 172, 42, 43, 182, 0, 33, 17, 3, 222, 54, 4, 3, 54, 5, 3, 54, 6, 44, 3] := by decide +kernel
theorem dX8_sum_16 : decode cX8_sum 16 = .ok (.iconst (-1), 1) := dq_2 (zby_at (j := 0) zbX8_sum_1 rfl)
theorem dX8_sum_17 : decode cX8_sum 17 = .ok (.ireturn, 1) := dq_172 (zby_at (j := 1) zbX8_sum_1 rfl)
theorem dX8_sum_18 : decode cX8_sum 18 = .ok (.aload_n 0, 1) := dq_42 (zby_at (j := 2) zbX8_sum_1 rfl)
theorem dX8_sum_19 : decode cX8_sum 19 = .ok (.aload_n 1, 1) := dq_43 (zby_at (j := 3) zbX8_sum_1 rfl)
theorem dX8_sum_20 : decode cX8_sum 20 = .ok (.invokevirtual 33, 3) := dq_182 (zby_at (j := 4) zbX8_sum_1 rfl) (zby_at (j := 5) zbX8_sum_1 rfl) (zby_at (j := 6) zbX8_sum_1 rfl)
theorem dX8_sum_23 : decode cX8_sum 23 = .ok (.sipush 990, 3) := dq_17 (zby_at (j := 7) zbX8_sum_1 rfl) (zby_at (j := 8) zbX8_sum_1 rfl) (zby_at (j := 9) zbX8_sum_1 rfl) rfl
theorem dX8_sum_26 : decode cX8_sum 26 = .ok (.istore 4, 2) := dq_54 (zby_at (j := 10) zbX8_sum_1 rfl) (zby_at (j := 11) zbX8_sum_1 rfl)
theorem dX8_sum_28 : decode cX8_sum 28 = .ok (.iconst 0, 1) := dq_3 (zby_at (j := 12) zbX8_sum_1 rfl)
theorem dX8_sum_29 : decode cX8_sum 29 = .ok (.istore 5, 2) := dq_54 (zby_at (j := 13) zbX8_sum_1 rfl) (zby_at (j := 14) zbX8_sum_1 rfl)
theorem dX8_sum_31 : decode cX8_sum 31 = .ok (.iconst 0, 1) := dq_3 (zby_at (j := 15) zbX8_sum_1 rfl)
theorem zbX8_sum_2 : zby cX8_sum 32 20 = [54, 6, 44, 3, 182, 0, 37, 54, 7, 3, 54, 8, 21, 8, 17, 4, 0, 162, 0, 64] := by decide +kernel
theorem dX8_sum_32 : decode cX8_sum 32 = .ok (.istore 6, 2) := dq_54 (zby_at (j := 0) zbX8_sum_2 rfl) (zby_at (j := 1) zbX8_sum_2 rfl)
theorem dX8_sum_34 : decode cX8_sum 34 = .ok (.aload_n 2, 1) := dq_44 (zby_at (j := 2) zbX8_sum_2 rfl)
theorem dX8_sum_35 : decode cX8_sum 35 = .ok (.iconst 0, 1) := dq_3 (zby_at (j := 3) zbX8_sum_2 rfl)
theorem dX8_sum_36 : decode cX8_sum 36 = .ok (.invokevirtual 37, 3) := dq_182 (zby_at (j := 4) zbX8_sum_2 rfl) (zby_at (j := 5) zbX8_sum_2 rfl) (zby_at (j := 6) zbX8_sum_2 rfl)
theorem dX8_sum_39 : decode cX8_sum 39 = .ok (.istore 7, 2) := dq_54 (zby_at (j := 7) zbX8_sum_2 rfl) (zby_at (j := 8) zbX8_sum_2 rfl)
theorem dX8_sum_41 : decode cX8_sum 41 = .ok (.iconst 0, 1) := dq_3 (zby_at (j := 9) zbX8_sum_2 rfl)
theorem dX8_sum_42 : decode cX8_sum 42 = .ok (.istore 8, 2) := dq_54 (zby_at (j := 10) zbX8_sum_2 rfl) (zby_at (j := 11) zbX8_sum_2 rfl)
theorem dX8_sum_44 : decode cX8_sum 44 = .ok (.iload 8, 2) := dq_21 (zby_at (j := 12) zbX8_sum_2 rfl) (zby_at (j := 13) zbX8_sum_2 rfl)
theorem dX8_sum_46 : decode cX8_sum 46 = .ok (.sipush 1024, 3) := dq_17 (zby_at (j := 14) zbX8_sum_2 rfl) (zby_at (j := 15) zbX8_sum_2 rfl) (zby_at (j := 16) zbX8_sum_2 rfl) rfl
theorem zbX8_sum_3 : zby cX8_sum 48 20 = [0, 162, 0, 64, 21, 7, 155, 0, 59, 21, 4, 42, 180, 0, 9, 21, 7, 46, 184, 0] := by decide +kernel
theorem dX8_sum_49 : decode cX8_sum 49 = .ok (.if_icmp .ge 64, 3) := dq_162 (zby_at (j := 1) zbX8_sum_3 rfl) (zby_at (j := 2) zbX8_sum_3 rfl) (zby_at (j := 3) zbX8_sum_3 rfl) rfl
theorem dX8_sum_52 : decode cX8_sum 52 = .ok (.iload 7, 2) := dq_21 (zby_at (j := 4) zbX8_sum_3 rfl) (zby_at (j := 5) zbX8_sum_3 rfl)
theorem dX8_sum_54 : decode cX8_sum 54 = .ok (.ifCond .lt 59, 3) := dq_155 (zby_at (j := 6) zbX8_sum_3 rfl) (zby_at (j := 7) zbX8_sum_3 rfl) (zby_at (j := 8) zbX8_sum_3 rfl) rfl
theorem dX8_sum_57 : decode cX8_sum 57 = .ok (.iload 4, 2) := dq_21 (zby_at (j := 9) zbX8_sum_3 rfl) (zby_at (j := 10) zbX8_sum_3 rfl)
theorem dX8_sum_59 : decode cX8_sum 59 = .ok (.aload_n 0, 1) := dq_42 (zby_at (j := 11) zbX8_sum_3 rfl)
theorem dX8_sum_60 : decode cX8_sum 60 = .ok (.getfield 9, 3) := dq_180 (zby_at (j := 12) zbX8_sum_3 rfl) (zby_at (j := 13) zbX8_sum_3 rfl) (zby_at (j := 14) zbX8_sum_3 rfl)
theorem dX8_sum_63 : decode cX8_sum 63 = .ok (.iload 7, 2) := dq_21 (zby_at (j := 15) zbX8_sum_3 rfl) (zby_at (j := 16) zbX8_sum_3 rfl)
theorem zbX8_sum_4 : zby cX8_sum 64 20 = [7, 46, 184, 0, 41, 54, 4, 21, 5, 42, 180, 0, 9, 21, 7, 46, 184, 0, 47, 54] := by decide +kernel
theorem dX8_sum_65 : decode cX8_sum 65 = .ok (.iaload, 1) := dq_46 (zby_at (j := 1) zbX8_sum_4 rfl)
theorem dX8_sum_66 : decode cX8_sum 66 = .ok (.invokestatic 41, 3) := dq_184 (zby_at (j := 2) zbX8_sum_4 rfl) (zby_at (j := 3) zbX8_sum_4 rfl) (zby_at (j := 4) zbX8_sum_4 rfl)
theorem dX8_sum_69 : decode cX8_sum 69 = .ok (.istore 4, 2) := dq_54 (zby_at (j := 5) zbX8_sum_4 rfl) (zby_at (j := 6) zbX8_sum_4 rfl)
theorem dX8_sum_71 : decode cX8_sum 71 = .ok (.iload 5, 2) := dq_21 (zby_at (j := 7) zbX8_sum_4 rfl) (zby_at (j := 8) zbX8_sum_4 rfl)
theorem dX8_sum_73 : decode cX8_sum 73 = .ok (.aload_n 0, 1) := dq_42 (zby_at (j := 9) zbX8_sum_4 rfl)
theorem dX8_sum_74 : decode cX8_sum 74 = .ok (.getfield 9, 3) := dq_180 (zby_at (j := 10) zbX8_sum_4 rfl) (zby_at (j := 11) zbX8_sum_4 rfl) (zby_at (j := 12) zbX8_sum_4 rfl)
theorem dX8_sum_77 : decode cX8_sum 77 = .ok (.iload 7, 2) := dq_21 (zby_at (j := 13) zbX8_sum_4 rfl) (zby_at (j := 14) zbX8_sum_4 rfl)
theorem dX8_sum_79 : decode cX8_sum 79 = .ok (.iaload, 1) := dq_46 (zby_at (j := 15) zbX8_sum_4 rfl)
theorem zbX8_sum_5 : zby cX8_sum 80 20 = [184, 0, 47, 54, 5, 21, 6, 42, 180, 0, 9, 21, 7, 46, 96, 54, 6, 44, 21, 7] := by decide +kernel
theorem dX8_sum_80 : decode cX8_sum 80 = .ok (.invokestatic 47, 3) := dq_184 (zby_at (j := 0) zbX8_sum_5 rfl) (zby_at (j := 1) zbX8_sum_5 rfl) (zby_at (j := 2) zbX8_sum_5 rfl)
theorem dX8_sum_83 : decode cX8_sum 83 = .ok (.istore 5, 2) := dq_54 (zby_at (j := 3) zbX8_sum_5 rfl) (zby_at (j := 4) zbX8_sum_5 rfl)
theorem dX8_sum_85 : decode cX8_sum 85 = .ok (.iload 6, 2) := dq_21 (zby_at (j := 5) zbX8_sum_5 rfl) (zby_at (j := 6) zbX8_sum_5 rfl)
theorem dX8_sum_87 : decode cX8_sum 87 = .ok (.aload_n 0, 1) := dq_42 (zby_at (j := 7) zbX8_sum_5 rfl)
theorem dX8_sum_88 : decode cX8_sum 88 = .ok (.getfield 9, 3) := dq_180 (zby_at (j := 8) zbX8_sum_5 rfl) (zby_at (j := 9) zbX8_sum_5 rfl) (zby_at (j := 10) zbX8_sum_5 rfl)
theorem dX8_sum_91 : decode cX8_sum 91 = .ok (.iload 7, 2) := dq_21 (zby_at (j := 11) zbX8_sum_5 rfl) (zby_at (j := 12) zbX8_sum_5 rfl)
theorem dX8_sum_93 : decode cX8_sum 93 = .ok (.iaload, 1) := dq_46 (zby_at (j := 13) zbX8_sum_5 rfl)
theorem dX8_sum_94 : decode cX8_sum 94 = .ok (.iadd, 1) := dq_96 (zby_at (j := 14) zbX8_sum_5 rfl)
theorem dX8_sum_95 : decode cX8_sum 95 = .ok (.istore 6, 2) := dq_54 (zby_at (j := 15) zbX8_sum_5 rfl) (zby_at (j := 16) zbX8_sum_5 rfl)
theorem zbX8_sum_6 : zby cX8_sum 96 20 = [6, 44, 21, 7, 4, 96, 182, 0, 37, 54, 7, 132, 8, 1, 167, 255, 190, 29, 154, 0] := by decide +kernel
theorem dX8_sum_97 : decode cX8_sum 97 = .ok (.aload_n 2, 1) := dq_44 (zby_at (j := 1) zbX8_sum_6 rfl)
theorem dX8_sum_98 : decode cX8_sum 98 = .ok (.iload 7, 2) := dq_21 (zby_at (j := 2) zbX8_sum_6 rfl) (zby_at (j := 3) zbX8_sum_6 rfl)
theorem dX8_sum_100 : decode cX8_sum 100 = .ok (.iconst 1, 1) := dq_4 (zby_at (j := 4) zbX8_sum_6 rfl)
theorem dX8_sum_101 : decode cX8_sum 101 = .ok (.iadd, 1) := dq_96 (zby_at (j := 5) zbX8_sum_6 rfl)
theorem dX8_sum_102 : decode cX8_sum 102 = .ok (.invokevirtual 37, 3) := dq_182 (zby_at (j := 6) zbX8_sum_6 rfl) (zby_at (j := 7) zbX8_sum_6 rfl) (zby_at (j := 8) zbX8_sum_6 rfl)
theorem dX8_sum_105 : decode cX8_sum 105 = .ok (.istore 7, 2) := dq_54 (zby_at (j := 9) zbX8_sum_6 rfl) (zby_at (j := 10) zbX8_sum_6 rfl)
theorem dX8_sum_107 : decode cX8_sum 107 = .ok (.iinc 8 1, 3) := dq_132 (zby_at (j := 11) zbX8_sum_6 rfl) (zby_at (j := 12) zbX8_sum_6 rfl) (zby_at (j := 13) zbX8_sum_6 rfl) rfl
theorem dX8_sum_110 : decode cX8_sum 110 = .ok (.goto (-66), 3) := dq_167 (zby_at (j := 14) zbX8_sum_6 rfl) (zby_at (j := 15) zbX8_sum_6 rfl) (zby_at (j := 16) zbX8_sum_6 rfl) rfl
theorem zbX8_sum_7 : zby cX8_sum 112 20 = [190, 29, 154, 0, 6, 21, 4, 172, 29, 4, 160, 0, 8, 21, 5, 167, 0, 5, 21, 6] := by decide +kernel
theorem dX8_sum_113 : decode cX8_sum 113 = .ok (.iload_n 3, 1) := dq_29 (zby_at (j := 1) zbX8_sum_7 rfl)
theorem dX8_sum_114 : decode cX8_sum 114 = .ok (.ifCond .ne 6, 3) := dq_154 (zby_at (j := 2) zbX8_sum_7 rfl) (zby_at (j := 3) zbX8_sum_7 rfl) (zby_at (j := 4) zbX8_sum_7 rfl) rfl
theorem dX8_sum_117 : decode cX8_sum 117 = .ok (.iload 4, 2) := dq_21 (zby_at (j := 5) zbX8_sum_7 rfl) (zby_at (j := 6) zbX8_sum_7 rfl)
theorem dX8_sum_119 : decode cX8_sum 119 = .ok (.ireturn, 1) := dq_172 (zby_at (j := 7) zbX8_sum_7 rfl)
theorem dX8_sum_120 : decode cX8_sum 120 = .ok (.iload_n 3, 1) := dq_29 (zby_at (j := 8) zbX8_sum_7 rfl)
theorem dX8_sum_121 : decode cX8_sum 121 = .ok (.iconst 1, 1) := dq_4 (zby_at (j := 9) zbX8_sum_7 rfl)
theorem dX8_sum_122 : decode cX8_sum 122 = .ok (.if_icmp .ne 8, 3) := dq_160 (zby_at (j := 10) zbX8_sum_7 rfl) (zby_at (j := 11) zbX8_sum_7 rfl) (zby_at (j := 12) zbX8_sum_7 rfl) rfl
theorem dX8_sum_125 : decode cX8_sum 125 = .ok (.iload 5, 2) := dq_21 (zby_at (j := 13) zbX8_sum_7 rfl) (zby_at (j := 14) zbX8_sum_7 rfl)
theorem dX8_sum_127 : decode cX8_sum 127 = .ok (.goto 5, 3) := dq_167 (zby_at (j := 15) zbX8_sum_7 rfl) (zby_at (j := 16) zbX8_sum_7 rfl) (zby_at (j := 17) zbX8_sum_7 rfl) rfl
theorem zbX8_sum_8 : zby cX8_sum 128 20 = [0, 5, 21, 6, 172] := by decide +kernel
theorem dX8_sum_130 : decode cX8_sum 130 = .ok (.iload 6, 2) := dq_21 (zby_at (j := 2) zbX8_sum_8 rfl) (zby_at (j := 3) zbX8_sum_8 rfl)
theorem dX8_sum_132 : decode cX8_sum 132 = .ok (.ireturn, 1) := dq_172 (zby_at (j := 4) zbX8_sum_8 rfl)
theorem zbX8_pick_0 : zby cX8_pick 0 20 = [29, 155, 0, 11, 29, 44, 182, 0, 50, 161, 0, 5, 2, 172, 42, 43, 182, 0, 33, 42] := by decide +kernel
theorem dX8_pick_0 : decode cX8_pick 0 = .ok (.iload_n 3, 1) := dq_29 (zby_at (j := 0) zbX8_pick_0 rfl)
theorem dX8_pick_1 : decode cX8_pick 1 = .ok (.ifCond .lt 11, 3) := dq_155 (zby_at (j := 1) zbX8_pick_0 rfl) (zby_at (j := 2) zbX8_pick_0 rfl) (zby_at (j := 3) zbX8_pick_0 rfl) rfl
theorem dX8_pick_4 : decode cX8_pick 4 = .ok (.iload_n 3, 1) := dq_29 (zby_at (j := 4) zbX8_pick_0 rfl)
theorem dX8_pick_5 : decode cX8_pick 5 = .ok (.aload_n 2, 1) := dq_44 (zby_at (j := 5) zbX8_pick_0 rfl)
theorem dX8_pick_6 : decode cX8_pick 6 = .ok (.invokevirtual 50, 3) := dq_182 (zby_at (j := 6) zbX8_pick_0 rfl) (zby_at (j := 7) zbX8_pick_0 rfl) (zby_at (j := 8) zbX8_pick_0 rfl)
theorem dX8_pick_9 : decode cX8_pick 9 = .ok (.if_icmp .lt 5, 3) := dq_161 (zby_at (j := 9) zbX8_pick_0 rfl) (zby_at (j := 10) zbX8_pick_0 rfl) (zby_at (j := 11) zbX8_pick_0 rfl) rfl
theorem dX8_pick_12 : decode cX8_pick 12 = .ok (.iconst (-1), 1) := dq_2 (zby_at (j := 12) zbX8_pick_0 rfl)
theorem dX8_pick_13 : decode cX8_pick 13 = .ok (.ireturn, 1) := dq_172 (zby_at (j := 13) zbX8_pick_0 rfl)
theorem dX8_pick_14 : decode cX8_pick 14 = .ok (.aload_n 0, 1) := dq_42 (zby_at (j := 14) zbX8_pick_0 rfl)
theorem dX8_pick_15 : decode cX8_pick 15 = .ok (.aload_n 1, 1) := dq_43 (zby_at (j := 15) zbX8_pick_0 rfl)
theorem zbX8_pick_1 : zby cX8_pick 16 20 = [182, 0, 33, 42, 180, 0, 15, 3, 184, 0, 54, 44, 3, 182, 0, 37, 54, 4, 3, 54] := by decide +kernel
theorem dX8_pick_16 : decode cX8_pick 16 = .ok (.invokevirtual 33, 3) := dq_182 (zby_at (j := 0) zbX8_pick_1 rfl) (zby_at (j := 1) zbX8_pick_1 rfl) (zby_at (j := 2) zbX8_pick_1 rfl)
theorem dX8_pick_19 : decode cX8_pick 19 = .ok (.aload_n 0, 1) := dq_42 (zby_at (j := 3) zbX8_pick_1 rfl)
theorem dX8_pick_20 : decode cX8_pick 20 = .ok (.getfield 15, 3) := dq_180 (zby_at (j := 4) zbX8_pick_1 rfl) (zby_at (j := 5) zbX8_pick_1 rfl) (zby_at (j := 6) zbX8_pick_1 rfl)
theorem dX8_pick_23 : decode cX8_pick 23 = .ok (.iconst 0, 1) := dq_3 (zby_at (j := 7) zbX8_pick_1 rfl)
theorem dX8_pick_24 : decode cX8_pick 24 = .ok (.invokestatic 54, 3) := dq_184 (zby_at (j := 8) zbX8_pick_1 rfl) (zby_at (j := 9) zbX8_pick_1 rfl) (zby_at (j := 10) zbX8_pick_1 rfl)
theorem dX8_pick_27 : decode cX8_pick 27 = .ok (.aload_n 2, 1) := dq_44 (zby_at (j := 11) zbX8_pick_1 rfl)
theorem dX8_pick_28 : decode cX8_pick 28 = .ok (.iconst 0, 1) := dq_3 (zby_at (j := 12) zbX8_pick_1 rfl)
theorem dX8_pick_29 : decode cX8_pick 29 = .ok (.invokevirtual 37, 3) := dq_182 (zby_at (j := 13) zbX8_pick_1 rfl) (zby_at (j := 14) zbX8_pick_1 rfl) (zby_at (j := 15) zbX8_pick_1 rfl)
theorem zbX8_pick_2 : zby cX8_pick 32 20 = [54, 4, 3, 54, 5, 21, 5, 17, 4, 0, 162, 0, 65, 21, 4, 155, 0, 60, 42, 180] := by decide +kernel
theorem dX8_pick_32 : decode cX8_pick 32 = .ok (.istore 4, 2) := dq_54 (zby_at (j := 0) zbX8_pick_2 rfl) (zby_at (j := 1) zbX8_pick_2 rfl)
theorem dX8_pick_34 : decode cX8_pick 34 = .ok (.iconst 0, 1) := dq_3 (zby_at (j := 2) zbX8_pick_2 rfl)
theorem dX8_pick_35 : decode cX8_pick 35 = .ok (.istore 5, 2) := dq_54 (zby_at (j := 3) zbX8_pick_2 rfl) (zby_at (j := 4) zbX8_pick_2 rfl)
theorem dX8_pick_37 : decode cX8_pick 37 = .ok (.iload 5, 2) := dq_21 (zby_at (j := 5) zbX8_pick_2 rfl) (zby_at (j := 6) zbX8_pick_2 rfl)
theorem dX8_pick_39 : decode cX8_pick 39 = .ok (.sipush 1024, 3) := dq_17 (zby_at (j := 7) zbX8_pick_2 rfl) (zby_at (j := 8) zbX8_pick_2 rfl) (zby_at (j := 9) zbX8_pick_2 rfl) rfl
theorem dX8_pick_42 : decode cX8_pick 42 = .ok (.if_icmp .ge 65, 3) := dq_162 (zby_at (j := 10) zbX8_pick_2 rfl) (zby_at (j := 11) zbX8_pick_2 rfl) (zby_at (j := 12) zbX8_pick_2 rfl) rfl
theorem dX8_pick_45 : decode cX8_pick 45 = .ok (.iload 4, 2) := dq_21 (zby_at (j := 13) zbX8_pick_2 rfl) (zby_at (j := 14) zbX8_pick_2 rfl)
theorem dX8_pick_47 : decode cX8_pick 47 = .ok (.ifCond .lt 60, 3) := dq_155 (zby_at (j := 15) zbX8_pick_2 rfl) (zby_at (j := 16) zbX8_pick_2 rfl) (zby_at (j := 17) zbX8_pick_2 rfl) rfl
theorem zbX8_pick_3 : zby cX8_pick 48 20 = [0, 60, 42, 180, 0, 9, 21, 4, 46, 155, 0, 34, 42, 180, 0, 9, 21, 4, 46, 42] := by decide +kernel
theorem dX8_pick_50 : decode cX8_pick 50 = .ok (.aload_n 0, 1) := dq_42 (zby_at (j := 2) zbX8_pick_3 rfl)
theorem dX8_pick_51 : decode cX8_pick 51 = .ok (.getfield 9, 3) := dq_180 (zby_at (j := 3) zbX8_pick_3 rfl) (zby_at (j := 4) zbX8_pick_3 rfl) (zby_at (j := 5) zbX8_pick_3 rfl)
theorem dX8_pick_54 : decode cX8_pick 54 = .ok (.iload 4, 2) := dq_21 (zby_at (j := 6) zbX8_pick_3 rfl) (zby_at (j := 7) zbX8_pick_3 rfl)
theorem dX8_pick_56 : decode cX8_pick 56 = .ok (.iaload, 1) := dq_46 (zby_at (j := 8) zbX8_pick_3 rfl)
theorem dX8_pick_57 : decode cX8_pick 57 = .ok (.ifCond .lt 34, 3) := dq_155 (zby_at (j := 9) zbX8_pick_3 rfl) (zby_at (j := 10) zbX8_pick_3 rfl) (zby_at (j := 11) zbX8_pick_3 rfl) rfl
theorem dX8_pick_60 : decode cX8_pick 60 = .ok (.aload_n 0, 1) := dq_42 (zby_at (j := 12) zbX8_pick_3 rfl)
theorem dX8_pick_61 : decode cX8_pick 61 = .ok (.getfield 9, 3) := dq_180 (zby_at (j := 13) zbX8_pick_3 rfl) (zby_at (j := 14) zbX8_pick_3 rfl) (zby_at (j := 15) zbX8_pick_3 rfl)
theorem zbX8_pick_4 : zby cX8_pick 64 20 = [21, 4, 46, 42, 180, 0, 15, 190, 162, 0, 19, 42, 180, 0, 15, 42, 180, 0, 9, 21] := by decide +kernel
theorem dX8_pick_64 : decode cX8_pick 64 = .ok (.iload 4, 2) := dq_21 (zby_at (j := 0) zbX8_pick_4 rfl) (zby_at (j := 1) zbX8_pick_4 rfl)
theorem dX8_pick_66 : decode cX8_pick 66 = .ok (.iaload, 1) := dq_46 (zby_at (j := 2) zbX8_pick_4 rfl)
theorem dX8_pick_67 : decode cX8_pick 67 = .ok (.aload_n 0, 1) := dq_42 (zby_at (j := 3) zbX8_pick_4 rfl)
theorem dX8_pick_68 : decode cX8_pick 68 = .ok (.getfield 15, 3) := dq_180 (zby_at (j := 4) zbX8_pick_4 rfl) (zby_at (j := 5) zbX8_pick_4 rfl) (zby_at (j := 6) zbX8_pick_4 rfl)
theorem dX8_pick_71 : decode cX8_pick 71 = .ok (.arraylength, 1) := dq_190 (zby_at (j := 7) zbX8_pick_4 rfl)
theorem dX8_pick_72 : decode cX8_pick 72 = .ok (.if_icmp .ge 19, 3) := dq_162 (zby_at (j := 8) zbX8_pick_4 rfl) (zby_at (j := 9) zbX8_pick_4 rfl) (zby_at (j := 10) zbX8_pick_4 rfl) rfl
theorem dX8_pick_75 : decode cX8_pick 75 = .ok (.aload_n 0, 1) := dq_42 (zby_at (j := 11) zbX8_pick_4 rfl)
theorem dX8_pick_76 : decode cX8_pick 76 = .ok (.getfield 15, 3) := dq_180 (zby_at (j := 12) zbX8_pick_4 rfl) (zby_at (j := 13) zbX8_pick_4 rfl) (zby_at (j := 14) zbX8_pick_4 rfl)
theorem dX8_pick_79 : decode cX8_pick 79 = .ok (.aload_n 0, 1) := dq_42 (zby_at (j := 15) zbX8_pick_4 rfl)
theorem zbX8_pick_5 : zby cX8_pick 80 20 = [180, 0, 9, 21, 4, 46, 92, 46, 4, 96, 79, 44, 21, 4, 4, 96, 182, 0, 37, 54] := by decide +kernel
theorem dX8_pick_80 : decode cX8_pick 80 = .ok (.getfield 9, 3) := dq_180 (zby_at (j := 0) zbX8_pick_5 rfl) (zby_at (j := 1) zbX8_pick_5 rfl) (zby_at (j := 2) zbX8_pick_5 rfl)
theorem dX8_pick_83 : decode cX8_pick 83 = .ok (.iload 4, 2) := dq_21 (zby_at (j := 3) zbX8_pick_5 rfl) (zby_at (j := 4) zbX8_pick_5 rfl)
theorem dX8_pick_85 : decode cX8_pick 85 = .ok (.iaload, 1) := dq_46 (zby_at (j := 5) zbX8_pick_5 rfl)
theorem dX8_pick_86 : decode cX8_pick 86 = .ok (.dup2, 1) := dq_92 (zby_at (j := 6) zbX8_pick_5 rfl)
theorem dX8_pick_87 : decode cX8_pick 87 = .ok (.iaload, 1) := dq_46 (zby_at (j := 7) zbX8_pick_5 rfl)
theorem dX8_pick_88 : decode cX8_pick 88 = .ok (.iconst 1, 1) := dq_4 (zby_at (j := 8) zbX8_pick_5 rfl)
theorem dX8_pick_89 : decode cX8_pick 89 = .ok (.iadd, 1) := dq_96 (zby_at (j := 9) zbX8_pick_5 rfl)
theorem dX8_pick_90 : decode cX8_pick 90 = .ok (.iastore, 1) := dq_79 (zby_at (j := 10) zbX8_pick_5 rfl)
theorem dX8_pick_91 : decode cX8_pick 91 = .ok (.aload_n 2, 1) := dq_44 (zby_at (j := 11) zbX8_pick_5 rfl)
theorem dX8_pick_92 : decode cX8_pick 92 = .ok (.iload 4, 2) := dq_21 (zby_at (j := 12) zbX8_pick_5 rfl) (zby_at (j := 13) zbX8_pick_5 rfl)
theorem dX8_pick_94 : decode cX8_pick 94 = .ok (.iconst 1, 1) := dq_4 (zby_at (j := 14) zbX8_pick_5 rfl)
theorem dX8_pick_95 : decode cX8_pick 95 = .ok (.iadd, 1) := dq_96 (zby_at (j := 15) zbX8_pick_5 rfl)
theorem zbX8_pick_6 : zby cX8_pick 96 20 = [182, 0, 37, 54, 4, 132, 5, 1, 167, 255, 189, 29, 54, 5, 3, 54, 6, 21, 6, 42] := by decide +kernel
theorem dX8_pick_96 : decode cX8_pick 96 = .ok (.invokevirtual 37, 3) := dq_182 (zby_at (j := 0) zbX8_pick_6 rfl) (zby_at (j := 1) zbX8_pick_6 rfl) (zby_at (j := 2) zbX8_pick_6 rfl)
theorem dX8_pick_99 : decode cX8_pick 99 = .ok (.istore 4, 2) := dq_54 (zby_at (j := 3) zbX8_pick_6 rfl) (zby_at (j := 4) zbX8_pick_6 rfl)
theorem dX8_pick_101 : decode cX8_pick 101 = .ok (.iinc 5 1, 3) := dq_132 (zby_at (j := 5) zbX8_pick_6 rfl) (zby_at (j := 6) zbX8_pick_6 rfl) (zby_at (j := 7) zbX8_pick_6 rfl) rfl
theorem dX8_pick_104 : decode cX8_pick 104 = .ok (.goto (-67), 3) := dq_167 (zby_at (j := 8) zbX8_pick_6 rfl) (zby_at (j := 9) zbX8_pick_6 rfl) (zby_at (j := 10) zbX8_pick_6 rfl) rfl
theorem dX8_pick_107 : decode cX8_pick 107 = .ok (.iload_n 3, 1) := dq_29 (zby_at (j := 11) zbX8_pick_6 rfl)
theorem dX8_pick_108 : decode cX8_pick 108 = .ok (.istore 5, 2) := dq_54 (zby_at (j := 12) zbX8_pick_6 rfl) (zby_at (j := 13) zbX8_pick_6 rfl)
theorem dX8_pick_110 : decode cX8_pick 110 = .ok (.iconst 0, 1) := dq_3 (zby_at (j := 14) zbX8_pick_6 rfl)
theorem dX8_pick_111 : decode cX8_pick 111 = .ok (.istore 6, 2) := dq_54 (zby_at (j := 15) zbX8_pick_6 rfl) (zby_at (j := 16) zbX8_pick_6 rfl)
theorem zbX8_pick_7 : zby cX8_pick 112 20 = [6, 21, 6, 42, 180, 0, 15, 190, 162, 0, 43, 21, 5, 42, 180, 0, 15, 21, 6, 46] := by decide +kernel
theorem dX8_pick_113 : decode cX8_pick 113 = .ok (.iload 6, 2) := dq_21 (zby_at (j := 1) zbX8_pick_7 rfl) (zby_at (j := 2) zbX8_pick_7 rfl)
theorem dX8_pick_115 : decode cX8_pick 115 = .ok (.aload_n 0, 1) := dq_42 (zby_at (j := 3) zbX8_pick_7 rfl)
theorem dX8_pick_116 : decode cX8_pick 116 = .ok (.getfield 15, 3) := dq_180 (zby_at (j := 4) zbX8_pick_7 rfl) (zby_at (j := 5) zbX8_pick_7 rfl) (zby_at (j := 6) zbX8_pick_7 rfl)
theorem dX8_pick_119 : decode cX8_pick 119 = .ok (.arraylength, 1) := dq_190 (zby_at (j := 7) zbX8_pick_7 rfl)
theorem dX8_pick_120 : decode cX8_pick 120 = .ok (.if_icmp .ge 43, 3) := dq_162 (zby_at (j := 8) zbX8_pick_7 rfl) (zby_at (j := 9) zbX8_pick_7 rfl) (zby_at (j := 10) zbX8_pick_7 rfl) rfl
theorem dX8_pick_123 : decode cX8_pick 123 = .ok (.iload 5, 2) := dq_21 (zby_at (j := 11) zbX8_pick_7 rfl) (zby_at (j := 12) zbX8_pick_7 rfl)
theorem dX8_pick_125 : decode cX8_pick 125 = .ok (.aload_n 0, 1) := dq_42 (zby_at (j := 13) zbX8_pick_7 rfl)
theorem dX8_pick_126 : decode cX8_pick 126 = .ok (.getfield 15, 3) := dq_180 (zby_at (j := 14) zbX8_pick_7 rfl) (zby_at (j := 15) zbX8_pick_7 rfl) (zby_at (j := 16) zbX8_pick_7 rfl)
theorem zbX8_pick_8 : zby cX8_pick 128 20 = [15, 21, 6, 46, 162, 0, 13, 42, 44, 21, 6, 21, 5, 182, 0, 60, 172, 21, 5, 42] := by decide +kernel
theorem dX8_pick_129 : decode cX8_pick 129 = .ok (.iload 6, 2) := dq_21 (zby_at (j := 1) zbX8_pick_8 rfl) (zby_at (j := 2) zbX8_pick_8 rfl)
theorem dX8_pick_131 : decode cX8_pick 131 = .ok (.iaload, 1) := dq_46 (zby_at (j := 3) zbX8_pick_8 rfl)
theorem dX8_pick_132 : decode cX8_pick 132 = .ok (.if_icmp .ge 13, 3) := dq_162 (zby_at (j := 4) zbX8_pick_8 rfl) (zby_at (j := 5) zbX8_pick_8 rfl) (zby_at (j := 6) zbX8_pick_8 rfl) rfl
theorem dX8_pick_135 : decode cX8_pick 135 = .ok (.aload_n 0, 1) := dq_42 (zby_at (j := 7) zbX8_pick_8 rfl)
theorem dX8_pick_136 : decode cX8_pick 136 = .ok (.aload_n 2, 1) := dq_44 (zby_at (j := 8) zbX8_pick_8 rfl)
theorem dX8_pick_137 : decode cX8_pick 137 = .ok (.iload 6, 2) := dq_21 (zby_at (j := 9) zbX8_pick_8 rfl) (zby_at (j := 10) zbX8_pick_8 rfl)
theorem dX8_pick_139 : decode cX8_pick 139 = .ok (.iload 5, 2) := dq_21 (zby_at (j := 11) zbX8_pick_8 rfl) (zby_at (j := 12) zbX8_pick_8 rfl)
theorem dX8_pick_141 : decode cX8_pick 141 = .ok (.invokevirtual 60, 3) := dq_182 (zby_at (j := 13) zbX8_pick_8 rfl) (zby_at (j := 14) zbX8_pick_8 rfl) (zby_at (j := 15) zbX8_pick_8 rfl)
theorem zbX8_pick_9 : zby cX8_pick 144 20 = [172, 21, 5, 42, 180, 0, 15, 21, 6, 46, 100, 54, 5, 132, 6, 1, 167, 255, 209, 2] := by decide +kernel
theorem dX8_pick_144 : decode cX8_pick 144 = .ok (.ireturn, 1) := dq_172 (zby_at (j := 0) zbX8_pick_9 rfl)
theorem dX8_pick_145 : decode cX8_pick 145 = .ok (.iload 5, 2) := dq_21 (zby_at (j := 1) zbX8_pick_9 rfl) (zby_at (j := 2) zbX8_pick_9 rfl)
theorem dX8_pick_147 : decode cX8_pick 147 = .ok (.aload_n 0, 1) := dq_42 (zby_at (j := 3) zbX8_pick_9 rfl)
theorem dX8_pick_148 : decode cX8_pick 148 = .ok (.getfield 15, 3) := dq_180 (zby_at (j := 4) zbX8_pick_9 rfl) (zby_at (j := 5) zbX8_pick_9 rfl) (zby_at (j := 6) zbX8_pick_9 rfl)
theorem dX8_pick_151 : decode cX8_pick 151 = .ok (.iload 6, 2) := dq_21 (zby_at (j := 7) zbX8_pick_9 rfl) (zby_at (j := 8) zbX8_pick_9 rfl)
theorem dX8_pick_153 : decode cX8_pick 153 = .ok (.iaload, 1) := dq_46 (zby_at (j := 9) zbX8_pick_9 rfl)
theorem dX8_pick_154 : decode cX8_pick 154 = .ok (.isub, 1) := dq_100 (zby_at (j := 10) zbX8_pick_9 rfl)
theorem dX8_pick_155 : decode cX8_pick 155 = .ok (.istore 5, 2) := dq_54 (zby_at (j := 11) zbX8_pick_9 rfl) (zby_at (j := 12) zbX8_pick_9 rfl)
theorem dX8_pick_157 : decode cX8_pick 157 = .ok (.iinc 6 1, 3) := dq_132 (zby_at (j := 13) zbX8_pick_9 rfl) (zby_at (j := 14) zbX8_pick_9 rfl) (zby_at (j := 15) zbX8_pick_9 rfl) rfl
theorem zbX8_pick_10 : zby cX8_pick 160 20 = [167, 255, 209, 2, 172] := by decide +kernel
theorem dX8_pick_160 : decode cX8_pick 160 = .ok (.goto (-47), 3) := dq_167 (zby_at (j := 0) zbX8_pick_10 rfl) (zby_at (j := 1) zbX8_pick_10 rfl) (zby_at (j := 2) zbX8_pick_10 rfl) rfl
theorem dX8_pick_163 : decode cX8_pick 163 = .ok (.iconst (-1), 1) := dq_2 (zby_at (j := 3) zbX8_pick_10 rfl)
theorem dX8_pick_164 : decode cX8_pick 164 = .ok (.ireturn, 1) := dq_172 (zby_at (j := 4) zbX8_pick_10 rfl)
theorem zbX8_pickOfLoad_0 : zby cX8_pickOfLoad 0 20 = [29, 54, 4, 43, 3, 182, 0, 37, 54, 5, 3, 54, 6, 21, 6, 17, 4, 0, 162, 0] := by decide +kernel
theorem dX8_pickOfLoad_0 : decode cX8_pickOfLoad 0 = .ok (.iload_n 3, 1) := dq_29 (zby_at (j := 0) zbX8_pickOfLoad_0 rfl)
theorem dX8_pickOfLoad_1 : decode cX8_pickOfLoad 1 = .ok (.istore 4, 2) := dq_54 (zby_at (j := 1) zbX8_pickOfLoad_0 rfl) (zby_at (j := 2) zbX8_pickOfLoad_0 rfl)
theorem dX8_pickOfLoad_3 : decode cX8_pickOfLoad 3 = .ok (.aload_n 1, 1) := dq_43 (zby_at (j := 3) zbX8_pickOfLoad_0 rfl)
theorem dX8_pickOfLoad_4 : decode cX8_pickOfLoad 4 = .ok (.iconst 0, 1) := dq_3 (zby_at (j := 4) zbX8_pickOfLoad_0 rfl)
theorem dX8_pickOfLoad_5 : decode cX8_pickOfLoad 5 = .ok (.invokevirtual 37, 3) := dq_182 (zby_at (j := 5) zbX8_pickOfLoad_0 rfl) (zby_at (j := 6) zbX8_pickOfLoad_0 rfl) (zby_at (j := 7) zbX8_pickOfLoad_0 rfl)
theorem dX8_pickOfLoad_8 : decode cX8_pickOfLoad 8 = .ok (.istore 5, 2) := dq_54 (zby_at (j := 8) zbX8_pickOfLoad_0 rfl) (zby_at (j := 9) zbX8_pickOfLoad_0 rfl)
theorem dX8_pickOfLoad_10 : decode cX8_pickOfLoad 10 = .ok (.iconst 0, 1) := dq_3 (zby_at (j := 10) zbX8_pickOfLoad_0 rfl)
theorem dX8_pickOfLoad_11 : decode cX8_pickOfLoad 11 = .ok (.istore 6, 2) := dq_54 (zby_at (j := 11) zbX8_pickOfLoad_0 rfl) (zby_at (j := 12) zbX8_pickOfLoad_0 rfl)
theorem dX8_pickOfLoad_13 : decode cX8_pickOfLoad 13 = .ok (.iload 6, 2) := dq_21 (zby_at (j := 13) zbX8_pickOfLoad_0 rfl) (zby_at (j := 14) zbX8_pickOfLoad_0 rfl)
theorem dX8_pickOfLoad_15 : decode cX8_pickOfLoad 15 = .ok (.sipush 1024, 3) := dq_17 (zby_at (j := 15) zbX8_pickOfLoad_0 rfl) (zby_at (j := 16) zbX8_pickOfLoad_0 rfl) (zby_at (j := 17) zbX8_pickOfLoad_0 rfl) rfl
theorem zbX8_pickOfLoad_1 : zby cX8_pickOfLoad 16 20 = [4, 0, 162, 0, 46, 21, 5, 155, 0, 41, 42, 180, 0, 9, 21, 5, 46, 28, 160, 0] := by decide +kernel
theorem dX8_pickOfLoad_18 : decode cX8_pickOfLoad 18 = .ok (.if_icmp .ge 46, 3) := dq_162 (zby_at (j := 2) zbX8_pickOfLoad_1 rfl) (zby_at (j := 3) zbX8_pickOfLoad_1 rfl) (zby_at (j := 4) zbX8_pickOfLoad_1 rfl) rfl
theorem dX8_pickOfLoad_21 : decode cX8_pickOfLoad 21 = .ok (.iload 5, 2) := dq_21 (zby_at (j := 5) zbX8_pickOfLoad_1 rfl) (zby_at (j := 6) zbX8_pickOfLoad_1 rfl)
theorem dX8_pickOfLoad_23 : decode cX8_pickOfLoad 23 = .ok (.ifCond .lt 41, 3) := dq_155 (zby_at (j := 7) zbX8_pickOfLoad_1 rfl) (zby_at (j := 8) zbX8_pickOfLoad_1 rfl) (zby_at (j := 9) zbX8_pickOfLoad_1 rfl) rfl
theorem dX8_pickOfLoad_26 : decode cX8_pickOfLoad 26 = .ok (.aload_n 0, 1) := dq_42 (zby_at (j := 10) zbX8_pickOfLoad_1 rfl)
theorem dX8_pickOfLoad_27 : decode cX8_pickOfLoad 27 = .ok (.getfield 9, 3) := dq_180 (zby_at (j := 11) zbX8_pickOfLoad_1 rfl) (zby_at (j := 12) zbX8_pickOfLoad_1 rfl) (zby_at (j := 13) zbX8_pickOfLoad_1 rfl)
theorem dX8_pickOfLoad_30 : decode cX8_pickOfLoad 30 = .ok (.iload 5, 2) := dq_21 (zby_at (j := 14) zbX8_pickOfLoad_1 rfl) (zby_at (j := 15) zbX8_pickOfLoad_1 rfl)
theorem zbX8_pickOfLoad_2 : zby cX8_pickOfLoad 32 20 = [46, 28, 160, 0, 14, 21, 4, 154, 0, 6, 21, 5, 172, 132, 4, 255, 43, 21, 5, 4] := by decide +kernel
theorem dX8_pickOfLoad_32 : decode cX8_pickOfLoad 32 = .ok (.iaload, 1) := dq_46 (zby_at (j := 0) zbX8_pickOfLoad_2 rfl)
theorem dX8_pickOfLoad_33 : decode cX8_pickOfLoad 33 = .ok (.iload_n 2, 1) := dq_28 (zby_at (j := 1) zbX8_pickOfLoad_2 rfl)
theorem dX8_pickOfLoad_34 : decode cX8_pickOfLoad 34 = .ok (.if_icmp .ne 14, 3) := dq_160 (zby_at (j := 2) zbX8_pickOfLoad_2 rfl) (zby_at (j := 3) zbX8_pickOfLoad_2 rfl) (zby_at (j := 4) zbX8_pickOfLoad_2 rfl) rfl
theorem dX8_pickOfLoad_37 : decode cX8_pickOfLoad 37 = .ok (.iload 4, 2) := dq_21 (zby_at (j := 5) zbX8_pickOfLoad_2 rfl) (zby_at (j := 6) zbX8_pickOfLoad_2 rfl)
theorem dX8_pickOfLoad_39 : decode cX8_pickOfLoad 39 = .ok (.ifCond .ne 6, 3) := dq_154 (zby_at (j := 7) zbX8_pickOfLoad_2 rfl) (zby_at (j := 8) zbX8_pickOfLoad_2 rfl) (zby_at (j := 9) zbX8_pickOfLoad_2 rfl) rfl
theorem dX8_pickOfLoad_42 : decode cX8_pickOfLoad 42 = .ok (.iload 5, 2) := dq_21 (zby_at (j := 10) zbX8_pickOfLoad_2 rfl) (zby_at (j := 11) zbX8_pickOfLoad_2 rfl)
theorem dX8_pickOfLoad_44 : decode cX8_pickOfLoad 44 = .ok (.ireturn, 1) := dq_172 (zby_at (j := 12) zbX8_pickOfLoad_2 rfl)
theorem dX8_pickOfLoad_45 : decode cX8_pickOfLoad 45 = .ok (.iinc 4 (-1), 3) := dq_132 (zby_at (j := 13) zbX8_pickOfLoad_2 rfl) (zby_at (j := 14) zbX8_pickOfLoad_2 rfl) (zby_at (j := 15) zbX8_pickOfLoad_2 rfl) rfl
theorem zbX8_pickOfLoad_3 : zby cX8_pickOfLoad 48 20 = [43, 21, 5, 4, 96, 182, 0, 37, 54, 5, 132, 6, 1, 167, 255, 208, 2, 172] := by decide +kernel
theorem dX8_pickOfLoad_48 : decode cX8_pickOfLoad 48 = .ok (.aload_n 1, 1) := dq_43 (zby_at (j := 0) zbX8_pickOfLoad_3 rfl)
theorem dX8_pickOfLoad_49 : decode cX8_pickOfLoad 49 = .ok (.iload 5, 2) := dq_21 (zby_at (j := 1) zbX8_pickOfLoad_3 rfl) (zby_at (j := 2) zbX8_pickOfLoad_3 rfl)
theorem dX8_pickOfLoad_51 : decode cX8_pickOfLoad 51 = .ok (.iconst 1, 1) := dq_4 (zby_at (j := 3) zbX8_pickOfLoad_3 rfl)
theorem dX8_pickOfLoad_52 : decode cX8_pickOfLoad 52 = .ok (.iadd, 1) := dq_96 (zby_at (j := 4) zbX8_pickOfLoad_3 rfl)
theorem dX8_pickOfLoad_53 : decode cX8_pickOfLoad 53 = .ok (.invokevirtual 37, 3) := dq_182 (zby_at (j := 5) zbX8_pickOfLoad_3 rfl) (zby_at (j := 6) zbX8_pickOfLoad_3 rfl) (zby_at (j := 7) zbX8_pickOfLoad_3 rfl)
theorem dX8_pickOfLoad_56 : decode cX8_pickOfLoad 56 = .ok (.istore 5, 2) := dq_54 (zby_at (j := 8) zbX8_pickOfLoad_3 rfl) (zby_at (j := 9) zbX8_pickOfLoad_3 rfl)
theorem dX8_pickOfLoad_58 : decode cX8_pickOfLoad 58 = .ok (.iinc 6 1, 3) := dq_132 (zby_at (j := 10) zbX8_pickOfLoad_3 rfl) (zby_at (j := 11) zbX8_pickOfLoad_3 rfl) (zby_at (j := 12) zbX8_pickOfLoad_3 rfl) rfl
theorem dX8_pickOfLoad_61 : decode cX8_pickOfLoad 61 = .ok (.goto (-48), 3) := dq_167 (zby_at (j := 13) zbX8_pickOfLoad_3 rfl) (zby_at (j := 14) zbX8_pickOfLoad_3 rfl) (zby_at (j := 15) zbX8_pickOfLoad_3 rfl) rfl
theorem zbX8_pickOfLoad_4 : zby cX8_pickOfLoad 64 20 = [2, 172] := by decide +kernel
theorem dX8_pickOfLoad_64 : decode cX8_pickOfLoad 64 = .ok (.iconst (-1), 1) := dq_2 (zby_at (j := 0) zbX8_pickOfLoad_4 rfl)
theorem dX8_pickOfLoad_65 : decode cX8_pickOfLoad 65 = .ok (.ireturn, 1) := dq_172 (zby_at (j := 1) zbX8_pickOfLoad_4 rfl)
theorem zbX9_init_0 : zby cX9_init 0 20 = [42, 183, 0, 3, 42, 16, 60, 188, 11, 181, 0, 9, 42, 3, 181, 0, 15, 42, 2, 181] := by decide +kernel
theorem dX9_init_0 : decode cX9_init 0 = .ok (.aload_n 0, 1) := dq_42 (zby_at (j := 0) zbX9_init_0 rfl)
theorem dX9_init_1 : decode cX9_init 1 = .ok (.invokespecial 3, 3) := dq_183 (zby_at (j := 1) zbX9_init_0 rfl) (zby_at (j := 2) zbX9_init_0 rfl) (zby_at (j := 3) zbX9_init_0 rfl)
theorem dX9_init_4 : decode cX9_init 4 = .ok (.aload_n 0, 1) := dq_42 (zby_at (j := 4) zbX9_init_0 rfl)
theorem dX9_init_5 : decode cX9_init 5 = .ok (.bipush 60, 2) := dq_16 (zby_at (j := 5) zbX9_init_0 rfl) (zby_at (j := 6) zbX9_init_0 rfl) rfl
theorem dX9_init_7 : decode cX9_init 7 = .ok (.newarray .long, 2) := dq_188_11 (zby_at (j := 7) zbX9_init_0 rfl) (zby_at (j := 8) zbX9_init_0 rfl)
theorem dX9_init_9 : decode cX9_init 9 = .ok (.putfield 9, 3) := dq_181 (zby_at (j := 9) zbX9_init_0 rfl) (zby_at (j := 10) zbX9_init_0 rfl) (zby_at (j := 11) zbX9_init_0 rfl)
theorem dX9_init_12 : decode cX9_init 12 = .ok (.aload_n 0, 1) := dq_42 (zby_at (j := 12) zbX9_init_0 rfl)
theorem dX9_init_13 : decode cX9_init 13 = .ok (.iconst 0, 1) := dq_3 (zby_at (j := 13) zbX9_init_0 rfl)
theorem dX9_init_14 : decode cX9_init 14 = .ok (.putfield 15, 3) := dq_181 (zby_at (j := 14) zbX9_init_0 rfl) (zby_at (j := 15) zbX9_init_0 rfl) (zby_at (j := 16) zbX9_init_0 rfl)
theorem zbX9_init_1 : zby cX9_init 16 20 = [15, 42, 2, 181, 0, 19, 177] := by decide +kernel
theorem dX9_init_17 : decode cX9_init 17 = .ok (.aload_n 0, 1) := dq_42 (zby_at (j := 1) zbX9_init_1 rfl)
theorem dX9_init_18 : decode cX9_init 18 = .ok (.iconst (-1), 1) := dq_2 (zby_at (j := 2) zbX9_init_1 rfl)
theorem dX9_init_19 : decode cX9_init 19 = .ok (.putfield 19, 3) := dq_181 (zby_at (j := 3) zbX9_init_1 rfl) (zby_at (j := 4) zbX9_init_1 rfl) (zby_at (j := 5) zbX9_init_1 rfl)
theorem dX9_init_22 : decode cX9_init 22 = .ok (.return_, 1) := dq_177 (zby_at (j := 6) zbX9_init_1 rfl)
theorem zbX9_isBare_0 : zby cX9_isBare 0 20 = [42, 180, 0, 19, 156, 0, 7, 4, 167, 0, 4, 3, 172] := by decide +kernel
theorem dX9_isBare_0 : decode cX9_isBare 0 = .ok (.aload_n 0, 1) := dq_42 (zby_at (j := 0) zbX9_isBare_0 rfl)
theorem dX9_isBare_1 : decode cX9_isBare 1 = .ok (.getfield 19, 3) := dq_180 (zby_at (j := 1) zbX9_isBare_0 rfl) (zby_at (j := 2) zbX9_isBare_0 rfl) (zby_at (j := 3) zbX9_isBare_0 rfl)
theorem dX9_isBare_4 : decode cX9_isBare 4 = .ok (.ifCond .ge 7, 3) := dq_156 (zby_at (j := 4) zbX9_isBare_0 rfl) (zby_at (j := 5) zbX9_isBare_0 rfl) (zby_at (j := 6) zbX9_isBare_0 rfl) rfl
theorem dX9_isBare_7 : decode cX9_isBare 7 = .ok (.iconst 1, 1) := dq_4 (zby_at (j := 7) zbX9_isBare_0 rfl)
theorem dX9_isBare_8 : decode cX9_isBare 8 = .ok (.goto 4, 3) := dq_167 (zby_at (j := 8) zbX9_isBare_0 rfl) (zby_at (j := 9) zbX9_isBare_0 rfl) (zby_at (j := 10) zbX9_isBare_0 rfl) rfl
theorem dX9_isBare_11 : decode cX9_isBare 11 = .ok (.iconst 0, 1) := dq_3 (zby_at (j := 11) zbX9_isBare_0 rfl)
theorem dX9_isBare_12 : decode cX9_isBare 12 = .ok (.ireturn, 1) := dq_172 (zby_at (j := 12) zbX9_isBare_0 rfl)
theorem zbX9_start_0 : zby cX9_start 0 20 = [42, 180, 0, 9, 9, 184, 0, 22, 42, 27, 181, 0, 15, 42, 16, 60, 28, 184, 0, 28] := by decide +kernel
theorem dX9_start_0 : decode cX9_start 0 = .ok (.aload_n 0, 1) := dq_42 (zby_at (j := 0) zbX9_start_0 rfl)
theorem dX9_start_1 : decode cX9_start 1 = .ok (.getfield 9, 3) := dq_180 (zby_at (j := 1) zbX9_start_0 rfl) (zby_at (j := 2) zbX9_start_0 rfl) (zby_at (j := 3) zbX9_start_0 rfl)
theorem dX9_start_4 : decode cX9_start 4 = .ok (.lconst 0, 1) := dq_9 (zby_at (j := 4) zbX9_start_0 rfl)
theorem dX9_start_5 : decode cX9_start 5 = .ok (.invokestatic 22, 3) := dq_184 (zby_at (j := 5) zbX9_start_0 rfl) (zby_at (j := 6) zbX9_start_0 rfl) (zby_at (j := 7) zbX9_start_0 rfl)
theorem dX9_start_8 : decode cX9_start 8 = .ok (.aload_n 0, 1) := dq_42 (zby_at (j := 8) zbX9_start_0 rfl)
theorem dX9_start_9 : decode cX9_start 9 = .ok (.iload_n 1, 1) := dq_27 (zby_at (j := 9) zbX9_start_0 rfl)
theorem dX9_start_10 : decode cX9_start 10 = .ok (.putfield 15, 3) := dq_181 (zby_at (j := 10) zbX9_start_0 rfl) (zby_at (j := 11) zbX9_start_0 rfl) (zby_at (j := 12) zbX9_start_0 rfl)
theorem dX9_start_13 : decode cX9_start 13 = .ok (.aload_n 0, 1) := dq_42 (zby_at (j := 13) zbX9_start_0 rfl)
theorem dX9_start_14 : decode cX9_start 14 = .ok (.bipush 60, 2) := dq_16 (zby_at (j := 14) zbX9_start_0 rfl) (zby_at (j := 15) zbX9_start_0 rfl) rfl
theorem zbX9_start_1 : zby cX9_start 16 20 = [28, 184, 0, 28, 181, 0, 19, 177] := by decide +kernel
theorem dX9_start_16 : decode cX9_start 16 = .ok (.iload_n 2, 1) := dq_28 (zby_at (j := 0) zbX9_start_1 rfl)
theorem dX9_start_17 : decode cX9_start 17 = .ok (.invokestatic 28, 3) := dq_184 (zby_at (j := 1) zbX9_start_1 rfl) (zby_at (j := 2) zbX9_start_1 rfl) (zby_at (j := 3) zbX9_start_1 rfl)
theorem dX9_start_20 : decode cX9_start 20 = .ok (.putfield 19, 3) := dq_181 (zby_at (j := 4) zbX9_start_1 rfl) (zby_at (j := 5) zbX9_start_1 rfl) (zby_at (j := 6) zbX9_start_1 rfl)
theorem dX9_start_23 : decode cX9_start 23 = .ok (.return_, 1) := dq_177 (zby_at (j := 7) zbX9_start_1 rfl)
theorem zbX9_cut_0 : zby cX9_cut 0 20 = [42, 180, 0, 15, 170, 0, 0, 0, 0, 0, 0, 42, 0, 0, 0, 0, 0, 0, 0, 2] := by decide +kernel
theorem dX9_cut_0 : decode cX9_cut 0 = .ok (.aload_n 0, 1) := dq_42 (zby_at (j := 0) zbX9_cut_0 rfl)
theorem dX9_cut_1 : decode cX9_cut 1 = .ok (.getfield 15, 3) := dq_180 (zby_at (j := 1) zbX9_cut_0 rfl) (zby_at (j := 2) zbX9_cut_0 rfl) (zby_at (j := 3) zbX9_cut_0 rfl)
theorem dX9_cut_4 : decode cX9_cut 4 = .ok (.tableswitch 42 0 2 #[28, 33, 38], 28) := by decide +kernel
theorem zbX9_cut_2 : zby cX9_cut 32 20 = [31, 136, 145, 133, 173, 31, 136, 147, 133, 173, 31, 136, 133, 173, 31, 173] := by decide +kernel
theorem dX9_cut_32 : decode cX9_cut 32 = .ok (.lload_n 1, 1) := dq_31 (zby_at (j := 0) zbX9_cut_2 rfl)
theorem dX9_cut_33 : decode cX9_cut 33 = .ok (.l2i, 1) := dq_136 (zby_at (j := 1) zbX9_cut_2 rfl)
theorem dX9_cut_34 : decode cX9_cut 34 = .ok (.i2b, 1) := dq_145 (zby_at (j := 2) zbX9_cut_2 rfl)
theorem dX9_cut_35 : decode cX9_cut 35 = .ok (.i2l, 1) := dq_133 (zby_at (j := 3) zbX9_cut_2 rfl)
theorem dX9_cut_36 : decode cX9_cut 36 = .ok (.lreturn, 1) := dq_173 (zby_at (j := 4) zbX9_cut_2 rfl)
theorem dX9_cut_37 : decode cX9_cut 37 = .ok (.lload_n 1, 1) := dq_31 (zby_at (j := 5) zbX9_cut_2 rfl)
theorem dX9_cut_38 : decode cX9_cut 38 = .ok (.l2i, 1) := dq_136 (zby_at (j := 6) zbX9_cut_2 rfl)
theorem dX9_cut_39 : decode cX9_cut 39 = .ok (.i2s, 1) := dq_147 (zby_at (j := 7) zbX9_cut_2 rfl)
theorem dX9_cut_40 : decode cX9_cut 40 = .ok (.i2l, 1) := dq_133 (zby_at (j := 8) zbX9_cut_2 rfl)
theorem dX9_cut_41 : decode cX9_cut 41 = .ok (.lreturn, 1) := dq_173 (zby_at (j := 9) zbX9_cut_2 rfl)
theorem dX9_cut_42 : decode cX9_cut 42 = .ok (.lload_n 1, 1) := dq_31 (zby_at (j := 10) zbX9_cut_2 rfl)
theorem dX9_cut_43 : decode cX9_cut 43 = .ok (.l2i, 1) := dq_136 (zby_at (j := 11) zbX9_cut_2 rfl)
theorem dX9_cut_44 : decode cX9_cut 44 = .ok (.i2l, 1) := dq_133 (zby_at (j := 12) zbX9_cut_2 rfl)
theorem dX9_cut_45 : decode cX9_cut 45 = .ok (.lreturn, 1) := dq_173 (zby_at (j := 13) zbX9_cut_2 rfl)
theorem dX9_cut_46 : decode cX9_cut 46 = .ok (.lload_n 1, 1) := dq_31 (zby_at (j := 14) zbX9_cut_2 rfl)
theorem dX9_cut_47 : decode cX9_cut 47 = .ok (.lreturn, 1) := dq_173 (zby_at (j := 15) zbX9_cut_2 rfl)
theorem zbX9_spans_0 : zby cX9_spans 0 20 = [27, 155, 0, 25, 28, 155, 0, 21, 27, 133, 28, 133, 97, 42, 180, 0, 19, 133, 148, 157] := by decide +kernel
theorem dX9_spans_0 : decode cX9_spans 0 = .ok (.iload_n 1, 1) := dq_27 (zby_at (j := 0) zbX9_spans_0 rfl)
theorem dX9_spans_1 : decode cX9_spans 1 = .ok (.ifCond .lt 25, 3) := dq_155 (zby_at (j := 1) zbX9_spans_0 rfl) (zby_at (j := 2) zbX9_spans_0 rfl) (zby_at (j := 3) zbX9_spans_0 rfl) rfl
theorem dX9_spans_4 : decode cX9_spans 4 = .ok (.iload_n 2, 1) := dq_28 (zby_at (j := 4) zbX9_spans_0 rfl)
theorem dX9_spans_5 : decode cX9_spans 5 = .ok (.ifCond .lt 21, 3) := dq_155 (zby_at (j := 5) zbX9_spans_0 rfl) (zby_at (j := 6) zbX9_spans_0 rfl) (zby_at (j := 7) zbX9_spans_0 rfl) rfl
theorem dX9_spans_8 : decode cX9_spans 8 = .ok (.iload_n 1, 1) := dq_27 (zby_at (j := 8) zbX9_spans_0 rfl)
theorem dX9_spans_9 : decode cX9_spans 9 = .ok (.i2l, 1) := dq_133 (zby_at (j := 9) zbX9_spans_0 rfl)
theorem dX9_spans_10 : decode cX9_spans 10 = .ok (.iload_n 2, 1) := dq_28 (zby_at (j := 10) zbX9_spans_0 rfl)
theorem dX9_spans_11 : decode cX9_spans 11 = .ok (.i2l, 1) := dq_133 (zby_at (j := 11) zbX9_spans_0 rfl)
theorem dX9_spans_12 : decode cX9_spans 12 = .ok (.ladd, 1) := dq_97 (zby_at (j := 12) zbX9_spans_0 rfl)
theorem dX9_spans_13 : decode cX9_spans 13 = .ok (.aload_n 0, 1) := dq_42 (zby_at (j := 13) zbX9_spans_0 rfl)
theorem dX9_spans_14 : decode cX9_spans 14 = .ok (.getfield 19, 3) := dq_180 (zby_at (j := 14) zbX9_spans_0 rfl) (zby_at (j := 15) zbX9_spans_0 rfl) (zby_at (j := 16) zbX9_spans_0 rfl)
theorem zbX9_spans_1 : zby cX9_spans 16 20 = [19, 133, 148, 157, 0, 7, 4, 167, 0, 4, 3, 172] := by decide +kernel
theorem dX9_spans_17 : decode cX9_spans 17 = .ok (.i2l, 1) := dq_133 (zby_at (j := 1) zbX9_spans_1 rfl)
theorem dX9_spans_18 : decode cX9_spans 18 = .ok (.lcmp, 1) := dq_148 (zby_at (j := 2) zbX9_spans_1 rfl)
theorem dX9_spans_19 : decode cX9_spans 19 = .ok (.ifCond .gt 7, 3) := dq_157 (zby_at (j := 3) zbX9_spans_1 rfl) (zby_at (j := 4) zbX9_spans_1 rfl) (zby_at (j := 5) zbX9_spans_1 rfl) rfl
theorem dX9_spans_22 : decode cX9_spans 22 = .ok (.iconst 1, 1) := dq_4 (zby_at (j := 6) zbX9_spans_1 rfl)
theorem dX9_spans_23 : decode cX9_spans 23 = .ok (.goto 4, 3) := dq_167 (zby_at (j := 7) zbX9_spans_1 rfl) (zby_at (j := 8) zbX9_spans_1 rfl) (zby_at (j := 9) zbX9_spans_1 rfl) rfl
theorem dX9_spans_26 : decode cX9_spans 26 = .ok (.iconst 0, 1) := dq_3 (zby_at (j := 10) zbX9_spans_1 rfl)
theorem dX9_spans_27 : decode cX9_spans 27 = .ok (.ireturn, 1) := dq_172 (zby_at (j := 11) zbX9_spans_1 rfl)
theorem zbX10_init_0 : zby cX10_init 0 20 = [42, 183, 0, 3, 42, 3, 181, 0, 9, 42, 3, 181, 0, 15, 42, 3, 181, 0, 18, 42] := by decide +kernel
theorem dX10_init_0 : decode cX10_init 0 = .ok (.aload_n 0, 1) := dq_42 (zby_at (j := 0) zbX10_init_0 rfl)
theorem dX10_init_1 : decode cX10_init 1 = .ok (.invokespecial 3, 3) := dq_183 (zby_at (j := 1) zbX10_init_0 rfl) (zby_at (j := 2) zbX10_init_0 rfl) (zby_at (j := 3) zbX10_init_0 rfl)
theorem dX10_init_4 : decode cX10_init 4 = .ok (.aload_n 0, 1) := dq_42 (zby_at (j := 4) zbX10_init_0 rfl)
theorem dX10_init_5 : decode cX10_init 5 = .ok (.iconst 0, 1) := dq_3 (zby_at (j := 5) zbX10_init_0 rfl)
theorem dX10_init_6 : decode cX10_init 6 = .ok (.putfield 9, 3) := dq_181 (zby_at (j := 6) zbX10_init_0 rfl) (zby_at (j := 7) zbX10_init_0 rfl) (zby_at (j := 8) zbX10_init_0 rfl)
theorem dX10_init_9 : decode cX10_init 9 = .ok (.aload_n 0, 1) := dq_42 (zby_at (j := 9) zbX10_init_0 rfl)
theorem dX10_init_10 : decode cX10_init 10 = .ok (.iconst 0, 1) := dq_3 (zby_at (j := 10) zbX10_init_0 rfl)
theorem dX10_init_11 : decode cX10_init 11 = .ok (.putfield 15, 3) := dq_181 (zby_at (j := 11) zbX10_init_0 rfl) (zby_at (j := 12) zbX10_init_0 rfl) (zby_at (j := 13) zbX10_init_0 rfl)
theorem dX10_init_14 : decode cX10_init 14 = .ok (.aload_n 0, 1) := dq_42 (zby_at (j := 14) zbX10_init_0 rfl)
theorem dX10_init_15 : decode cX10_init 15 = .ok (.iconst 0, 1) := dq_3 (zby_at (j := 15) zbX10_init_0 rfl)
theorem zbX10_init_1 : zby cX10_init 16 20 = [181, 0, 18, 42, 16, 10, 188, 10, 181, 0, 21, 42, 16, 10, 188, 10, 181, 0, 25, 42] := by decide +kernel
theorem dX10_init_16 : decode cX10_init 16 = .ok (.putfield 18, 3) := dq_181 (zby_at (j := 0) zbX10_init_1 rfl) (zby_at (j := 1) zbX10_init_1 rfl) (zby_at (j := 2) zbX10_init_1 rfl)
theorem dX10_init_19 : decode cX10_init 19 = .ok (.aload_n 0, 1) := dq_42 (zby_at (j := 3) zbX10_init_1 rfl)
theorem dX10_init_20 : decode cX10_init 20 = .ok (.bipush 10, 2) := dq_16 (zby_at (j := 4) zbX10_init_1 rfl) (zby_at (j := 5) zbX10_init_1 rfl) rfl
theorem dX10_init_22 : decode cX10_init 22 = .ok (.newarray .int, 2) := dq_188_10 (zby_at (j := 6) zbX10_init_1 rfl) (zby_at (j := 7) zbX10_init_1 rfl)
theorem dX10_init_24 : decode cX10_init 24 = .ok (.putfield 21, 3) := dq_181 (zby_at (j := 8) zbX10_init_1 rfl) (zby_at (j := 9) zbX10_init_1 rfl) (zby_at (j := 10) zbX10_init_1 rfl)
theorem dX10_init_27 : decode cX10_init 27 = .ok (.aload_n 0, 1) := dq_42 (zby_at (j := 11) zbX10_init_1 rfl)
theorem dX10_init_28 : decode cX10_init 28 = .ok (.bipush 10, 2) := dq_16 (zby_at (j := 12) zbX10_init_1 rfl) (zby_at (j := 13) zbX10_init_1 rfl) rfl
theorem dX10_init_30 : decode cX10_init 30 = .ok (.newarray .int, 2) := dq_188_10 (zby_at (j := 14) zbX10_init_1 rfl) (zby_at (j := 15) zbX10_init_1 rfl)
theorem zbX10_init_2 : zby cX10_init 32 20 = [181, 0, 25, 42, 16, 10, 188, 10, 181, 0, 28, 42, 16, 10, 188, 10, 181, 0, 31, 42] := by decide +kernel
theorem dX10_init_32 : decode cX10_init 32 = .ok (.putfield 25, 3) := dq_181 (zby_at (j := 0) zbX10_init_2 rfl) (zby_at (j := 1) zbX10_init_2 rfl) (zby_at (j := 2) zbX10_init_2 rfl)
theorem dX10_init_35 : decode cX10_init 35 = .ok (.aload_n 0, 1) := dq_42 (zby_at (j := 3) zbX10_init_2 rfl)
theorem dX10_init_36 : decode cX10_init 36 = .ok (.bipush 10, 2) := dq_16 (zby_at (j := 4) zbX10_init_2 rfl) (zby_at (j := 5) zbX10_init_2 rfl) rfl
theorem dX10_init_38 : decode cX10_init 38 = .ok (.newarray .int, 2) := dq_188_10 (zby_at (j := 6) zbX10_init_2 rfl) (zby_at (j := 7) zbX10_init_2 rfl)
theorem dX10_init_40 : decode cX10_init 40 = .ok (.putfield 28, 3) := dq_181 (zby_at (j := 8) zbX10_init_2 rfl) (zby_at (j := 9) zbX10_init_2 rfl) (zby_at (j := 10) zbX10_init_2 rfl)
theorem dX10_init_43 : decode cX10_init 43 = .ok (.aload_n 0, 1) := dq_42 (zby_at (j := 11) zbX10_init_2 rfl)
theorem dX10_init_44 : decode cX10_init 44 = .ok (.bipush 10, 2) := dq_16 (zby_at (j := 12) zbX10_init_2 rfl) (zby_at (j := 13) zbX10_init_2 rfl) rfl
theorem dX10_init_46 : decode cX10_init 46 = .ok (.newarray .int, 2) := dq_188_10 (zby_at (j := 14) zbX10_init_2 rfl) (zby_at (j := 15) zbX10_init_2 rfl)
theorem zbX10_init_3 : zby cX10_init 48 20 = [181, 0, 31, 42, 16, 10, 189, 0, 34, 181, 0, 36, 3, 60, 27, 16, 10, 162, 0, 22] := by decide +kernel
theorem dX10_init_48 : decode cX10_init 48 = .ok (.putfield 31, 3) := dq_181 (zby_at (j := 0) zbX10_init_3 rfl) (zby_at (j := 1) zbX10_init_3 rfl) (zby_at (j := 2) zbX10_init_3 rfl)
theorem dX10_init_51 : decode cX10_init 51 = .ok (.aload_n 0, 1) := dq_42 (zby_at (j := 3) zbX10_init_3 rfl)
theorem dX10_init_52 : decode cX10_init 52 = .ok (.bipush 10, 2) := dq_16 (zby_at (j := 4) zbX10_init_3 rfl) (zby_at (j := 5) zbX10_init_3 rfl) rfl
theorem dX10_init_54 : decode cX10_init 54 = .ok (.anewarray 34, 3) := dq_189 (zby_at (j := 6) zbX10_init_3 rfl) (zby_at (j := 7) zbX10_init_3 rfl) (zby_at (j := 8) zbX10_init_3 rfl)
theorem dX10_init_57 : decode cX10_init 57 = .ok (.putfield 36, 3) := dq_181 (zby_at (j := 9) zbX10_init_3 rfl) (zby_at (j := 10) zbX10_init_3 rfl) (zby_at (j := 11) zbX10_init_3 rfl)
theorem dX10_init_60 : decode cX10_init 60 = .ok (.iconst 0, 1) := dq_3 (zby_at (j := 12) zbX10_init_3 rfl)
theorem dX10_init_61 : decode cX10_init 61 = .ok (.istore_n 1, 1) := dq_60 (zby_at (j := 13) zbX10_init_3 rfl)
theorem dX10_init_62 : decode cX10_init 62 = .ok (.iload_n 1, 1) := dq_27 (zby_at (j := 14) zbX10_init_3 rfl)
theorem dX10_init_63 : decode cX10_init 63 = .ok (.bipush 10, 2) := dq_16 (zby_at (j := 15) zbX10_init_3 rfl) (zby_at (j := 16) zbX10_init_3 rfl) rfl
theorem zbX10_init_4 : zby cX10_init 64 20 = [10, 162, 0, 22, 42, 180, 0, 36, 27, 187, 0, 34, 89, 183, 0, 40, 83, 132, 1, 1] := by decide +kernel
theorem dX10_init_65 : decode cX10_init 65 = .ok (.if_icmp .ge 22, 3) := dq_162 (zby_at (j := 1) zbX10_init_4 rfl) (zby_at (j := 2) zbX10_init_4 rfl) (zby_at (j := 3) zbX10_init_4 rfl) rfl
theorem dX10_init_68 : decode cX10_init 68 = .ok (.aload_n 0, 1) := dq_42 (zby_at (j := 4) zbX10_init_4 rfl)
theorem dX10_init_69 : decode cX10_init 69 = .ok (.getfield 36, 3) := dq_180 (zby_at (j := 5) zbX10_init_4 rfl) (zby_at (j := 6) zbX10_init_4 rfl) (zby_at (j := 7) zbX10_init_4 rfl)
theorem dX10_init_72 : decode cX10_init 72 = .ok (.iload_n 1, 1) := dq_27 (zby_at (j := 8) zbX10_init_4 rfl)
theorem dX10_init_73 : decode cX10_init 73 = .ok (.new 34, 3) := dq_187 (zby_at (j := 9) zbX10_init_4 rfl) (zby_at (j := 10) zbX10_init_4 rfl) (zby_at (j := 11) zbX10_init_4 rfl)
theorem dX10_init_76 : decode cX10_init 76 = .ok (.dup, 1) := dq_89 (zby_at (j := 12) zbX10_init_4 rfl)
theorem dX10_init_77 : decode cX10_init 77 = .ok (.invokespecial 40, 3) := dq_183 (zby_at (j := 13) zbX10_init_4 rfl) (zby_at (j := 14) zbX10_init_4 rfl) (zby_at (j := 15) zbX10_init_4 rfl)
theorem zbX10_init_5 : zby cX10_init 80 20 = [83, 132, 1, 1, 167, 255, 234, 177] := by decide +kernel
theorem dX10_init_80 : decode cX10_init 80 = .ok (.aastore, 1) := dq_83 (zby_at (j := 0) zbX10_init_5 rfl)
theorem dX10_init_81 : decode cX10_init 81 = .ok (.iinc 1 1, 3) := dq_132 (zby_at (j := 1) zbX10_init_5 rfl) (zby_at (j := 2) zbX10_init_5 rfl) (zby_at (j := 3) zbX10_init_5 rfl) rfl
theorem dX10_init_84 : decode cX10_init 84 = .ok (.goto (-22), 3) := dq_167 (zby_at (j := 4) zbX10_init_5 rfl) (zby_at (j := 5) zbX10_init_5 rfl) (zby_at (j := 6) zbX10_init_5 rfl) rfl
theorem dX10_init_87 : decode cX10_init 87 = .ok (.return_, 1) := dq_177 (zby_at (j := 7) zbX10_init_5 rfl)
theorem zbX10_clear_0 : zby cX10_clear 0 20 = [42, 3, 181, 0, 9, 42, 3, 181, 0, 15, 42, 3, 181, 0, 18, 3, 60, 27, 16, 10] := by decide +kernel
theorem dX10_clear_0 : decode cX10_clear 0 = .ok (.aload_n 0, 1) := dq_42 (zby_at (j := 0) zbX10_clear_0 rfl)
theorem dX10_clear_1 : decode cX10_clear 1 = .ok (.iconst 0, 1) := dq_3 (zby_at (j := 1) zbX10_clear_0 rfl)
theorem dX10_clear_2 : decode cX10_clear 2 = .ok (.putfield 9, 3) := dq_181 (zby_at (j := 2) zbX10_clear_0 rfl) (zby_at (j := 3) zbX10_clear_0 rfl) (zby_at (j := 4) zbX10_clear_0 rfl)
theorem dX10_clear_5 : decode cX10_clear 5 = .ok (.aload_n 0, 1) := dq_42 (zby_at (j := 5) zbX10_clear_0 rfl)
theorem dX10_clear_6 : decode cX10_clear 6 = .ok (.iconst 0, 1) := dq_3 (zby_at (j := 6) zbX10_clear_0 rfl)
theorem dX10_clear_7 : decode cX10_clear 7 = .ok (.putfield 15, 3) := dq_181 (zby_at (j := 7) zbX10_clear_0 rfl) (zby_at (j := 8) zbX10_clear_0 rfl) (zby_at (j := 9) zbX10_clear_0 rfl)
theorem dX10_clear_10 : decode cX10_clear 10 = .ok (.aload_n 0, 1) := dq_42 (zby_at (j := 10) zbX10_clear_0 rfl)
theorem dX10_clear_11 : decode cX10_clear 11 = .ok (.iconst 0, 1) := dq_3 (zby_at (j := 11) zbX10_clear_0 rfl)
theorem dX10_clear_12 : decode cX10_clear 12 = .ok (.putfield 18, 3) := dq_181 (zby_at (j := 12) zbX10_clear_0 rfl) (zby_at (j := 13) zbX10_clear_0 rfl) (zby_at (j := 14) zbX10_clear_0 rfl)
theorem dX10_clear_15 : decode cX10_clear 15 = .ok (.iconst 0, 1) := dq_3 (zby_at (j := 15) zbX10_clear_0 rfl)
theorem zbX10_clear_1 : zby cX10_clear 16 20 = [60, 27, 16, 10, 162, 0, 23, 42, 180, 0, 28, 27, 4, 79, 42, 180, 0, 31, 27, 27] := by decide +kernel
theorem dX10_clear_16 : decode cX10_clear 16 = .ok (.istore_n 1, 1) := dq_60 (zby_at (j := 0) zbX10_clear_1 rfl)
theorem dX10_clear_17 : decode cX10_clear 17 = .ok (.iload_n 1, 1) := dq_27 (zby_at (j := 1) zbX10_clear_1 rfl)
theorem dX10_clear_18 : decode cX10_clear 18 = .ok (.bipush 10, 2) := dq_16 (zby_at (j := 2) zbX10_clear_1 rfl) (zby_at (j := 3) zbX10_clear_1 rfl) rfl
theorem dX10_clear_20 : decode cX10_clear 20 = .ok (.if_icmp .ge 23, 3) := dq_162 (zby_at (j := 4) zbX10_clear_1 rfl) (zby_at (j := 5) zbX10_clear_1 rfl) (zby_at (j := 6) zbX10_clear_1 rfl) rfl
theorem dX10_clear_23 : decode cX10_clear 23 = .ok (.aload_n 0, 1) := dq_42 (zby_at (j := 7) zbX10_clear_1 rfl)
theorem dX10_clear_24 : decode cX10_clear 24 = .ok (.getfield 28, 3) := dq_180 (zby_at (j := 8) zbX10_clear_1 rfl) (zby_at (j := 9) zbX10_clear_1 rfl) (zby_at (j := 10) zbX10_clear_1 rfl)
theorem dX10_clear_27 : decode cX10_clear 27 = .ok (.iload_n 1, 1) := dq_27 (zby_at (j := 11) zbX10_clear_1 rfl)
theorem dX10_clear_28 : decode cX10_clear 28 = .ok (.iconst 1, 1) := dq_4 (zby_at (j := 12) zbX10_clear_1 rfl)
theorem dX10_clear_29 : decode cX10_clear 29 = .ok (.iastore, 1) := dq_79 (zby_at (j := 13) zbX10_clear_1 rfl)
theorem dX10_clear_30 : decode cX10_clear 30 = .ok (.aload_n 0, 1) := dq_42 (zby_at (j := 14) zbX10_clear_1 rfl)
theorem dX10_clear_31 : decode cX10_clear 31 = .ok (.getfield 31, 3) := dq_180 (zby_at (j := 15) zbX10_clear_1 rfl) (zby_at (j := 16) zbX10_clear_1 rfl) (zby_at (j := 17) zbX10_clear_1 rfl)
theorem zbX10_clear_2 : zby cX10_clear 32 20 = [0, 31, 27, 27, 79, 132, 1, 1, 167, 255, 233, 3, 60, 27, 16, 10, 162, 0, 18, 42] := by decide +kernel
theorem dX10_clear_34 : decode cX10_clear 34 = .ok (.iload_n 1, 1) := dq_27 (zby_at (j := 2) zbX10_clear_2 rfl)
theorem dX10_clear_35 : decode cX10_clear 35 = .ok (.iload_n 1, 1) := dq_27 (zby_at (j := 3) zbX10_clear_2 rfl)
theorem dX10_clear_36 : decode cX10_clear 36 = .ok (.iastore, 1) := dq_79 (zby_at (j := 4) zbX10_clear_2 rfl)
theorem dX10_clear_37 : decode cX10_clear 37 = .ok (.iinc 1 1, 3) := dq_132 (zby_at (j := 5) zbX10_clear_2 rfl) (zby_at (j := 6) zbX10_clear_2 rfl) (zby_at (j := 7) zbX10_clear_2 rfl) rfl
theorem dX10_clear_40 : decode cX10_clear 40 = .ok (.goto (-23), 3) := dq_167 (zby_at (j := 8) zbX10_clear_2 rfl) (zby_at (j := 9) zbX10_clear_2 rfl) (zby_at (j := 10) zbX10_clear_2 rfl) rfl
theorem dX10_clear_43 : decode cX10_clear 43 = .ok (.iconst 0, 1) := dq_3 (zby_at (j := 11) zbX10_clear_2 rfl)
theorem dX10_clear_44 : decode cX10_clear 44 = .ok (.istore_n 1, 1) := dq_60 (zby_at (j := 12) zbX10_clear_2 rfl)
theorem dX10_clear_45 : decode cX10_clear 45 = .ok (.iload_n 1, 1) := dq_27 (zby_at (j := 13) zbX10_clear_2 rfl)
theorem dX10_clear_46 : decode cX10_clear 46 = .ok (.bipush 10, 2) := dq_16 (zby_at (j := 14) zbX10_clear_2 rfl) (zby_at (j := 15) zbX10_clear_2 rfl) rfl
theorem zbX10_clear_3 : zby cX10_clear 48 20 = [162, 0, 18, 42, 180, 0, 36, 27, 50, 182, 0, 41, 132, 1, 1, 167, 255, 238, 177] := by decide +kernel
theorem dX10_clear_48 : decode cX10_clear 48 = .ok (.if_icmp .ge 18, 3) := dq_162 (zby_at (j := 0) zbX10_clear_3 rfl) (zby_at (j := 1) zbX10_clear_3 rfl) (zby_at (j := 2) zbX10_clear_3 rfl) rfl
theorem dX10_clear_51 : decode cX10_clear 51 = .ok (.aload_n 0, 1) := dq_42 (zby_at (j := 3) zbX10_clear_3 rfl)
theorem dX10_clear_52 : decode cX10_clear 52 = .ok (.getfield 36, 3) := dq_180 (zby_at (j := 4) zbX10_clear_3 rfl) (zby_at (j := 5) zbX10_clear_3 rfl) (zby_at (j := 6) zbX10_clear_3 rfl)
theorem dX10_clear_55 : decode cX10_clear 55 = .ok (.iload_n 1, 1) := dq_27 (zby_at (j := 7) zbX10_clear_3 rfl)
theorem dX10_clear_56 : decode cX10_clear 56 = .ok (.aaload, 1) := dq_50 (zby_at (j := 8) zbX10_clear_3 rfl)
theorem dX10_clear_57 : decode cX10_clear 57 = .ok (.invokevirtual 41, 3) := dq_182 (zby_at (j := 9) zbX10_clear_3 rfl) (zby_at (j := 10) zbX10_clear_3 rfl) (zby_at (j := 11) zbX10_clear_3 rfl)
theorem dX10_clear_60 : decode cX10_clear 60 = .ok (.iinc 1 1, 3) := dq_132 (zby_at (j := 12) zbX10_clear_3 rfl) (zby_at (j := 13) zbX10_clear_3 rfl) (zby_at (j := 14) zbX10_clear_3 rfl) rfl
theorem dX10_clear_63 : decode cX10_clear 63 = .ok (.goto (-18), 3) := dq_167 (zby_at (j := 15) zbX10_clear_3 rfl) (zby_at (j := 16) zbX10_clear_3 rfl) (zby_at (j := 17) zbX10_clear_3 rfl) rfl
theorem zbX10_clear_4 : zby cX10_clear 64 20 = [255, 238, 177] := by decide +kernel
theorem dX10_clear_66 : decode cX10_clear 66 = .ok (.return_, 1) := dq_177 (zby_at (j := 2) zbX10_clear_4 rfl)
theorem zbX10_copyFrom_0 : zby cX10_copyFrom 0 20 = [42, 43, 180, 0, 9, 181, 0, 9, 42, 43, 180, 0, 15, 181, 0, 15, 42, 43, 180, 0] := by decide +kernel
theorem dX10_copyFrom_0 : decode cX10_copyFrom 0 = .ok (.aload_n 0, 1) := dq_42 (zby_at (j := 0) zbX10_copyFrom_0 rfl)
theorem dX10_copyFrom_1 : decode cX10_copyFrom 1 = .ok (.aload_n 1, 1) := dq_43 (zby_at (j := 1) zbX10_copyFrom_0 rfl)
theorem dX10_copyFrom_2 : decode cX10_copyFrom 2 = .ok (.getfield 9, 3) := dq_180 (zby_at (j := 2) zbX10_copyFrom_0 rfl) (zby_at (j := 3) zbX10_copyFrom_0 rfl) (zby_at (j := 4) zbX10_copyFrom_0 rfl)
theorem dX10_copyFrom_5 : decode cX10_copyFrom 5 = .ok (.putfield 9, 3) := dq_181 (zby_at (j := 5) zbX10_copyFrom_0 rfl) (zby_at (j := 6) zbX10_copyFrom_0 rfl) (zby_at (j := 7) zbX10_copyFrom_0 rfl)
theorem dX10_copyFrom_8 : decode cX10_copyFrom 8 = .ok (.aload_n 0, 1) := dq_42 (zby_at (j := 8) zbX10_copyFrom_0 rfl)
theorem dX10_copyFrom_9 : decode cX10_copyFrom 9 = .ok (.aload_n 1, 1) := dq_43 (zby_at (j := 9) zbX10_copyFrom_0 rfl)
theorem dX10_copyFrom_10 : decode cX10_copyFrom 10 = .ok (.getfield 15, 3) := dq_180 (zby_at (j := 10) zbX10_copyFrom_0 rfl) (zby_at (j := 11) zbX10_copyFrom_0 rfl) (zby_at (j := 12) zbX10_copyFrom_0 rfl)
theorem dX10_copyFrom_13 : decode cX10_copyFrom 13 = .ok (.putfield 15, 3) := dq_181 (zby_at (j := 13) zbX10_copyFrom_0 rfl) (zby_at (j := 14) zbX10_copyFrom_0 rfl) (zby_at (j := 15) zbX10_copyFrom_0 rfl)
theorem zbX10_copyFrom_1 : zby cX10_copyFrom 16 20 = [42, 43, 180, 0, 18, 181, 0, 18, 43, 180, 0, 21, 3, 42, 180, 0, 21, 3, 16, 10] := by decide +kernel
theorem dX10_copyFrom_16 : decode cX10_copyFrom 16 = .ok (.aload_n 0, 1) := dq_42 (zby_at (j := 0) zbX10_copyFrom_1 rfl)
theorem dX10_copyFrom_17 : decode cX10_copyFrom 17 = .ok (.aload_n 1, 1) := dq_43 (zby_at (j := 1) zbX10_copyFrom_1 rfl)
theorem dX10_copyFrom_18 : decode cX10_copyFrom 18 = .ok (.getfield 18, 3) := dq_180 (zby_at (j := 2) zbX10_copyFrom_1 rfl) (zby_at (j := 3) zbX10_copyFrom_1 rfl) (zby_at (j := 4) zbX10_copyFrom_1 rfl)
theorem dX10_copyFrom_21 : decode cX10_copyFrom 21 = .ok (.putfield 18, 3) := dq_181 (zby_at (j := 5) zbX10_copyFrom_1 rfl) (zby_at (j := 6) zbX10_copyFrom_1 rfl) (zby_at (j := 7) zbX10_copyFrom_1 rfl)
theorem dX10_copyFrom_24 : decode cX10_copyFrom 24 = .ok (.aload_n 1, 1) := dq_43 (zby_at (j := 8) zbX10_copyFrom_1 rfl)
theorem dX10_copyFrom_25 : decode cX10_copyFrom 25 = .ok (.getfield 21, 3) := dq_180 (zby_at (j := 9) zbX10_copyFrom_1 rfl) (zby_at (j := 10) zbX10_copyFrom_1 rfl) (zby_at (j := 11) zbX10_copyFrom_1 rfl)
theorem dX10_copyFrom_28 : decode cX10_copyFrom 28 = .ok (.iconst 0, 1) := dq_3 (zby_at (j := 12) zbX10_copyFrom_1 rfl)
theorem dX10_copyFrom_29 : decode cX10_copyFrom 29 = .ok (.aload_n 0, 1) := dq_42 (zby_at (j := 13) zbX10_copyFrom_1 rfl)
theorem dX10_copyFrom_30 : decode cX10_copyFrom 30 = .ok (.getfield 21, 3) := dq_180 (zby_at (j := 14) zbX10_copyFrom_1 rfl) (zby_at (j := 15) zbX10_copyFrom_1 rfl) (zby_at (j := 16) zbX10_copyFrom_1 rfl)
theorem zbX10_copyFrom_2 : zby cX10_copyFrom 32 20 = [21, 3, 16, 10, 184, 0, 44, 43, 180, 0, 25, 3, 42, 180, 0, 25, 3, 16, 10, 184] := by decide +kernel
theorem dX10_copyFrom_33 : decode cX10_copyFrom 33 = .ok (.iconst 0, 1) := dq_3 (zby_at (j := 1) zbX10_copyFrom_2 rfl)
theorem dX10_copyFrom_34 : decode cX10_copyFrom 34 = .ok (.bipush 10, 2) := dq_16 (zby_at (j := 2) zbX10_copyFrom_2 rfl) (zby_at (j := 3) zbX10_copyFrom_2 rfl) rfl
theorem dX10_copyFrom_36 : decode cX10_copyFrom 36 = .ok (.invokestatic 44, 3) := dq_184 (zby_at (j := 4) zbX10_copyFrom_2 rfl) (zby_at (j := 5) zbX10_copyFrom_2 rfl) (zby_at (j := 6) zbX10_copyFrom_2 rfl)
theorem dX10_copyFrom_39 : decode cX10_copyFrom 39 = .ok (.aload_n 1, 1) := dq_43 (zby_at (j := 7) zbX10_copyFrom_2 rfl)
theorem dX10_copyFrom_40 : decode cX10_copyFrom 40 = .ok (.getfield 25, 3) := dq_180 (zby_at (j := 8) zbX10_copyFrom_2 rfl) (zby_at (j := 9) zbX10_copyFrom_2 rfl) (zby_at (j := 10) zbX10_copyFrom_2 rfl)
theorem dX10_copyFrom_43 : decode cX10_copyFrom 43 = .ok (.iconst 0, 1) := dq_3 (zby_at (j := 11) zbX10_copyFrom_2 rfl)
theorem dX10_copyFrom_44 : decode cX10_copyFrom 44 = .ok (.aload_n 0, 1) := dq_42 (zby_at (j := 12) zbX10_copyFrom_2 rfl)
theorem dX10_copyFrom_45 : decode cX10_copyFrom 45 = .ok (.getfield 25, 3) := dq_180 (zby_at (j := 13) zbX10_copyFrom_2 rfl) (zby_at (j := 14) zbX10_copyFrom_2 rfl) (zby_at (j := 15) zbX10_copyFrom_2 rfl)
theorem zbX10_copyFrom_3 : zby cX10_copyFrom 48 20 = [3, 16, 10, 184, 0, 44, 43, 180, 0, 28, 3, 42, 180, 0, 28, 3, 16, 10, 184, 0] := by decide +kernel
theorem dX10_copyFrom_48 : decode cX10_copyFrom 48 = .ok (.iconst 0, 1) := dq_3 (zby_at (j := 0) zbX10_copyFrom_3 rfl)
theorem dX10_copyFrom_49 : decode cX10_copyFrom 49 = .ok (.bipush 10, 2) := dq_16 (zby_at (j := 1) zbX10_copyFrom_3 rfl) (zby_at (j := 2) zbX10_copyFrom_3 rfl) rfl
theorem dX10_copyFrom_51 : decode cX10_copyFrom 51 = .ok (.invokestatic 44, 3) := dq_184 (zby_at (j := 3) zbX10_copyFrom_3 rfl) (zby_at (j := 4) zbX10_copyFrom_3 rfl) (zby_at (j := 5) zbX10_copyFrom_3 rfl)
theorem dX10_copyFrom_54 : decode cX10_copyFrom 54 = .ok (.aload_n 1, 1) := dq_43 (zby_at (j := 6) zbX10_copyFrom_3 rfl)
theorem dX10_copyFrom_55 : decode cX10_copyFrom 55 = .ok (.getfield 28, 3) := dq_180 (zby_at (j := 7) zbX10_copyFrom_3 rfl) (zby_at (j := 8) zbX10_copyFrom_3 rfl) (zby_at (j := 9) zbX10_copyFrom_3 rfl)
theorem dX10_copyFrom_58 : decode cX10_copyFrom 58 = .ok (.iconst 0, 1) := dq_3 (zby_at (j := 10) zbX10_copyFrom_3 rfl)
theorem dX10_copyFrom_59 : decode cX10_copyFrom 59 = .ok (.aload_n 0, 1) := dq_42 (zby_at (j := 11) zbX10_copyFrom_3 rfl)
theorem dX10_copyFrom_60 : decode cX10_copyFrom 60 = .ok (.getfield 28, 3) := dq_180 (zby_at (j := 12) zbX10_copyFrom_3 rfl) (zby_at (j := 13) zbX10_copyFrom_3 rfl) (zby_at (j := 14) zbX10_copyFrom_3 rfl)
theorem dX10_copyFrom_63 : decode cX10_copyFrom 63 = .ok (.iconst 0, 1) := dq_3 (zby_at (j := 15) zbX10_copyFrom_3 rfl)
theorem zbX10_copyFrom_4 : zby cX10_copyFrom 64 20 = [16, 10, 184, 0, 44, 43, 180, 0, 31, 3, 42, 180, 0, 31, 3, 16, 10, 184, 0, 44] := by decide +kernel
theorem dX10_copyFrom_64 : decode cX10_copyFrom 64 = .ok (.bipush 10, 2) := dq_16 (zby_at (j := 0) zbX10_copyFrom_4 rfl) (zby_at (j := 1) zbX10_copyFrom_4 rfl) rfl
theorem dX10_copyFrom_66 : decode cX10_copyFrom 66 = .ok (.invokestatic 44, 3) := dq_184 (zby_at (j := 2) zbX10_copyFrom_4 rfl) (zby_at (j := 3) zbX10_copyFrom_4 rfl) (zby_at (j := 4) zbX10_copyFrom_4 rfl)
theorem dX10_copyFrom_69 : decode cX10_copyFrom 69 = .ok (.aload_n 1, 1) := dq_43 (zby_at (j := 5) zbX10_copyFrom_4 rfl)
theorem dX10_copyFrom_70 : decode cX10_copyFrom 70 = .ok (.getfield 31, 3) := dq_180 (zby_at (j := 6) zbX10_copyFrom_4 rfl) (zby_at (j := 7) zbX10_copyFrom_4 rfl) (zby_at (j := 8) zbX10_copyFrom_4 rfl)
theorem dX10_copyFrom_73 : decode cX10_copyFrom 73 = .ok (.iconst 0, 1) := dq_3 (zby_at (j := 9) zbX10_copyFrom_4 rfl)
theorem dX10_copyFrom_74 : decode cX10_copyFrom 74 = .ok (.aload_n 0, 1) := dq_42 (zby_at (j := 10) zbX10_copyFrom_4 rfl)
theorem dX10_copyFrom_75 : decode cX10_copyFrom 75 = .ok (.getfield 31, 3) := dq_180 (zby_at (j := 11) zbX10_copyFrom_4 rfl) (zby_at (j := 12) zbX10_copyFrom_4 rfl) (zby_at (j := 13) zbX10_copyFrom_4 rfl)
theorem dX10_copyFrom_78 : decode cX10_copyFrom 78 = .ok (.iconst 0, 1) := dq_3 (zby_at (j := 14) zbX10_copyFrom_4 rfl)
theorem dX10_copyFrom_79 : decode cX10_copyFrom 79 = .ok (.bipush 10, 2) := dq_16 (zby_at (j := 15) zbX10_copyFrom_4 rfl) (zby_at (j := 16) zbX10_copyFrom_4 rfl) rfl
theorem zbX10_copyFrom_5 : zby cX10_copyFrom 80 20 = [10, 184, 0, 44, 3, 61, 28, 16, 10, 162, 0, 24, 42, 180, 0, 36, 28, 50, 43, 180] := by decide +kernel
theorem dX10_copyFrom_81 : decode cX10_copyFrom 81 = .ok (.invokestatic 44, 3) := dq_184 (zby_at (j := 1) zbX10_copyFrom_5 rfl) (zby_at (j := 2) zbX10_copyFrom_5 rfl) (zby_at (j := 3) zbX10_copyFrom_5 rfl)
theorem dX10_copyFrom_84 : decode cX10_copyFrom 84 = .ok (.iconst 0, 1) := dq_3 (zby_at (j := 4) zbX10_copyFrom_5 rfl)
theorem dX10_copyFrom_85 : decode cX10_copyFrom 85 = .ok (.istore_n 2, 1) := dq_61 (zby_at (j := 5) zbX10_copyFrom_5 rfl)
theorem dX10_copyFrom_86 : decode cX10_copyFrom 86 = .ok (.iload_n 2, 1) := dq_28 (zby_at (j := 6) zbX10_copyFrom_5 rfl)
theorem dX10_copyFrom_87 : decode cX10_copyFrom 87 = .ok (.bipush 10, 2) := dq_16 (zby_at (j := 7) zbX10_copyFrom_5 rfl) (zby_at (j := 8) zbX10_copyFrom_5 rfl) rfl
theorem dX10_copyFrom_89 : decode cX10_copyFrom 89 = .ok (.if_icmp .ge 24, 3) := dq_162 (zby_at (j := 9) zbX10_copyFrom_5 rfl) (zby_at (j := 10) zbX10_copyFrom_5 rfl) (zby_at (j := 11) zbX10_copyFrom_5 rfl) rfl
theorem dX10_copyFrom_92 : decode cX10_copyFrom 92 = .ok (.aload_n 0, 1) := dq_42 (zby_at (j := 12) zbX10_copyFrom_5 rfl)
theorem dX10_copyFrom_93 : decode cX10_copyFrom 93 = .ok (.getfield 36, 3) := dq_180 (zby_at (j := 13) zbX10_copyFrom_5 rfl) (zby_at (j := 14) zbX10_copyFrom_5 rfl) (zby_at (j := 15) zbX10_copyFrom_5 rfl)
theorem zbX10_copyFrom_6 : zby cX10_copyFrom 96 20 = [28, 50, 43, 180, 0, 36, 28, 50, 182, 0, 50, 132, 2, 1, 167, 255, 232, 177] := by decide +kernel
theorem dX10_copyFrom_96 : decode cX10_copyFrom 96 = .ok (.iload_n 2, 1) := dq_28 (zby_at (j := 0) zbX10_copyFrom_6 rfl)
theorem dX10_copyFrom_97 : decode cX10_copyFrom 97 = .ok (.aaload, 1) := dq_50 (zby_at (j := 1) zbX10_copyFrom_6 rfl)
theorem dX10_copyFrom_98 : decode cX10_copyFrom 98 = .ok (.aload_n 1, 1) := dq_43 (zby_at (j := 2) zbX10_copyFrom_6 rfl)
theorem dX10_copyFrom_99 : decode cX10_copyFrom 99 = .ok (.getfield 36, 3) := dq_180 (zby_at (j := 3) zbX10_copyFrom_6 rfl) (zby_at (j := 4) zbX10_copyFrom_6 rfl) (zby_at (j := 5) zbX10_copyFrom_6 rfl)
theorem dX10_copyFrom_102 : decode cX10_copyFrom 102 = .ok (.iload_n 2, 1) := dq_28 (zby_at (j := 6) zbX10_copyFrom_6 rfl)
theorem dX10_copyFrom_103 : decode cX10_copyFrom 103 = .ok (.aaload, 1) := dq_50 (zby_at (j := 7) zbX10_copyFrom_6 rfl)
theorem dX10_copyFrom_104 : decode cX10_copyFrom 104 = .ok (.invokevirtual 50, 3) := dq_182 (zby_at (j := 8) zbX10_copyFrom_6 rfl) (zby_at (j := 9) zbX10_copyFrom_6 rfl) (zby_at (j := 10) zbX10_copyFrom_6 rfl)
theorem dX10_copyFrom_107 : decode cX10_copyFrom 107 = .ok (.iinc 2 1, 3) := dq_132 (zby_at (j := 11) zbX10_copyFrom_6 rfl) (zby_at (j := 12) zbX10_copyFrom_6 rfl) (zby_at (j := 13) zbX10_copyFrom_6 rfl) rfl
theorem dX10_copyFrom_110 : decode cX10_copyFrom 110 = .ok (.goto (-24), 3) := dq_167 (zby_at (j := 14) zbX10_copyFrom_6 rfl) (zby_at (j := 15) zbX10_copyFrom_6 rfl) (zby_at (j := 16) zbX10_copyFrom_6 rfl) rfl
theorem zbX10_copyFrom_7 : zby cX10_copyFrom 112 20 = [232, 177] := by decide +kernel
theorem dX10_copyFrom_113 : decode cX10_copyFrom 113 = .ok (.return_, 1) := dq_177 (zby_at (j := 1) zbX10_copyFrom_7 rfl)
theorem zbX10_addEdge_0 : zby cX10_addEdge 0 20 = [42, 180, 0, 18, 155, 0, 42, 42, 180, 0, 18, 16, 10, 162, 0, 33, 42, 180, 0, 21] := by decide +kernel
theorem dX10_addEdge_0 : decode cX10_addEdge 0 = .ok (.aload_n 0, 1) := dq_42 (zby_at (j := 0) zbX10_addEdge_0 rfl)
theorem dX10_addEdge_1 : decode cX10_addEdge 1 = .ok (.getfield 18, 3) := dq_180 (zby_at (j := 1) zbX10_addEdge_0 rfl) (zby_at (j := 2) zbX10_addEdge_0 rfl) (zby_at (j := 3) zbX10_addEdge_0 rfl)
theorem dX10_addEdge_4 : decode cX10_addEdge 4 = .ok (.ifCond .lt 42, 3) := dq_155 (zby_at (j := 4) zbX10_addEdge_0 rfl) (zby_at (j := 5) zbX10_addEdge_0 rfl) (zby_at (j := 6) zbX10_addEdge_0 rfl) rfl
theorem dX10_addEdge_7 : decode cX10_addEdge 7 = .ok (.aload_n 0, 1) := dq_42 (zby_at (j := 7) zbX10_addEdge_0 rfl)
theorem dX10_addEdge_8 : decode cX10_addEdge 8 = .ok (.getfield 18, 3) := dq_180 (zby_at (j := 8) zbX10_addEdge_0 rfl) (zby_at (j := 9) zbX10_addEdge_0 rfl) (zby_at (j := 10) zbX10_addEdge_0 rfl)
theorem dX10_addEdge_11 : decode cX10_addEdge 11 = .ok (.bipush 10, 2) := dq_16 (zby_at (j := 11) zbX10_addEdge_0 rfl) (zby_at (j := 12) zbX10_addEdge_0 rfl) rfl
theorem dX10_addEdge_13 : decode cX10_addEdge 13 = .ok (.if_icmp .ge 33, 3) := dq_162 (zby_at (j := 13) zbX10_addEdge_0 rfl) (zby_at (j := 14) zbX10_addEdge_0 rfl) (zby_at (j := 15) zbX10_addEdge_0 rfl) rfl
theorem zbX10_addEdge_1 : zby cX10_addEdge 16 20 = [42, 180, 0, 21, 42, 180, 0, 18, 27, 79, 42, 180, 0, 25, 42, 180, 0, 18, 28, 79] := by decide +kernel
theorem dX10_addEdge_16 : decode cX10_addEdge 16 = .ok (.aload_n 0, 1) := dq_42 (zby_at (j := 0) zbX10_addEdge_1 rfl)
theorem dX10_addEdge_17 : decode cX10_addEdge 17 = .ok (.getfield 21, 3) := dq_180 (zby_at (j := 1) zbX10_addEdge_1 rfl) (zby_at (j := 2) zbX10_addEdge_1 rfl) (zby_at (j := 3) zbX10_addEdge_1 rfl)
theorem dX10_addEdge_20 : decode cX10_addEdge 20 = .ok (.aload_n 0, 1) := dq_42 (zby_at (j := 4) zbX10_addEdge_1 rfl)
theorem dX10_addEdge_21 : decode cX10_addEdge 21 = .ok (.getfield 18, 3) := dq_180 (zby_at (j := 5) zbX10_addEdge_1 rfl) (zby_at (j := 6) zbX10_addEdge_1 rfl) (zby_at (j := 7) zbX10_addEdge_1 rfl)
theorem dX10_addEdge_24 : decode cX10_addEdge 24 = .ok (.iload_n 1, 1) := dq_27 (zby_at (j := 8) zbX10_addEdge_1 rfl)
theorem dX10_addEdge_25 : decode cX10_addEdge 25 = .ok (.iastore, 1) := dq_79 (zby_at (j := 9) zbX10_addEdge_1 rfl)
theorem dX10_addEdge_26 : decode cX10_addEdge 26 = .ok (.aload_n 0, 1) := dq_42 (zby_at (j := 10) zbX10_addEdge_1 rfl)
theorem dX10_addEdge_27 : decode cX10_addEdge 27 = .ok (.getfield 25, 3) := dq_180 (zby_at (j := 11) zbX10_addEdge_1 rfl) (zby_at (j := 12) zbX10_addEdge_1 rfl) (zby_at (j := 13) zbX10_addEdge_1 rfl)
theorem dX10_addEdge_30 : decode cX10_addEdge 30 = .ok (.aload_n 0, 1) := dq_42 (zby_at (j := 14) zbX10_addEdge_1 rfl)
theorem dX10_addEdge_31 : decode cX10_addEdge 31 = .ok (.getfield 18, 3) := dq_180 (zby_at (j := 15) zbX10_addEdge_1 rfl) (zby_at (j := 16) zbX10_addEdge_1 rfl) (zby_at (j := 17) zbX10_addEdge_1 rfl)
theorem zbX10_addEdge_2 : zby cX10_addEdge 32 20 = [0, 18, 28, 79, 42, 89, 180, 0, 18, 4, 96, 181, 0, 18, 177] := by decide +kernel
theorem dX10_addEdge_34 : decode cX10_addEdge 34 = .ok (.iload_n 2, 1) := dq_28 (zby_at (j := 2) zbX10_addEdge_2 rfl)
theorem dX10_addEdge_35 : decode cX10_addEdge 35 = .ok (.iastore, 1) := dq_79 (zby_at (j := 3) zbX10_addEdge_2 rfl)
theorem dX10_addEdge_36 : decode cX10_addEdge 36 = .ok (.aload_n 0, 1) := dq_42 (zby_at (j := 4) zbX10_addEdge_2 rfl)
theorem dX10_addEdge_37 : decode cX10_addEdge 37 = .ok (.dup, 1) := dq_89 (zby_at (j := 5) zbX10_addEdge_2 rfl)
theorem dX10_addEdge_38 : decode cX10_addEdge 38 = .ok (.getfield 18, 3) := dq_180 (zby_at (j := 6) zbX10_addEdge_2 rfl) (zby_at (j := 7) zbX10_addEdge_2 rfl) (zby_at (j := 8) zbX10_addEdge_2 rfl)
theorem dX10_addEdge_41 : decode cX10_addEdge 41 = .ok (.iconst 1, 1) := dq_4 (zby_at (j := 9) zbX10_addEdge_2 rfl)
theorem dX10_addEdge_42 : decode cX10_addEdge 42 = .ok (.iadd, 1) := dq_96 (zby_at (j := 10) zbX10_addEdge_2 rfl)
theorem dX10_addEdge_43 : decode cX10_addEdge 43 = .ok (.putfield 18, 3) := dq_181 (zby_at (j := 11) zbX10_addEdge_2 rfl) (zby_at (j := 12) zbX10_addEdge_2 rfl) (zby_at (j := 13) zbX10_addEdge_2 rfl)
theorem dX10_addEdge_46 : decode cX10_addEdge 46 = .ok (.return_, 1) := dq_177 (zby_at (j := 14) zbX10_addEdge_2 rfl)
theorem zbX10_load_0 : zby cX10_load 0 20 = [3, 61, 3, 62, 29, 42, 180, 0, 9, 162, 0, 32, 29, 16, 10, 162, 0, 26, 27, 29] := by decide +kernel
theorem dX10_load_0 : decode cX10_load 0 = .ok (.iconst 0, 1) := dq_3 (zby_at (j := 0) zbX10_load_0 rfl)
theorem dX10_load_1 : decode cX10_load 1 = .ok (.istore_n 2, 1) := dq_61 (zby_at (j := 1) zbX10_load_0 rfl)
theorem dX10_load_2 : decode cX10_load 2 = .ok (.iconst 0, 1) := dq_3 (zby_at (j := 2) zbX10_load_0 rfl)
theorem dX10_load_3 : decode cX10_load 3 = .ok (.istore_n 3, 1) := dq_62 (zby_at (j := 3) zbX10_load_0 rfl)
theorem dX10_load_4 : decode cX10_load 4 = .ok (.iload_n 3, 1) := dq_29 (zby_at (j := 4) zbX10_load_0 rfl)
theorem dX10_load_5 : decode cX10_load 5 = .ok (.aload_n 0, 1) := dq_42 (zby_at (j := 5) zbX10_load_0 rfl)
theorem dX10_load_6 : decode cX10_load 6 = .ok (.getfield 9, 3) := dq_180 (zby_at (j := 6) zbX10_load_0 rfl) (zby_at (j := 7) zbX10_load_0 rfl) (zby_at (j := 8) zbX10_load_0 rfl)
theorem dX10_load_9 : decode cX10_load 9 = .ok (.if_icmp .ge 32, 3) := dq_162 (zby_at (j := 9) zbX10_load_0 rfl) (zby_at (j := 10) zbX10_load_0 rfl) (zby_at (j := 11) zbX10_load_0 rfl) rfl
theorem dX10_load_12 : decode cX10_load 12 = .ok (.iload_n 3, 1) := dq_29 (zby_at (j := 12) zbX10_load_0 rfl)
theorem dX10_load_13 : decode cX10_load 13 = .ok (.bipush 10, 2) := dq_16 (zby_at (j := 13) zbX10_load_0 rfl) (zby_at (j := 14) zbX10_load_0 rfl) rfl
theorem dX10_load_15 : decode cX10_load 15 = .ok (.if_icmp .ge 26, 3) := dq_162 (zby_at (j := 15) zbX10_load_0 rfl) (zby_at (j := 16) zbX10_load_0 rfl) (zby_at (j := 17) zbX10_load_0 rfl) rfl
theorem zbX10_load_1 : zby cX10_load 16 20 = [0, 26, 27, 29, 122, 4, 126, 153, 0, 12, 28, 42, 180, 0, 28, 29, 46, 96, 61, 132] := by decide +kernel
theorem dX10_load_18 : decode cX10_load 18 = .ok (.iload_n 1, 1) := dq_27 (zby_at (j := 2) zbX10_load_1 rfl)
theorem dX10_load_19 : decode cX10_load 19 = .ok (.iload_n 3, 1) := dq_29 (zby_at (j := 3) zbX10_load_1 rfl)
theorem dX10_load_20 : decode cX10_load 20 = .ok (.ishr, 1) := dq_122 (zby_at (j := 4) zbX10_load_1 rfl)
theorem dX10_load_21 : decode cX10_load 21 = .ok (.iconst 1, 1) := dq_4 (zby_at (j := 5) zbX10_load_1 rfl)
theorem dX10_load_22 : decode cX10_load 22 = .ok (.iand, 1) := dq_126 (zby_at (j := 6) zbX10_load_1 rfl)
theorem dX10_load_23 : decode cX10_load 23 = .ok (.ifCond .eq 12, 3) := dq_153 (zby_at (j := 7) zbX10_load_1 rfl) (zby_at (j := 8) zbX10_load_1 rfl) (zby_at (j := 9) zbX10_load_1 rfl) rfl
theorem dX10_load_26 : decode cX10_load 26 = .ok (.iload_n 2, 1) := dq_28 (zby_at (j := 10) zbX10_load_1 rfl)
theorem dX10_load_27 : decode cX10_load 27 = .ok (.aload_n 0, 1) := dq_42 (zby_at (j := 11) zbX10_load_1 rfl)
theorem dX10_load_28 : decode cX10_load 28 = .ok (.getfield 28, 3) := dq_180 (zby_at (j := 12) zbX10_load_1 rfl) (zby_at (j := 13) zbX10_load_1 rfl) (zby_at (j := 14) zbX10_load_1 rfl)
theorem dX10_load_31 : decode cX10_load 31 = .ok (.iload_n 3, 1) := dq_29 (zby_at (j := 15) zbX10_load_1 rfl)
theorem zbX10_load_2 : zby cX10_load 32 20 = [46, 96, 61, 132, 3, 1, 167, 255, 222, 28, 172] := by decide +kernel
theorem dX10_load_32 : decode cX10_load 32 = .ok (.iaload, 1) := dq_46 (zby_at (j := 0) zbX10_load_2 rfl)
theorem dX10_load_33 : decode cX10_load 33 = .ok (.iadd, 1) := dq_96 (zby_at (j := 1) zbX10_load_2 rfl)
theorem dX10_load_34 : decode cX10_load 34 = .ok (.istore_n 2, 1) := dq_61 (zby_at (j := 2) zbX10_load_2 rfl)
theorem dX10_load_35 : decode cX10_load 35 = .ok (.iinc 3 1, 3) := dq_132 (zby_at (j := 3) zbX10_load_2 rfl) (zby_at (j := 4) zbX10_load_2 rfl) (zby_at (j := 5) zbX10_load_2 rfl) rfl
theorem dX10_load_38 : decode cX10_load 38 = .ok (.goto (-34), 3) := dq_167 (zby_at (j := 6) zbX10_load_2 rfl) (zby_at (j := 7) zbX10_load_2 rfl) (zby_at (j := 8) zbX10_load_2 rfl) rfl
theorem dX10_load_41 : decode cX10_load 41 = .ok (.iload_n 2, 1) := dq_28 (zby_at (j := 9) zbX10_load_2 rfl)
theorem dX10_load_42 : decode cX10_load 42 = .ok (.ireturn, 1) := dq_172 (zby_at (j := 10) zbX10_load_2 rfl)
theorem zbX10_moveName_0 : zby cX10_moveName 0 20 = [42, 27, 182, 0, 54, 62, 29, 155, 0, 13, 28, 155, 0, 9, 28, 16, 10, 161, 0, 5] := by decide +kernel
theorem dX10_moveName_0 : decode cX10_moveName 0 = .ok (.aload_n 0, 1) := dq_42 (zby_at (j := 0) zbX10_moveName_0 rfl)
theorem dX10_moveName_1 : decode cX10_moveName 1 = .ok (.iload_n 1, 1) := dq_27 (zby_at (j := 1) zbX10_moveName_0 rfl)
theorem dX10_moveName_2 : decode cX10_moveName 2 = .ok (.invokevirtual 54, 3) := dq_182 (zby_at (j := 2) zbX10_moveName_0 rfl) (zby_at (j := 3) zbX10_moveName_0 rfl) (zby_at (j := 4) zbX10_moveName_0 rfl)
theorem dX10_moveName_5 : decode cX10_moveName 5 = .ok (.istore_n 3, 1) := dq_62 (zby_at (j := 5) zbX10_moveName_0 rfl)
theorem dX10_moveName_6 : decode cX10_moveName 6 = .ok (.iload_n 3, 1) := dq_29 (zby_at (j := 6) zbX10_moveName_0 rfl)
theorem dX10_moveName_7 : decode cX10_moveName 7 = .ok (.ifCond .lt 13, 3) := dq_155 (zby_at (j := 7) zbX10_moveName_0 rfl) (zby_at (j := 8) zbX10_moveName_0 rfl) (zby_at (j := 9) zbX10_moveName_0 rfl) rfl
theorem dX10_moveName_10 : decode cX10_moveName 10 = .ok (.iload_n 2, 1) := dq_28 (zby_at (j := 10) zbX10_moveName_0 rfl)
theorem dX10_moveName_11 : decode cX10_moveName 11 = .ok (.ifCond .lt 9, 3) := dq_155 (zby_at (j := 11) zbX10_moveName_0 rfl) (zby_at (j := 12) zbX10_moveName_0 rfl) (zby_at (j := 13) zbX10_moveName_0 rfl) rfl
theorem dX10_moveName_14 : decode cX10_moveName 14 = .ok (.iload_n 2, 1) := dq_28 (zby_at (j := 14) zbX10_moveName_0 rfl)
theorem dX10_moveName_15 : decode cX10_moveName 15 = .ok (.bipush 10, 2) := dq_16 (zby_at (j := 15) zbX10_moveName_0 rfl) (zby_at (j := 16) zbX10_moveName_0 rfl) rfl
theorem zbX10_moveName_1 : zby cX10_moveName 16 20 = [10, 161, 0, 5, 2, 172, 29, 28, 162, 0, 7, 4, 167, 0, 4, 2, 54, 4, 29, 54] := by decide +kernel
theorem dX10_moveName_17 : decode cX10_moveName 17 = .ok (.if_icmp .lt 5, 3) := dq_161 (zby_at (j := 1) zbX10_moveName_1 rfl) (zby_at (j := 2) zbX10_moveName_1 rfl) (zby_at (j := 3) zbX10_moveName_1 rfl) rfl
theorem dX10_moveName_20 : decode cX10_moveName 20 = .ok (.iconst (-1), 1) := dq_2 (zby_at (j := 4) zbX10_moveName_1 rfl)
theorem dX10_moveName_21 : decode cX10_moveName 21 = .ok (.ireturn, 1) := dq_172 (zby_at (j := 5) zbX10_moveName_1 rfl)
theorem dX10_moveName_22 : decode cX10_moveName 22 = .ok (.iload_n 3, 1) := dq_29 (zby_at (j := 6) zbX10_moveName_1 rfl)
theorem dX10_moveName_23 : decode cX10_moveName 23 = .ok (.iload_n 2, 1) := dq_28 (zby_at (j := 7) zbX10_moveName_1 rfl)
theorem dX10_moveName_24 : decode cX10_moveName 24 = .ok (.if_icmp .ge 7, 3) := dq_162 (zby_at (j := 8) zbX10_moveName_1 rfl) (zby_at (j := 9) zbX10_moveName_1 rfl) (zby_at (j := 10) zbX10_moveName_1 rfl) rfl
theorem dX10_moveName_27 : decode cX10_moveName 27 = .ok (.iconst 1, 1) := dq_4 (zby_at (j := 11) zbX10_moveName_1 rfl)
theorem dX10_moveName_28 : decode cX10_moveName 28 = .ok (.goto 4, 3) := dq_167 (zby_at (j := 12) zbX10_moveName_1 rfl) (zby_at (j := 13) zbX10_moveName_1 rfl) (zby_at (j := 14) zbX10_moveName_1 rfl) rfl
theorem dX10_moveName_31 : decode cX10_moveName 31 = .ok (.iconst (-1), 1) := dq_2 (zby_at (j := 15) zbX10_moveName_1 rfl)
theorem zbX10_moveName_2 : zby cX10_moveName 32 20 = [54, 4, 29, 54, 5, 21, 5, 28, 159, 0, 42, 21, 5, 155, 0, 37, 21, 5, 16, 10] := by decide +kernel
theorem dX10_moveName_32 : decode cX10_moveName 32 = .ok (.istore 4, 2) := dq_54 (zby_at (j := 0) zbX10_moveName_2 rfl) (zby_at (j := 1) zbX10_moveName_2 rfl)
theorem dX10_moveName_34 : decode cX10_moveName 34 = .ok (.iload_n 3, 1) := dq_29 (zby_at (j := 2) zbX10_moveName_2 rfl)
theorem dX10_moveName_35 : decode cX10_moveName 35 = .ok (.istore 5, 2) := dq_54 (zby_at (j := 3) zbX10_moveName_2 rfl) (zby_at (j := 4) zbX10_moveName_2 rfl)
theorem dX10_moveName_37 : decode cX10_moveName 37 = .ok (.iload 5, 2) := dq_21 (zby_at (j := 5) zbX10_moveName_2 rfl) (zby_at (j := 6) zbX10_moveName_2 rfl)
theorem dX10_moveName_39 : decode cX10_moveName 39 = .ok (.iload_n 2, 1) := dq_28 (zby_at (j := 7) zbX10_moveName_2 rfl)
theorem dX10_moveName_40 : decode cX10_moveName 40 = .ok (.if_icmp .eq 42, 3) := dq_159 (zby_at (j := 8) zbX10_moveName_2 rfl) (zby_at (j := 9) zbX10_moveName_2 rfl) (zby_at (j := 10) zbX10_moveName_2 rfl) rfl
theorem dX10_moveName_43 : decode cX10_moveName 43 = .ok (.iload 5, 2) := dq_21 (zby_at (j := 11) zbX10_moveName_2 rfl) (zby_at (j := 12) zbX10_moveName_2 rfl)
theorem dX10_moveName_45 : decode cX10_moveName 45 = .ok (.ifCond .lt 37, 3) := dq_155 (zby_at (j := 13) zbX10_moveName_2 rfl) (zby_at (j := 14) zbX10_moveName_2 rfl) (zby_at (j := 15) zbX10_moveName_2 rfl) rfl
theorem zbX10_moveName_3 : zby cX10_moveName 48 20 = [21, 5, 16, 10, 162, 0, 30, 42, 180, 0, 31, 21, 5, 42, 180, 0, 31, 21, 5, 21] := by decide +kernel
theorem dX10_moveName_48 : decode cX10_moveName 48 = .ok (.iload 5, 2) := dq_21 (zby_at (j := 0) zbX10_moveName_3 rfl) (zby_at (j := 1) zbX10_moveName_3 rfl)
theorem dX10_moveName_50 : decode cX10_moveName 50 = .ok (.bipush 10, 2) := dq_16 (zby_at (j := 2) zbX10_moveName_3 rfl) (zby_at (j := 3) zbX10_moveName_3 rfl) rfl
theorem dX10_moveName_52 : decode cX10_moveName 52 = .ok (.if_icmp .ge 30, 3) := dq_162 (zby_at (j := 4) zbX10_moveName_3 rfl) (zby_at (j := 5) zbX10_moveName_3 rfl) (zby_at (j := 6) zbX10_moveName_3 rfl) rfl
theorem dX10_moveName_55 : decode cX10_moveName 55 = .ok (.aload_n 0, 1) := dq_42 (zby_at (j := 7) zbX10_moveName_3 rfl)
theorem dX10_moveName_56 : decode cX10_moveName 56 = .ok (.getfield 31, 3) := dq_180 (zby_at (j := 8) zbX10_moveName_3 rfl) (zby_at (j := 9) zbX10_moveName_3 rfl) (zby_at (j := 10) zbX10_moveName_3 rfl)
theorem dX10_moveName_59 : decode cX10_moveName 59 = .ok (.iload 5, 2) := dq_21 (zby_at (j := 11) zbX10_moveName_3 rfl) (zby_at (j := 12) zbX10_moveName_3 rfl)
theorem dX10_moveName_61 : decode cX10_moveName 61 = .ok (.aload_n 0, 1) := dq_42 (zby_at (j := 13) zbX10_moveName_3 rfl)
theorem dX10_moveName_62 : decode cX10_moveName 62 = .ok (.getfield 31, 3) := dq_180 (zby_at (j := 14) zbX10_moveName_3 rfl) (zby_at (j := 15) zbX10_moveName_3 rfl) (zby_at (j := 16) zbX10_moveName_3 rfl)
theorem zbX10_moveName_4 : zby cX10_moveName 64 20 = [31, 21, 5, 21, 4, 96, 46, 79, 21, 5, 21, 4, 96, 54, 5, 167, 255, 214, 42, 180] := by decide +kernel
theorem dX10_moveName_65 : decode cX10_moveName 65 = .ok (.iload 5, 2) := dq_21 (zby_at (j := 1) zbX10_moveName_4 rfl) (zby_at (j := 2) zbX10_moveName_4 rfl)
theorem dX10_moveName_67 : decode cX10_moveName 67 = .ok (.iload 4, 2) := dq_21 (zby_at (j := 3) zbX10_moveName_4 rfl) (zby_at (j := 4) zbX10_moveName_4 rfl)
theorem dX10_moveName_69 : decode cX10_moveName 69 = .ok (.iadd, 1) := dq_96 (zby_at (j := 5) zbX10_moveName_4 rfl)
theorem dX10_moveName_70 : decode cX10_moveName 70 = .ok (.iaload, 1) := dq_46 (zby_at (j := 6) zbX10_moveName_4 rfl)
theorem dX10_moveName_71 : decode cX10_moveName 71 = .ok (.iastore, 1) := dq_79 (zby_at (j := 7) zbX10_moveName_4 rfl)
theorem dX10_moveName_72 : decode cX10_moveName 72 = .ok (.iload 5, 2) := dq_21 (zby_at (j := 8) zbX10_moveName_4 rfl) (zby_at (j := 9) zbX10_moveName_4 rfl)
theorem dX10_moveName_74 : decode cX10_moveName 74 = .ok (.iload 4, 2) := dq_21 (zby_at (j := 10) zbX10_moveName_4 rfl) (zby_at (j := 11) zbX10_moveName_4 rfl)
theorem dX10_moveName_76 : decode cX10_moveName 76 = .ok (.iadd, 1) := dq_96 (zby_at (j := 12) zbX10_moveName_4 rfl)
theorem dX10_moveName_77 : decode cX10_moveName 77 = .ok (.istore 5, 2) := dq_54 (zby_at (j := 13) zbX10_moveName_4 rfl) (zby_at (j := 14) zbX10_moveName_4 rfl)
theorem dX10_moveName_79 : decode cX10_moveName 79 = .ok (.goto (-42), 3) := dq_167 (zby_at (j := 15) zbX10_moveName_4 rfl) (zby_at (j := 16) zbX10_moveName_4 rfl) (zby_at (j := 17) zbX10_moveName_4 rfl) rfl
theorem zbX10_moveName_5 : zby cX10_moveName 80 20 = [255, 214, 42, 180, 0, 31, 28, 27, 79, 29, 172] := by decide +kernel
theorem dX10_moveName_82 : decode cX10_moveName 82 = .ok (.aload_n 0, 1) := dq_42 (zby_at (j := 2) zbX10_moveName_5 rfl)
theorem dX10_moveName_83 : decode cX10_moveName 83 = .ok (.getfield 31, 3) := dq_180 (zby_at (j := 3) zbX10_moveName_5 rfl) (zby_at (j := 4) zbX10_moveName_5 rfl) (zby_at (j := 5) zbX10_moveName_5 rfl)
theorem dX10_moveName_86 : decode cX10_moveName 86 = .ok (.iload_n 2, 1) := dq_28 (zby_at (j := 6) zbX10_moveName_5 rfl)
theorem dX10_moveName_87 : decode cX10_moveName 87 = .ok (.iload_n 1, 1) := dq_27 (zby_at (j := 7) zbX10_moveName_5 rfl)
theorem dX10_moveName_88 : decode cX10_moveName 88 = .ok (.iastore, 1) := dq_79 (zby_at (j := 8) zbX10_moveName_5 rfl)
theorem dX10_moveName_89 : decode cX10_moveName 89 = .ok (.iload_n 3, 1) := dq_29 (zby_at (j := 9) zbX10_moveName_5 rfl)
theorem dX10_moveName_90 : decode cX10_moveName 90 = .ok (.ireturn, 1) := dq_172 (zby_at (j := 10) zbX10_moveName_5 rfl)
theorem zbX10_placeOf_0 : zby cX10_placeOf 0 20 = [3, 61, 28, 42, 180, 0, 9, 162, 0, 27, 28, 16, 10, 162, 0, 21, 42, 180, 0, 31] := by decide +kernel
theorem dX10_placeOf_0 : decode cX10_placeOf 0 = .ok (.iconst 0, 1) := dq_3 (zby_at (j := 0) zbX10_placeOf_0 rfl)
theorem dX10_placeOf_1 : decode cX10_placeOf 1 = .ok (.istore_n 2, 1) := dq_61 (zby_at (j := 1) zbX10_placeOf_0 rfl)
theorem dX10_placeOf_2 : decode cX10_placeOf 2 = .ok (.iload_n 2, 1) := dq_28 (zby_at (j := 2) zbX10_placeOf_0 rfl)
theorem dX10_placeOf_3 : decode cX10_placeOf 3 = .ok (.aload_n 0, 1) := dq_42 (zby_at (j := 3) zbX10_placeOf_0 rfl)
theorem dX10_placeOf_4 : decode cX10_placeOf 4 = .ok (.getfield 9, 3) := dq_180 (zby_at (j := 4) zbX10_placeOf_0 rfl) (zby_at (j := 5) zbX10_placeOf_0 rfl) (zby_at (j := 6) zbX10_placeOf_0 rfl)
theorem dX10_placeOf_7 : decode cX10_placeOf 7 = .ok (.if_icmp .ge 27, 3) := dq_162 (zby_at (j := 7) zbX10_placeOf_0 rfl) (zby_at (j := 8) zbX10_placeOf_0 rfl) (zby_at (j := 9) zbX10_placeOf_0 rfl) rfl
theorem dX10_placeOf_10 : decode cX10_placeOf 10 = .ok (.iload_n 2, 1) := dq_28 (zby_at (j := 10) zbX10_placeOf_0 rfl)
theorem dX10_placeOf_11 : decode cX10_placeOf 11 = .ok (.bipush 10, 2) := dq_16 (zby_at (j := 11) zbX10_placeOf_0 rfl) (zby_at (j := 12) zbX10_placeOf_0 rfl) rfl
theorem dX10_placeOf_13 : decode cX10_placeOf 13 = .ok (.if_icmp .ge 21, 3) := dq_162 (zby_at (j := 13) zbX10_placeOf_0 rfl) (zby_at (j := 14) zbX10_placeOf_0 rfl) (zby_at (j := 15) zbX10_placeOf_0 rfl) rfl
theorem zbX10_placeOf_1 : zby cX10_placeOf 16 20 = [42, 180, 0, 31, 28, 46, 27, 160, 0, 5, 28, 172, 132, 2, 1, 167, 255, 227, 2, 172] := by decide +kernel
theorem dX10_placeOf_16 : decode cX10_placeOf 16 = .ok (.aload_n 0, 1) := dq_42 (zby_at (j := 0) zbX10_placeOf_1 rfl)
theorem dX10_placeOf_17 : decode cX10_placeOf 17 = .ok (.getfield 31, 3) := dq_180 (zby_at (j := 1) zbX10_placeOf_1 rfl) (zby_at (j := 2) zbX10_placeOf_1 rfl) (zby_at (j := 3) zbX10_placeOf_1 rfl)
theorem dX10_placeOf_20 : decode cX10_placeOf 20 = .ok (.iload_n 2, 1) := dq_28 (zby_at (j := 4) zbX10_placeOf_1 rfl)
theorem dX10_placeOf_21 : decode cX10_placeOf 21 = .ok (.iaload, 1) := dq_46 (zby_at (j := 5) zbX10_placeOf_1 rfl)
theorem dX10_placeOf_22 : decode cX10_placeOf 22 = .ok (.iload_n 1, 1) := dq_27 (zby_at (j := 6) zbX10_placeOf_1 rfl)
theorem dX10_placeOf_23 : decode cX10_placeOf 23 = .ok (.if_icmp .ne 5, 3) := dq_160 (zby_at (j := 7) zbX10_placeOf_1 rfl) (zby_at (j := 8) zbX10_placeOf_1 rfl) (zby_at (j := 9) zbX10_placeOf_1 rfl) rfl
theorem dX10_placeOf_26 : decode cX10_placeOf 26 = .ok (.iload_n 2, 1) := dq_28 (zby_at (j := 10) zbX10_placeOf_1 rfl)
theorem dX10_placeOf_27 : decode cX10_placeOf 27 = .ok (.ireturn, 1) := dq_172 (zby_at (j := 11) zbX10_placeOf_1 rfl)
theorem dX10_placeOf_28 : decode cX10_placeOf 28 = .ok (.iinc 2 1, 3) := dq_132 (zby_at (j := 12) zbX10_placeOf_1 rfl) (zby_at (j := 13) zbX10_placeOf_1 rfl) (zby_at (j := 14) zbX10_placeOf_1 rfl) rfl
theorem dX10_placeOf_31 : decode cX10_placeOf 31 = .ok (.goto (-29), 3) := dq_167 (zby_at (j := 15) zbX10_placeOf_1 rfl) (zby_at (j := 16) zbX10_placeOf_1 rfl) (zby_at (j := 17) zbX10_placeOf_1 rfl) rfl
theorem zbX10_placeOf_2 : zby cX10_placeOf 32 20 = [255, 227, 2, 172] := by decide +kernel
theorem dX10_placeOf_34 : decode cX10_placeOf 34 = .ok (.iconst (-1), 1) := dq_2 (zby_at (j := 2) zbX10_placeOf_2 rfl)
theorem dX10_placeOf_35 : decode cX10_placeOf 35 = .ok (.ireturn, 1) := dq_172 (zby_at (j := 3) zbX10_placeOf_2 rfl)
theorem zbX10_filledRegisters_0 : zby cX10_filledRegisters 0 20 = [3, 60, 3, 61, 28, 16, 10, 162, 0, 27, 42, 180, 0, 36, 28, 50, 182, 0, 58, 154] := by decide +kernel
theorem dX10_filledRegisters_0 : decode cX10_filledRegisters 0 = .ok (.iconst 0, 1) := dq_3 (zby_at (j := 0) zbX10_filledRegisters_0 rfl)
theorem dX10_filledRegisters_1 : decode cX10_filledRegisters 1 = .ok (.istore_n 1, 1) := dq_60 (zby_at (j := 1) zbX10_filledRegisters_0 rfl)
theorem dX10_filledRegisters_2 : decode cX10_filledRegisters 2 = .ok (.iconst 0, 1) := dq_3 (zby_at (j := 2) zbX10_filledRegisters_0 rfl)
theorem dX10_filledRegisters_3 : decode cX10_filledRegisters 3 = .ok (.istore_n 2, 1) := dq_61 (zby_at (j := 3) zbX10_filledRegisters_0 rfl)
theorem dX10_filledRegisters_4 : decode cX10_filledRegisters 4 = .ok (.iload_n 2, 1) := dq_28 (zby_at (j := 4) zbX10_filledRegisters_0 rfl)
theorem dX10_filledRegisters_5 : decode cX10_filledRegisters 5 = .ok (.bipush 10, 2) := dq_16 (zby_at (j := 5) zbX10_filledRegisters_0 rfl) (zby_at (j := 6) zbX10_filledRegisters_0 rfl) rfl
theorem dX10_filledRegisters_7 : decode cX10_filledRegisters 7 = .ok (.if_icmp .ge 27, 3) := dq_162 (zby_at (j := 7) zbX10_filledRegisters_0 rfl) (zby_at (j := 8) zbX10_filledRegisters_0 rfl) (zby_at (j := 9) zbX10_filledRegisters_0 rfl) rfl
theorem dX10_filledRegisters_10 : decode cX10_filledRegisters 10 = .ok (.aload_n 0, 1) := dq_42 (zby_at (j := 10) zbX10_filledRegisters_0 rfl)
theorem dX10_filledRegisters_11 : decode cX10_filledRegisters 11 = .ok (.getfield 36, 3) := dq_180 (zby_at (j := 11) zbX10_filledRegisters_0 rfl) (zby_at (j := 12) zbX10_filledRegisters_0 rfl) (zby_at (j := 13) zbX10_filledRegisters_0 rfl)
theorem dX10_filledRegisters_14 : decode cX10_filledRegisters 14 = .ok (.iload_n 2, 1) := dq_28 (zby_at (j := 14) zbX10_filledRegisters_0 rfl)
theorem dX10_filledRegisters_15 : decode cX10_filledRegisters 15 = .ok (.aaload, 1) := dq_50 (zby_at (j := 15) zbX10_filledRegisters_0 rfl)
theorem zbX10_filledRegisters_1 : zby cX10_filledRegisters 16 20 = [182, 0, 58, 154, 0, 9, 27, 4, 28, 120, 128, 60, 132, 2, 1, 167, 255, 229, 27, 172] := by decide +kernel
theorem dX10_filledRegisters_16 : decode cX10_filledRegisters 16 = .ok (.invokevirtual 58, 3) := dq_182 (zby_at (j := 0) zbX10_filledRegisters_1 rfl) (zby_at (j := 1) zbX10_filledRegisters_1 rfl) (zby_at (j := 2) zbX10_filledRegisters_1 rfl)
theorem dX10_filledRegisters_19 : decode cX10_filledRegisters 19 = .ok (.ifCond .ne 9, 3) := dq_154 (zby_at (j := 3) zbX10_filledRegisters_1 rfl) (zby_at (j := 4) zbX10_filledRegisters_1 rfl) (zby_at (j := 5) zbX10_filledRegisters_1 rfl) rfl
theorem dX10_filledRegisters_22 : decode cX10_filledRegisters 22 = .ok (.iload_n 1, 1) := dq_27 (zby_at (j := 6) zbX10_filledRegisters_1 rfl)
theorem dX10_filledRegisters_23 : decode cX10_filledRegisters 23 = .ok (.iconst 1, 1) := dq_4 (zby_at (j := 7) zbX10_filledRegisters_1 rfl)
theorem dX10_filledRegisters_24 : decode cX10_filledRegisters 24 = .ok (.iload_n 2, 1) := dq_28 (zby_at (j := 8) zbX10_filledRegisters_1 rfl)
theorem dX10_filledRegisters_25 : decode cX10_filledRegisters 25 = .ok (.ishl, 1) := dq_120 (zby_at (j := 9) zbX10_filledRegisters_1 rfl)
theorem dX10_filledRegisters_26 : decode cX10_filledRegisters 26 = .ok (.ior, 1) := dq_128 (zby_at (j := 10) zbX10_filledRegisters_1 rfl)
theorem dX10_filledRegisters_27 : decode cX10_filledRegisters 27 = .ok (.istore_n 1, 1) := dq_60 (zby_at (j := 11) zbX10_filledRegisters_1 rfl)
theorem dX10_filledRegisters_28 : decode cX10_filledRegisters 28 = .ok (.iinc 2 1, 3) := dq_132 (zby_at (j := 12) zbX10_filledRegisters_1 rfl) (zby_at (j := 13) zbX10_filledRegisters_1 rfl) (zby_at (j := 14) zbX10_filledRegisters_1 rfl) rfl
theorem dX10_filledRegisters_31 : decode cX10_filledRegisters 31 = .ok (.goto (-27), 3) := dq_167 (zby_at (j := 15) zbX10_filledRegisters_1 rfl) (zby_at (j := 16) zbX10_filledRegisters_1 rfl) (zby_at (j := 17) zbX10_filledRegisters_1 rfl) rfl
theorem zbX10_filledRegisters_2 : zby cX10_filledRegisters 32 20 = [255, 229, 27, 172] := by decide +kernel
theorem dX10_filledRegisters_34 : decode cX10_filledRegisters 34 = .ok (.iload_n 1, 1) := dq_27 (zby_at (j := 2) zbX10_filledRegisters_2 rfl)
theorem dX10_filledRegisters_35 : decode cX10_filledRegisters 35 = .ok (.ireturn, 1) := dq_172 (zby_at (j := 3) zbX10_filledRegisters_2 rfl)
theorem zbX10_unlikeFamilies_0 : zby cX10_unlikeFamilies 0 20 = [3, 60, 3, 61, 28, 16, 10, 162, 0, 21, 42, 28, 182, 0, 62, 28, 160, 0, 6, 132] := by decide +kernel
theorem dX10_unlikeFamilies_0 : decode cX10_unlikeFamilies 0 = .ok (.iconst 0, 1) := dq_3 (zby_at (j := 0) zbX10_unlikeFamilies_0 rfl)
theorem dX10_unlikeFamilies_1 : decode cX10_unlikeFamilies 1 = .ok (.istore_n 1, 1) := dq_60 (zby_at (j := 1) zbX10_unlikeFamilies_0 rfl)
theorem dX10_unlikeFamilies_2 : decode cX10_unlikeFamilies 2 = .ok (.iconst 0, 1) := dq_3 (zby_at (j := 2) zbX10_unlikeFamilies_0 rfl)
theorem dX10_unlikeFamilies_3 : decode cX10_unlikeFamilies 3 = .ok (.istore_n 2, 1) := dq_61 (zby_at (j := 3) zbX10_unlikeFamilies_0 rfl)
theorem dX10_unlikeFamilies_4 : decode cX10_unlikeFamilies 4 = .ok (.iload_n 2, 1) := dq_28 (zby_at (j := 4) zbX10_unlikeFamilies_0 rfl)
theorem dX10_unlikeFamilies_5 : decode cX10_unlikeFamilies 5 = .ok (.bipush 10, 2) := dq_16 (zby_at (j := 5) zbX10_unlikeFamilies_0 rfl) (zby_at (j := 6) zbX10_unlikeFamilies_0 rfl) rfl
theorem dX10_unlikeFamilies_7 : decode cX10_unlikeFamilies 7 = .ok (.if_icmp .ge 21, 3) := dq_162 (zby_at (j := 7) zbX10_unlikeFamilies_0 rfl) (zby_at (j := 8) zbX10_unlikeFamilies_0 rfl) (zby_at (j := 9) zbX10_unlikeFamilies_0 rfl) rfl
theorem dX10_unlikeFamilies_10 : decode cX10_unlikeFamilies 10 = .ok (.aload_n 0, 1) := dq_42 (zby_at (j := 10) zbX10_unlikeFamilies_0 rfl)
theorem dX10_unlikeFamilies_11 : decode cX10_unlikeFamilies 11 = .ok (.iload_n 2, 1) := dq_28 (zby_at (j := 11) zbX10_unlikeFamilies_0 rfl)
theorem dX10_unlikeFamilies_12 : decode cX10_unlikeFamilies 12 = .ok (.invokevirtual 62, 3) := dq_182 (zby_at (j := 12) zbX10_unlikeFamilies_0 rfl) (zby_at (j := 13) zbX10_unlikeFamilies_0 rfl) (zby_at (j := 14) zbX10_unlikeFamilies_0 rfl)
theorem dX10_unlikeFamilies_15 : decode cX10_unlikeFamilies 15 = .ok (.iload_n 2, 1) := dq_28 (zby_at (j := 15) zbX10_unlikeFamilies_0 rfl)
theorem zbX10_unlikeFamilies_1 : zby cX10_unlikeFamilies 16 20 = [160, 0, 6, 132, 1, 1, 132, 2, 1, 167, 255, 235, 27, 172] := by decide +kernel
theorem dX10_unlikeFamilies_16 : decode cX10_unlikeFamilies 16 = .ok (.if_icmp .ne 6, 3) := dq_160 (zby_at (j := 0) zbX10_unlikeFamilies_1 rfl) (zby_at (j := 1) zbX10_unlikeFamilies_1 rfl) (zby_at (j := 2) zbX10_unlikeFamilies_1 rfl) rfl
theorem dX10_unlikeFamilies_19 : decode cX10_unlikeFamilies 19 = .ok (.iinc 1 1, 3) := dq_132 (zby_at (j := 3) zbX10_unlikeFamilies_1 rfl) (zby_at (j := 4) zbX10_unlikeFamilies_1 rfl) (zby_at (j := 5) zbX10_unlikeFamilies_1 rfl) rfl
theorem dX10_unlikeFamilies_22 : decode cX10_unlikeFamilies 22 = .ok (.iinc 2 1, 3) := dq_132 (zby_at (j := 6) zbX10_unlikeFamilies_1 rfl) (zby_at (j := 7) zbX10_unlikeFamilies_1 rfl) (zby_at (j := 8) zbX10_unlikeFamilies_1 rfl) rfl
theorem dX10_unlikeFamilies_25 : decode cX10_unlikeFamilies 25 = .ok (.goto (-21), 3) := dq_167 (zby_at (j := 9) zbX10_unlikeFamilies_1 rfl) (zby_at (j := 10) zbX10_unlikeFamilies_1 rfl) (zby_at (j := 11) zbX10_unlikeFamilies_1 rfl) rfl
theorem dX10_unlikeFamilies_28 : decode cX10_unlikeFamilies 28 = .ok (.iload_n 1, 1) := dq_27 (zby_at (j := 12) zbX10_unlikeFamilies_1 rfl)
theorem dX10_unlikeFamilies_29 : decode cX10_unlikeFamilies 29 = .ok (.ireturn, 1) := dq_172 (zby_at (j := 13) zbX10_unlikeFamilies_1 rfl)
theorem zbX10_firstLike_0 : zby cX10_firstLike 0 20 = [3, 61, 28, 27, 162, 0, 41, 28, 16, 10, 162, 0, 35, 27, 16, 10, 162, 0, 23, 42] := by decide +kernel
theorem dX10_firstLike_0 : decode cX10_firstLike 0 = .ok (.iconst 0, 1) := dq_3 (zby_at (j := 0) zbX10_firstLike_0 rfl)
theorem dX10_firstLike_1 : decode cX10_firstLike 1 = .ok (.istore_n 2, 1) := dq_61 (zby_at (j := 1) zbX10_firstLike_0 rfl)
theorem dX10_firstLike_2 : decode cX10_firstLike 2 = .ok (.iload_n 2, 1) := dq_28 (zby_at (j := 2) zbX10_firstLike_0 rfl)
theorem dX10_firstLike_3 : decode cX10_firstLike 3 = .ok (.iload_n 1, 1) := dq_27 (zby_at (j := 3) zbX10_firstLike_0 rfl)
theorem dX10_firstLike_4 : decode cX10_firstLike 4 = .ok (.if_icmp .ge 41, 3) := dq_162 (zby_at (j := 4) zbX10_firstLike_0 rfl) (zby_at (j := 5) zbX10_firstLike_0 rfl) (zby_at (j := 6) zbX10_firstLike_0 rfl) rfl
theorem dX10_firstLike_7 : decode cX10_firstLike 7 = .ok (.iload_n 2, 1) := dq_28 (zby_at (j := 7) zbX10_firstLike_0 rfl)
theorem dX10_firstLike_8 : decode cX10_firstLike 8 = .ok (.bipush 10, 2) := dq_16 (zby_at (j := 8) zbX10_firstLike_0 rfl) (zby_at (j := 9) zbX10_firstLike_0 rfl) rfl
theorem dX10_firstLike_10 : decode cX10_firstLike 10 = .ok (.if_icmp .ge 35, 3) := dq_162 (zby_at (j := 10) zbX10_firstLike_0 rfl) (zby_at (j := 11) zbX10_firstLike_0 rfl) (zby_at (j := 12) zbX10_firstLike_0 rfl) rfl
theorem dX10_firstLike_13 : decode cX10_firstLike 13 = .ok (.iload_n 1, 1) := dq_27 (zby_at (j := 13) zbX10_firstLike_0 rfl)
theorem dX10_firstLike_14 : decode cX10_firstLike 14 = .ok (.bipush 10, 2) := dq_16 (zby_at (j := 14) zbX10_firstLike_0 rfl) (zby_at (j := 15) zbX10_firstLike_0 rfl) rfl
theorem zbX10_firstLike_1 : zby cX10_firstLike 16 20 = [162, 0, 23, 42, 180, 0, 36, 28, 50, 42, 180, 0, 36, 27, 50, 182, 0, 65, 153, 0] := by decide +kernel
theorem dX10_firstLike_16 : decode cX10_firstLike 16 = .ok (.if_icmp .ge 23, 3) := dq_162 (zby_at (j := 0) zbX10_firstLike_1 rfl) (zby_at (j := 1) zbX10_firstLike_1 rfl) (zby_at (j := 2) zbX10_firstLike_1 rfl) rfl
theorem dX10_firstLike_19 : decode cX10_firstLike 19 = .ok (.aload_n 0, 1) := dq_42 (zby_at (j := 3) zbX10_firstLike_1 rfl)
theorem dX10_firstLike_20 : decode cX10_firstLike 20 = .ok (.getfield 36, 3) := dq_180 (zby_at (j := 4) zbX10_firstLike_1 rfl) (zby_at (j := 5) zbX10_firstLike_1 rfl) (zby_at (j := 6) zbX10_firstLike_1 rfl)
theorem dX10_firstLike_23 : decode cX10_firstLike 23 = .ok (.iload_n 2, 1) := dq_28 (zby_at (j := 7) zbX10_firstLike_1 rfl)
theorem dX10_firstLike_24 : decode cX10_firstLike 24 = .ok (.aaload, 1) := dq_50 (zby_at (j := 8) zbX10_firstLike_1 rfl)
theorem dX10_firstLike_25 : decode cX10_firstLike 25 = .ok (.aload_n 0, 1) := dq_42 (zby_at (j := 9) zbX10_firstLike_1 rfl)
theorem dX10_firstLike_26 : decode cX10_firstLike 26 = .ok (.getfield 36, 3) := dq_180 (zby_at (j := 10) zbX10_firstLike_1 rfl) (zby_at (j := 11) zbX10_firstLike_1 rfl) (zby_at (j := 12) zbX10_firstLike_1 rfl)
theorem dX10_firstLike_29 : decode cX10_firstLike 29 = .ok (.iload_n 1, 1) := dq_27 (zby_at (j := 13) zbX10_firstLike_1 rfl)
theorem dX10_firstLike_30 : decode cX10_firstLike 30 = .ok (.aaload, 1) := dq_50 (zby_at (j := 14) zbX10_firstLike_1 rfl)
theorem dX10_firstLike_31 : decode cX10_firstLike 31 = .ok (.invokevirtual 65, 3) := dq_182 (zby_at (j := 15) zbX10_firstLike_1 rfl) (zby_at (j := 16) zbX10_firstLike_1 rfl) (zby_at (j := 17) zbX10_firstLike_1 rfl)
theorem zbX10_firstLike_2 : zby cX10_firstLike 32 20 = [0, 65, 153, 0, 5, 28, 172, 132, 2, 1, 167, 255, 216, 27, 172] := by decide +kernel
theorem dX10_firstLike_34 : decode cX10_firstLike 34 = .ok (.ifCond .eq 5, 3) := dq_153 (zby_at (j := 2) zbX10_firstLike_2 rfl) (zby_at (j := 3) zbX10_firstLike_2 rfl) (zby_at (j := 4) zbX10_firstLike_2 rfl) rfl
theorem dX10_firstLike_37 : decode cX10_firstLike 37 = .ok (.iload_n 2, 1) := dq_28 (zby_at (j := 5) zbX10_firstLike_2 rfl)
theorem dX10_firstLike_38 : decode cX10_firstLike 38 = .ok (.ireturn, 1) := dq_172 (zby_at (j := 6) zbX10_firstLike_2 rfl)
theorem dX10_firstLike_39 : decode cX10_firstLike 39 = .ok (.iinc 2 1, 3) := dq_132 (zby_at (j := 7) zbX10_firstLike_2 rfl) (zby_at (j := 8) zbX10_firstLike_2 rfl) (zby_at (j := 9) zbX10_firstLike_2 rfl) rfl
theorem dX10_firstLike_42 : decode cX10_firstLike 42 = .ok (.goto (-40), 3) := dq_167 (zby_at (j := 10) zbX10_firstLike_2 rfl) (zby_at (j := 11) zbX10_firstLike_2 rfl) (zby_at (j := 12) zbX10_firstLike_2 rfl) rfl
theorem dX10_firstLike_45 : decode cX10_firstLike 45 = .ok (.iload_n 1, 1) := dq_27 (zby_at (j := 13) zbX10_firstLike_2 rfl)
theorem dX10_firstLike_46 : decode cX10_firstLike 46 = .ok (.ireturn, 1) := dq_172 (zby_at (j := 14) zbX10_firstLike_2 rfl)
theorem zbX11_init_0 : zby cX11_init 0 20 = [42, 183, 0, 1, 42, 17, 2, 88, 188, 8, 181, 0, 9, 42, 3, 181, 0, 13, 42, 3] := by decide +kernel
theorem dX11_init_0 : decode cX11_init 0 = .ok (.aload_n 0, 1) := dq_42 (zby_at (j := 0) zbX11_init_0 rfl)
theorem dX11_init_1 : decode cX11_init 1 = .ok (.invokespecial 1, 3) := dq_183 (zby_at (j := 1) zbX11_init_0 rfl) (zby_at (j := 2) zbX11_init_0 rfl) (zby_at (j := 3) zbX11_init_0 rfl)
theorem dX11_init_4 : decode cX11_init 4 = .ok (.aload_n 0, 1) := dq_42 (zby_at (j := 4) zbX11_init_0 rfl)
theorem dX11_init_5 : decode cX11_init 5 = .ok (.sipush 600, 3) := dq_17 (zby_at (j := 5) zbX11_init_0 rfl) (zby_at (j := 6) zbX11_init_0 rfl) (zby_at (j := 7) zbX11_init_0 rfl) rfl
theorem dX11_init_8 : decode cX11_init 8 = .ok (.newarray .byte, 2) := dq_188_8 (zby_at (j := 8) zbX11_init_0 rfl) (zby_at (j := 9) zbX11_init_0 rfl)
theorem dX11_init_10 : decode cX11_init 10 = .ok (.putfield 9, 3) := dq_181 (zby_at (j := 10) zbX11_init_0 rfl) (zby_at (j := 11) zbX11_init_0 rfl) (zby_at (j := 12) zbX11_init_0 rfl)
theorem dX11_init_13 : decode cX11_init 13 = .ok (.aload_n 0, 1) := dq_42 (zby_at (j := 13) zbX11_init_0 rfl)
theorem dX11_init_14 : decode cX11_init 14 = .ok (.iconst 0, 1) := dq_3 (zby_at (j := 14) zbX11_init_0 rfl)
theorem dX11_init_15 : decode cX11_init 15 = .ok (.putfield 13, 3) := dq_181 (zby_at (j := 15) zbX11_init_0 rfl) (zby_at (j := 16) zbX11_init_0 rfl) (zby_at (j := 17) zbX11_init_0 rfl)
theorem zbX11_init_1 : zby cX11_init 16 20 = [0, 13, 42, 3, 181, 0, 17, 42, 2, 181, 0, 20, 42, 187, 0, 23, 89, 183, 0, 25] := by decide +kernel
theorem dX11_init_18 : decode cX11_init 18 = .ok (.aload_n 0, 1) := dq_42 (zby_at (j := 2) zbX11_init_1 rfl)
theorem dX11_init_19 : decode cX11_init 19 = .ok (.iconst 0, 1) := dq_3 (zby_at (j := 3) zbX11_init_1 rfl)
theorem dX11_init_20 : decode cX11_init 20 = .ok (.putfield 17, 3) := dq_181 (zby_at (j := 4) zbX11_init_1 rfl) (zby_at (j := 5) zbX11_init_1 rfl) (zby_at (j := 6) zbX11_init_1 rfl)
theorem dX11_init_23 : decode cX11_init 23 = .ok (.aload_n 0, 1) := dq_42 (zby_at (j := 7) zbX11_init_1 rfl)
theorem dX11_init_24 : decode cX11_init 24 = .ok (.iconst (-1), 1) := dq_2 (zby_at (j := 8) zbX11_init_1 rfl)
theorem dX11_init_25 : decode cX11_init 25 = .ok (.putfield 20, 3) := dq_181 (zby_at (j := 9) zbX11_init_1 rfl) (zby_at (j := 10) zbX11_init_1 rfl) (zby_at (j := 11) zbX11_init_1 rfl)
theorem dX11_init_28 : decode cX11_init 28 = .ok (.aload_n 0, 1) := dq_42 (zby_at (j := 12) zbX11_init_1 rfl)
theorem dX11_init_29 : decode cX11_init 29 = .ok (.new 23, 3) := dq_187 (zby_at (j := 13) zbX11_init_1 rfl) (zby_at (j := 14) zbX11_init_1 rfl) (zby_at (j := 15) zbX11_init_1 rfl)
theorem zbX11_init_2 : zby cX11_init 32 20 = [89, 183, 0, 25, 181, 0, 26, 42, 187, 0, 23, 89, 183, 0, 25, 181, 0, 30, 42, 6] := by decide +kernel
theorem dX11_init_32 : decode cX11_init 32 = .ok (.dup, 1) := dq_89 (zby_at (j := 0) zbX11_init_2 rfl)
theorem dX11_init_33 : decode cX11_init 33 = .ok (.invokespecial 25, 3) := dq_183 (zby_at (j := 1) zbX11_init_2 rfl) (zby_at (j := 2) zbX11_init_2 rfl) (zby_at (j := 3) zbX11_init_2 rfl)
theorem dX11_init_36 : decode cX11_init 36 = .ok (.putfield 26, 3) := dq_181 (zby_at (j := 4) zbX11_init_2 rfl) (zby_at (j := 5) zbX11_init_2 rfl) (zby_at (j := 6) zbX11_init_2 rfl)
theorem dX11_init_39 : decode cX11_init 39 = .ok (.aload_n 0, 1) := dq_42 (zby_at (j := 7) zbX11_init_2 rfl)
theorem dX11_init_40 : decode cX11_init 40 = .ok (.new 23, 3) := dq_187 (zby_at (j := 8) zbX11_init_2 rfl) (zby_at (j := 9) zbX11_init_2 rfl) (zby_at (j := 10) zbX11_init_2 rfl)
theorem dX11_init_43 : decode cX11_init 43 = .ok (.dup, 1) := dq_89 (zby_at (j := 11) zbX11_init_2 rfl)
theorem dX11_init_44 : decode cX11_init 44 = .ok (.invokespecial 25, 3) := dq_183 (zby_at (j := 12) zbX11_init_2 rfl) (zby_at (j := 13) zbX11_init_2 rfl) (zby_at (j := 14) zbX11_init_2 rfl)
theorem dX11_init_47 : decode cX11_init 47 = .ok (.putfield 30, 3) := dq_181 (zby_at (j := 15) zbX11_init_2 rfl) (zby_at (j := 16) zbX11_init_2 rfl) (zby_at (j := 17) zbX11_init_2 rfl)
theorem zbX11_init_3 : zby cX11_init 48 20 = [0, 30, 42, 6, 189, 0, 23, 181, 0, 33, 42, 6, 188, 4, 181, 0, 37, 42, 7, 189] := by decide +kernel
theorem dX11_init_50 : decode cX11_init 50 = .ok (.aload_n 0, 1) := dq_42 (zby_at (j := 2) zbX11_init_3 rfl)
theorem dX11_init_51 : decode cX11_init 51 = .ok (.iconst 3, 1) := dq_6 (zby_at (j := 3) zbX11_init_3 rfl)
theorem dX11_init_52 : decode cX11_init 52 = .ok (.anewarray 23, 3) := dq_189 (zby_at (j := 4) zbX11_init_3 rfl) (zby_at (j := 5) zbX11_init_3 rfl) (zby_at (j := 6) zbX11_init_3 rfl)
theorem dX11_init_55 : decode cX11_init 55 = .ok (.putfield 33, 3) := dq_181 (zby_at (j := 7) zbX11_init_3 rfl) (zby_at (j := 8) zbX11_init_3 rfl) (zby_at (j := 9) zbX11_init_3 rfl)
theorem dX11_init_58 : decode cX11_init 58 = .ok (.aload_n 0, 1) := dq_42 (zby_at (j := 10) zbX11_init_3 rfl)
theorem dX11_init_59 : decode cX11_init 59 = .ok (.iconst 3, 1) := dq_6 (zby_at (j := 11) zbX11_init_3 rfl)
theorem dX11_init_60 : decode cX11_init 60 = .ok (.newarray .boolean, 2) := dq_188_4 (zby_at (j := 12) zbX11_init_3 rfl) (zby_at (j := 13) zbX11_init_3 rfl)
theorem dX11_init_62 : decode cX11_init 62 = .ok (.putfield 37, 3) := dq_181 (zby_at (j := 14) zbX11_init_3 rfl) (zby_at (j := 15) zbX11_init_3 rfl) (zby_at (j := 16) zbX11_init_3 rfl)
theorem zbX11_init_4 : zby cX11_init 64 20 = [37, 42, 7, 189, 0, 41, 181, 0, 43, 42, 187, 0, 47, 89, 183, 0, 49, 181, 0, 50] := by decide +kernel
theorem dX11_init_65 : decode cX11_init 65 = .ok (.aload_n 0, 1) := dq_42 (zby_at (j := 1) zbX11_init_4 rfl)
theorem dX11_init_66 : decode cX11_init 66 = .ok (.iconst 4, 1) := dq_7 (zby_at (j := 2) zbX11_init_4 rfl)
theorem dX11_init_67 : decode cX11_init 67 = .ok (.anewarray 41, 3) := dq_189 (zby_at (j := 3) zbX11_init_4 rfl) (zby_at (j := 4) zbX11_init_4 rfl) (zby_at (j := 5) zbX11_init_4 rfl)
theorem dX11_init_70 : decode cX11_init 70 = .ok (.putfield 43, 3) := dq_181 (zby_at (j := 6) zbX11_init_4 rfl) (zby_at (j := 7) zbX11_init_4 rfl) (zby_at (j := 8) zbX11_init_4 rfl)
theorem dX11_init_73 : decode cX11_init 73 = .ok (.aload_n 0, 1) := dq_42 (zby_at (j := 9) zbX11_init_4 rfl)
theorem dX11_init_74 : decode cX11_init 74 = .ok (.new 47, 3) := dq_187 (zby_at (j := 10) zbX11_init_4 rfl) (zby_at (j := 11) zbX11_init_4 rfl) (zby_at (j := 12) zbX11_init_4 rfl)
theorem dX11_init_77 : decode cX11_init 77 = .ok (.dup, 1) := dq_89 (zby_at (j := 13) zbX11_init_4 rfl)
theorem dX11_init_78 : decode cX11_init 78 = .ok (.invokespecial 49, 3) := dq_183 (zby_at (j := 14) zbX11_init_4 rfl) (zby_at (j := 15) zbX11_init_4 rfl) (zby_at (j := 16) zbX11_init_4 rfl)
theorem zbX11_init_5 : zby cX11_init 80 20 = [49, 181, 0, 50, 42, 187, 0, 54, 89, 183, 0, 56, 181, 0, 57, 42, 187, 0, 61, 89] := by decide +kernel
theorem dX11_init_81 : decode cX11_init 81 = .ok (.putfield 50, 3) := dq_181 (zby_at (j := 1) zbX11_init_5 rfl) (zby_at (j := 2) zbX11_init_5 rfl) (zby_at (j := 3) zbX11_init_5 rfl)
theorem dX11_init_84 : decode cX11_init 84 = .ok (.aload_n 0, 1) := dq_42 (zby_at (j := 4) zbX11_init_5 rfl)
theorem dX11_init_85 : decode cX11_init 85 = .ok (.new 54, 3) := dq_187 (zby_at (j := 5) zbX11_init_5 rfl) (zby_at (j := 6) zbX11_init_5 rfl) (zby_at (j := 7) zbX11_init_5 rfl)
theorem dX11_init_88 : decode cX11_init 88 = .ok (.dup, 1) := dq_89 (zby_at (j := 8) zbX11_init_5 rfl)
theorem dX11_init_89 : decode cX11_init 89 = .ok (.invokespecial 56, 3) := dq_183 (zby_at (j := 9) zbX11_init_5 rfl) (zby_at (j := 10) zbX11_init_5 rfl) (zby_at (j := 11) zbX11_init_5 rfl)
theorem dX11_init_92 : decode cX11_init 92 = .ok (.putfield 57, 3) := dq_181 (zby_at (j := 12) zbX11_init_5 rfl) (zby_at (j := 13) zbX11_init_5 rfl) (zby_at (j := 14) zbX11_init_5 rfl)
theorem dX11_init_95 : decode cX11_init 95 = .ok (.aload_n 0, 1) := dq_42 (zby_at (j := 15) zbX11_init_5 rfl)
theorem zbX11_init_6 : zby cX11_init 96 20 = [187, 0, 61, 89, 183, 0, 63, 181, 0, 64, 42, 187, 0, 68, 89, 183, 0, 70, 181, 0] := by decide +kernel
theorem dX11_init_96 : decode cX11_init 96 = .ok (.new 61, 3) := dq_187 (zby_at (j := 0) zbX11_init_6 rfl) (zby_at (j := 1) zbX11_init_6 rfl) (zby_at (j := 2) zbX11_init_6 rfl)
theorem dX11_init_99 : decode cX11_init 99 = .ok (.dup, 1) := dq_89 (zby_at (j := 3) zbX11_init_6 rfl)
theorem dX11_init_100 : decode cX11_init 100 = .ok (.invokespecial 63, 3) := dq_183 (zby_at (j := 4) zbX11_init_6 rfl) (zby_at (j := 5) zbX11_init_6 rfl) (zby_at (j := 6) zbX11_init_6 rfl)
theorem dX11_init_103 : decode cX11_init 103 = .ok (.putfield 64, 3) := dq_181 (zby_at (j := 7) zbX11_init_6 rfl) (zby_at (j := 8) zbX11_init_6 rfl) (zby_at (j := 9) zbX11_init_6 rfl)
theorem dX11_init_106 : decode cX11_init 106 = .ok (.aload_n 0, 1) := dq_42 (zby_at (j := 10) zbX11_init_6 rfl)
theorem dX11_init_107 : decode cX11_init 107 = .ok (.new 68, 3) := dq_187 (zby_at (j := 11) zbX11_init_6 rfl) (zby_at (j := 12) zbX11_init_6 rfl) (zby_at (j := 13) zbX11_init_6 rfl)
theorem dX11_init_110 : decode cX11_init 110 = .ok (.dup, 1) := dq_89 (zby_at (j := 14) zbX11_init_6 rfl)
theorem dX11_init_111 : decode cX11_init 111 = .ok (.invokespecial 70, 3) := dq_183 (zby_at (j := 15) zbX11_init_6 rfl) (zby_at (j := 16) zbX11_init_6 rfl) (zby_at (j := 17) zbX11_init_6 rfl)
theorem zbX11_init_7 : zby cX11_init 112 20 = [0, 70, 181, 0, 71, 42, 187, 0, 75, 89, 183, 0, 77, 181, 0, 78, 42, 187, 0, 82] := by decide +kernel
theorem dX11_init_114 : decode cX11_init 114 = .ok (.putfield 71, 3) := dq_181 (zby_at (j := 2) zbX11_init_7 rfl) (zby_at (j := 3) zbX11_init_7 rfl) (zby_at (j := 4) zbX11_init_7 rfl)
theorem dX11_init_117 : decode cX11_init 117 = .ok (.aload_n 0, 1) := dq_42 (zby_at (j := 5) zbX11_init_7 rfl)
theorem dX11_init_118 : decode cX11_init 118 = .ok (.new 75, 3) := dq_187 (zby_at (j := 6) zbX11_init_7 rfl) (zby_at (j := 7) zbX11_init_7 rfl) (zby_at (j := 8) zbX11_init_7 rfl)
theorem dX11_init_121 : decode cX11_init 121 = .ok (.dup, 1) := dq_89 (zby_at (j := 9) zbX11_init_7 rfl)
theorem dX11_init_122 : decode cX11_init 122 = .ok (.invokespecial 77, 3) := dq_183 (zby_at (j := 10) zbX11_init_7 rfl) (zby_at (j := 11) zbX11_init_7 rfl) (zby_at (j := 12) zbX11_init_7 rfl)
theorem dX11_init_125 : decode cX11_init 125 = .ok (.putfield 78, 3) := dq_181 (zby_at (j := 13) zbX11_init_7 rfl) (zby_at (j := 14) zbX11_init_7 rfl) (zby_at (j := 15) zbX11_init_7 rfl)
theorem zbX11_init_8 : zby cX11_init 128 20 = [42, 187, 0, 82, 89, 183, 0, 84, 181, 0, 85, 42, 187, 0, 89, 89, 183, 0, 91, 181] := by decide +kernel
theorem dX11_init_128 : decode cX11_init 128 = .ok (.aload_n 0, 1) := dq_42 (zby_at (j := 0) zbX11_init_8 rfl)
theorem dX11_init_129 : decode cX11_init 129 = .ok (.new 82, 3) := dq_187 (zby_at (j := 1) zbX11_init_8 rfl) (zby_at (j := 2) zbX11_init_8 rfl) (zby_at (j := 3) zbX11_init_8 rfl)
theorem dX11_init_132 : decode cX11_init 132 = .ok (.dup, 1) := dq_89 (zby_at (j := 4) zbX11_init_8 rfl)
theorem dX11_init_133 : decode cX11_init 133 = .ok (.invokespecial 84, 3) := dq_183 (zby_at (j := 5) zbX11_init_8 rfl) (zby_at (j := 6) zbX11_init_8 rfl) (zby_at (j := 7) zbX11_init_8 rfl)
theorem dX11_init_136 : decode cX11_init 136 = .ok (.putfield 85, 3) := dq_181 (zby_at (j := 8) zbX11_init_8 rfl) (zby_at (j := 9) zbX11_init_8 rfl) (zby_at (j := 10) zbX11_init_8 rfl)
theorem dX11_init_139 : decode cX11_init 139 = .ok (.aload_n 0, 1) := dq_42 (zby_at (j := 11) zbX11_init_8 rfl)
theorem dX11_init_140 : decode cX11_init 140 = .ok (.new 89, 3) := dq_187 (zby_at (j := 12) zbX11_init_8 rfl) (zby_at (j := 13) zbX11_init_8 rfl) (zby_at (j := 14) zbX11_init_8 rfl)
theorem dX11_init_143 : decode cX11_init 143 = .ok (.dup, 1) := dq_89 (zby_at (j := 15) zbX11_init_8 rfl)
theorem zbX11_init_9 : zby cX11_init 144 20 = [183, 0, 91, 181, 0, 92, 42, 187, 0, 96, 89, 183, 0, 98, 181, 0, 99, 42, 187, 0] := by decide +kernel
theorem dX11_init_144 : decode cX11_init 144 = .ok (.invokespecial 91, 3) := dq_183 (zby_at (j := 0) zbX11_init_9 rfl) (zby_at (j := 1) zbX11_init_9 rfl) (zby_at (j := 2) zbX11_init_9 rfl)
theorem dX11_init_147 : decode cX11_init 147 = .ok (.putfield 92, 3) := dq_181 (zby_at (j := 3) zbX11_init_9 rfl) (zby_at (j := 4) zbX11_init_9 rfl) (zby_at (j := 5) zbX11_init_9 rfl)
theorem dX11_init_150 : decode cX11_init 150 = .ok (.aload_n 0, 1) := dq_42 (zby_at (j := 6) zbX11_init_9 rfl)
theorem dX11_init_151 : decode cX11_init 151 = .ok (.new 96, 3) := dq_187 (zby_at (j := 7) zbX11_init_9 rfl) (zby_at (j := 8) zbX11_init_9 rfl) (zby_at (j := 9) zbX11_init_9 rfl)
theorem dX11_init_154 : decode cX11_init 154 = .ok (.dup, 1) := dq_89 (zby_at (j := 10) zbX11_init_9 rfl)
theorem dX11_init_155 : decode cX11_init 155 = .ok (.invokespecial 98, 3) := dq_183 (zby_at (j := 11) zbX11_init_9 rfl) (zby_at (j := 12) zbX11_init_9 rfl) (zby_at (j := 13) zbX11_init_9 rfl)
theorem dX11_init_158 : decode cX11_init 158 = .ok (.putfield 99, 3) := dq_181 (zby_at (j := 14) zbX11_init_9 rfl) (zby_at (j := 15) zbX11_init_9 rfl) (zby_at (j := 16) zbX11_init_9 rfl)
theorem zbX11_init_10 : zby cX11_init 160 20 = [99, 42, 187, 0, 103, 89, 183, 0, 105, 181, 0, 106, 42, 187, 0, 103, 89, 183, 0, 105] := by decide +kernel
theorem dX11_init_161 : decode cX11_init 161 = .ok (.aload_n 0, 1) := dq_42 (zby_at (j := 1) zbX11_init_10 rfl)
theorem dX11_init_162 : decode cX11_init 162 = .ok (.new 103, 3) := dq_187 (zby_at (j := 2) zbX11_init_10 rfl) (zby_at (j := 3) zbX11_init_10 rfl) (zby_at (j := 4) zbX11_init_10 rfl)
theorem dX11_init_165 : decode cX11_init 165 = .ok (.dup, 1) := dq_89 (zby_at (j := 5) zbX11_init_10 rfl)
theorem dX11_init_166 : decode cX11_init 166 = .ok (.invokespecial 105, 3) := dq_183 (zby_at (j := 6) zbX11_init_10 rfl) (zby_at (j := 7) zbX11_init_10 rfl) (zby_at (j := 8) zbX11_init_10 rfl)
theorem dX11_init_169 : decode cX11_init 169 = .ok (.putfield 106, 3) := dq_181 (zby_at (j := 9) zbX11_init_10 rfl) (zby_at (j := 10) zbX11_init_10 rfl) (zby_at (j := 11) zbX11_init_10 rfl)
theorem dX11_init_172 : decode cX11_init 172 = .ok (.aload_n 0, 1) := dq_42 (zby_at (j := 12) zbX11_init_10 rfl)
theorem dX11_init_173 : decode cX11_init 173 = .ok (.new 103, 3) := dq_187 (zby_at (j := 13) zbX11_init_10 rfl) (zby_at (j := 14) zbX11_init_10 rfl) (zby_at (j := 15) zbX11_init_10 rfl)
theorem zbX11_init_11 : zby cX11_init 176 20 = [89, 183, 0, 105, 181, 0, 110, 3, 60, 27, 6, 162, 0, 22, 42, 180, 0, 33, 27, 187] := by decide +kernel
theorem dX11_init_176 : decode cX11_init 176 = .ok (.dup, 1) := dq_89 (zby_at (j := 0) zbX11_init_11 rfl)
theorem dX11_init_177 : decode cX11_init 177 = .ok (.invokespecial 105, 3) := dq_183 (zby_at (j := 1) zbX11_init_11 rfl) (zby_at (j := 2) zbX11_init_11 rfl) (zby_at (j := 3) zbX11_init_11 rfl)
theorem dX11_init_180 : decode cX11_init 180 = .ok (.putfield 110, 3) := dq_181 (zby_at (j := 4) zbX11_init_11 rfl) (zby_at (j := 5) zbX11_init_11 rfl) (zby_at (j := 6) zbX11_init_11 rfl)
theorem dX11_init_183 : decode cX11_init 183 = .ok (.iconst 0, 1) := dq_3 (zby_at (j := 7) zbX11_init_11 rfl)
theorem dX11_init_184 : decode cX11_init 184 = .ok (.istore_n 1, 1) := dq_60 (zby_at (j := 8) zbX11_init_11 rfl)
theorem dX11_init_185 : decode cX11_init 185 = .ok (.iload_n 1, 1) := dq_27 (zby_at (j := 9) zbX11_init_11 rfl)
theorem dX11_init_186 : decode cX11_init 186 = .ok (.iconst 3, 1) := dq_6 (zby_at (j := 10) zbX11_init_11 rfl)
theorem dX11_init_187 : decode cX11_init 187 = .ok (.if_icmp .ge 22, 3) := dq_162 (zby_at (j := 11) zbX11_init_11 rfl) (zby_at (j := 12) zbX11_init_11 rfl) (zby_at (j := 13) zbX11_init_11 rfl) rfl
theorem dX11_init_190 : decode cX11_init 190 = .ok (.aload_n 0, 1) := dq_42 (zby_at (j := 14) zbX11_init_11 rfl)
theorem dX11_init_191 : decode cX11_init 191 = .ok (.getfield 33, 3) := dq_180 (zby_at (j := 15) zbX11_init_11 rfl) (zby_at (j := 16) zbX11_init_11 rfl) (zby_at (j := 17) zbX11_init_11 rfl)
theorem zbX11_init_12 : zby cX11_init 192 20 = [0, 33, 27, 187, 0, 23, 89, 183, 0, 25, 83, 132, 1, 1, 167, 255, 235, 3, 60, 27] := by decide +kernel
theorem dX11_init_194 : decode cX11_init 194 = .ok (.iload_n 1, 1) := dq_27 (zby_at (j := 2) zbX11_init_12 rfl)
theorem dX11_init_195 : decode cX11_init 195 = .ok (.new 23, 3) := dq_187 (zby_at (j := 3) zbX11_init_12 rfl) (zby_at (j := 4) zbX11_init_12 rfl) (zby_at (j := 5) zbX11_init_12 rfl)
theorem dX11_init_198 : decode cX11_init 198 = .ok (.dup, 1) := dq_89 (zby_at (j := 6) zbX11_init_12 rfl)
theorem dX11_init_199 : decode cX11_init 199 = .ok (.invokespecial 25, 3) := dq_183 (zby_at (j := 7) zbX11_init_12 rfl) (zby_at (j := 8) zbX11_init_12 rfl) (zby_at (j := 9) zbX11_init_12 rfl)
theorem dX11_init_202 : decode cX11_init 202 = .ok (.aastore, 1) := dq_83 (zby_at (j := 10) zbX11_init_12 rfl)
theorem dX11_init_203 : decode cX11_init 203 = .ok (.iinc 1 1, 3) := dq_132 (zby_at (j := 11) zbX11_init_12 rfl) (zby_at (j := 12) zbX11_init_12 rfl) (zby_at (j := 13) zbX11_init_12 rfl) rfl
theorem dX11_init_206 : decode cX11_init 206 = .ok (.goto (-21), 3) := dq_167 (zby_at (j := 14) zbX11_init_12 rfl) (zby_at (j := 15) zbX11_init_12 rfl) (zby_at (j := 16) zbX11_init_12 rfl) rfl
theorem zbX11_init_13 : zby cX11_init 208 20 = [235, 3, 60, 27, 7, 162, 0, 22, 42, 180, 0, 43, 27, 187, 0, 41, 89, 183, 0, 113] := by decide +kernel
theorem dX11_init_209 : decode cX11_init 209 = .ok (.iconst 0, 1) := dq_3 (zby_at (j := 1) zbX11_init_13 rfl)
theorem dX11_init_210 : decode cX11_init 210 = .ok (.istore_n 1, 1) := dq_60 (zby_at (j := 2) zbX11_init_13 rfl)
theorem dX11_init_211 : decode cX11_init 211 = .ok (.iload_n 1, 1) := dq_27 (zby_at (j := 3) zbX11_init_13 rfl)
theorem dX11_init_212 : decode cX11_init 212 = .ok (.iconst 4, 1) := dq_7 (zby_at (j := 4) zbX11_init_13 rfl)
theorem dX11_init_213 : decode cX11_init 213 = .ok (.if_icmp .ge 22, 3) := dq_162 (zby_at (j := 5) zbX11_init_13 rfl) (zby_at (j := 6) zbX11_init_13 rfl) (zby_at (j := 7) zbX11_init_13 rfl) rfl
theorem dX11_init_216 : decode cX11_init 216 = .ok (.aload_n 0, 1) := dq_42 (zby_at (j := 8) zbX11_init_13 rfl)
theorem dX11_init_217 : decode cX11_init 217 = .ok (.getfield 43, 3) := dq_180 (zby_at (j := 9) zbX11_init_13 rfl) (zby_at (j := 10) zbX11_init_13 rfl) (zby_at (j := 11) zbX11_init_13 rfl)
theorem dX11_init_220 : decode cX11_init 220 = .ok (.iload_n 1, 1) := dq_27 (zby_at (j := 12) zbX11_init_13 rfl)
theorem dX11_init_221 : decode cX11_init 221 = .ok (.new 41, 3) := dq_187 (zby_at (j := 13) zbX11_init_13 rfl) (zby_at (j := 14) zbX11_init_13 rfl) (zby_at (j := 15) zbX11_init_13 rfl)
theorem zbX11_init_14 : zby cX11_init 224 20 = [89, 183, 0, 113, 83, 132, 1, 1, 167, 255, 235, 177] := by decide +kernel
theorem dX11_init_224 : decode cX11_init 224 = .ok (.dup, 1) := dq_89 (zby_at (j := 0) zbX11_init_14 rfl)
theorem dX11_init_225 : decode cX11_init 225 = .ok (.invokespecial 113, 3) := dq_183 (zby_at (j := 1) zbX11_init_14 rfl) (zby_at (j := 2) zbX11_init_14 rfl) (zby_at (j := 3) zbX11_init_14 rfl)
theorem dX11_init_228 : decode cX11_init 228 = .ok (.aastore, 1) := dq_83 (zby_at (j := 4) zbX11_init_14 rfl)
theorem dX11_init_229 : decode cX11_init 229 = .ok (.iinc 1 1, 3) := dq_132 (zby_at (j := 5) zbX11_init_14 rfl) (zby_at (j := 6) zbX11_init_14 rfl) (zby_at (j := 7) zbX11_init_14 rfl) rfl
theorem dX11_init_232 : decode cX11_init 232 = .ok (.goto (-21), 3) := dq_167 (zby_at (j := 8) zbX11_init_14 rfl) (zby_at (j := 9) zbX11_init_14 rfl) (zby_at (j := 10) zbX11_init_14 rfl) rfl
theorem dX11_init_235 : decode cX11_init 235 = .ok (.return_, 1) := dq_177 (zby_at (j := 11) zbX11_init_14 rfl)
theorem zbX11_feed_0 : zby cX11_feed 0 20 = [42, 180, 0, 13, 155, 0, 16, 42, 180, 0, 13, 16, 20, 96, 17, 2, 88, 164, 0, 5] := by decide +kernel
theorem dX11_feed_0 : decode cX11_feed 0 = .ok (.aload_n 0, 1) := dq_42 (zby_at (j := 0) zbX11_feed_0 rfl)
theorem dX11_feed_1 : decode cX11_feed 1 = .ok (.getfield 13, 3) := dq_180 (zby_at (j := 1) zbX11_feed_0 rfl) (zby_at (j := 2) zbX11_feed_0 rfl) (zby_at (j := 3) zbX11_feed_0 rfl)
theorem dX11_feed_4 : decode cX11_feed 4 = .ok (.ifCond .lt 16, 3) := dq_155 (zby_at (j := 4) zbX11_feed_0 rfl) (zby_at (j := 5) zbX11_feed_0 rfl) (zby_at (j := 6) zbX11_feed_0 rfl) rfl
theorem dX11_feed_7 : decode cX11_feed 7 = .ok (.aload_n 0, 1) := dq_42 (zby_at (j := 7) zbX11_feed_0 rfl)
theorem dX11_feed_8 : decode cX11_feed 8 = .ok (.getfield 13, 3) := dq_180 (zby_at (j := 8) zbX11_feed_0 rfl) (zby_at (j := 9) zbX11_feed_0 rfl) (zby_at (j := 10) zbX11_feed_0 rfl)
theorem dX11_feed_11 : decode cX11_feed 11 = .ok (.bipush 20, 2) := dq_16 (zby_at (j := 11) zbX11_feed_0 rfl) (zby_at (j := 12) zbX11_feed_0 rfl) rfl
theorem dX11_feed_13 : decode cX11_feed 13 = .ok (.iadd, 1) := dq_96 (zby_at (j := 13) zbX11_feed_0 rfl)
theorem dX11_feed_14 : decode cX11_feed 14 = .ok (.sipush 600, 3) := dq_17 (zby_at (j := 14) zbX11_feed_0 rfl) (zby_at (j := 15) zbX11_feed_0 rfl) (zby_at (j := 16) zbX11_feed_0 rfl) rfl
theorem zbX11_feed_1 : zby cX11_feed 16 20 = [88, 164, 0, 5, 2, 172, 42, 27, 42, 180, 0, 13, 182, 0, 114, 42, 28, 42, 180, 0] := by decide +kernel
theorem dX11_feed_17 : decode cX11_feed 17 = .ok (.if_icmp .le 5, 3) := dq_164 (zby_at (j := 1) zbX11_feed_1 rfl) (zby_at (j := 2) zbX11_feed_1 rfl) (zby_at (j := 3) zbX11_feed_1 rfl) rfl
theorem dX11_feed_20 : decode cX11_feed 20 = .ok (.iconst (-1), 1) := dq_2 (zby_at (j := 4) zbX11_feed_1 rfl)
theorem dX11_feed_21 : decode cX11_feed 21 = .ok (.ireturn, 1) := dq_172 (zby_at (j := 5) zbX11_feed_1 rfl)
theorem dX11_feed_22 : decode cX11_feed 22 = .ok (.aload_n 0, 1) := dq_42 (zby_at (j := 6) zbX11_feed_1 rfl)
theorem dX11_feed_23 : decode cX11_feed 23 = .ok (.iload_n 1, 1) := dq_27 (zby_at (j := 7) zbX11_feed_1 rfl)
theorem dX11_feed_24 : decode cX11_feed 24 = .ok (.aload_n 0, 1) := dq_42 (zby_at (j := 8) zbX11_feed_1 rfl)
theorem dX11_feed_25 : decode cX11_feed 25 = .ok (.getfield 13, 3) := dq_180 (zby_at (j := 9) zbX11_feed_1 rfl) (zby_at (j := 10) zbX11_feed_1 rfl) (zby_at (j := 11) zbX11_feed_1 rfl)
theorem dX11_feed_28 : decode cX11_feed 28 = .ok (.invokevirtual 114, 3) := dq_182 (zby_at (j := 12) zbX11_feed_1 rfl) (zby_at (j := 13) zbX11_feed_1 rfl) (zby_at (j := 14) zbX11_feed_1 rfl)
theorem dX11_feed_31 : decode cX11_feed 31 = .ok (.aload_n 0, 1) := dq_42 (zby_at (j := 15) zbX11_feed_1 rfl)
theorem zbX11_feed_2 : zby cX11_feed 32 20 = [28, 42, 180, 0, 13, 7, 96, 182, 0, 114, 42, 29, 42, 180, 0, 13, 16, 8, 96, 182] := by decide +kernel
theorem dX11_feed_32 : decode cX11_feed 32 = .ok (.iload_n 2, 1) := dq_28 (zby_at (j := 0) zbX11_feed_2 rfl)
theorem dX11_feed_33 : decode cX11_feed 33 = .ok (.aload_n 0, 1) := dq_42 (zby_at (j := 1) zbX11_feed_2 rfl)
theorem dX11_feed_34 : decode cX11_feed 34 = .ok (.getfield 13, 3) := dq_180 (zby_at (j := 2) zbX11_feed_2 rfl) (zby_at (j := 3) zbX11_feed_2 rfl) (zby_at (j := 4) zbX11_feed_2 rfl)
theorem dX11_feed_37 : decode cX11_feed 37 = .ok (.iconst 4, 1) := dq_7 (zby_at (j := 5) zbX11_feed_2 rfl)
theorem dX11_feed_38 : decode cX11_feed 38 = .ok (.iadd, 1) := dq_96 (zby_at (j := 6) zbX11_feed_2 rfl)
theorem dX11_feed_39 : decode cX11_feed 39 = .ok (.invokevirtual 114, 3) := dq_182 (zby_at (j := 7) zbX11_feed_2 rfl) (zby_at (j := 8) zbX11_feed_2 rfl) (zby_at (j := 9) zbX11_feed_2 rfl)
theorem dX11_feed_42 : decode cX11_feed 42 = .ok (.aload_n 0, 1) := dq_42 (zby_at (j := 10) zbX11_feed_2 rfl)
theorem dX11_feed_43 : decode cX11_feed 43 = .ok (.iload_n 3, 1) := dq_29 (zby_at (j := 11) zbX11_feed_2 rfl)
theorem dX11_feed_44 : decode cX11_feed 44 = .ok (.aload_n 0, 1) := dq_42 (zby_at (j := 12) zbX11_feed_2 rfl)
theorem dX11_feed_45 : decode cX11_feed 45 = .ok (.getfield 13, 3) := dq_180 (zby_at (j := 13) zbX11_feed_2 rfl) (zby_at (j := 14) zbX11_feed_2 rfl) (zby_at (j := 15) zbX11_feed_2 rfl)
theorem zbX11_feed_3 : zby cX11_feed 48 20 = [16, 8, 96, 182, 0, 114, 42, 21, 4, 42, 180, 0, 13, 16, 12, 96, 182, 0, 114, 42] := by decide +kernel
theorem dX11_feed_48 : decode cX11_feed 48 = .ok (.bipush 8, 2) := dq_16 (zby_at (j := 0) zbX11_feed_3 rfl) (zby_at (j := 1) zbX11_feed_3 rfl) rfl
theorem dX11_feed_50 : decode cX11_feed 50 = .ok (.iadd, 1) := dq_96 (zby_at (j := 2) zbX11_feed_3 rfl)
theorem dX11_feed_51 : decode cX11_feed 51 = .ok (.invokevirtual 114, 3) := dq_182 (zby_at (j := 3) zbX11_feed_3 rfl) (zby_at (j := 4) zbX11_feed_3 rfl) (zby_at (j := 5) zbX11_feed_3 rfl)
theorem dX11_feed_54 : decode cX11_feed 54 = .ok (.aload_n 0, 1) := dq_42 (zby_at (j := 6) zbX11_feed_3 rfl)
theorem dX11_feed_55 : decode cX11_feed 55 = .ok (.iload 4, 2) := dq_21 (zby_at (j := 7) zbX11_feed_3 rfl) (zby_at (j := 8) zbX11_feed_3 rfl)
theorem dX11_feed_57 : decode cX11_feed 57 = .ok (.aload_n 0, 1) := dq_42 (zby_at (j := 9) zbX11_feed_3 rfl)
theorem dX11_feed_58 : decode cX11_feed 58 = .ok (.getfield 13, 3) := dq_180 (zby_at (j := 10) zbX11_feed_3 rfl) (zby_at (j := 11) zbX11_feed_3 rfl) (zby_at (j := 12) zbX11_feed_3 rfl)
theorem dX11_feed_61 : decode cX11_feed 61 = .ok (.bipush 12, 2) := dq_16 (zby_at (j := 13) zbX11_feed_3 rfl) (zby_at (j := 14) zbX11_feed_3 rfl) rfl
theorem dX11_feed_63 : decode cX11_feed 63 = .ok (.iadd, 1) := dq_96 (zby_at (j := 15) zbX11_feed_3 rfl)
theorem zbX11_feed_4 : zby cX11_feed 64 20 = [182, 0, 114, 42, 21, 5, 42, 180, 0, 13, 16, 16, 96, 182, 0, 114, 42, 89, 180, 0] := by decide +kernel
theorem dX11_feed_64 : decode cX11_feed 64 = .ok (.invokevirtual 114, 3) := dq_182 (zby_at (j := 0) zbX11_feed_4 rfl) (zby_at (j := 1) zbX11_feed_4 rfl) (zby_at (j := 2) zbX11_feed_4 rfl)
theorem dX11_feed_67 : decode cX11_feed 67 = .ok (.aload_n 0, 1) := dq_42 (zby_at (j := 3) zbX11_feed_4 rfl)
theorem dX11_feed_68 : decode cX11_feed 68 = .ok (.iload 5, 2) := dq_21 (zby_at (j := 4) zbX11_feed_4 rfl) (zby_at (j := 5) zbX11_feed_4 rfl)
theorem dX11_feed_70 : decode cX11_feed 70 = .ok (.aload_n 0, 1) := dq_42 (zby_at (j := 6) zbX11_feed_4 rfl)
theorem dX11_feed_71 : decode cX11_feed 71 = .ok (.getfield 13, 3) := dq_180 (zby_at (j := 7) zbX11_feed_4 rfl) (zby_at (j := 8) zbX11_feed_4 rfl) (zby_at (j := 9) zbX11_feed_4 rfl)
theorem dX11_feed_74 : decode cX11_feed 74 = .ok (.bipush 16, 2) := dq_16 (zby_at (j := 10) zbX11_feed_4 rfl) (zby_at (j := 11) zbX11_feed_4 rfl) rfl
theorem dX11_feed_76 : decode cX11_feed 76 = .ok (.iadd, 1) := dq_96 (zby_at (j := 12) zbX11_feed_4 rfl)
theorem dX11_feed_77 : decode cX11_feed 77 = .ok (.invokevirtual 114, 3) := dq_182 (zby_at (j := 13) zbX11_feed_4 rfl) (zby_at (j := 14) zbX11_feed_4 rfl) (zby_at (j := 15) zbX11_feed_4 rfl)
theorem zbX11_feed_5 : zby cX11_feed 80 20 = [42, 89, 180, 0, 13, 16, 20, 96, 181, 0, 13, 42, 180, 0, 13, 172] := by decide +kernel
theorem dX11_feed_80 : decode cX11_feed 80 = .ok (.aload_n 0, 1) := dq_42 (zby_at (j := 0) zbX11_feed_5 rfl)
theorem dX11_feed_81 : decode cX11_feed 81 = .ok (.dup, 1) := dq_89 (zby_at (j := 1) zbX11_feed_5 rfl)
theorem dX11_feed_82 : decode cX11_feed 82 = .ok (.getfield 13, 3) := dq_180 (zby_at (j := 2) zbX11_feed_5 rfl) (zby_at (j := 3) zbX11_feed_5 rfl) (zby_at (j := 4) zbX11_feed_5 rfl)
theorem dX11_feed_85 : decode cX11_feed 85 = .ok (.bipush 20, 2) := dq_16 (zby_at (j := 5) zbX11_feed_5 rfl) (zby_at (j := 6) zbX11_feed_5 rfl) rfl
theorem dX11_feed_87 : decode cX11_feed 87 = .ok (.iadd, 1) := dq_96 (zby_at (j := 7) zbX11_feed_5 rfl)
theorem dX11_feed_88 : decode cX11_feed 88 = .ok (.putfield 13, 3) := dq_181 (zby_at (j := 8) zbX11_feed_5 rfl) (zby_at (j := 9) zbX11_feed_5 rfl) (zby_at (j := 10) zbX11_feed_5 rfl)
theorem dX11_feed_91 : decode cX11_feed 91 = .ok (.aload_n 0, 1) := dq_42 (zby_at (j := 11) zbX11_feed_5 rfl)
theorem dX11_feed_92 : decode cX11_feed 92 = .ok (.getfield 13, 3) := dq_180 (zby_at (j := 12) zbX11_feed_5 rfl) (zby_at (j := 13) zbX11_feed_5 rfl) (zby_at (j := 14) zbX11_feed_5 rfl)
theorem dX11_feed_95 : decode cX11_feed 95 = .ok (.ireturn, 1) := dq_172 (zby_at (j := 15) zbX11_feed_5 rfl)
theorem zbX11_end_0 : zby cX11_end 0 20 = [27, 155, 0, 11, 27, 42, 180, 0, 13, 164, 0, 5, 2, 172, 42, 27, 181, 0, 13, 27] := by decide +kernel
theorem dX11_end_0 : decode cX11_end 0 = .ok (.iload_n 1, 1) := dq_27 (zby_at (j := 0) zbX11_end_0 rfl)
theorem dX11_end_1 : decode cX11_end 1 = .ok (.ifCond .lt 11, 3) := dq_155 (zby_at (j := 1) zbX11_end_0 rfl) (zby_at (j := 2) zbX11_end_0 rfl) (zby_at (j := 3) zbX11_end_0 rfl) rfl
theorem dX11_end_4 : decode cX11_end 4 = .ok (.iload_n 1, 1) := dq_27 (zby_at (j := 4) zbX11_end_0 rfl)
theorem dX11_end_5 : decode cX11_end 5 = .ok (.aload_n 0, 1) := dq_42 (zby_at (j := 5) zbX11_end_0 rfl)
theorem dX11_end_6 : decode cX11_end 6 = .ok (.getfield 13, 3) := dq_180 (zby_at (j := 6) zbX11_end_0 rfl) (zby_at (j := 7) zbX11_end_0 rfl) (zby_at (j := 8) zbX11_end_0 rfl)
theorem dX11_end_9 : decode cX11_end 9 = .ok (.if_icmp .le 5, 3) := dq_164 (zby_at (j := 9) zbX11_end_0 rfl) (zby_at (j := 10) zbX11_end_0 rfl) (zby_at (j := 11) zbX11_end_0 rfl) rfl
theorem dX11_end_12 : decode cX11_end 12 = .ok (.iconst (-1), 1) := dq_2 (zby_at (j := 12) zbX11_end_0 rfl)
theorem dX11_end_13 : decode cX11_end 13 = .ok (.ireturn, 1) := dq_172 (zby_at (j := 13) zbX11_end_0 rfl)
theorem dX11_end_14 : decode cX11_end 14 = .ok (.aload_n 0, 1) := dq_42 (zby_at (j := 14) zbX11_end_0 rfl)
theorem dX11_end_15 : decode cX11_end 15 = .ok (.iload_n 1, 1) := dq_27 (zby_at (j := 15) zbX11_end_0 rfl)
theorem zbX11_end_1 : zby cX11_end 16 20 = [181, 0, 13, 27, 172] := by decide +kernel
theorem dX11_end_16 : decode cX11_end 16 = .ok (.putfield 13, 3) := dq_181 (zby_at (j := 0) zbX11_end_1 rfl) (zby_at (j := 1) zbX11_end_1 rfl) (zby_at (j := 2) zbX11_end_1 rfl)
theorem dX11_end_19 : decode cX11_end 19 = .ok (.iload_n 1, 1) := dq_27 (zby_at (j := 3) zbX11_end_1 rfl)
theorem dX11_end_20 : decode cX11_end 20 = .ok (.ireturn, 1) := dq_172 (zby_at (j := 4) zbX11_end_1 rfl)
theorem zbX11_world_0 : zby cX11_world 0 20 = [42, 180, 0, 30, 182, 0, 118, 42, 180, 0, 50, 42, 180, 0, 9, 42, 180, 0, 13, 42] := by decide +kernel
theorem dX11_world_0 : decode cX11_world 0 = .ok (.aload_n 0, 1) := dq_42 (zby_at (j := 0) zbX11_world_0 rfl)
theorem dX11_world_1 : decode cX11_world 1 = .ok (.getfield 30, 3) := dq_180 (zby_at (j := 1) zbX11_world_0 rfl) (zby_at (j := 2) zbX11_world_0 rfl) (zby_at (j := 3) zbX11_world_0 rfl)
theorem dX11_world_4 : decode cX11_world 4 = .ok (.invokevirtual 118, 3) := dq_182 (zby_at (j := 4) zbX11_world_0 rfl) (zby_at (j := 5) zbX11_world_0 rfl) (zby_at (j := 6) zbX11_world_0 rfl)
theorem dX11_world_7 : decode cX11_world 7 = .ok (.aload_n 0, 1) := dq_42 (zby_at (j := 7) zbX11_world_0 rfl)
theorem dX11_world_8 : decode cX11_world 8 = .ok (.getfield 50, 3) := dq_180 (zby_at (j := 8) zbX11_world_0 rfl) (zby_at (j := 9) zbX11_world_0 rfl) (zby_at (j := 10) zbX11_world_0 rfl)
theorem dX11_world_11 : decode cX11_world 11 = .ok (.aload_n 0, 1) := dq_42 (zby_at (j := 11) zbX11_world_0 rfl)
theorem dX11_world_12 : decode cX11_world 12 = .ok (.getfield 9, 3) := dq_180 (zby_at (j := 12) zbX11_world_0 rfl) (zby_at (j := 13) zbX11_world_0 rfl) (zby_at (j := 14) zbX11_world_0 rfl)
theorem dX11_world_15 : decode cX11_world 15 = .ok (.aload_n 0, 1) := dq_42 (zby_at (j := 15) zbX11_world_0 rfl)
theorem zbX11_world_1 : zby cX11_world 16 20 = [180, 0, 13, 42, 180, 0, 30, 182, 0, 121, 60, 42, 182, 0, 125, 27, 154, 0, 6, 16] := by decide +kernel
theorem dX11_world_16 : decode cX11_world 16 = .ok (.getfield 13, 3) := dq_180 (zby_at (j := 0) zbX11_world_1 rfl) (zby_at (j := 1) zbX11_world_1 rfl) (zby_at (j := 2) zbX11_world_1 rfl)
theorem dX11_world_19 : decode cX11_world 19 = .ok (.aload_n 0, 1) := dq_42 (zby_at (j := 3) zbX11_world_1 rfl)
theorem dX11_world_20 : decode cX11_world 20 = .ok (.getfield 30, 3) := dq_180 (zby_at (j := 4) zbX11_world_1 rfl) (zby_at (j := 5) zbX11_world_1 rfl) (zby_at (j := 6) zbX11_world_1 rfl)
theorem dX11_world_23 : decode cX11_world 23 = .ok (.invokevirtual 121, 3) := dq_182 (zby_at (j := 7) zbX11_world_1 rfl) (zby_at (j := 8) zbX11_world_1 rfl) (zby_at (j := 9) zbX11_world_1 rfl)
theorem dX11_world_26 : decode cX11_world 26 = .ok (.istore_n 1, 1) := dq_60 (zby_at (j := 10) zbX11_world_1 rfl)
theorem dX11_world_27 : decode cX11_world 27 = .ok (.aload_n 0, 1) := dq_42 (zby_at (j := 11) zbX11_world_1 rfl)
theorem dX11_world_28 : decode cX11_world 28 = .ok (.invokevirtual 125, 3) := dq_182 (zby_at (j := 12) zbX11_world_1 rfl) (zby_at (j := 13) zbX11_world_1 rfl) (zby_at (j := 14) zbX11_world_1 rfl)
theorem dX11_world_31 : decode cX11_world 31 = .ok (.iload_n 1, 1) := dq_27 (zby_at (j := 15) zbX11_world_1 rfl)
theorem zbX11_world_2 : zby cX11_world 32 20 = [154, 0, 6, 16, 252, 172, 42, 180, 0, 57, 42, 180, 0, 50, 42, 180, 0, 30, 42, 180] := by decide +kernel
theorem dX11_world_32 : decode cX11_world 32 = .ok (.ifCond .ne 6, 3) := dq_154 (zby_at (j := 0) zbX11_world_2 rfl) (zby_at (j := 1) zbX11_world_2 rfl) (zby_at (j := 2) zbX11_world_2 rfl) rfl
theorem dX11_world_35 : decode cX11_world 35 = .ok (.bipush (-4), 2) := dq_16 (zby_at (j := 3) zbX11_world_2 rfl) (zby_at (j := 4) zbX11_world_2 rfl) rfl
theorem dX11_world_37 : decode cX11_world 37 = .ok (.ireturn, 1) := dq_172 (zby_at (j := 5) zbX11_world_2 rfl)
theorem dX11_world_38 : decode cX11_world 38 = .ok (.aload_n 0, 1) := dq_42 (zby_at (j := 6) zbX11_world_2 rfl)
theorem dX11_world_39 : decode cX11_world 39 = .ok (.getfield 57, 3) := dq_180 (zby_at (j := 7) zbX11_world_2 rfl) (zby_at (j := 8) zbX11_world_2 rfl) (zby_at (j := 9) zbX11_world_2 rfl)
theorem dX11_world_42 : decode cX11_world 42 = .ok (.aload_n 0, 1) := dq_42 (zby_at (j := 10) zbX11_world_2 rfl)
theorem dX11_world_43 : decode cX11_world 43 = .ok (.getfield 50, 3) := dq_180 (zby_at (j := 11) zbX11_world_2 rfl) (zby_at (j := 12) zbX11_world_2 rfl) (zby_at (j := 13) zbX11_world_2 rfl)
theorem dX11_world_46 : decode cX11_world 46 = .ok (.aload_n 0, 1) := dq_42 (zby_at (j := 14) zbX11_world_2 rfl)
theorem dX11_world_47 : decode cX11_world 47 = .ok (.getfield 30, 3) := dq_180 (zby_at (j := 15) zbX11_world_2 rfl) (zby_at (j := 16) zbX11_world_2 rfl) (zby_at (j := 17) zbX11_world_2 rfl)
theorem zbX11_world_3 : zby cX11_world 48 20 = [0, 30, 42, 180, 0, 64, 182, 0, 128, 42, 180, 0, 26, 77, 42, 42, 180, 0, 30, 181] := by decide +kernel
theorem dX11_world_50 : decode cX11_world 50 = .ok (.aload_n 0, 1) := dq_42 (zby_at (j := 2) zbX11_world_3 rfl)
theorem dX11_world_51 : decode cX11_world 51 = .ok (.getfield 64, 3) := dq_180 (zby_at (j := 3) zbX11_world_3 rfl) (zby_at (j := 4) zbX11_world_3 rfl) (zby_at (j := 5) zbX11_world_3 rfl)
theorem dX11_world_54 : decode cX11_world 54 = .ok (.invokevirtual 128, 3) := dq_182 (zby_at (j := 6) zbX11_world_3 rfl) (zby_at (j := 7) zbX11_world_3 rfl) (zby_at (j := 8) zbX11_world_3 rfl)
theorem dX11_world_57 : decode cX11_world 57 = .ok (.aload_n 0, 1) := dq_42 (zby_at (j := 9) zbX11_world_3 rfl)
theorem dX11_world_58 : decode cX11_world 58 = .ok (.getfield 26, 3) := dq_180 (zby_at (j := 10) zbX11_world_3 rfl) (zby_at (j := 11) zbX11_world_3 rfl) (zby_at (j := 12) zbX11_world_3 rfl)
theorem dX11_world_61 : decode cX11_world 61 = .ok (.astore_n 2, 1) := dq_77 (zby_at (j := 13) zbX11_world_3 rfl)
theorem dX11_world_62 : decode cX11_world 62 = .ok (.aload_n 0, 1) := dq_42 (zby_at (j := 14) zbX11_world_3 rfl)
theorem dX11_world_63 : decode cX11_world 63 = .ok (.aload_n 0, 1) := dq_42 (zby_at (j := 15) zbX11_world_3 rfl)
theorem zbX11_world_4 : zby cX11_world 64 20 = [180, 0, 30, 181, 0, 26, 42, 44, 181, 0, 30, 42, 180, 0, 26, 180, 0, 132, 172] := by decide +kernel
theorem dX11_world_64 : decode cX11_world 64 = .ok (.getfield 30, 3) := dq_180 (zby_at (j := 0) zbX11_world_4 rfl) (zby_at (j := 1) zbX11_world_4 rfl) (zby_at (j := 2) zbX11_world_4 rfl)
theorem dX11_world_67 : decode cX11_world 67 = .ok (.putfield 26, 3) := dq_181 (zby_at (j := 3) zbX11_world_4 rfl) (zby_at (j := 4) zbX11_world_4 rfl) (zby_at (j := 5) zbX11_world_4 rfl)
theorem dX11_world_70 : decode cX11_world 70 = .ok (.aload_n 0, 1) := dq_42 (zby_at (j := 6) zbX11_world_4 rfl)
theorem dX11_world_71 : decode cX11_world 71 = .ok (.aload_n 2, 1) := dq_44 (zby_at (j := 7) zbX11_world_4 rfl)
theorem dX11_world_72 : decode cX11_world 72 = .ok (.putfield 30, 3) := dq_181 (zby_at (j := 8) zbX11_world_4 rfl) (zby_at (j := 9) zbX11_world_4 rfl) (zby_at (j := 10) zbX11_world_4 rfl)
theorem dX11_world_75 : decode cX11_world 75 = .ok (.aload_n 0, 1) := dq_42 (zby_at (j := 11) zbX11_world_4 rfl)
theorem dX11_world_76 : decode cX11_world 76 = .ok (.getfield 26, 3) := dq_180 (zby_at (j := 12) zbX11_world_4 rfl) (zby_at (j := 13) zbX11_world_4 rfl) (zby_at (j := 14) zbX11_world_4 rfl)
theorem dX11_world_79 : decode cX11_world 79 = .ok (.getfield 132, 3) := dq_180 (zby_at (j := 15) zbX11_world_4 rfl) (zby_at (j := 16) zbX11_world_4 rfl) (zby_at (j := 17) zbX11_world_4 rfl)
theorem zbX11_world_5 : zby cX11_world 80 20 = [0, 132, 172] := by decide +kernel
theorem dX11_world_82 : decode cX11_world 82 = .ok (.ireturn, 1) := dq_172 (zby_at (j := 2) zbX11_world_5 rfl)
theorem zbX11_put_0 : zby cX11_put 0 20 = [42, 27, 182, 0, 135, 154, 0, 11, 42, 3, 181, 0, 13, 16, 254, 172, 42, 180, 0, 50] := by decide +kernel
theorem dX11_put_0 : decode cX11_put 0 = .ok (.aload_n 0, 1) := dq_42 (zby_at (j := 0) zbX11_put_0 rfl)
theorem dX11_put_1 : decode cX11_put 1 = .ok (.iload_n 1, 1) := dq_27 (zby_at (j := 1) zbX11_put_0 rfl)
theorem dX11_put_2 : decode cX11_put 2 = .ok (.invokevirtual 135, 3) := dq_182 (zby_at (j := 2) zbX11_put_0 rfl) (zby_at (j := 3) zbX11_put_0 rfl) (zby_at (j := 4) zbX11_put_0 rfl)
theorem dX11_put_5 : decode cX11_put 5 = .ok (.ifCond .ne 11, 3) := dq_154 (zby_at (j := 5) zbX11_put_0 rfl) (zby_at (j := 6) zbX11_put_0 rfl) (zby_at (j := 7) zbX11_put_0 rfl) rfl
theorem dX11_put_8 : decode cX11_put 8 = .ok (.aload_n 0, 1) := dq_42 (zby_at (j := 8) zbX11_put_0 rfl)
theorem dX11_put_9 : decode cX11_put 9 = .ok (.iconst 0, 1) := dq_3 (zby_at (j := 9) zbX11_put_0 rfl)
theorem dX11_put_10 : decode cX11_put 10 = .ok (.putfield 13, 3) := dq_181 (zby_at (j := 10) zbX11_put_0 rfl) (zby_at (j := 11) zbX11_put_0 rfl) (zby_at (j := 12) zbX11_put_0 rfl)
theorem dX11_put_13 : decode cX11_put 13 = .ok (.bipush (-2), 2) := dq_16 (zby_at (j := 13) zbX11_put_0 rfl) (zby_at (j := 14) zbX11_put_0 rfl) rfl
theorem dX11_put_15 : decode cX11_put 15 = .ok (.ireturn, 1) := dq_172 (zby_at (j := 15) zbX11_put_0 rfl)
theorem zbX11_put_1 : zby cX11_put 16 20 = [42, 180, 0, 50, 42, 180, 0, 9, 42, 180, 0, 13, 42, 180, 0, 26, 180, 0, 139, 27] := by decide +kernel
theorem dX11_put_16 : decode cX11_put 16 = .ok (.aload_n 0, 1) := dq_42 (zby_at (j := 0) zbX11_put_1 rfl)
theorem dX11_put_17 : decode cX11_put 17 = .ok (.getfield 50, 3) := dq_180 (zby_at (j := 1) zbX11_put_1 rfl) (zby_at (j := 2) zbX11_put_1 rfl) (zby_at (j := 3) zbX11_put_1 rfl)
theorem dX11_put_20 : decode cX11_put 20 = .ok (.aload_n 0, 1) := dq_42 (zby_at (j := 4) zbX11_put_1 rfl)
theorem dX11_put_21 : decode cX11_put 21 = .ok (.getfield 9, 3) := dq_180 (zby_at (j := 5) zbX11_put_1 rfl) (zby_at (j := 6) zbX11_put_1 rfl) (zby_at (j := 7) zbX11_put_1 rfl)
theorem dX11_put_24 : decode cX11_put 24 = .ok (.aload_n 0, 1) := dq_42 (zby_at (j := 8) zbX11_put_1 rfl)
theorem dX11_put_25 : decode cX11_put 25 = .ok (.getfield 13, 3) := dq_180 (zby_at (j := 9) zbX11_put_1 rfl) (zby_at (j := 10) zbX11_put_1 rfl) (zby_at (j := 11) zbX11_put_1 rfl)
theorem dX11_put_28 : decode cX11_put 28 = .ok (.aload_n 0, 1) := dq_42 (zby_at (j := 12) zbX11_put_1 rfl)
theorem dX11_put_29 : decode cX11_put 29 = .ok (.getfield 26, 3) := dq_180 (zby_at (j := 13) zbX11_put_1 rfl) (zby_at (j := 14) zbX11_put_1 rfl) (zby_at (j := 15) zbX11_put_1 rfl)
theorem zbX11_put_2 : zby cX11_put 32 20 = [180, 0, 139, 27, 182, 0, 142, 61, 42, 182, 0, 125, 28, 154, 0, 6, 16, 252, 172, 42] := by decide +kernel
theorem dX11_put_32 : decode cX11_put 32 = .ok (.getfield 139, 3) := dq_180 (zby_at (j := 0) zbX11_put_2 rfl) (zby_at (j := 1) zbX11_put_2 rfl) (zby_at (j := 2) zbX11_put_2 rfl)
theorem dX11_put_35 : decode cX11_put 35 = .ok (.iload_n 1, 1) := dq_27 (zby_at (j := 3) zbX11_put_2 rfl)
theorem dX11_put_36 : decode cX11_put 36 = .ok (.invokevirtual 142, 3) := dq_182 (zby_at (j := 4) zbX11_put_2 rfl) (zby_at (j := 5) zbX11_put_2 rfl) (zby_at (j := 6) zbX11_put_2 rfl)
theorem dX11_put_39 : decode cX11_put 39 = .ok (.istore_n 2, 1) := dq_61 (zby_at (j := 7) zbX11_put_2 rfl)
theorem dX11_put_40 : decode cX11_put 40 = .ok (.aload_n 0, 1) := dq_42 (zby_at (j := 8) zbX11_put_2 rfl)
theorem dX11_put_41 : decode cX11_put 41 = .ok (.invokevirtual 125, 3) := dq_182 (zby_at (j := 9) zbX11_put_2 rfl) (zby_at (j := 10) zbX11_put_2 rfl) (zby_at (j := 11) zbX11_put_2 rfl)
theorem dX11_put_44 : decode cX11_put 44 = .ok (.iload_n 2, 1) := dq_28 (zby_at (j := 12) zbX11_put_2 rfl)
theorem dX11_put_45 : decode cX11_put 45 = .ok (.ifCond .ne 6, 3) := dq_154 (zby_at (j := 13) zbX11_put_2 rfl) (zby_at (j := 14) zbX11_put_2 rfl) (zby_at (j := 15) zbX11_put_2 rfl) rfl
theorem zbX11_put_3 : zby cX11_put 48 20 = [16, 252, 172, 42, 180, 0, 57, 42, 180, 0, 50, 42, 180, 0, 26, 42, 180, 0, 64, 182] := by decide +kernel
theorem dX11_put_48 : decode cX11_put 48 = .ok (.bipush (-4), 2) := dq_16 (zby_at (j := 0) zbX11_put_3 rfl) (zby_at (j := 1) zbX11_put_3 rfl) rfl
theorem dX11_put_50 : decode cX11_put 50 = .ok (.ireturn, 1) := dq_172 (zby_at (j := 2) zbX11_put_3 rfl)
theorem dX11_put_51 : decode cX11_put 51 = .ok (.aload_n 0, 1) := dq_42 (zby_at (j := 3) zbX11_put_3 rfl)
theorem dX11_put_52 : decode cX11_put 52 = .ok (.getfield 57, 3) := dq_180 (zby_at (j := 4) zbX11_put_3 rfl) (zby_at (j := 5) zbX11_put_3 rfl) (zby_at (j := 6) zbX11_put_3 rfl)
theorem dX11_put_55 : decode cX11_put 55 = .ok (.aload_n 0, 1) := dq_42 (zby_at (j := 7) zbX11_put_3 rfl)
theorem dX11_put_56 : decode cX11_put 56 = .ok (.getfield 50, 3) := dq_180 (zby_at (j := 8) zbX11_put_3 rfl) (zby_at (j := 9) zbX11_put_3 rfl) (zby_at (j := 10) zbX11_put_3 rfl)
theorem dX11_put_59 : decode cX11_put 59 = .ok (.aload_n 0, 1) := dq_42 (zby_at (j := 11) zbX11_put_3 rfl)
theorem dX11_put_60 : decode cX11_put 60 = .ok (.getfield 26, 3) := dq_180 (zby_at (j := 12) zbX11_put_3 rfl) (zby_at (j := 13) zbX11_put_3 rfl) (zby_at (j := 14) zbX11_put_3 rfl)
theorem dX11_put_63 : decode cX11_put 63 = .ok (.aload_n 0, 1) := dq_42 (zby_at (j := 15) zbX11_put_3 rfl)
theorem zbX11_put_4 : zby cX11_put 64 20 = [180, 0, 64, 182, 0, 128, 42, 180, 0, 26, 180, 0, 146, 27, 50, 182, 0, 150, 172] := by decide +kernel
theorem dX11_put_64 : decode cX11_put 64 = .ok (.getfield 64, 3) := dq_180 (zby_at (j := 0) zbX11_put_4 rfl) (zby_at (j := 1) zbX11_put_4 rfl) (zby_at (j := 2) zbX11_put_4 rfl)
theorem dX11_put_67 : decode cX11_put 67 = .ok (.invokevirtual 128, 3) := dq_182 (zby_at (j := 3) zbX11_put_4 rfl) (zby_at (j := 4) zbX11_put_4 rfl) (zby_at (j := 5) zbX11_put_4 rfl)
theorem dX11_put_70 : decode cX11_put 70 = .ok (.aload_n 0, 1) := dq_42 (zby_at (j := 6) zbX11_put_4 rfl)
theorem dX11_put_71 : decode cX11_put 71 = .ok (.getfield 26, 3) := dq_180 (zby_at (j := 7) zbX11_put_4 rfl) (zby_at (j := 8) zbX11_put_4 rfl) (zby_at (j := 9) zbX11_put_4 rfl)
theorem dX11_put_74 : decode cX11_put 74 = .ok (.getfield 146, 3) := dq_180 (zby_at (j := 10) zbX11_put_4 rfl) (zby_at (j := 11) zbX11_put_4 rfl) (zby_at (j := 12) zbX11_put_4 rfl)
theorem dX11_put_77 : decode cX11_put 77 = .ok (.iload_n 1, 1) := dq_27 (zby_at (j := 13) zbX11_put_4 rfl)
theorem dX11_put_78 : decode cX11_put 78 = .ok (.aaload, 1) := dq_50 (zby_at (j := 14) zbX11_put_4 rfl)
theorem dX11_put_79 : decode cX11_put 79 = .ok (.invokevirtual 150, 3) := dq_182 (zby_at (j := 15) zbX11_put_4 rfl) (zby_at (j := 16) zbX11_put_4 rfl) (zby_at (j := 17) zbX11_put_4 rfl)
theorem zbX11_put_5 : zby cX11_put 80 20 = [0, 150, 172] := by decide +kernel
theorem dX11_put_82 : decode cX11_put 82 = .ok (.ireturn, 1) := dq_172 (zby_at (j := 2) zbX11_put_5 rfl)
theorem zbX11_fault_0 : zby cX11_fault 0 20 = [27, 154, 0, 8, 42, 180, 0, 17, 172, 27, 4, 160, 0, 10, 42, 180, 0, 20, 167, 0] := by decide +kernel
theorem dX11_fault_0 : decode cX11_fault 0 = .ok (.iload_n 1, 1) := dq_27 (zby_at (j := 0) zbX11_fault_0 rfl)
theorem dX11_fault_1 : decode cX11_fault 1 = .ok (.ifCond .ne 8, 3) := dq_154 (zby_at (j := 1) zbX11_fault_0 rfl) (zby_at (j := 2) zbX11_fault_0 rfl) (zby_at (j := 3) zbX11_fault_0 rfl) rfl
theorem dX11_fault_4 : decode cX11_fault 4 = .ok (.aload_n 0, 1) := dq_42 (zby_at (j := 4) zbX11_fault_0 rfl)
theorem dX11_fault_5 : decode cX11_fault 5 = .ok (.getfield 17, 3) := dq_180 (zby_at (j := 5) zbX11_fault_0 rfl) (zby_at (j := 6) zbX11_fault_0 rfl) (zby_at (j := 7) zbX11_fault_0 rfl)
theorem dX11_fault_8 : decode cX11_fault 8 = .ok (.ireturn, 1) := dq_172 (zby_at (j := 8) zbX11_fault_0 rfl)
theorem dX11_fault_9 : decode cX11_fault 9 = .ok (.iload_n 1, 1) := dq_27 (zby_at (j := 9) zbX11_fault_0 rfl)
theorem dX11_fault_10 : decode cX11_fault 10 = .ok (.iconst 1, 1) := dq_4 (zby_at (j := 10) zbX11_fault_0 rfl)
theorem dX11_fault_11 : decode cX11_fault 11 = .ok (.if_icmp .ne 10, 3) := dq_160 (zby_at (j := 11) zbX11_fault_0 rfl) (zby_at (j := 12) zbX11_fault_0 rfl) (zby_at (j := 13) zbX11_fault_0 rfl) rfl
theorem dX11_fault_14 : decode cX11_fault 14 = .ok (.aload_n 0, 1) := dq_42 (zby_at (j := 14) zbX11_fault_0 rfl)
theorem dX11_fault_15 : decode cX11_fault 15 = .ok (.getfield 20, 3) := dq_180 (zby_at (j := 15) zbX11_fault_0 rfl) (zby_at (j := 16) zbX11_fault_0 rfl) (zby_at (j := 17) zbX11_fault_0 rfl)
theorem zbX11_fault_1 : zby cX11_fault 16 20 = [0, 20, 167, 0, 4, 2, 172] := by decide +kernel
theorem dX11_fault_18 : decode cX11_fault 18 = .ok (.goto 4, 3) := dq_167 (zby_at (j := 2) zbX11_fault_1 rfl) (zby_at (j := 3) zbX11_fault_1 rfl) (zby_at (j := 4) zbX11_fault_1 rfl) rfl
theorem dX11_fault_21 : decode cX11_fault 21 = .ok (.iconst (-1), 1) := dq_2 (zby_at (j := 5) zbX11_fault_1 rfl)
theorem dX11_fault_22 : decode cX11_fault 22 = .ok (.ireturn, 1) := dq_172 (zby_at (j := 6) zbX11_fault_1 rfl)
theorem zbX11_size_0 : zby cX11_size 0 20 = [42, 27, 182, 0, 135, 153, 0, 18, 42, 180, 0, 26, 180, 0, 146, 27, 50, 182, 0, 150] := by decide +kernel
theorem dX11_size_0 : decode cX11_size 0 = .ok (.aload_n 0, 1) := dq_42 (zby_at (j := 0) zbX11_size_0 rfl)
theorem dX11_size_1 : decode cX11_size 1 = .ok (.iload_n 1, 1) := dq_27 (zby_at (j := 1) zbX11_size_0 rfl)
theorem dX11_size_2 : decode cX11_size 2 = .ok (.invokevirtual 135, 3) := dq_182 (zby_at (j := 2) zbX11_size_0 rfl) (zby_at (j := 3) zbX11_size_0 rfl) (zby_at (j := 4) zbX11_size_0 rfl)
theorem dX11_size_5 : decode cX11_size 5 = .ok (.ifCond .eq 18, 3) := dq_153 (zby_at (j := 5) zbX11_size_0 rfl) (zby_at (j := 6) zbX11_size_0 rfl) (zby_at (j := 7) zbX11_size_0 rfl) rfl
theorem dX11_size_8 : decode cX11_size 8 = .ok (.aload_n 0, 1) := dq_42 (zby_at (j := 8) zbX11_size_0 rfl)
theorem dX11_size_9 : decode cX11_size 9 = .ok (.getfield 26, 3) := dq_180 (zby_at (j := 9) zbX11_size_0 rfl) (zby_at (j := 10) zbX11_size_0 rfl) (zby_at (j := 11) zbX11_size_0 rfl)
theorem dX11_size_12 : decode cX11_size 12 = .ok (.getfield 146, 3) := dq_180 (zby_at (j := 12) zbX11_size_0 rfl) (zby_at (j := 13) zbX11_size_0 rfl) (zby_at (j := 14) zbX11_size_0 rfl)
theorem dX11_size_15 : decode cX11_size 15 = .ok (.iload_n 1, 1) := dq_27 (zby_at (j := 15) zbX11_size_0 rfl)
theorem zbX11_size_1 : zby cX11_size 16 20 = [50, 182, 0, 150, 167, 0, 5, 16, 254, 172] := by decide +kernel
theorem dX11_size_16 : decode cX11_size 16 = .ok (.aaload, 1) := dq_50 (zby_at (j := 0) zbX11_size_1 rfl)
theorem dX11_size_17 : decode cX11_size 17 = .ok (.invokevirtual 150, 3) := dq_182 (zby_at (j := 1) zbX11_size_1 rfl) (zby_at (j := 2) zbX11_size_1 rfl) (zby_at (j := 3) zbX11_size_1 rfl)
theorem dX11_size_20 : decode cX11_size 20 = .ok (.goto 5, 3) := dq_167 (zby_at (j := 4) zbX11_size_1 rfl) (zby_at (j := 5) zbX11_size_1 rfl) (zby_at (j := 6) zbX11_size_1 rfl) rfl
theorem dX11_size_23 : decode cX11_size 23 = .ok (.bipush (-2), 2) := dq_16 (zby_at (j := 7) zbX11_size_1 rfl) (zby_at (j := 8) zbX11_size_1 rfl) rfl
theorem dX11_size_25 : decode cX11_size 25 = .ok (.ireturn, 1) := dq_172 (zby_at (j := 9) zbX11_size_1 rfl)
theorem zbX11_has_0 : zby cX11_has 0 20 = [42, 27, 182, 0, 135, 153, 0, 11, 42, 28, 182, 0, 154, 154, 0, 6, 16, 254, 172, 42] := by decide +kernel
theorem dX11_has_0 : decode cX11_has 0 = .ok (.aload_n 0, 1) := dq_42 (zby_at (j := 0) zbX11_has_0 rfl)
theorem dX11_has_1 : decode cX11_has 1 = .ok (.iload_n 1, 1) := dq_27 (zby_at (j := 1) zbX11_has_0 rfl)
theorem dX11_has_2 : decode cX11_has 2 = .ok (.invokevirtual 135, 3) := dq_182 (zby_at (j := 2) zbX11_has_0 rfl) (zby_at (j := 3) zbX11_has_0 rfl) (zby_at (j := 4) zbX11_has_0 rfl)
theorem dX11_has_5 : decode cX11_has 5 = .ok (.ifCond .eq 11, 3) := dq_153 (zby_at (j := 5) zbX11_has_0 rfl) (zby_at (j := 6) zbX11_has_0 rfl) (zby_at (j := 7) zbX11_has_0 rfl) rfl
theorem dX11_has_8 : decode cX11_has 8 = .ok (.aload_n 0, 1) := dq_42 (zby_at (j := 8) zbX11_has_0 rfl)
theorem dX11_has_9 : decode cX11_has 9 = .ok (.iload_n 2, 1) := dq_28 (zby_at (j := 9) zbX11_has_0 rfl)
theorem dX11_has_10 : decode cX11_has 10 = .ok (.invokevirtual 154, 3) := dq_182 (zby_at (j := 10) zbX11_has_0 rfl) (zby_at (j := 11) zbX11_has_0 rfl) (zby_at (j := 12) zbX11_has_0 rfl)
theorem dX11_has_13 : decode cX11_has 13 = .ok (.ifCond .ne 6, 3) := dq_154 (zby_at (j := 13) zbX11_has_0 rfl) (zby_at (j := 14) zbX11_has_0 rfl) (zby_at (j := 15) zbX11_has_0 rfl) rfl
theorem zbX11_has_1 : zby cX11_has 16 20 = [16, 254, 172, 42, 180, 0, 26, 180, 0, 146, 27, 50, 28, 182, 0, 157, 153, 0, 7, 4] := by decide +kernel
theorem dX11_has_16 : decode cX11_has 16 = .ok (.bipush (-2), 2) := dq_16 (zby_at (j := 0) zbX11_has_1 rfl) (zby_at (j := 1) zbX11_has_1 rfl) rfl
theorem dX11_has_18 : decode cX11_has 18 = .ok (.ireturn, 1) := dq_172 (zby_at (j := 2) zbX11_has_1 rfl)
theorem dX11_has_19 : decode cX11_has 19 = .ok (.aload_n 0, 1) := dq_42 (zby_at (j := 3) zbX11_has_1 rfl)
theorem dX11_has_20 : decode cX11_has 20 = .ok (.getfield 26, 3) := dq_180 (zby_at (j := 4) zbX11_has_1 rfl) (zby_at (j := 5) zbX11_has_1 rfl) (zby_at (j := 6) zbX11_has_1 rfl)
theorem dX11_has_23 : decode cX11_has 23 = .ok (.getfield 146, 3) := dq_180 (zby_at (j := 7) zbX11_has_1 rfl) (zby_at (j := 8) zbX11_has_1 rfl) (zby_at (j := 9) zbX11_has_1 rfl)
theorem dX11_has_26 : decode cX11_has 26 = .ok (.iload_n 1, 1) := dq_27 (zby_at (j := 10) zbX11_has_1 rfl)
theorem dX11_has_27 : decode cX11_has 27 = .ok (.aaload, 1) := dq_50 (zby_at (j := 11) zbX11_has_1 rfl)
theorem dX11_has_28 : decode cX11_has 28 = .ok (.iload_n 2, 1) := dq_28 (zby_at (j := 12) zbX11_has_1 rfl)
theorem dX11_has_29 : decode cX11_has 29 = .ok (.invokevirtual 157, 3) := dq_182 (zby_at (j := 13) zbX11_has_1 rfl) (zby_at (j := 14) zbX11_has_1 rfl) (zby_at (j := 15) zbX11_has_1 rfl)
theorem zbX11_has_2 : zby cX11_has 32 20 = [153, 0, 7, 4, 167, 0, 4, 3, 172] := by decide +kernel
theorem dX11_has_32 : decode cX11_has 32 = .ok (.ifCond .eq 7, 3) := dq_153 (zby_at (j := 0) zbX11_has_2 rfl) (zby_at (j := 1) zbX11_has_2 rfl) (zby_at (j := 2) zbX11_has_2 rfl) rfl
theorem dX11_has_35 : decode cX11_has 35 = .ok (.iconst 1, 1) := dq_4 (zby_at (j := 3) zbX11_has_2 rfl)
theorem dX11_has_36 : decode cX11_has 36 = .ok (.goto 4, 3) := dq_167 (zby_at (j := 4) zbX11_has_2 rfl) (zby_at (j := 5) zbX11_has_2 rfl) (zby_at (j := 6) zbX11_has_2 rfl) rfl
theorem dX11_has_39 : decode cX11_has 39 = .ok (.iconst 0, 1) := dq_3 (zby_at (j := 7) zbX11_has_2 rfl)
theorem dX11_has_40 : decode cX11_has 40 = .ok (.ireturn, 1) := dq_172 (zby_at (j := 8) zbX11_has_2 rfl)
theorem zbX11_makes_0 : zby cX11_makes 0 20 = [42, 27, 182, 0, 135, 153, 0, 30, 42, 29, 182, 0, 135, 153, 0, 22, 42, 21, 4, 182] := by decide +kernel
theorem dX11_makes_0 : decode cX11_makes 0 = .ok (.aload_n 0, 1) := dq_42 (zby_at (j := 0) zbX11_makes_0 rfl)
theorem dX11_makes_1 : decode cX11_makes 1 = .ok (.iload_n 1, 1) := dq_27 (zby_at (j := 1) zbX11_makes_0 rfl)
theorem dX11_makes_2 : decode cX11_makes 2 = .ok (.invokevirtual 135, 3) := dq_182 (zby_at (j := 2) zbX11_makes_0 rfl) (zby_at (j := 3) zbX11_makes_0 rfl) (zby_at (j := 4) zbX11_makes_0 rfl)
theorem dX11_makes_5 : decode cX11_makes 5 = .ok (.ifCond .eq 30, 3) := dq_153 (zby_at (j := 5) zbX11_makes_0 rfl) (zby_at (j := 6) zbX11_makes_0 rfl) (zby_at (j := 7) zbX11_makes_0 rfl) rfl
theorem dX11_makes_8 : decode cX11_makes 8 = .ok (.aload_n 0, 1) := dq_42 (zby_at (j := 8) zbX11_makes_0 rfl)
theorem dX11_makes_9 : decode cX11_makes 9 = .ok (.iload_n 3, 1) := dq_29 (zby_at (j := 9) zbX11_makes_0 rfl)
theorem dX11_makes_10 : decode cX11_makes 10 = .ok (.invokevirtual 135, 3) := dq_182 (zby_at (j := 10) zbX11_makes_0 rfl) (zby_at (j := 11) zbX11_makes_0 rfl) (zby_at (j := 12) zbX11_makes_0 rfl)
theorem dX11_makes_13 : decode cX11_makes 13 = .ok (.ifCond .eq 22, 3) := dq_153 (zby_at (j := 13) zbX11_makes_0 rfl) (zby_at (j := 14) zbX11_makes_0 rfl) (zby_at (j := 15) zbX11_makes_0 rfl) rfl
theorem zbX11_makes_1 : zby cX11_makes 16 20 = [42, 21, 4, 182, 0, 135, 153, 0, 13, 28, 155, 0, 9, 28, 16, 6, 164, 0, 6, 16] := by decide +kernel
theorem dX11_makes_16 : decode cX11_makes 16 = .ok (.aload_n 0, 1) := dq_42 (zby_at (j := 0) zbX11_makes_1 rfl)
theorem dX11_makes_17 : decode cX11_makes 17 = .ok (.iload 4, 2) := dq_21 (zby_at (j := 1) zbX11_makes_1 rfl) (zby_at (j := 2) zbX11_makes_1 rfl)
theorem dX11_makes_19 : decode cX11_makes 19 = .ok (.invokevirtual 135, 3) := dq_182 (zby_at (j := 3) zbX11_makes_1 rfl) (zby_at (j := 4) zbX11_makes_1 rfl) (zby_at (j := 5) zbX11_makes_1 rfl)
theorem dX11_makes_22 : decode cX11_makes 22 = .ok (.ifCond .eq 13, 3) := dq_153 (zby_at (j := 6) zbX11_makes_1 rfl) (zby_at (j := 7) zbX11_makes_1 rfl) (zby_at (j := 8) zbX11_makes_1 rfl) rfl
theorem dX11_makes_25 : decode cX11_makes 25 = .ok (.iload_n 2, 1) := dq_28 (zby_at (j := 9) zbX11_makes_1 rfl)
theorem dX11_makes_26 : decode cX11_makes 26 = .ok (.ifCond .lt 9, 3) := dq_155 (zby_at (j := 10) zbX11_makes_1 rfl) (zby_at (j := 11) zbX11_makes_1 rfl) (zby_at (j := 12) zbX11_makes_1 rfl) rfl
theorem dX11_makes_29 : decode cX11_makes 29 = .ok (.iload_n 2, 1) := dq_28 (zby_at (j := 13) zbX11_makes_1 rfl)
theorem dX11_makes_30 : decode cX11_makes 30 = .ok (.bipush 6, 2) := dq_16 (zby_at (j := 14) zbX11_makes_1 rfl) (zby_at (j := 15) zbX11_makes_1 rfl) rfl
theorem zbX11_makes_2 : zby cX11_makes 32 20 = [164, 0, 6, 16, 254, 172, 42, 180, 0, 106, 42, 180, 0, 26, 180, 0, 146, 29, 50, 182] := by decide +kernel
theorem dX11_makes_32 : decode cX11_makes 32 = .ok (.if_icmp .le 6, 3) := dq_164 (zby_at (j := 0) zbX11_makes_2 rfl) (zby_at (j := 1) zbX11_makes_2 rfl) (zby_at (j := 2) zbX11_makes_2 rfl) rfl
theorem dX11_makes_35 : decode cX11_makes 35 = .ok (.bipush (-2), 2) := dq_16 (zby_at (j := 3) zbX11_makes_2 rfl) (zby_at (j := 4) zbX11_makes_2 rfl) rfl
theorem dX11_makes_37 : decode cX11_makes 37 = .ok (.ireturn, 1) := dq_172 (zby_at (j := 5) zbX11_makes_2 rfl)
theorem dX11_makes_38 : decode cX11_makes 38 = .ok (.aload_n 0, 1) := dq_42 (zby_at (j := 6) zbX11_makes_2 rfl)
theorem dX11_makes_39 : decode cX11_makes 39 = .ok (.getfield 106, 3) := dq_180 (zby_at (j := 7) zbX11_makes_2 rfl) (zby_at (j := 8) zbX11_makes_2 rfl) (zby_at (j := 9) zbX11_makes_2 rfl)
theorem dX11_makes_42 : decode cX11_makes 42 = .ok (.aload_n 0, 1) := dq_42 (zby_at (j := 10) zbX11_makes_2 rfl)
theorem dX11_makes_43 : decode cX11_makes 43 = .ok (.getfield 26, 3) := dq_180 (zby_at (j := 11) zbX11_makes_2 rfl) (zby_at (j := 12) zbX11_makes_2 rfl) (zby_at (j := 13) zbX11_makes_2 rfl)
theorem dX11_makes_46 : decode cX11_makes 46 = .ok (.getfield 146, 3) := dq_180 (zby_at (j := 14) zbX11_makes_2 rfl) (zby_at (j := 15) zbX11_makes_2 rfl) (zby_at (j := 16) zbX11_makes_2 rfl)
theorem zbX11_makes_3 : zby cX11_makes 48 20 = [146, 29, 50, 182, 0, 160, 42, 180, 0, 64, 28, 42, 180, 0, 106, 42, 180, 0, 26, 180] := by decide +kernel
theorem dX11_makes_49 : decode cX11_makes 49 = .ok (.iload_n 3, 1) := dq_29 (zby_at (j := 1) zbX11_makes_3 rfl)
theorem dX11_makes_50 : decode cX11_makes 50 = .ok (.aaload, 1) := dq_50 (zby_at (j := 2) zbX11_makes_3 rfl)
theorem dX11_makes_51 : decode cX11_makes 51 = .ok (.invokevirtual 160, 3) := dq_182 (zby_at (j := 3) zbX11_makes_3 rfl) (zby_at (j := 4) zbX11_makes_3 rfl) (zby_at (j := 5) zbX11_makes_3 rfl)
theorem dX11_makes_54 : decode cX11_makes 54 = .ok (.aload_n 0, 1) := dq_42 (zby_at (j := 6) zbX11_makes_3 rfl)
theorem dX11_makes_55 : decode cX11_makes 55 = .ok (.getfield 64, 3) := dq_180 (zby_at (j := 7) zbX11_makes_3 rfl) (zby_at (j := 8) zbX11_makes_3 rfl) (zby_at (j := 9) zbX11_makes_3 rfl)
theorem dX11_makes_58 : decode cX11_makes 58 = .ok (.iload_n 2, 1) := dq_28 (zby_at (j := 10) zbX11_makes_3 rfl)
theorem dX11_makes_59 : decode cX11_makes 59 = .ok (.aload_n 0, 1) := dq_42 (zby_at (j := 11) zbX11_makes_3 rfl)
theorem dX11_makes_60 : decode cX11_makes 60 = .ok (.getfield 106, 3) := dq_180 (zby_at (j := 12) zbX11_makes_3 rfl) (zby_at (j := 13) zbX11_makes_3 rfl) (zby_at (j := 14) zbX11_makes_3 rfl)
theorem dX11_makes_63 : decode cX11_makes 63 = .ok (.aload_n 0, 1) := dq_42 (zby_at (j := 15) zbX11_makes_3 rfl)
theorem zbX11_makes_4 : zby cX11_makes 64 20 = [180, 0, 26, 180, 0, 146, 21, 4, 50, 42, 180, 0, 26, 180, 0, 139, 182, 0, 164, 42] := by decide +kernel
theorem dX11_makes_64 : decode cX11_makes 64 = .ok (.getfield 26, 3) := dq_180 (zby_at (j := 0) zbX11_makes_4 rfl) (zby_at (j := 1) zbX11_makes_4 rfl) (zby_at (j := 2) zbX11_makes_4 rfl)
theorem dX11_makes_67 : decode cX11_makes 67 = .ok (.getfield 146, 3) := dq_180 (zby_at (j := 3) zbX11_makes_4 rfl) (zby_at (j := 4) zbX11_makes_4 rfl) (zby_at (j := 5) zbX11_makes_4 rfl)
theorem dX11_makes_70 : decode cX11_makes 70 = .ok (.iload 4, 2) := dq_21 (zby_at (j := 6) zbX11_makes_4 rfl) (zby_at (j := 7) zbX11_makes_4 rfl)
theorem dX11_makes_72 : decode cX11_makes 72 = .ok (.aaload, 1) := dq_50 (zby_at (j := 8) zbX11_makes_4 rfl)
theorem dX11_makes_73 : decode cX11_makes 73 = .ok (.aload_n 0, 1) := dq_42 (zby_at (j := 9) zbX11_makes_4 rfl)
theorem dX11_makes_74 : decode cX11_makes 74 = .ok (.getfield 26, 3) := dq_180 (zby_at (j := 10) zbX11_makes_4 rfl) (zby_at (j := 11) zbX11_makes_4 rfl) (zby_at (j := 12) zbX11_makes_4 rfl)
theorem dX11_makes_77 : decode cX11_makes 77 = .ok (.getfield 139, 3) := dq_180 (zby_at (j := 13) zbX11_makes_4 rfl) (zby_at (j := 14) zbX11_makes_4 rfl) (zby_at (j := 15) zbX11_makes_4 rfl)
theorem zbX11_makes_5 : zby cX11_makes 80 20 = [182, 0, 164, 42, 27, 182, 0, 168, 172] := by decide +kernel
theorem dX11_makes_80 : decode cX11_makes 80 = .ok (.invokevirtual 164, 3) := dq_182 (zby_at (j := 0) zbX11_makes_5 rfl) (zby_at (j := 1) zbX11_makes_5 rfl) (zby_at (j := 2) zbX11_makes_5 rfl)
theorem dX11_makes_83 : decode cX11_makes 83 = .ok (.aload_n 0, 1) := dq_42 (zby_at (j := 3) zbX11_makes_5 rfl)
theorem dX11_makes_84 : decode cX11_makes 84 = .ok (.iload_n 1, 1) := dq_27 (zby_at (j := 4) zbX11_makes_5 rfl)
theorem dX11_makes_85 : decode cX11_makes 85 = .ok (.invokevirtual 168, 3) := dq_182 (zby_at (j := 5) zbX11_makes_5 rfl) (zby_at (j := 6) zbX11_makes_5 rfl) (zby_at (j := 7) zbX11_makes_5 rfl)
theorem dX11_makes_88 : decode cX11_makes 88 = .ok (.ireturn, 1) := dq_172 (zby_at (j := 8) zbX11_makes_5 rfl)
theorem zbX11_turn_0 : zby cX11_turn 0 20 = [42, 27, 182, 0, 135, 153, 0, 21, 42, 29, 182, 0, 135, 153, 0, 13, 28, 155, 0, 9] := by decide +kernel
theorem dX11_turn_0 : decode cX11_turn 0 = .ok (.aload_n 0, 1) := dq_42 (zby_at (j := 0) zbX11_turn_0 rfl)
theorem dX11_turn_1 : decode cX11_turn 1 = .ok (.iload_n 1, 1) := dq_27 (zby_at (j := 1) zbX11_turn_0 rfl)
theorem dX11_turn_2 : decode cX11_turn 2 = .ok (.invokevirtual 135, 3) := dq_182 (zby_at (j := 2) zbX11_turn_0 rfl) (zby_at (j := 3) zbX11_turn_0 rfl) (zby_at (j := 4) zbX11_turn_0 rfl)
theorem dX11_turn_5 : decode cX11_turn 5 = .ok (.ifCond .eq 21, 3) := dq_153 (zby_at (j := 5) zbX11_turn_0 rfl) (zby_at (j := 6) zbX11_turn_0 rfl) (zby_at (j := 7) zbX11_turn_0 rfl) rfl
theorem dX11_turn_8 : decode cX11_turn 8 = .ok (.aload_n 0, 1) := dq_42 (zby_at (j := 8) zbX11_turn_0 rfl)
theorem dX11_turn_9 : decode cX11_turn 9 = .ok (.iload_n 3, 1) := dq_29 (zby_at (j := 9) zbX11_turn_0 rfl)
theorem dX11_turn_10 : decode cX11_turn 10 = .ok (.invokevirtual 135, 3) := dq_182 (zby_at (j := 10) zbX11_turn_0 rfl) (zby_at (j := 11) zbX11_turn_0 rfl) (zby_at (j := 12) zbX11_turn_0 rfl)
theorem dX11_turn_13 : decode cX11_turn 13 = .ok (.ifCond .eq 13, 3) := dq_153 (zby_at (j := 13) zbX11_turn_0 rfl) (zby_at (j := 14) zbX11_turn_0 rfl) (zby_at (j := 15) zbX11_turn_0 rfl) rfl
theorem zbX11_turn_1 : zby cX11_turn 16 20 = [28, 155, 0, 9, 28, 16, 6, 164, 0, 6, 16, 254, 172, 42, 180, 0, 106, 42, 180, 0] := by decide +kernel
theorem dX11_turn_16 : decode cX11_turn 16 = .ok (.iload_n 2, 1) := dq_28 (zby_at (j := 0) zbX11_turn_1 rfl)
theorem dX11_turn_17 : decode cX11_turn 17 = .ok (.ifCond .lt 9, 3) := dq_155 (zby_at (j := 1) zbX11_turn_1 rfl) (zby_at (j := 2) zbX11_turn_1 rfl) (zby_at (j := 3) zbX11_turn_1 rfl) rfl
theorem dX11_turn_20 : decode cX11_turn 20 = .ok (.iload_n 2, 1) := dq_28 (zby_at (j := 4) zbX11_turn_1 rfl)
theorem dX11_turn_21 : decode cX11_turn 21 = .ok (.bipush 6, 2) := dq_16 (zby_at (j := 5) zbX11_turn_1 rfl) (zby_at (j := 6) zbX11_turn_1 rfl) rfl
theorem dX11_turn_23 : decode cX11_turn 23 = .ok (.if_icmp .le 6, 3) := dq_164 (zby_at (j := 7) zbX11_turn_1 rfl) (zby_at (j := 8) zbX11_turn_1 rfl) (zby_at (j := 9) zbX11_turn_1 rfl) rfl
theorem dX11_turn_26 : decode cX11_turn 26 = .ok (.bipush (-2), 2) := dq_16 (zby_at (j := 10) zbX11_turn_1 rfl) (zby_at (j := 11) zbX11_turn_1 rfl) rfl
theorem dX11_turn_28 : decode cX11_turn 28 = .ok (.ireturn, 1) := dq_172 (zby_at (j := 12) zbX11_turn_1 rfl)
theorem dX11_turn_29 : decode cX11_turn 29 = .ok (.aload_n 0, 1) := dq_42 (zby_at (j := 13) zbX11_turn_1 rfl)
theorem dX11_turn_30 : decode cX11_turn 30 = .ok (.getfield 106, 3) := dq_180 (zby_at (j := 14) zbX11_turn_1 rfl) (zby_at (j := 15) zbX11_turn_1 rfl) (zby_at (j := 16) zbX11_turn_1 rfl)
theorem zbX11_turn_2 : zby cX11_turn 32 20 = [106, 42, 180, 0, 26, 180, 0, 146, 29, 50, 182, 0, 160, 42, 180, 0, 64, 28, 42, 180] := by decide +kernel
theorem dX11_turn_33 : decode cX11_turn 33 = .ok (.aload_n 0, 1) := dq_42 (zby_at (j := 1) zbX11_turn_2 rfl)
theorem dX11_turn_34 : decode cX11_turn 34 = .ok (.getfield 26, 3) := dq_180 (zby_at (j := 2) zbX11_turn_2 rfl) (zby_at (j := 3) zbX11_turn_2 rfl) (zby_at (j := 4) zbX11_turn_2 rfl)
theorem dX11_turn_37 : decode cX11_turn 37 = .ok (.getfield 146, 3) := dq_180 (zby_at (j := 5) zbX11_turn_2 rfl) (zby_at (j := 6) zbX11_turn_2 rfl) (zby_at (j := 7) zbX11_turn_2 rfl)
theorem dX11_turn_40 : decode cX11_turn 40 = .ok (.iload_n 3, 1) := dq_29 (zby_at (j := 8) zbX11_turn_2 rfl)
theorem dX11_turn_41 : decode cX11_turn 41 = .ok (.aaload, 1) := dq_50 (zby_at (j := 9) zbX11_turn_2 rfl)
theorem dX11_turn_42 : decode cX11_turn 42 = .ok (.invokevirtual 160, 3) := dq_182 (zby_at (j := 10) zbX11_turn_2 rfl) (zby_at (j := 11) zbX11_turn_2 rfl) (zby_at (j := 12) zbX11_turn_2 rfl)
theorem dX11_turn_45 : decode cX11_turn 45 = .ok (.aload_n 0, 1) := dq_42 (zby_at (j := 13) zbX11_turn_2 rfl)
theorem dX11_turn_46 : decode cX11_turn 46 = .ok (.getfield 64, 3) := dq_180 (zby_at (j := 14) zbX11_turn_2 rfl) (zby_at (j := 15) zbX11_turn_2 rfl) (zby_at (j := 16) zbX11_turn_2 rfl)
theorem zbX11_turn_3 : zby cX11_turn 48 20 = [64, 28, 42, 180, 0, 106, 42, 180, 0, 26, 180, 0, 139, 182, 0, 172, 42, 27, 182, 0] := by decide +kernel
theorem dX11_turn_49 : decode cX11_turn 49 = .ok (.iload_n 2, 1) := dq_28 (zby_at (j := 1) zbX11_turn_3 rfl)
theorem dX11_turn_50 : decode cX11_turn 50 = .ok (.aload_n 0, 1) := dq_42 (zby_at (j := 2) zbX11_turn_3 rfl)
theorem dX11_turn_51 : decode cX11_turn 51 = .ok (.getfield 106, 3) := dq_180 (zby_at (j := 3) zbX11_turn_3 rfl) (zby_at (j := 4) zbX11_turn_3 rfl) (zby_at (j := 5) zbX11_turn_3 rfl)
theorem dX11_turn_54 : decode cX11_turn 54 = .ok (.aload_n 0, 1) := dq_42 (zby_at (j := 6) zbX11_turn_3 rfl)
theorem dX11_turn_55 : decode cX11_turn 55 = .ok (.getfield 26, 3) := dq_180 (zby_at (j := 7) zbX11_turn_3 rfl) (zby_at (j := 8) zbX11_turn_3 rfl) (zby_at (j := 9) zbX11_turn_3 rfl)
theorem dX11_turn_58 : decode cX11_turn 58 = .ok (.getfield 139, 3) := dq_180 (zby_at (j := 10) zbX11_turn_3 rfl) (zby_at (j := 11) zbX11_turn_3 rfl) (zby_at (j := 12) zbX11_turn_3 rfl)
theorem dX11_turn_61 : decode cX11_turn 61 = .ok (.invokevirtual 172, 3) := dq_182 (zby_at (j := 13) zbX11_turn_3 rfl) (zby_at (j := 14) zbX11_turn_3 rfl) (zby_at (j := 15) zbX11_turn_3 rfl)
theorem zbX11_turn_4 : zby cX11_turn 64 20 = [42, 27, 182, 0, 168, 172] := by decide +kernel
theorem dX11_turn_64 : decode cX11_turn 64 = .ok (.aload_n 0, 1) := dq_42 (zby_at (j := 0) zbX11_turn_4 rfl)
theorem dX11_turn_65 : decode cX11_turn 65 = .ok (.iload_n 1, 1) := dq_27 (zby_at (j := 1) zbX11_turn_4 rfl)
theorem dX11_turn_66 : decode cX11_turn 66 = .ok (.invokevirtual 168, 3) := dq_182 (zby_at (j := 2) zbX11_turn_4 rfl) (zby_at (j := 3) zbX11_turn_4 rfl) (zby_at (j := 4) zbX11_turn_4 rfl)
theorem dX11_turn_69 : decode cX11_turn 69 = .ok (.ireturn, 1) := dq_172 (zby_at (j := 5) zbX11_turn_4 rfl)
theorem zbX11_sets_0 : zby cX11_sets 0 20 = [42, 27, 182, 0, 135, 153, 0, 11, 42, 28, 182, 0, 154, 154, 0, 6, 16, 254, 172, 42] := by decide +kernel
theorem dX11_sets_0 : decode cX11_sets 0 = .ok (.aload_n 0, 1) := dq_42 (zby_at (j := 0) zbX11_sets_0 rfl)
theorem dX11_sets_1 : decode cX11_sets 1 = .ok (.iload_n 1, 1) := dq_27 (zby_at (j := 1) zbX11_sets_0 rfl)
theorem dX11_sets_2 : decode cX11_sets 2 = .ok (.invokevirtual 135, 3) := dq_182 (zby_at (j := 2) zbX11_sets_0 rfl) (zby_at (j := 3) zbX11_sets_0 rfl) (zby_at (j := 4) zbX11_sets_0 rfl)
theorem dX11_sets_5 : decode cX11_sets 5 = .ok (.ifCond .eq 11, 3) := dq_153 (zby_at (j := 5) zbX11_sets_0 rfl) (zby_at (j := 6) zbX11_sets_0 rfl) (zby_at (j := 7) zbX11_sets_0 rfl) rfl
theorem dX11_sets_8 : decode cX11_sets 8 = .ok (.aload_n 0, 1) := dq_42 (zby_at (j := 8) zbX11_sets_0 rfl)
theorem dX11_sets_9 : decode cX11_sets 9 = .ok (.iload_n 2, 1) := dq_28 (zby_at (j := 9) zbX11_sets_0 rfl)
theorem dX11_sets_10 : decode cX11_sets 10 = .ok (.invokevirtual 154, 3) := dq_182 (zby_at (j := 10) zbX11_sets_0 rfl) (zby_at (j := 11) zbX11_sets_0 rfl) (zby_at (j := 12) zbX11_sets_0 rfl)
theorem dX11_sets_13 : decode cX11_sets 13 = .ok (.ifCond .ne 6, 3) := dq_154 (zby_at (j := 13) zbX11_sets_0 rfl) (zby_at (j := 14) zbX11_sets_0 rfl) (zby_at (j := 15) zbX11_sets_0 rfl) rfl
theorem zbX11_sets_1 : zby cX11_sets 16 20 = [16, 254, 172, 42, 180, 0, 26, 180, 0, 146, 27, 50, 58, 4, 25, 4, 28, 182, 0, 157] := by decide +kernel
theorem dX11_sets_16 : decode cX11_sets 16 = .ok (.bipush (-2), 2) := dq_16 (zby_at (j := 0) zbX11_sets_1 rfl) (zby_at (j := 1) zbX11_sets_1 rfl) rfl
theorem dX11_sets_18 : decode cX11_sets 18 = .ok (.ireturn, 1) := dq_172 (zby_at (j := 2) zbX11_sets_1 rfl)
theorem dX11_sets_19 : decode cX11_sets 19 = .ok (.aload_n 0, 1) := dq_42 (zby_at (j := 3) zbX11_sets_1 rfl)
theorem dX11_sets_20 : decode cX11_sets 20 = .ok (.getfield 26, 3) := dq_180 (zby_at (j := 4) zbX11_sets_1 rfl) (zby_at (j := 5) zbX11_sets_1 rfl) (zby_at (j := 6) zbX11_sets_1 rfl)
theorem dX11_sets_23 : decode cX11_sets 23 = .ok (.getfield 146, 3) := dq_180 (zby_at (j := 7) zbX11_sets_1 rfl) (zby_at (j := 8) zbX11_sets_1 rfl) (zby_at (j := 9) zbX11_sets_1 rfl)
theorem dX11_sets_26 : decode cX11_sets 26 = .ok (.iload_n 1, 1) := dq_27 (zby_at (j := 10) zbX11_sets_1 rfl)
theorem dX11_sets_27 : decode cX11_sets 27 = .ok (.aaload, 1) := dq_50 (zby_at (j := 11) zbX11_sets_1 rfl)
theorem dX11_sets_28 : decode cX11_sets 28 = .ok (.astore 4, 2) := dq_58 (zby_at (j := 12) zbX11_sets_1 rfl) (zby_at (j := 13) zbX11_sets_1 rfl)
theorem dX11_sets_30 : decode cX11_sets 30 = .ok (.aload 4, 2) := dq_25 (zby_at (j := 14) zbX11_sets_1 rfl) (zby_at (j := 15) zbX11_sets_1 rfl)
theorem zbX11_sets_2 : zby cX11_sets 32 20 = [28, 182, 0, 157, 29, 160, 0, 5, 3, 172, 29, 153, 0, 12, 25, 4, 28, 182, 0, 176] := by decide +kernel
theorem dX11_sets_32 : decode cX11_sets 32 = .ok (.iload_n 2, 1) := dq_28 (zby_at (j := 0) zbX11_sets_2 rfl)
theorem dX11_sets_33 : decode cX11_sets 33 = .ok (.invokevirtual 157, 3) := dq_182 (zby_at (j := 1) zbX11_sets_2 rfl) (zby_at (j := 2) zbX11_sets_2 rfl) (zby_at (j := 3) zbX11_sets_2 rfl)
theorem dX11_sets_36 : decode cX11_sets 36 = .ok (.iload_n 3, 1) := dq_29 (zby_at (j := 4) zbX11_sets_2 rfl)
theorem dX11_sets_37 : decode cX11_sets 37 = .ok (.if_icmp .ne 5, 3) := dq_160 (zby_at (j := 5) zbX11_sets_2 rfl) (zby_at (j := 6) zbX11_sets_2 rfl) (zby_at (j := 7) zbX11_sets_2 rfl) rfl
theorem dX11_sets_40 : decode cX11_sets 40 = .ok (.iconst 0, 1) := dq_3 (zby_at (j := 8) zbX11_sets_2 rfl)
theorem dX11_sets_41 : decode cX11_sets 41 = .ok (.ireturn, 1) := dq_172 (zby_at (j := 9) zbX11_sets_2 rfl)
theorem dX11_sets_42 : decode cX11_sets 42 = .ok (.iload_n 3, 1) := dq_29 (zby_at (j := 10) zbX11_sets_2 rfl)
theorem dX11_sets_43 : decode cX11_sets 43 = .ok (.ifCond .eq 12, 3) := dq_153 (zby_at (j := 11) zbX11_sets_2 rfl) (zby_at (j := 12) zbX11_sets_2 rfl) (zby_at (j := 13) zbX11_sets_2 rfl) rfl
theorem dX11_sets_46 : decode cX11_sets 46 = .ok (.aload 4, 2) := dq_25 (zby_at (j := 14) zbX11_sets_2 rfl) (zby_at (j := 15) zbX11_sets_2 rfl)
theorem zbX11_sets_3 : zby cX11_sets 48 20 = [28, 182, 0, 176, 167, 0, 9, 25, 4, 28, 182, 0, 180, 4, 172] := by decide +kernel
theorem dX11_sets_48 : decode cX11_sets 48 = .ok (.iload_n 2, 1) := dq_28 (zby_at (j := 0) zbX11_sets_3 rfl)
theorem dX11_sets_49 : decode cX11_sets 49 = .ok (.invokevirtual 176, 3) := dq_182 (zby_at (j := 1) zbX11_sets_3 rfl) (zby_at (j := 2) zbX11_sets_3 rfl) (zby_at (j := 3) zbX11_sets_3 rfl)
theorem dX11_sets_52 : decode cX11_sets 52 = .ok (.goto 9, 3) := dq_167 (zby_at (j := 4) zbX11_sets_3 rfl) (zby_at (j := 5) zbX11_sets_3 rfl) (zby_at (j := 6) zbX11_sets_3 rfl) rfl
theorem dX11_sets_55 : decode cX11_sets 55 = .ok (.aload 4, 2) := dq_25 (zby_at (j := 7) zbX11_sets_3 rfl) (zby_at (j := 8) zbX11_sets_3 rfl)
theorem dX11_sets_57 : decode cX11_sets 57 = .ok (.iload_n 2, 1) := dq_28 (zby_at (j := 9) zbX11_sets_3 rfl)
theorem dX11_sets_58 : decode cX11_sets 58 = .ok (.invokevirtual 180, 3) := dq_182 (zby_at (j := 10) zbX11_sets_3 rfl) (zby_at (j := 11) zbX11_sets_3 rfl) (zby_at (j := 12) zbX11_sets_3 rfl)
theorem dX11_sets_61 : decode cX11_sets 61 = .ok (.iconst 1, 1) := dq_4 (zby_at (j := 13) zbX11_sets_3 rfl)
theorem dX11_sets_62 : decode cX11_sets 62 = .ok (.ireturn, 1) := dq_172 (zby_at (j := 14) zbX11_sets_3 rfl)
theorem zbX11_change_0 : zby cX11_change 0 20 = [42, 27, 182, 0, 135, 153, 0, 19, 42, 28, 182, 0, 135, 153, 0, 11, 42, 29, 182, 0] := by decide +kernel
theorem dX11_change_0 : decode cX11_change 0 = .ok (.aload_n 0, 1) := dq_42 (zby_at (j := 0) zbX11_change_0 rfl)
theorem dX11_change_1 : decode cX11_change 1 = .ok (.iload_n 1, 1) := dq_27 (zby_at (j := 1) zbX11_change_0 rfl)
theorem dX11_change_2 : decode cX11_change 2 = .ok (.invokevirtual 135, 3) := dq_182 (zby_at (j := 2) zbX11_change_0 rfl) (zby_at (j := 3) zbX11_change_0 rfl) (zby_at (j := 4) zbX11_change_0 rfl)
theorem dX11_change_5 : decode cX11_change 5 = .ok (.ifCond .eq 19, 3) := dq_153 (zby_at (j := 5) zbX11_change_0 rfl) (zby_at (j := 6) zbX11_change_0 rfl) (zby_at (j := 7) zbX11_change_0 rfl) rfl
theorem dX11_change_8 : decode cX11_change 8 = .ok (.aload_n 0, 1) := dq_42 (zby_at (j := 8) zbX11_change_0 rfl)
theorem dX11_change_9 : decode cX11_change 9 = .ok (.iload_n 2, 1) := dq_28 (zby_at (j := 9) zbX11_change_0 rfl)
theorem dX11_change_10 : decode cX11_change 10 = .ok (.invokevirtual 135, 3) := dq_182 (zby_at (j := 10) zbX11_change_0 rfl) (zby_at (j := 11) zbX11_change_0 rfl) (zby_at (j := 12) zbX11_change_0 rfl)
theorem dX11_change_13 : decode cX11_change 13 = .ok (.ifCond .eq 11, 3) := dq_153 (zby_at (j := 13) zbX11_change_0 rfl) (zby_at (j := 14) zbX11_change_0 rfl) (zby_at (j := 15) zbX11_change_0 rfl) rfl
theorem zbX11_change_1 : zby cX11_change 16 20 = [42, 29, 182, 0, 183, 154, 0, 6, 16, 254, 172, 42, 180, 0, 106, 42, 180, 0, 26, 180] := by decide +kernel
theorem dX11_change_16 : decode cX11_change 16 = .ok (.aload_n 0, 1) := dq_42 (zby_at (j := 0) zbX11_change_1 rfl)
theorem dX11_change_17 : decode cX11_change 17 = .ok (.iload_n 3, 1) := dq_29 (zby_at (j := 1) zbX11_change_1 rfl)
theorem dX11_change_18 : decode cX11_change 18 = .ok (.invokevirtual 183, 3) := dq_182 (zby_at (j := 2) zbX11_change_1 rfl) (zby_at (j := 3) zbX11_change_1 rfl) (zby_at (j := 4) zbX11_change_1 rfl)
theorem dX11_change_21 : decode cX11_change 21 = .ok (.ifCond .ne 6, 3) := dq_154 (zby_at (j := 5) zbX11_change_1 rfl) (zby_at (j := 6) zbX11_change_1 rfl) (zby_at (j := 7) zbX11_change_1 rfl) rfl
theorem dX11_change_24 : decode cX11_change 24 = .ok (.bipush (-2), 2) := dq_16 (zby_at (j := 8) zbX11_change_1 rfl) (zby_at (j := 9) zbX11_change_1 rfl) rfl
theorem dX11_change_26 : decode cX11_change 26 = .ok (.ireturn, 1) := dq_172 (zby_at (j := 10) zbX11_change_1 rfl)
theorem dX11_change_27 : decode cX11_change 27 = .ok (.aload_n 0, 1) := dq_42 (zby_at (j := 11) zbX11_change_1 rfl)
theorem dX11_change_28 : decode cX11_change 28 = .ok (.getfield 106, 3) := dq_180 (zby_at (j := 12) zbX11_change_1 rfl) (zby_at (j := 13) zbX11_change_1 rfl) (zby_at (j := 14) zbX11_change_1 rfl)
theorem dX11_change_31 : decode cX11_change 31 = .ok (.aload_n 0, 1) := dq_42 (zby_at (j := 15) zbX11_change_1 rfl)
theorem zbX11_change_2 : zby cX11_change 32 20 = [180, 0, 26, 180, 0, 146, 28, 50, 182, 0, 160, 42, 180, 0, 106, 29, 182, 0, 186, 42] := by decide +kernel
theorem dX11_change_32 : decode cX11_change 32 = .ok (.getfield 26, 3) := dq_180 (zby_at (j := 0) zbX11_change_2 rfl) (zby_at (j := 1) zbX11_change_2 rfl) (zby_at (j := 2) zbX11_change_2 rfl)
theorem dX11_change_35 : decode cX11_change 35 = .ok (.getfield 146, 3) := dq_180 (zby_at (j := 3) zbX11_change_2 rfl) (zby_at (j := 4) zbX11_change_2 rfl) (zby_at (j := 5) zbX11_change_2 rfl)
theorem dX11_change_38 : decode cX11_change 38 = .ok (.iload_n 2, 1) := dq_28 (zby_at (j := 6) zbX11_change_2 rfl)
theorem dX11_change_39 : decode cX11_change 39 = .ok (.aaload, 1) := dq_50 (zby_at (j := 7) zbX11_change_2 rfl)
theorem dX11_change_40 : decode cX11_change 40 = .ok (.invokevirtual 160, 3) := dq_182 (zby_at (j := 8) zbX11_change_2 rfl) (zby_at (j := 9) zbX11_change_2 rfl) (zby_at (j := 10) zbX11_change_2 rfl)
theorem dX11_change_43 : decode cX11_change 43 = .ok (.aload_n 0, 1) := dq_42 (zby_at (j := 11) zbX11_change_2 rfl)
theorem dX11_change_44 : decode cX11_change 44 = .ok (.getfield 106, 3) := dq_180 (zby_at (j := 12) zbX11_change_2 rfl) (zby_at (j := 13) zbX11_change_2 rfl) (zby_at (j := 14) zbX11_change_2 rfl)
theorem dX11_change_47 : decode cX11_change 47 = .ok (.iload_n 3, 1) := dq_29 (zby_at (j := 15) zbX11_change_2 rfl)
theorem zbX11_change_3 : zby cX11_change 48 20 = [182, 0, 186, 42, 27, 182, 0, 168, 172] := by decide +kernel
theorem dX11_change_48 : decode cX11_change 48 = .ok (.invokevirtual 186, 3) := dq_182 (zby_at (j := 0) zbX11_change_3 rfl) (zby_at (j := 1) zbX11_change_3 rfl) (zby_at (j := 2) zbX11_change_3 rfl)
theorem dX11_change_51 : decode cX11_change 51 = .ok (.aload_n 0, 1) := dq_42 (zby_at (j := 3) zbX11_change_3 rfl)
theorem dX11_change_52 : decode cX11_change 52 = .ok (.iload_n 1, 1) := dq_27 (zby_at (j := 4) zbX11_change_3 rfl)
theorem dX11_change_53 : decode cX11_change 53 = .ok (.invokevirtual 168, 3) := dq_182 (zby_at (j := 5) zbX11_change_3 rfl) (zby_at (j := 6) zbX11_change_3 rfl) (zby_at (j := 7) zbX11_change_3 rfl)
theorem dX11_change_56 : decode cX11_change 56 = .ok (.ireturn, 1) := dq_172 (zby_at (j := 8) zbX11_change_3 rfl)
theorem zbX11_half_0 : zby cX11_half 0 20 = [42, 27, 182, 0, 135, 153, 0, 19, 42, 28, 182, 0, 135, 153, 0, 11, 42, 29, 182, 0] := by decide +kernel
theorem dX11_half_0 : decode cX11_half 0 = .ok (.aload_n 0, 1) := dq_42 (zby_at (j := 0) zbX11_half_0 rfl)
theorem dX11_half_1 : decode cX11_half 1 = .ok (.iload_n 1, 1) := dq_27 (zby_at (j := 1) zbX11_half_0 rfl)
theorem dX11_half_2 : decode cX11_half 2 = .ok (.invokevirtual 135, 3) := dq_182 (zby_at (j := 2) zbX11_half_0 rfl) (zby_at (j := 3) zbX11_half_0 rfl) (zby_at (j := 4) zbX11_half_0 rfl)
theorem dX11_half_5 : decode cX11_half 5 = .ok (.ifCond .eq 19, 3) := dq_153 (zby_at (j := 5) zbX11_half_0 rfl) (zby_at (j := 6) zbX11_half_0 rfl) (zby_at (j := 7) zbX11_half_0 rfl) rfl
theorem dX11_half_8 : decode cX11_half 8 = .ok (.aload_n 0, 1) := dq_42 (zby_at (j := 8) zbX11_half_0 rfl)
theorem dX11_half_9 : decode cX11_half 9 = .ok (.iload_n 2, 1) := dq_28 (zby_at (j := 9) zbX11_half_0 rfl)
theorem dX11_half_10 : decode cX11_half 10 = .ok (.invokevirtual 135, 3) := dq_182 (zby_at (j := 10) zbX11_half_0 rfl) (zby_at (j := 11) zbX11_half_0 rfl) (zby_at (j := 12) zbX11_half_0 rfl)
theorem dX11_half_13 : decode cX11_half 13 = .ok (.ifCond .eq 11, 3) := dq_153 (zby_at (j := 13) zbX11_half_0 rfl) (zby_at (j := 14) zbX11_half_0 rfl) (zby_at (j := 15) zbX11_half_0 rfl) rfl
theorem zbX11_half_1 : zby cX11_half 16 20 = [42, 29, 182, 0, 183, 154, 0, 6, 16, 254, 172, 42, 180, 0, 106, 42, 180, 0, 26, 180] := by decide +kernel
theorem dX11_half_16 : decode cX11_half 16 = .ok (.aload_n 0, 1) := dq_42 (zby_at (j := 0) zbX11_half_1 rfl)
theorem dX11_half_17 : decode cX11_half 17 = .ok (.iload_n 3, 1) := dq_29 (zby_at (j := 1) zbX11_half_1 rfl)
theorem dX11_half_18 : decode cX11_half 18 = .ok (.invokevirtual 183, 3) := dq_182 (zby_at (j := 2) zbX11_half_1 rfl) (zby_at (j := 3) zbX11_half_1 rfl) (zby_at (j := 4) zbX11_half_1 rfl)
theorem dX11_half_21 : decode cX11_half 21 = .ok (.ifCond .ne 6, 3) := dq_154 (zby_at (j := 5) zbX11_half_1 rfl) (zby_at (j := 6) zbX11_half_1 rfl) (zby_at (j := 7) zbX11_half_1 rfl) rfl
theorem dX11_half_24 : decode cX11_half 24 = .ok (.bipush (-2), 2) := dq_16 (zby_at (j := 8) zbX11_half_1 rfl) (zby_at (j := 9) zbX11_half_1 rfl) rfl
theorem dX11_half_26 : decode cX11_half 26 = .ok (.ireturn, 1) := dq_172 (zby_at (j := 10) zbX11_half_1 rfl)
theorem dX11_half_27 : decode cX11_half 27 = .ok (.aload_n 0, 1) := dq_42 (zby_at (j := 11) zbX11_half_1 rfl)
theorem dX11_half_28 : decode cX11_half 28 = .ok (.getfield 106, 3) := dq_180 (zby_at (j := 12) zbX11_half_1 rfl) (zby_at (j := 13) zbX11_half_1 rfl) (zby_at (j := 14) zbX11_half_1 rfl)
theorem dX11_half_31 : decode cX11_half 31 = .ok (.aload_n 0, 1) := dq_42 (zby_at (j := 15) zbX11_half_1 rfl)
theorem zbX11_half_2 : zby cX11_half 32 20 = [180, 0, 26, 180, 0, 146, 28, 50, 182, 0, 160, 21, 4, 153, 0, 11, 42, 180, 0, 106] := by decide +kernel
theorem dX11_half_32 : decode cX11_half 32 = .ok (.getfield 26, 3) := dq_180 (zby_at (j := 0) zbX11_half_2 rfl) (zby_at (j := 1) zbX11_half_2 rfl) (zby_at (j := 2) zbX11_half_2 rfl)
theorem dX11_half_35 : decode cX11_half 35 = .ok (.getfield 146, 3) := dq_180 (zby_at (j := 3) zbX11_half_2 rfl) (zby_at (j := 4) zbX11_half_2 rfl) (zby_at (j := 5) zbX11_half_2 rfl)
theorem dX11_half_38 : decode cX11_half 38 = .ok (.iload_n 2, 1) := dq_28 (zby_at (j := 6) zbX11_half_2 rfl)
theorem dX11_half_39 : decode cX11_half 39 = .ok (.aaload, 1) := dq_50 (zby_at (j := 7) zbX11_half_2 rfl)
theorem dX11_half_40 : decode cX11_half 40 = .ok (.invokevirtual 160, 3) := dq_182 (zby_at (j := 8) zbX11_half_2 rfl) (zby_at (j := 9) zbX11_half_2 rfl) (zby_at (j := 10) zbX11_half_2 rfl)
theorem dX11_half_43 : decode cX11_half 43 = .ok (.iload 4, 2) := dq_21 (zby_at (j := 11) zbX11_half_2 rfl) (zby_at (j := 12) zbX11_half_2 rfl)
theorem dX11_half_45 : decode cX11_half 45 = .ok (.ifCond .eq 11, 3) := dq_153 (zby_at (j := 13) zbX11_half_2 rfl) (zby_at (j := 14) zbX11_half_2 rfl) (zby_at (j := 15) zbX11_half_2 rfl) rfl
theorem zbX11_half_3 : zby cX11_half 48 20 = [42, 180, 0, 106, 29, 182, 0, 186, 42, 180, 0, 106, 29, 182, 0, 189, 42, 27, 182, 0] := by decide +kernel
theorem dX11_half_48 : decode cX11_half 48 = .ok (.aload_n 0, 1) := dq_42 (zby_at (j := 0) zbX11_half_3 rfl)
theorem dX11_half_49 : decode cX11_half 49 = .ok (.getfield 106, 3) := dq_180 (zby_at (j := 1) zbX11_half_3 rfl) (zby_at (j := 2) zbX11_half_3 rfl) (zby_at (j := 3) zbX11_half_3 rfl)
theorem dX11_half_52 : decode cX11_half 52 = .ok (.iload_n 3, 1) := dq_29 (zby_at (j := 4) zbX11_half_3 rfl)
theorem dX11_half_53 : decode cX11_half 53 = .ok (.invokevirtual 186, 3) := dq_182 (zby_at (j := 5) zbX11_half_3 rfl) (zby_at (j := 6) zbX11_half_3 rfl) (zby_at (j := 7) zbX11_half_3 rfl)
theorem dX11_half_56 : decode cX11_half 56 = .ok (.aload_n 0, 1) := dq_42 (zby_at (j := 8) zbX11_half_3 rfl)
theorem dX11_half_57 : decode cX11_half 57 = .ok (.getfield 106, 3) := dq_180 (zby_at (j := 9) zbX11_half_3 rfl) (zby_at (j := 10) zbX11_half_3 rfl) (zby_at (j := 11) zbX11_half_3 rfl)
theorem dX11_half_60 : decode cX11_half 60 = .ok (.iload_n 3, 1) := dq_29 (zby_at (j := 12) zbX11_half_3 rfl)
theorem dX11_half_61 : decode cX11_half 61 = .ok (.invokevirtual 189, 3) := dq_182 (zby_at (j := 13) zbX11_half_3 rfl) (zby_at (j := 14) zbX11_half_3 rfl) (zby_at (j := 15) zbX11_half_3 rfl)
theorem zbX11_half_4 : zby cX11_half 64 20 = [42, 27, 182, 0, 168, 172] := by decide +kernel
theorem dX11_half_64 : decode cX11_half 64 = .ok (.aload_n 0, 1) := dq_42 (zby_at (j := 0) zbX11_half_4 rfl)
theorem dX11_half_65 : decode cX11_half 65 = .ok (.iload_n 1, 1) := dq_27 (zby_at (j := 1) zbX11_half_4 rfl)
theorem dX11_half_66 : decode cX11_half 66 = .ok (.invokevirtual 168, 3) := dq_182 (zby_at (j := 2) zbX11_half_4 rfl) (zby_at (j := 3) zbX11_half_4 rfl) (zby_at (j := 4) zbX11_half_4 rfl)
theorem dX11_half_69 : decode cX11_half 69 = .ok (.ireturn, 1) := dq_172 (zby_at (j := 5) zbX11_half_4 rfl)
theorem zbX11_level_0 : zby cX11_level 0 20 = [42, 27, 182, 0, 135, 153, 0, 21, 42, 28, 182, 0, 135, 153, 0, 13, 29, 155, 0, 9] := by decide +kernel
theorem dX11_level_0 : decode cX11_level 0 = .ok (.aload_n 0, 1) := dq_42 (zby_at (j := 0) zbX11_level_0 rfl)
theorem dX11_level_1 : decode cX11_level 1 = .ok (.iload_n 1, 1) := dq_27 (zby_at (j := 1) zbX11_level_0 rfl)
theorem dX11_level_2 : decode cX11_level 2 = .ok (.invokevirtual 135, 3) := dq_182 (zby_at (j := 2) zbX11_level_0 rfl) (zby_at (j := 3) zbX11_level_0 rfl) (zby_at (j := 4) zbX11_level_0 rfl)
theorem dX11_level_5 : decode cX11_level 5 = .ok (.ifCond .eq 21, 3) := dq_153 (zby_at (j := 5) zbX11_level_0 rfl) (zby_at (j := 6) zbX11_level_0 rfl) (zby_at (j := 7) zbX11_level_0 rfl) rfl
theorem dX11_level_8 : decode cX11_level 8 = .ok (.aload_n 0, 1) := dq_42 (zby_at (j := 8) zbX11_level_0 rfl)
theorem dX11_level_9 : decode cX11_level 9 = .ok (.iload_n 2, 1) := dq_28 (zby_at (j := 9) zbX11_level_0 rfl)
theorem dX11_level_10 : decode cX11_level 10 = .ok (.invokevirtual 135, 3) := dq_182 (zby_at (j := 10) zbX11_level_0 rfl) (zby_at (j := 11) zbX11_level_0 rfl) (zby_at (j := 12) zbX11_level_0 rfl)
theorem dX11_level_13 : decode cX11_level 13 = .ok (.ifCond .eq 13, 3) := dq_153 (zby_at (j := 13) zbX11_level_0 rfl) (zby_at (j := 14) zbX11_level_0 rfl) (zby_at (j := 15) zbX11_level_0 rfl) rfl
theorem zbX11_level_1 : zby cX11_level 16 20 = [29, 155, 0, 9, 29, 16, 10, 164, 0, 6, 16, 254, 172, 42, 180, 0, 26, 180, 0, 146] := by decide +kernel
theorem dX11_level_16 : decode cX11_level 16 = .ok (.iload_n 3, 1) := dq_29 (zby_at (j := 0) zbX11_level_1 rfl)
theorem dX11_level_17 : decode cX11_level 17 = .ok (.ifCond .lt 9, 3) := dq_155 (zby_at (j := 1) zbX11_level_1 rfl) (zby_at (j := 2) zbX11_level_1 rfl) (zby_at (j := 3) zbX11_level_1 rfl) rfl
theorem dX11_level_20 : decode cX11_level 20 = .ok (.iload_n 3, 1) := dq_29 (zby_at (j := 4) zbX11_level_1 rfl)
theorem dX11_level_21 : decode cX11_level 21 = .ok (.bipush 10, 2) := dq_16 (zby_at (j := 5) zbX11_level_1 rfl) (zby_at (j := 6) zbX11_level_1 rfl) rfl
theorem dX11_level_23 : decode cX11_level 23 = .ok (.if_icmp .le 6, 3) := dq_164 (zby_at (j := 7) zbX11_level_1 rfl) (zby_at (j := 8) zbX11_level_1 rfl) (zby_at (j := 9) zbX11_level_1 rfl) rfl
theorem dX11_level_26 : decode cX11_level 26 = .ok (.bipush (-2), 2) := dq_16 (zby_at (j := 10) zbX11_level_1 rfl) (zby_at (j := 11) zbX11_level_1 rfl) rfl
theorem dX11_level_28 : decode cX11_level 28 = .ok (.ireturn, 1) := dq_172 (zby_at (j := 12) zbX11_level_1 rfl)
theorem dX11_level_29 : decode cX11_level 29 = .ok (.aload_n 0, 1) := dq_42 (zby_at (j := 13) zbX11_level_1 rfl)
theorem dX11_level_30 : decode cX11_level 30 = .ok (.getfield 26, 3) := dq_180 (zby_at (j := 14) zbX11_level_1 rfl) (zby_at (j := 15) zbX11_level_1 rfl) (zby_at (j := 16) zbX11_level_1 rfl)
theorem zbX11_level_2 : zby cX11_level 32 20 = [26, 180, 0, 146, 28, 50, 58, 4, 42, 180, 0, 106, 182, 0, 192, 3, 54, 5, 21, 5] := by decide +kernel
theorem dX11_level_33 : decode cX11_level 33 = .ok (.getfield 146, 3) := dq_180 (zby_at (j := 1) zbX11_level_2 rfl) (zby_at (j := 2) zbX11_level_2 rfl) (zby_at (j := 3) zbX11_level_2 rfl)
theorem dX11_level_36 : decode cX11_level 36 = .ok (.iload_n 2, 1) := dq_28 (zby_at (j := 4) zbX11_level_2 rfl)
theorem dX11_level_37 : decode cX11_level 37 = .ok (.aaload, 1) := dq_50 (zby_at (j := 5) zbX11_level_2 rfl)
theorem dX11_level_38 : decode cX11_level 38 = .ok (.astore 4, 2) := dq_58 (zby_at (j := 6) zbX11_level_2 rfl) (zby_at (j := 7) zbX11_level_2 rfl)
theorem dX11_level_40 : decode cX11_level 40 = .ok (.aload_n 0, 1) := dq_42 (zby_at (j := 8) zbX11_level_2 rfl)
theorem dX11_level_41 : decode cX11_level 41 = .ok (.getfield 106, 3) := dq_180 (zby_at (j := 9) zbX11_level_2 rfl) (zby_at (j := 10) zbX11_level_2 rfl) (zby_at (j := 11) zbX11_level_2 rfl)
theorem dX11_level_44 : decode cX11_level 44 = .ok (.invokevirtual 192, 3) := dq_182 (zby_at (j := 12) zbX11_level_2 rfl) (zby_at (j := 13) zbX11_level_2 rfl) (zby_at (j := 14) zbX11_level_2 rfl)
theorem dX11_level_47 : decode cX11_level 47 = .ok (.iconst 0, 1) := dq_3 (zby_at (j := 15) zbX11_level_2 rfl)
theorem zbX11_level_3 : zby cX11_level 48 20 = [54, 5, 21, 5, 4, 42, 180, 0, 26, 180, 0, 139, 120, 162, 0, 37, 21, 5, 184, 0] := by decide +kernel
theorem dX11_level_48 : decode cX11_level 48 = .ok (.istore 5, 2) := dq_54 (zby_at (j := 0) zbX11_level_3 rfl) (zby_at (j := 1) zbX11_level_3 rfl)
theorem dX11_level_50 : decode cX11_level 50 = .ok (.iload 5, 2) := dq_21 (zby_at (j := 2) zbX11_level_3 rfl) (zby_at (j := 3) zbX11_level_3 rfl)
theorem dX11_level_52 : decode cX11_level 52 = .ok (.iconst 1, 1) := dq_4 (zby_at (j := 4) zbX11_level_3 rfl)
theorem dX11_level_53 : decode cX11_level 53 = .ok (.aload_n 0, 1) := dq_42 (zby_at (j := 5) zbX11_level_3 rfl)
theorem dX11_level_54 : decode cX11_level 54 = .ok (.getfield 26, 3) := dq_180 (zby_at (j := 6) zbX11_level_3 rfl) (zby_at (j := 7) zbX11_level_3 rfl) (zby_at (j := 8) zbX11_level_3 rfl)
theorem dX11_level_57 : decode cX11_level 57 = .ok (.getfield 139, 3) := dq_180 (zby_at (j := 9) zbX11_level_3 rfl) (zby_at (j := 10) zbX11_level_3 rfl) (zby_at (j := 11) zbX11_level_3 rfl)
theorem dX11_level_60 : decode cX11_level 60 = .ok (.ishl, 1) := dq_120 (zby_at (j := 12) zbX11_level_3 rfl)
theorem dX11_level_61 : decode cX11_level 61 = .ok (.if_icmp .ge 37, 3) := dq_162 (zby_at (j := 13) zbX11_level_3 rfl) (zby_at (j := 14) zbX11_level_3 rfl) (zby_at (j := 15) zbX11_level_3 rfl) rfl
theorem zbX11_level_4 : zby cX11_level 64 20 = [21, 5, 184, 0, 193, 29, 160, 0, 22, 25, 4, 21, 5, 182, 0, 157, 153, 0, 12, 42] := by decide +kernel
theorem dX11_level_64 : decode cX11_level 64 = .ok (.iload 5, 2) := dq_21 (zby_at (j := 0) zbX11_level_4 rfl) (zby_at (j := 1) zbX11_level_4 rfl)
theorem dX11_level_66 : decode cX11_level 66 = .ok (.invokestatic 193, 3) := dq_184 (zby_at (j := 2) zbX11_level_4 rfl) (zby_at (j := 3) zbX11_level_4 rfl) (zby_at (j := 4) zbX11_level_4 rfl)
theorem dX11_level_69 : decode cX11_level 69 = .ok (.iload_n 3, 1) := dq_29 (zby_at (j := 5) zbX11_level_4 rfl)
theorem dX11_level_70 : decode cX11_level 70 = .ok (.if_icmp .ne 22, 3) := dq_160 (zby_at (j := 6) zbX11_level_4 rfl) (zby_at (j := 7) zbX11_level_4 rfl) (zby_at (j := 8) zbX11_level_4 rfl) rfl
theorem dX11_level_73 : decode cX11_level 73 = .ok (.aload 4, 2) := dq_25 (zby_at (j := 9) zbX11_level_4 rfl) (zby_at (j := 10) zbX11_level_4 rfl)
theorem dX11_level_75 : decode cX11_level 75 = .ok (.iload 5, 2) := dq_21 (zby_at (j := 11) zbX11_level_4 rfl) (zby_at (j := 12) zbX11_level_4 rfl)
theorem dX11_level_77 : decode cX11_level 77 = .ok (.invokevirtual 157, 3) := dq_182 (zby_at (j := 13) zbX11_level_4 rfl) (zby_at (j := 14) zbX11_level_4 rfl) (zby_at (j := 15) zbX11_level_4 rfl)
theorem zbX11_level_5 : zby cX11_level 80 20 = [153, 0, 12, 42, 180, 0, 106, 21, 5, 182, 0, 176, 132, 5, 1, 167, 255, 211, 42, 27] := by decide +kernel
theorem dX11_level_80 : decode cX11_level 80 = .ok (.ifCond .eq 12, 3) := dq_153 (zby_at (j := 0) zbX11_level_5 rfl) (zby_at (j := 1) zbX11_level_5 rfl) (zby_at (j := 2) zbX11_level_5 rfl) rfl
theorem dX11_level_83 : decode cX11_level 83 = .ok (.aload_n 0, 1) := dq_42 (zby_at (j := 3) zbX11_level_5 rfl)
theorem dX11_level_84 : decode cX11_level 84 = .ok (.getfield 106, 3) := dq_180 (zby_at (j := 4) zbX11_level_5 rfl) (zby_at (j := 5) zbX11_level_5 rfl) (zby_at (j := 6) zbX11_level_5 rfl)
theorem dX11_level_87 : decode cX11_level 87 = .ok (.iload 5, 2) := dq_21 (zby_at (j := 7) zbX11_level_5 rfl) (zby_at (j := 8) zbX11_level_5 rfl)
theorem dX11_level_89 : decode cX11_level 89 = .ok (.invokevirtual 176, 3) := dq_182 (zby_at (j := 9) zbX11_level_5 rfl) (zby_at (j := 10) zbX11_level_5 rfl) (zby_at (j := 11) zbX11_level_5 rfl)
theorem dX11_level_92 : decode cX11_level 92 = .ok (.iinc 5 1, 3) := dq_132 (zby_at (j := 12) zbX11_level_5 rfl) (zby_at (j := 13) zbX11_level_5 rfl) (zby_at (j := 14) zbX11_level_5 rfl) rfl
theorem dX11_level_95 : decode cX11_level 95 = .ok (.goto (-45), 3) := dq_167 (zby_at (j := 15) zbX11_level_5 rfl) (zby_at (j := 16) zbX11_level_5 rfl) (zby_at (j := 17) zbX11_level_5 rfl) rfl
theorem zbX11_level_6 : zby cX11_level 96 20 = [255, 211, 42, 27, 182, 0, 168, 172] := by decide +kernel
theorem dX11_level_98 : decode cX11_level 98 = .ok (.aload_n 0, 1) := dq_42 (zby_at (j := 2) zbX11_level_6 rfl)
theorem dX11_level_99 : decode cX11_level 99 = .ok (.iload_n 1, 1) := dq_27 (zby_at (j := 3) zbX11_level_6 rfl)
theorem dX11_level_100 : decode cX11_level 100 = .ok (.invokevirtual 168, 3) := dq_182 (zby_at (j := 4) zbX11_level_6 rfl) (zby_at (j := 5) zbX11_level_6 rfl) (zby_at (j := 6) zbX11_level_6 rfl)
theorem dX11_level_103 : decode cX11_level 103 = .ok (.ireturn, 1) := dq_172 (zby_at (j := 7) zbX11_level_6 rfl)
theorem zbX11_nth_0 : zby cX11_nth 0 20 = [42, 27, 182, 0, 135, 153, 0, 19, 42, 180, 0, 26, 180, 0, 146, 27, 50, 28, 182, 0] := by decide +kernel
theorem dX11_nth_0 : decode cX11_nth 0 = .ok (.aload_n 0, 1) := dq_42 (zby_at (j := 0) zbX11_nth_0 rfl)
theorem dX11_nth_1 : decode cX11_nth 1 = .ok (.iload_n 1, 1) := dq_27 (zby_at (j := 1) zbX11_nth_0 rfl)
theorem dX11_nth_2 : decode cX11_nth 2 = .ok (.invokevirtual 135, 3) := dq_182 (zby_at (j := 2) zbX11_nth_0 rfl) (zby_at (j := 3) zbX11_nth_0 rfl) (zby_at (j := 4) zbX11_nth_0 rfl)
theorem dX11_nth_5 : decode cX11_nth 5 = .ok (.ifCond .eq 19, 3) := dq_153 (zby_at (j := 5) zbX11_nth_0 rfl) (zby_at (j := 6) zbX11_nth_0 rfl) (zby_at (j := 7) zbX11_nth_0 rfl) rfl
theorem dX11_nth_8 : decode cX11_nth 8 = .ok (.aload_n 0, 1) := dq_42 (zby_at (j := 8) zbX11_nth_0 rfl)
theorem dX11_nth_9 : decode cX11_nth 9 = .ok (.getfield 26, 3) := dq_180 (zby_at (j := 9) zbX11_nth_0 rfl) (zby_at (j := 10) zbX11_nth_0 rfl) (zby_at (j := 11) zbX11_nth_0 rfl)
theorem dX11_nth_12 : decode cX11_nth 12 = .ok (.getfield 146, 3) := dq_180 (zby_at (j := 12) zbX11_nth_0 rfl) (zby_at (j := 13) zbX11_nth_0 rfl) (zby_at (j := 14) zbX11_nth_0 rfl)
theorem dX11_nth_15 : decode cX11_nth 15 = .ok (.iload_n 1, 1) := dq_27 (zby_at (j := 15) zbX11_nth_0 rfl)
theorem zbX11_nth_1 : zby cX11_nth 16 20 = [50, 28, 182, 0, 198, 167, 0, 5, 16, 254, 172] := by decide +kernel
theorem dX11_nth_16 : decode cX11_nth 16 = .ok (.aaload, 1) := dq_50 (zby_at (j := 0) zbX11_nth_1 rfl)
theorem dX11_nth_17 : decode cX11_nth 17 = .ok (.iload_n 2, 1) := dq_28 (zby_at (j := 1) zbX11_nth_1 rfl)
theorem dX11_nth_18 : decode cX11_nth 18 = .ok (.invokevirtual 198, 3) := dq_182 (zby_at (j := 2) zbX11_nth_1 rfl) (zby_at (j := 3) zbX11_nth_1 rfl) (zby_at (j := 4) zbX11_nth_1 rfl)
theorem dX11_nth_21 : decode cX11_nth 21 = .ok (.goto 5, 3) := dq_167 (zby_at (j := 5) zbX11_nth_1 rfl) (zby_at (j := 6) zbX11_nth_1 rfl) (zby_at (j := 7) zbX11_nth_1 rfl) rfl
theorem dX11_nth_24 : decode cX11_nth 24 = .ok (.bipush (-2), 2) := dq_16 (zby_at (j := 8) zbX11_nth_1 rfl) (zby_at (j := 9) zbX11_nth_1 rfl) rfl
theorem dX11_nth_26 : decode cX11_nth 26 = .ok (.ireturn, 1) := dq_172 (zby_at (j := 10) zbX11_nth_1 rfl)
theorem zbX11_rank_0 : zby cX11_rank 0 20 = [42, 27, 182, 0, 135, 153, 0, 11, 42, 28, 182, 0, 154, 154, 0, 6, 16, 254, 172, 42] := by decide +kernel
theorem dX11_rank_0 : decode cX11_rank 0 = .ok (.aload_n 0, 1) := dq_42 (zby_at (j := 0) zbX11_rank_0 rfl)
theorem dX11_rank_1 : decode cX11_rank 1 = .ok (.iload_n 1, 1) := dq_27 (zby_at (j := 1) zbX11_rank_0 rfl)
theorem dX11_rank_2 : decode cX11_rank 2 = .ok (.invokevirtual 135, 3) := dq_182 (zby_at (j := 2) zbX11_rank_0 rfl) (zby_at (j := 3) zbX11_rank_0 rfl) (zby_at (j := 4) zbX11_rank_0 rfl)
theorem dX11_rank_5 : decode cX11_rank 5 = .ok (.ifCond .eq 11, 3) := dq_153 (zby_at (j := 5) zbX11_rank_0 rfl) (zby_at (j := 6) zbX11_rank_0 rfl) (zby_at (j := 7) zbX11_rank_0 rfl) rfl
theorem dX11_rank_8 : decode cX11_rank 8 = .ok (.aload_n 0, 1) := dq_42 (zby_at (j := 8) zbX11_rank_0 rfl)
theorem dX11_rank_9 : decode cX11_rank 9 = .ok (.iload_n 2, 1) := dq_28 (zby_at (j := 9) zbX11_rank_0 rfl)
theorem dX11_rank_10 : decode cX11_rank 10 = .ok (.invokevirtual 154, 3) := dq_182 (zby_at (j := 10) zbX11_rank_0 rfl) (zby_at (j := 11) zbX11_rank_0 rfl) (zby_at (j := 12) zbX11_rank_0 rfl)
theorem dX11_rank_13 : decode cX11_rank 13 = .ok (.ifCond .ne 6, 3) := dq_154 (zby_at (j := 13) zbX11_rank_0 rfl) (zby_at (j := 14) zbX11_rank_0 rfl) (zby_at (j := 15) zbX11_rank_0 rfl) rfl
theorem zbX11_rank_1 : zby cX11_rank 16 20 = [16, 254, 172, 42, 180, 0, 26, 180, 0, 146, 27, 50, 28, 182, 0, 201, 172] := by decide +kernel
theorem dX11_rank_16 : decode cX11_rank 16 = .ok (.bipush (-2), 2) := dq_16 (zby_at (j := 0) zbX11_rank_1 rfl) (zby_at (j := 1) zbX11_rank_1 rfl) rfl
theorem dX11_rank_18 : decode cX11_rank 18 = .ok (.ireturn, 1) := dq_172 (zby_at (j := 2) zbX11_rank_1 rfl)
theorem dX11_rank_19 : decode cX11_rank 19 = .ok (.aload_n 0, 1) := dq_42 (zby_at (j := 3) zbX11_rank_1 rfl)
theorem dX11_rank_20 : decode cX11_rank 20 = .ok (.getfield 26, 3) := dq_180 (zby_at (j := 4) zbX11_rank_1 rfl) (zby_at (j := 5) zbX11_rank_1 rfl) (zby_at (j := 6) zbX11_rank_1 rfl)
theorem dX11_rank_23 : decode cX11_rank 23 = .ok (.getfield 146, 3) := dq_180 (zby_at (j := 7) zbX11_rank_1 rfl) (zby_at (j := 8) zbX11_rank_1 rfl) (zby_at (j := 9) zbX11_rank_1 rfl)
theorem dX11_rank_26 : decode cX11_rank 26 = .ok (.iload_n 1, 1) := dq_27 (zby_at (j := 10) zbX11_rank_1 rfl)
theorem dX11_rank_27 : decode cX11_rank 27 = .ok (.aaload, 1) := dq_50 (zby_at (j := 11) zbX11_rank_1 rfl)
theorem dX11_rank_28 : decode cX11_rank 28 = .ok (.iload_n 2, 1) := dq_28 (zby_at (j := 12) zbX11_rank_1 rfl)
theorem dX11_rank_29 : decode cX11_rank 29 = .ok (.invokevirtual 201, 3) := dq_182 (zby_at (j := 13) zbX11_rank_1 rfl) (zby_at (j := 14) zbX11_rank_1 rfl) (zby_at (j := 15) zbX11_rank_1 rfl)
theorem zbX11_rank_2 : zby cX11_rank 32 20 = [172] := by decide +kernel
theorem dX11_rank_32 : decode cX11_rank 32 = .ok (.ireturn, 1) := dq_172 (zby_at (j := 0) zbX11_rank_2 rfl)
theorem zbX11_light_0 : zby cX11_light 0 20 = [42, 27, 182, 0, 135, 153, 0, 27, 42, 180, 0, 71, 42, 180, 0, 26, 42, 180, 0, 26] := by decide +kernel
theorem dX11_light_0 : decode cX11_light 0 = .ok (.aload_n 0, 1) := dq_42 (zby_at (j := 0) zbX11_light_0 rfl)
theorem dX11_light_1 : decode cX11_light 1 = .ok (.iload_n 1, 1) := dq_27 (zby_at (j := 1) zbX11_light_0 rfl)
theorem dX11_light_2 : decode cX11_light 2 = .ok (.invokevirtual 135, 3) := dq_182 (zby_at (j := 2) zbX11_light_0 rfl) (zby_at (j := 3) zbX11_light_0 rfl) (zby_at (j := 4) zbX11_light_0 rfl)
theorem dX11_light_5 : decode cX11_light 5 = .ok (.ifCond .eq 27, 3) := dq_153 (zby_at (j := 5) zbX11_light_0 rfl) (zby_at (j := 6) zbX11_light_0 rfl) (zby_at (j := 7) zbX11_light_0 rfl) rfl
theorem dX11_light_8 : decode cX11_light 8 = .ok (.aload_n 0, 1) := dq_42 (zby_at (j := 8) zbX11_light_0 rfl)
theorem dX11_light_9 : decode cX11_light 9 = .ok (.getfield 71, 3) := dq_180 (zby_at (j := 9) zbX11_light_0 rfl) (zby_at (j := 10) zbX11_light_0 rfl) (zby_at (j := 11) zbX11_light_0 rfl)
theorem dX11_light_12 : decode cX11_light 12 = .ok (.aload_n 0, 1) := dq_42 (zby_at (j := 12) zbX11_light_0 rfl)
theorem dX11_light_13 : decode cX11_light 13 = .ok (.getfield 26, 3) := dq_180 (zby_at (j := 13) zbX11_light_0 rfl) (zby_at (j := 14) zbX11_light_0 rfl) (zby_at (j := 15) zbX11_light_0 rfl)
theorem zbX11_light_1 : zby cX11_light 16 20 = [42, 180, 0, 26, 180, 0, 146, 27, 50, 28, 182, 0, 204, 167, 0, 5, 16, 254, 172] := by decide +kernel
theorem dX11_light_16 : decode cX11_light 16 = .ok (.aload_n 0, 1) := dq_42 (zby_at (j := 0) zbX11_light_1 rfl)
theorem dX11_light_17 : decode cX11_light 17 = .ok (.getfield 26, 3) := dq_180 (zby_at (j := 1) zbX11_light_1 rfl) (zby_at (j := 2) zbX11_light_1 rfl) (zby_at (j := 3) zbX11_light_1 rfl)
theorem dX11_light_20 : decode cX11_light 20 = .ok (.getfield 146, 3) := dq_180 (zby_at (j := 4) zbX11_light_1 rfl) (zby_at (j := 5) zbX11_light_1 rfl) (zby_at (j := 6) zbX11_light_1 rfl)
theorem dX11_light_23 : decode cX11_light 23 = .ok (.iload_n 1, 1) := dq_27 (zby_at (j := 7) zbX11_light_1 rfl)
theorem dX11_light_24 : decode cX11_light 24 = .ok (.aaload, 1) := dq_50 (zby_at (j := 8) zbX11_light_1 rfl)
theorem dX11_light_25 : decode cX11_light 25 = .ok (.iload_n 2, 1) := dq_28 (zby_at (j := 9) zbX11_light_1 rfl)
theorem dX11_light_26 : decode cX11_light 26 = .ok (.invokevirtual 204, 3) := dq_182 (zby_at (j := 10) zbX11_light_1 rfl) (zby_at (j := 11) zbX11_light_1 rfl) (zby_at (j := 12) zbX11_light_1 rfl)
theorem dX11_light_29 : decode cX11_light 29 = .ok (.goto 5, 3) := dq_167 (zby_at (j := 13) zbX11_light_1 rfl) (zby_at (j := 14) zbX11_light_1 rfl) (zby_at (j := 15) zbX11_light_1 rfl) rfl
theorem zbX11_light_2 : zby cX11_light 32 20 = [16, 254, 172] := by decide +kernel
theorem dX11_light_32 : decode cX11_light 32 = .ok (.bipush (-2), 2) := dq_16 (zby_at (j := 0) zbX11_light_2 rfl) (zby_at (j := 1) zbX11_light_2 rfl) rfl
theorem dX11_light_34 : decode cX11_light 34 = .ok (.ireturn, 1) := dq_172 (zby_at (j := 2) zbX11_light_2 rfl)
theorem zbX11_weight_0 : zby cX11_weight 0 20 = [42, 27, 182, 0, 154, 153, 0, 14, 42, 180, 0, 26, 27, 182, 0, 207, 167, 0, 5, 16] := by decide +kernel
theorem dX11_weight_0 : decode cX11_weight 0 = .ok (.aload_n 0, 1) := dq_42 (zby_at (j := 0) zbX11_weight_0 rfl)
theorem dX11_weight_1 : decode cX11_weight 1 = .ok (.iload_n 1, 1) := dq_27 (zby_at (j := 1) zbX11_weight_0 rfl)
theorem dX11_weight_2 : decode cX11_weight 2 = .ok (.invokevirtual 154, 3) := dq_182 (zby_at (j := 2) zbX11_weight_0 rfl) (zby_at (j := 3) zbX11_weight_0 rfl) (zby_at (j := 4) zbX11_weight_0 rfl)
theorem dX11_weight_5 : decode cX11_weight 5 = .ok (.ifCond .eq 14, 3) := dq_153 (zby_at (j := 5) zbX11_weight_0 rfl) (zby_at (j := 6) zbX11_weight_0 rfl) (zby_at (j := 7) zbX11_weight_0 rfl) rfl
theorem dX11_weight_8 : decode cX11_weight 8 = .ok (.aload_n 0, 1) := dq_42 (zby_at (j := 8) zbX11_weight_0 rfl)
theorem dX11_weight_9 : decode cX11_weight 9 = .ok (.getfield 26, 3) := dq_180 (zby_at (j := 9) zbX11_weight_0 rfl) (zby_at (j := 10) zbX11_weight_0 rfl) (zby_at (j := 11) zbX11_weight_0 rfl)
theorem dX11_weight_12 : decode cX11_weight 12 = .ok (.iload_n 1, 1) := dq_27 (zby_at (j := 12) zbX11_weight_0 rfl)
theorem dX11_weight_13 : decode cX11_weight 13 = .ok (.invokevirtual 207, 3) := dq_182 (zby_at (j := 13) zbX11_weight_0 rfl) (zby_at (j := 14) zbX11_weight_0 rfl) (zby_at (j := 15) zbX11_weight_0 rfl)
theorem zbX11_weight_1 : zby cX11_weight 16 20 = [167, 0, 5, 16, 254, 172] := by decide +kernel
theorem dX11_weight_16 : decode cX11_weight 16 = .ok (.goto 5, 3) := dq_167 (zby_at (j := 0) zbX11_weight_1 rfl) (zby_at (j := 1) zbX11_weight_1 rfl) (zby_at (j := 2) zbX11_weight_1 rfl) rfl
theorem dX11_weight_19 : decode cX11_weight 19 = .ok (.bipush (-2), 2) := dq_16 (zby_at (j := 3) zbX11_weight_1 rfl) (zby_at (j := 4) zbX11_weight_1 rfl) rfl
theorem dX11_weight_21 : decode cX11_weight 21 = .ok (.ireturn, 1) := dq_172 (zby_at (j := 5) zbX11_weight_1 rfl)
theorem zbX11_weigh_0 : zby cX11_weigh 0 20 = [42, 27, 182, 0, 183, 153, 0, 13, 28, 155, 0, 9, 28, 16, 99, 164, 0, 6, 16, 254] := by decide +kernel
theorem dX11_weigh_0 : decode cX11_weigh 0 = .ok (.aload_n 0, 1) := dq_42 (zby_at (j := 0) zbX11_weigh_0 rfl)
theorem dX11_weigh_1 : decode cX11_weigh 1 = .ok (.iload_n 1, 1) := dq_27 (zby_at (j := 1) zbX11_weigh_0 rfl)
theorem dX11_weigh_2 : decode cX11_weigh 2 = .ok (.invokevirtual 183, 3) := dq_182 (zby_at (j := 2) zbX11_weigh_0 rfl) (zby_at (j := 3) zbX11_weigh_0 rfl) (zby_at (j := 4) zbX11_weigh_0 rfl)
theorem dX11_weigh_5 : decode cX11_weigh 5 = .ok (.ifCond .eq 13, 3) := dq_153 (zby_at (j := 5) zbX11_weigh_0 rfl) (zby_at (j := 6) zbX11_weigh_0 rfl) (zby_at (j := 7) zbX11_weigh_0 rfl) rfl
theorem dX11_weigh_8 : decode cX11_weigh 8 = .ok (.iload_n 2, 1) := dq_28 (zby_at (j := 8) zbX11_weigh_0 rfl)
theorem dX11_weigh_9 : decode cX11_weigh 9 = .ok (.ifCond .lt 9, 3) := dq_155 (zby_at (j := 9) zbX11_weigh_0 rfl) (zby_at (j := 10) zbX11_weigh_0 rfl) (zby_at (j := 11) zbX11_weigh_0 rfl) rfl
theorem dX11_weigh_12 : decode cX11_weigh 12 = .ok (.iload_n 2, 1) := dq_28 (zby_at (j := 12) zbX11_weigh_0 rfl)
theorem dX11_weigh_13 : decode cX11_weigh 13 = .ok (.bipush 99, 2) := dq_16 (zby_at (j := 13) zbX11_weigh_0 rfl) (zby_at (j := 14) zbX11_weigh_0 rfl) rfl
theorem dX11_weigh_15 : decode cX11_weigh 15 = .ok (.if_icmp .le 6, 3) := dq_164 (zby_at (j := 15) zbX11_weigh_0 rfl) (zby_at (j := 16) zbX11_weigh_0 rfl) (zby_at (j := 17) zbX11_weigh_0 rfl) rfl
theorem zbX11_weigh_1 : zby cX11_weigh 16 20 = [0, 6, 16, 254, 172, 42, 180, 0, 26, 180, 0, 210, 27, 46, 62, 42, 180, 0, 26, 180] := by decide +kernel
theorem dX11_weigh_18 : decode cX11_weigh 18 = .ok (.bipush (-2), 2) := dq_16 (zby_at (j := 2) zbX11_weigh_1 rfl) (zby_at (j := 3) zbX11_weigh_1 rfl) rfl
theorem dX11_weigh_20 : decode cX11_weigh 20 = .ok (.ireturn, 1) := dq_172 (zby_at (j := 4) zbX11_weigh_1 rfl)
theorem dX11_weigh_21 : decode cX11_weigh 21 = .ok (.aload_n 0, 1) := dq_42 (zby_at (j := 5) zbX11_weigh_1 rfl)
theorem dX11_weigh_22 : decode cX11_weigh 22 = .ok (.getfield 26, 3) := dq_180 (zby_at (j := 6) zbX11_weigh_1 rfl) (zby_at (j := 7) zbX11_weigh_1 rfl) (zby_at (j := 8) zbX11_weigh_1 rfl)
theorem dX11_weigh_25 : decode cX11_weigh 25 = .ok (.getfield 210, 3) := dq_180 (zby_at (j := 9) zbX11_weigh_1 rfl) (zby_at (j := 10) zbX11_weigh_1 rfl) (zby_at (j := 11) zbX11_weigh_1 rfl)
theorem dX11_weigh_28 : decode cX11_weigh 28 = .ok (.iload_n 1, 1) := dq_27 (zby_at (j := 12) zbX11_weigh_1 rfl)
theorem dX11_weigh_29 : decode cX11_weigh 29 = .ok (.iaload, 1) := dq_46 (zby_at (j := 13) zbX11_weigh_1 rfl)
theorem dX11_weigh_30 : decode cX11_weigh 30 = .ok (.istore_n 3, 1) := dq_62 (zby_at (j := 14) zbX11_weigh_1 rfl)
theorem dX11_weigh_31 : decode cX11_weigh 31 = .ok (.aload_n 0, 1) := dq_42 (zby_at (j := 15) zbX11_weigh_1 rfl)
theorem zbX11_weigh_2 : zby cX11_weigh 32 20 = [180, 0, 26, 180, 0, 210, 27, 28, 79, 29, 172] := by decide +kernel
theorem dX11_weigh_32 : decode cX11_weigh 32 = .ok (.getfield 26, 3) := dq_180 (zby_at (j := 0) zbX11_weigh_2 rfl) (zby_at (j := 1) zbX11_weigh_2 rfl) (zby_at (j := 2) zbX11_weigh_2 rfl)
theorem dX11_weigh_35 : decode cX11_weigh 35 = .ok (.getfield 210, 3) := dq_180 (zby_at (j := 3) zbX11_weigh_2 rfl) (zby_at (j := 4) zbX11_weigh_2 rfl) (zby_at (j := 5) zbX11_weigh_2 rfl)
theorem dX11_weigh_38 : decode cX11_weigh 38 = .ok (.iload_n 1, 1) := dq_27 (zby_at (j := 6) zbX11_weigh_2 rfl)
theorem dX11_weigh_39 : decode cX11_weigh 39 = .ok (.iload_n 2, 1) := dq_28 (zby_at (j := 7) zbX11_weigh_2 rfl)
theorem dX11_weigh_40 : decode cX11_weigh 40 = .ok (.iastore, 1) := dq_79 (zby_at (j := 8) zbX11_weigh_2 rfl)
theorem dX11_weigh_41 : decode cX11_weigh 41 = .ok (.iload_n 3, 1) := dq_29 (zby_at (j := 9) zbX11_weigh_2 rfl)
theorem dX11_weigh_42 : decode cX11_weigh 42 = .ok (.ireturn, 1) := dq_172 (zby_at (j := 10) zbX11_weigh_2 rfl)
theorem zbX11_weighs_0 : zby cX11_weighs 0 20 = [42, 27, 182, 0, 135, 153, 0, 12, 28, 155, 0, 8, 28, 5, 164, 0, 6, 16, 254, 172] := by decide +kernel
theorem dX11_weighs_0 : decode cX11_weighs 0 = .ok (.aload_n 0, 1) := dq_42 (zby_at (j := 0) zbX11_weighs_0 rfl)
theorem dX11_weighs_1 : decode cX11_weighs 1 = .ok (.iload_n 1, 1) := dq_27 (zby_at (j := 1) zbX11_weighs_0 rfl)
theorem dX11_weighs_2 : decode cX11_weighs 2 = .ok (.invokevirtual 135, 3) := dq_182 (zby_at (j := 2) zbX11_weighs_0 rfl) (zby_at (j := 3) zbX11_weighs_0 rfl) (zby_at (j := 4) zbX11_weighs_0 rfl)
theorem dX11_weighs_5 : decode cX11_weighs 5 = .ok (.ifCond .eq 12, 3) := dq_153 (zby_at (j := 5) zbX11_weighs_0 rfl) (zby_at (j := 6) zbX11_weighs_0 rfl) (zby_at (j := 7) zbX11_weighs_0 rfl) rfl
theorem dX11_weighs_8 : decode cX11_weighs 8 = .ok (.iload_n 2, 1) := dq_28 (zby_at (j := 8) zbX11_weighs_0 rfl)
theorem dX11_weighs_9 : decode cX11_weighs 9 = .ok (.ifCond .lt 8, 3) := dq_155 (zby_at (j := 9) zbX11_weighs_0 rfl) (zby_at (j := 10) zbX11_weighs_0 rfl) (zby_at (j := 11) zbX11_weighs_0 rfl) rfl
theorem dX11_weighs_12 : decode cX11_weighs 12 = .ok (.iload_n 2, 1) := dq_28 (zby_at (j := 12) zbX11_weighs_0 rfl)
theorem dX11_weighs_13 : decode cX11_weighs 13 = .ok (.iconst 2, 1) := dq_5 (zby_at (j := 13) zbX11_weighs_0 rfl)
theorem dX11_weighs_14 : decode cX11_weighs 14 = .ok (.if_icmp .le 6, 3) := dq_164 (zby_at (j := 14) zbX11_weighs_0 rfl) (zby_at (j := 15) zbX11_weighs_0 rfl) (zby_at (j := 16) zbX11_weighs_0 rfl) rfl
theorem zbX11_weighs_1 : zby cX11_weighs 16 20 = [6, 16, 254, 172, 42, 180, 0, 71, 42, 180, 0, 26, 42, 180, 0, 26, 180, 0, 146, 27] := by decide +kernel
theorem dX11_weighs_17 : decode cX11_weighs 17 = .ok (.bipush (-2), 2) := dq_16 (zby_at (j := 1) zbX11_weighs_1 rfl) (zby_at (j := 2) zbX11_weighs_1 rfl) rfl
theorem dX11_weighs_19 : decode cX11_weighs 19 = .ok (.ireturn, 1) := dq_172 (zby_at (j := 3) zbX11_weighs_1 rfl)
theorem dX11_weighs_20 : decode cX11_weighs 20 = .ok (.aload_n 0, 1) := dq_42 (zby_at (j := 4) zbX11_weighs_1 rfl)
theorem dX11_weighs_21 : decode cX11_weighs 21 = .ok (.getfield 71, 3) := dq_180 (zby_at (j := 5) zbX11_weighs_1 rfl) (zby_at (j := 6) zbX11_weighs_1 rfl) (zby_at (j := 7) zbX11_weighs_1 rfl)
theorem dX11_weighs_24 : decode cX11_weighs 24 = .ok (.aload_n 0, 1) := dq_42 (zby_at (j := 8) zbX11_weighs_1 rfl)
theorem dX11_weighs_25 : decode cX11_weighs 25 = .ok (.getfield 26, 3) := dq_180 (zby_at (j := 9) zbX11_weighs_1 rfl) (zby_at (j := 10) zbX11_weighs_1 rfl) (zby_at (j := 11) zbX11_weighs_1 rfl)
theorem dX11_weighs_28 : decode cX11_weighs 28 = .ok (.aload_n 0, 1) := dq_42 (zby_at (j := 12) zbX11_weighs_1 rfl)
theorem dX11_weighs_29 : decode cX11_weighs 29 = .ok (.getfield 26, 3) := dq_180 (zby_at (j := 13) zbX11_weighs_1 rfl) (zby_at (j := 14) zbX11_weighs_1 rfl) (zby_at (j := 15) zbX11_weighs_1 rfl)
theorem zbX11_weighs_2 : zby cX11_weighs 32 20 = [180, 0, 146, 27, 50, 28, 182, 0, 214, 172] := by decide +kernel
theorem dX11_weighs_32 : decode cX11_weighs 32 = .ok (.getfield 146, 3) := dq_180 (zby_at (j := 0) zbX11_weighs_2 rfl) (zby_at (j := 1) zbX11_weighs_2 rfl) (zby_at (j := 2) zbX11_weighs_2 rfl)
theorem dX11_weighs_35 : decode cX11_weighs 35 = .ok (.iload_n 1, 1) := dq_27 (zby_at (j := 3) zbX11_weighs_2 rfl)
theorem dX11_weighs_36 : decode cX11_weighs 36 = .ok (.aaload, 1) := dq_50 (zby_at (j := 4) zbX11_weighs_2 rfl)
theorem dX11_weighs_37 : decode cX11_weighs 37 = .ok (.iload_n 2, 1) := dq_28 (zby_at (j := 5) zbX11_weighs_2 rfl)
theorem dX11_weighs_38 : decode cX11_weighs 38 = .ok (.invokevirtual 214, 3) := dq_182 (zby_at (j := 6) zbX11_weighs_2 rfl) (zby_at (j := 7) zbX11_weighs_2 rfl) (zby_at (j := 8) zbX11_weighs_2 rfl)
theorem dX11_weighs_41 : decode cX11_weighs 41 = .ok (.ireturn, 1) := dq_172 (zby_at (j := 9) zbX11_weighs_2 rfl)
theorem zbX11_each_0 : zby cX11_each 0 20 = [42, 27, 182, 0, 135, 153, 0, 11, 42, 28, 182, 0, 183, 154, 0, 6, 16, 254, 172, 42] := by decide +kernel
theorem dX11_each_0 : decode cX11_each 0 = .ok (.aload_n 0, 1) := dq_42 (zby_at (j := 0) zbX11_each_0 rfl)
theorem dX11_each_1 : decode cX11_each 1 = .ok (.iload_n 1, 1) := dq_27 (zby_at (j := 1) zbX11_each_0 rfl)
theorem dX11_each_2 : decode cX11_each 2 = .ok (.invokevirtual 135, 3) := dq_182 (zby_at (j := 2) zbX11_each_0 rfl) (zby_at (j := 3) zbX11_each_0 rfl) (zby_at (j := 4) zbX11_each_0 rfl)
theorem dX11_each_5 : decode cX11_each 5 = .ok (.ifCond .eq 11, 3) := dq_153 (zby_at (j := 5) zbX11_each_0 rfl) (zby_at (j := 6) zbX11_each_0 rfl) (zby_at (j := 7) zbX11_each_0 rfl) rfl
theorem dX11_each_8 : decode cX11_each 8 = .ok (.aload_n 0, 1) := dq_42 (zby_at (j := 8) zbX11_each_0 rfl)
theorem dX11_each_9 : decode cX11_each 9 = .ok (.iload_n 2, 1) := dq_28 (zby_at (j := 9) zbX11_each_0 rfl)
theorem dX11_each_10 : decode cX11_each 10 = .ok (.invokevirtual 183, 3) := dq_182 (zby_at (j := 10) zbX11_each_0 rfl) (zby_at (j := 11) zbX11_each_0 rfl) (zby_at (j := 12) zbX11_each_0 rfl)
theorem dX11_each_13 : decode cX11_each 13 = .ok (.ifCond .ne 6, 3) := dq_154 (zby_at (j := 13) zbX11_each_0 rfl) (zby_at (j := 14) zbX11_each_0 rfl) (zby_at (j := 15) zbX11_each_0 rfl) rfl
theorem zbX11_each_1 : zby cX11_each 16 20 = [16, 254, 172, 42, 180, 0, 106, 42, 180, 0, 26, 180, 0, 146, 27, 50, 182, 0, 160, 42] := by decide +kernel
theorem dX11_each_16 : decode cX11_each 16 = .ok (.bipush (-2), 2) := dq_16 (zby_at (j := 0) zbX11_each_1 rfl) (zby_at (j := 1) zbX11_each_1 rfl) rfl
theorem dX11_each_18 : decode cX11_each 18 = .ok (.ireturn, 1) := dq_172 (zby_at (j := 2) zbX11_each_1 rfl)
theorem dX11_each_19 : decode cX11_each 19 = .ok (.aload_n 0, 1) := dq_42 (zby_at (j := 3) zbX11_each_1 rfl)
theorem dX11_each_20 : decode cX11_each 20 = .ok (.getfield 106, 3) := dq_180 (zby_at (j := 4) zbX11_each_1 rfl) (zby_at (j := 5) zbX11_each_1 rfl) (zby_at (j := 6) zbX11_each_1 rfl)
theorem dX11_each_23 : decode cX11_each 23 = .ok (.aload_n 0, 1) := dq_42 (zby_at (j := 7) zbX11_each_1 rfl)
theorem dX11_each_24 : decode cX11_each 24 = .ok (.getfield 26, 3) := dq_180 (zby_at (j := 8) zbX11_each_1 rfl) (zby_at (j := 9) zbX11_each_1 rfl) (zby_at (j := 10) zbX11_each_1 rfl)
theorem dX11_each_27 : decode cX11_each 27 = .ok (.getfield 146, 3) := dq_180 (zby_at (j := 11) zbX11_each_1 rfl) (zby_at (j := 12) zbX11_each_1 rfl) (zby_at (j := 13) zbX11_each_1 rfl)
theorem dX11_each_30 : decode cX11_each 30 = .ok (.iload_n 1, 1) := dq_27 (zby_at (j := 14) zbX11_each_1 rfl)
theorem dX11_each_31 : decode cX11_each 31 = .ok (.aaload, 1) := dq_50 (zby_at (j := 15) zbX11_each_1 rfl)
theorem zbX11_each_2 : zby cX11_each 32 20 = [182, 0, 160, 42, 180, 0, 106, 28, 182, 0, 189, 42, 180, 0, 26, 180, 0, 146, 27, 50] := by decide +kernel
theorem dX11_each_32 : decode cX11_each 32 = .ok (.invokevirtual 160, 3) := dq_182 (zby_at (j := 0) zbX11_each_2 rfl) (zby_at (j := 1) zbX11_each_2 rfl) (zby_at (j := 2) zbX11_each_2 rfl)
theorem dX11_each_35 : decode cX11_each 35 = .ok (.aload_n 0, 1) := dq_42 (zby_at (j := 3) zbX11_each_2 rfl)
theorem dX11_each_36 : decode cX11_each 36 = .ok (.getfield 106, 3) := dq_180 (zby_at (j := 4) zbX11_each_2 rfl) (zby_at (j := 5) zbX11_each_2 rfl) (zby_at (j := 6) zbX11_each_2 rfl)
theorem dX11_each_39 : decode cX11_each 39 = .ok (.iload_n 2, 1) := dq_28 (zby_at (j := 7) zbX11_each_2 rfl)
theorem dX11_each_40 : decode cX11_each 40 = .ok (.invokevirtual 189, 3) := dq_182 (zby_at (j := 8) zbX11_each_2 rfl) (zby_at (j := 9) zbX11_each_2 rfl) (zby_at (j := 10) zbX11_each_2 rfl)
theorem dX11_each_43 : decode cX11_each 43 = .ok (.aload_n 0, 1) := dq_42 (zby_at (j := 11) zbX11_each_2 rfl)
theorem dX11_each_44 : decode cX11_each 44 = .ok (.getfield 26, 3) := dq_180 (zby_at (j := 12) zbX11_each_2 rfl) (zby_at (j := 13) zbX11_each_2 rfl) (zby_at (j := 14) zbX11_each_2 rfl)
theorem dX11_each_47 : decode cX11_each 47 = .ok (.getfield 146, 3) := dq_180 (zby_at (j := 15) zbX11_each_2 rfl) (zby_at (j := 16) zbX11_each_2 rfl) (zby_at (j := 17) zbX11_each_2 rfl)
theorem zbX11_each_3 : zby cX11_each 48 20 = [0, 146, 27, 50, 182, 0, 150, 42, 180, 0, 106, 182, 0, 150, 100, 172] := by decide +kernel
theorem dX11_each_50 : decode cX11_each 50 = .ok (.iload_n 1, 1) := dq_27 (zby_at (j := 2) zbX11_each_3 rfl)
theorem dX11_each_51 : decode cX11_each 51 = .ok (.aaload, 1) := dq_50 (zby_at (j := 3) zbX11_each_3 rfl)
theorem dX11_each_52 : decode cX11_each 52 = .ok (.invokevirtual 150, 3) := dq_182 (zby_at (j := 4) zbX11_each_3 rfl) (zby_at (j := 5) zbX11_each_3 rfl) (zby_at (j := 6) zbX11_each_3 rfl)
theorem dX11_each_55 : decode cX11_each 55 = .ok (.aload_n 0, 1) := dq_42 (zby_at (j := 7) zbX11_each_3 rfl)
theorem dX11_each_56 : decode cX11_each 56 = .ok (.getfield 106, 3) := dq_180 (zby_at (j := 8) zbX11_each_3 rfl) (zby_at (j := 9) zbX11_each_3 rfl) (zby_at (j := 10) zbX11_each_3 rfl)
theorem dX11_each_59 : decode cX11_each 59 = .ok (.invokevirtual 150, 3) := dq_182 (zby_at (j := 11) zbX11_each_3 rfl) (zby_at (j := 12) zbX11_each_3 rfl) (zby_at (j := 13) zbX11_each_3 rfl)
theorem dX11_each_62 : decode cX11_each 62 = .ok (.isub, 1) := dq_100 (zby_at (j := 14) zbX11_each_3 rfl)
theorem dX11_each_63 : decode cX11_each 63 = .ok (.ireturn, 1) := dq_172 (zby_at (j := 15) zbX11_each_3 rfl)
theorem zbX11_names_0 : zby cX11_names 0 20 = [42, 27, 182, 0, 135, 153, 0, 12, 28, 155, 0, 8, 28, 5, 164, 0, 6, 16, 254, 172] := by decide +kernel
theorem dX11_names_0 : decode cX11_names 0 = .ok (.aload_n 0, 1) := dq_42 (zby_at (j := 0) zbX11_names_0 rfl)
theorem dX11_names_1 : decode cX11_names 1 = .ok (.iload_n 1, 1) := dq_27 (zby_at (j := 1) zbX11_names_0 rfl)
theorem dX11_names_2 : decode cX11_names 2 = .ok (.invokevirtual 135, 3) := dq_182 (zby_at (j := 2) zbX11_names_0 rfl) (zby_at (j := 3) zbX11_names_0 rfl) (zby_at (j := 4) zbX11_names_0 rfl)
theorem dX11_names_5 : decode cX11_names 5 = .ok (.ifCond .eq 12, 3) := dq_153 (zby_at (j := 5) zbX11_names_0 rfl) (zby_at (j := 6) zbX11_names_0 rfl) (zby_at (j := 7) zbX11_names_0 rfl) rfl
theorem dX11_names_8 : decode cX11_names 8 = .ok (.iload_n 2, 1) := dq_28 (zby_at (j := 8) zbX11_names_0 rfl)
theorem dX11_names_9 : decode cX11_names 9 = .ok (.ifCond .lt 8, 3) := dq_155 (zby_at (j := 9) zbX11_names_0 rfl) (zby_at (j := 10) zbX11_names_0 rfl) (zby_at (j := 11) zbX11_names_0 rfl) rfl
theorem dX11_names_12 : decode cX11_names 12 = .ok (.iload_n 2, 1) := dq_28 (zby_at (j := 12) zbX11_names_0 rfl)
theorem dX11_names_13 : decode cX11_names 13 = .ok (.iconst 2, 1) := dq_5 (zby_at (j := 13) zbX11_names_0 rfl)
theorem dX11_names_14 : decode cX11_names 14 = .ok (.if_icmp .le 6, 3) := dq_164 (zby_at (j := 14) zbX11_names_0 rfl) (zby_at (j := 15) zbX11_names_0 rfl) (zby_at (j := 16) zbX11_names_0 rfl) rfl
theorem zbX11_names_1 : zby cX11_names 16 20 = [6, 16, 254, 172, 42, 180, 0, 26, 180, 0, 146, 27, 50, 78, 3, 54, 4, 3, 54, 5] := by decide +kernel
theorem dX11_names_17 : decode cX11_names 17 = .ok (.bipush (-2), 2) := dq_16 (zby_at (j := 1) zbX11_names_1 rfl) (zby_at (j := 2) zbX11_names_1 rfl) rfl
theorem dX11_names_19 : decode cX11_names 19 = .ok (.ireturn, 1) := dq_172 (zby_at (j := 3) zbX11_names_1 rfl)
theorem dX11_names_20 : decode cX11_names 20 = .ok (.aload_n 0, 1) := dq_42 (zby_at (j := 4) zbX11_names_1 rfl)
theorem dX11_names_21 : decode cX11_names 21 = .ok (.getfield 26, 3) := dq_180 (zby_at (j := 5) zbX11_names_1 rfl) (zby_at (j := 6) zbX11_names_1 rfl) (zby_at (j := 7) zbX11_names_1 rfl)
theorem dX11_names_24 : decode cX11_names 24 = .ok (.getfield 146, 3) := dq_180 (zby_at (j := 8) zbX11_names_1 rfl) (zby_at (j := 9) zbX11_names_1 rfl) (zby_at (j := 10) zbX11_names_1 rfl)
theorem dX11_names_27 : decode cX11_names 27 = .ok (.iload_n 1, 1) := dq_27 (zby_at (j := 11) zbX11_names_1 rfl)
theorem dX11_names_28 : decode cX11_names 28 = .ok (.aaload, 1) := dq_50 (zby_at (j := 12) zbX11_names_1 rfl)
theorem dX11_names_29 : decode cX11_names 29 = .ok (.astore_n 3, 1) := dq_78 (zby_at (j := 13) zbX11_names_1 rfl)
theorem dX11_names_30 : decode cX11_names 30 = .ok (.iconst 0, 1) := dq_3 (zby_at (j := 14) zbX11_names_1 rfl)
theorem dX11_names_31 : decode cX11_names 31 = .ok (.istore 4, 2) := dq_54 (zby_at (j := 15) zbX11_names_1 rfl) (zby_at (j := 16) zbX11_names_1 rfl)
theorem zbX11_names_2 : zby cX11_names 32 20 = [4, 3, 54, 5, 21, 5, 42, 180, 0, 26, 180, 0, 139, 162, 0, 29, 42, 45, 21, 5] := by decide +kernel
theorem dX11_names_33 : decode cX11_names 33 = .ok (.iconst 0, 1) := dq_3 (zby_at (j := 1) zbX11_names_2 rfl)
theorem dX11_names_34 : decode cX11_names 34 = .ok (.istore 5, 2) := dq_54 (zby_at (j := 2) zbX11_names_2 rfl) (zby_at (j := 3) zbX11_names_2 rfl)
theorem dX11_names_36 : decode cX11_names 36 = .ok (.iload 5, 2) := dq_21 (zby_at (j := 4) zbX11_names_2 rfl) (zby_at (j := 5) zbX11_names_2 rfl)
theorem dX11_names_38 : decode cX11_names 38 = .ok (.aload_n 0, 1) := dq_42 (zby_at (j := 6) zbX11_names_2 rfl)
theorem dX11_names_39 : decode cX11_names 39 = .ok (.getfield 26, 3) := dq_180 (zby_at (j := 7) zbX11_names_2 rfl) (zby_at (j := 8) zbX11_names_2 rfl) (zby_at (j := 9) zbX11_names_2 rfl)
theorem dX11_names_42 : decode cX11_names 42 = .ok (.getfield 139, 3) := dq_180 (zby_at (j := 10) zbX11_names_2 rfl) (zby_at (j := 11) zbX11_names_2 rfl) (zby_at (j := 12) zbX11_names_2 rfl)
theorem dX11_names_45 : decode cX11_names 45 = .ok (.if_icmp .ge 29, 3) := dq_162 (zby_at (j := 13) zbX11_names_2 rfl) (zby_at (j := 14) zbX11_names_2 rfl) (zby_at (j := 15) zbX11_names_2 rfl) rfl
theorem zbX11_names_3 : zby cX11_names 48 20 = [42, 45, 21, 5, 28, 182, 0, 217, 153, 0, 12, 21, 4, 4, 21, 5, 120, 128, 54, 4] := by decide +kernel
theorem dX11_names_48 : decode cX11_names 48 = .ok (.aload_n 0, 1) := dq_42 (zby_at (j := 0) zbX11_names_3 rfl)
theorem dX11_names_49 : decode cX11_names 49 = .ok (.aload_n 3, 1) := dq_45 (zby_at (j := 1) zbX11_names_3 rfl)
theorem dX11_names_50 : decode cX11_names 50 = .ok (.iload 5, 2) := dq_21 (zby_at (j := 2) zbX11_names_3 rfl) (zby_at (j := 3) zbX11_names_3 rfl)
theorem dX11_names_52 : decode cX11_names 52 = .ok (.iload_n 2, 1) := dq_28 (zby_at (j := 4) zbX11_names_3 rfl)
theorem dX11_names_53 : decode cX11_names 53 = .ok (.invokevirtual 217, 3) := dq_182 (zby_at (j := 5) zbX11_names_3 rfl) (zby_at (j := 6) zbX11_names_3 rfl) (zby_at (j := 7) zbX11_names_3 rfl)
theorem dX11_names_56 : decode cX11_names 56 = .ok (.ifCond .eq 12, 3) := dq_153 (zby_at (j := 8) zbX11_names_3 rfl) (zby_at (j := 9) zbX11_names_3 rfl) (zby_at (j := 10) zbX11_names_3 rfl) rfl
theorem dX11_names_59 : decode cX11_names 59 = .ok (.iload 4, 2) := dq_21 (zby_at (j := 11) zbX11_names_3 rfl) (zby_at (j := 12) zbX11_names_3 rfl)
theorem dX11_names_61 : decode cX11_names 61 = .ok (.iconst 1, 1) := dq_4 (zby_at (j := 13) zbX11_names_3 rfl)
theorem dX11_names_62 : decode cX11_names 62 = .ok (.iload 5, 2) := dq_21 (zby_at (j := 14) zbX11_names_3 rfl) (zby_at (j := 15) zbX11_names_3 rfl)
theorem zbX11_names_4 : zby cX11_names 64 20 = [120, 128, 54, 4, 132, 5, 1, 167, 255, 221, 21, 4, 172] := by decide +kernel
theorem dX11_names_64 : decode cX11_names 64 = .ok (.ishl, 1) := dq_120 (zby_at (j := 0) zbX11_names_4 rfl)
theorem dX11_names_65 : decode cX11_names 65 = .ok (.ior, 1) := dq_128 (zby_at (j := 1) zbX11_names_4 rfl)
theorem dX11_names_66 : decode cX11_names 66 = .ok (.istore 4, 2) := dq_54 (zby_at (j := 2) zbX11_names_4 rfl) (zby_at (j := 3) zbX11_names_4 rfl)
theorem dX11_names_68 : decode cX11_names 68 = .ok (.iinc 5 1, 3) := dq_132 (zby_at (j := 4) zbX11_names_4 rfl) (zby_at (j := 5) zbX11_names_4 rfl) (zby_at (j := 6) zbX11_names_4 rfl) rfl
theorem dX11_names_71 : decode cX11_names 71 = .ok (.goto (-35), 3) := dq_167 (zby_at (j := 7) zbX11_names_4 rfl) (zby_at (j := 8) zbX11_names_4 rfl) (zby_at (j := 9) zbX11_names_4 rfl) rfl
theorem dX11_names_74 : decode cX11_names 74 = .ok (.iload 4, 2) := dq_21 (zby_at (j := 10) zbX11_names_4 rfl) (zby_at (j := 11) zbX11_names_4 rfl)
theorem dX11_names_76 : decode cX11_names 76 = .ok (.ireturn, 1) := dq_172 (zby_at (j := 12) zbX11_names_4 rfl)
theorem zbX11_draw_0 : zby cX11_draw 0 20 = [42, 27, 182, 0, 135, 153, 0, 13, 28, 155, 0, 9, 28, 18, 221, 164, 0, 6, 16, 254] := by decide +kernel
theorem dX11_draw_0 : decode cX11_draw 0 = .ok (.aload_n 0, 1) := dq_42 (zby_at (j := 0) zbX11_draw_0 rfl)
theorem dX11_draw_1 : decode cX11_draw 1 = .ok (.iload_n 1, 1) := dq_27 (zby_at (j := 1) zbX11_draw_0 rfl)
theorem dX11_draw_2 : decode cX11_draw 2 = .ok (.invokevirtual 135, 3) := dq_182 (zby_at (j := 2) zbX11_draw_0 rfl) (zby_at (j := 3) zbX11_draw_0 rfl) (zby_at (j := 4) zbX11_draw_0 rfl)
theorem dX11_draw_5 : decode cX11_draw 5 = .ok (.ifCond .eq 13, 3) := dq_153 (zby_at (j := 5) zbX11_draw_0 rfl) (zby_at (j := 6) zbX11_draw_0 rfl) (zby_at (j := 7) zbX11_draw_0 rfl) rfl
theorem dX11_draw_8 : decode cX11_draw 8 = .ok (.iload_n 2, 1) := dq_28 (zby_at (j := 8) zbX11_draw_0 rfl)
theorem dX11_draw_9 : decode cX11_draw 9 = .ok (.ifCond .lt 9, 3) := dq_155 (zby_at (j := 9) zbX11_draw_0 rfl) (zby_at (j := 10) zbX11_draw_0 rfl) (zby_at (j := 11) zbX11_draw_0 rfl) rfl
theorem dX11_draw_12 : decode cX11_draw 12 = .ok (.iload_n 2, 1) := dq_28 (zby_at (j := 12) zbX11_draw_0 rfl)
theorem dX11_draw_13 : decode cX11_draw 13 = .ok (.ldc 221, 2) := dq_18 (zby_at (j := 13) zbX11_draw_0 rfl) (zby_at (j := 14) zbX11_draw_0 rfl)
theorem dX11_draw_15 : decode cX11_draw 15 = .ok (.if_icmp .le 6, 3) := dq_164 (zby_at (j := 15) zbX11_draw_0 rfl) (zby_at (j := 16) zbX11_draw_0 rfl) (zby_at (j := 17) zbX11_draw_0 rfl) rfl
theorem zbX11_draw_1 : zby cX11_draw 16 20 = [0, 6, 16, 254, 172, 42, 180, 0, 26, 180, 0, 146, 27, 50, 182, 0, 150, 62, 29, 157] := by decide +kernel
theorem dX11_draw_18 : decode cX11_draw 18 = .ok (.bipush (-2), 2) := dq_16 (zby_at (j := 2) zbX11_draw_1 rfl) (zby_at (j := 3) zbX11_draw_1 rfl) rfl
theorem dX11_draw_20 : decode cX11_draw 20 = .ok (.ireturn, 1) := dq_172 (zby_at (j := 4) zbX11_draw_1 rfl)
theorem dX11_draw_21 : decode cX11_draw 21 = .ok (.aload_n 0, 1) := dq_42 (zby_at (j := 5) zbX11_draw_1 rfl)
theorem dX11_draw_22 : decode cX11_draw 22 = .ok (.getfield 26, 3) := dq_180 (zby_at (j := 6) zbX11_draw_1 rfl) (zby_at (j := 7) zbX11_draw_1 rfl) (zby_at (j := 8) zbX11_draw_1 rfl)
theorem dX11_draw_25 : decode cX11_draw 25 = .ok (.getfield 146, 3) := dq_180 (zby_at (j := 9) zbX11_draw_1 rfl) (zby_at (j := 10) zbX11_draw_1 rfl) (zby_at (j := 11) zbX11_draw_1 rfl)
theorem dX11_draw_28 : decode cX11_draw 28 = .ok (.iload_n 1, 1) := dq_27 (zby_at (j := 12) zbX11_draw_1 rfl)
theorem dX11_draw_29 : decode cX11_draw 29 = .ok (.aaload, 1) := dq_50 (zby_at (j := 13) zbX11_draw_1 rfl)
theorem dX11_draw_30 : decode cX11_draw 30 = .ok (.invokevirtual 150, 3) := dq_182 (zby_at (j := 14) zbX11_draw_1 rfl) (zby_at (j := 15) zbX11_draw_1 rfl) (zby_at (j := 16) zbX11_draw_1 rfl)
theorem zbX11_draw_2 : zby cX11_draw 32 20 = [150, 62, 29, 157, 0, 5, 2, 172, 20, 0, 222, 28, 133, 105, 20, 0, 224, 97, 20, 0] := by decide +kernel
theorem dX11_draw_33 : decode cX11_draw 33 = .ok (.istore_n 3, 1) := dq_62 (zby_at (j := 1) zbX11_draw_2 rfl)
theorem dX11_draw_34 : decode cX11_draw 34 = .ok (.iload_n 3, 1) := dq_29 (zby_at (j := 2) zbX11_draw_2 rfl)
theorem dX11_draw_35 : decode cX11_draw 35 = .ok (.ifCond .gt 5, 3) := dq_157 (zby_at (j := 3) zbX11_draw_2 rfl) (zby_at (j := 4) zbX11_draw_2 rfl) (zby_at (j := 5) zbX11_draw_2 rfl) rfl
theorem dX11_draw_38 : decode cX11_draw 38 = .ok (.iconst (-1), 1) := dq_2 (zby_at (j := 6) zbX11_draw_2 rfl)
theorem dX11_draw_39 : decode cX11_draw 39 = .ok (.ireturn, 1) := dq_172 (zby_at (j := 7) zbX11_draw_2 rfl)
theorem dX11_draw_40 : decode cX11_draw 40 = .ok (.ldc2_w 222, 3) := dq_20 (zby_at (j := 8) zbX11_draw_2 rfl) (zby_at (j := 9) zbX11_draw_2 rfl) (zby_at (j := 10) zbX11_draw_2 rfl)
theorem dX11_draw_43 : decode cX11_draw 43 = .ok (.iload_n 2, 1) := dq_28 (zby_at (j := 11) zbX11_draw_2 rfl)
theorem dX11_draw_44 : decode cX11_draw 44 = .ok (.i2l, 1) := dq_133 (zby_at (j := 12) zbX11_draw_2 rfl)
theorem dX11_draw_45 : decode cX11_draw 45 = .ok (.lmul, 1) := dq_105 (zby_at (j := 13) zbX11_draw_2 rfl)
theorem dX11_draw_46 : decode cX11_draw 46 = .ok (.ldc2_w 224, 3) := dq_20 (zby_at (j := 14) zbX11_draw_2 rfl) (zby_at (j := 15) zbX11_draw_2 rfl) (zby_at (j := 16) zbX11_draw_2 rfl)
theorem zbX11_draw_3 : zby cX11_draw 48 20 = [224, 97, 20, 0, 226, 113, 55, 4, 42, 180, 0, 26, 180, 0, 146, 27, 50, 22, 4, 20] := by decide +kernel
theorem dX11_draw_49 : decode cX11_draw 49 = .ok (.ladd, 1) := dq_97 (zby_at (j := 1) zbX11_draw_3 rfl)
theorem dX11_draw_50 : decode cX11_draw 50 = .ok (.ldc2_w 226, 3) := dq_20 (zby_at (j := 2) zbX11_draw_3 rfl) (zby_at (j := 3) zbX11_draw_3 rfl) (zby_at (j := 4) zbX11_draw_3 rfl)
theorem dX11_draw_53 : decode cX11_draw 53 = .ok (.lrem, 1) := dq_113 (zby_at (j := 5) zbX11_draw_3 rfl)
theorem dX11_draw_54 : decode cX11_draw 54 = .ok (.lstore 4, 2) := dq_55 (zby_at (j := 6) zbX11_draw_3 rfl) (zby_at (j := 7) zbX11_draw_3 rfl)
theorem dX11_draw_56 : decode cX11_draw 56 = .ok (.aload_n 0, 1) := dq_42 (zby_at (j := 8) zbX11_draw_3 rfl)
theorem dX11_draw_57 : decode cX11_draw 57 = .ok (.getfield 26, 3) := dq_180 (zby_at (j := 9) zbX11_draw_3 rfl) (zby_at (j := 10) zbX11_draw_3 rfl) (zby_at (j := 11) zbX11_draw_3 rfl)
theorem dX11_draw_60 : decode cX11_draw 60 = .ok (.getfield 146, 3) := dq_180 (zby_at (j := 12) zbX11_draw_3 rfl) (zby_at (j := 13) zbX11_draw_3 rfl) (zby_at (j := 14) zbX11_draw_3 rfl)
theorem dX11_draw_63 : decode cX11_draw 63 = .ok (.iload_n 1, 1) := dq_27 (zby_at (j := 15) zbX11_draw_3 rfl)
theorem zbX11_draw_4 : zby cX11_draw 64 20 = [50, 22, 4, 20, 0, 228, 109, 29, 133, 113, 136, 182, 0, 198, 172] := by decide +kernel
theorem dX11_draw_64 : decode cX11_draw 64 = .ok (.aaload, 1) := dq_50 (zby_at (j := 0) zbX11_draw_4 rfl)
theorem dX11_draw_65 : decode cX11_draw 65 = .ok (.lload 4, 2) := dq_22 (zby_at (j := 1) zbX11_draw_4 rfl) (zby_at (j := 2) zbX11_draw_4 rfl)
theorem dX11_draw_67 : decode cX11_draw 67 = .ok (.ldc2_w 228, 3) := dq_20 (zby_at (j := 3) zbX11_draw_4 rfl) (zby_at (j := 4) zbX11_draw_4 rfl) (zby_at (j := 5) zbX11_draw_4 rfl)
theorem dX11_draw_70 : decode cX11_draw 70 = .ok (.ldiv, 1) := dq_109 (zby_at (j := 6) zbX11_draw_4 rfl)
theorem dX11_draw_71 : decode cX11_draw 71 = .ok (.iload_n 3, 1) := dq_29 (zby_at (j := 7) zbX11_draw_4 rfl)
theorem dX11_draw_72 : decode cX11_draw 72 = .ok (.i2l, 1) := dq_133 (zby_at (j := 8) zbX11_draw_4 rfl)
theorem dX11_draw_73 : decode cX11_draw 73 = .ok (.lrem, 1) := dq_113 (zby_at (j := 9) zbX11_draw_4 rfl)
theorem dX11_draw_74 : decode cX11_draw 74 = .ok (.l2i, 1) := dq_136 (zby_at (j := 10) zbX11_draw_4 rfl)
theorem dX11_draw_75 : decode cX11_draw 75 = .ok (.invokevirtual 198, 3) := dq_182 (zby_at (j := 11) zbX11_draw_4 rfl) (zby_at (j := 12) zbX11_draw_4 rfl) (zby_at (j := 13) zbX11_draw_4 rfl)
theorem dX11_draw_78 : decode cX11_draw 78 = .ok (.ireturn, 1) := dq_172 (zby_at (j := 14) zbX11_draw_4 rfl)
theorem zbX11_alike_0 : zby cX11_alike 0 20 = [42, 27, 182, 0, 135, 153, 0, 11, 42, 28, 182, 0, 135, 154, 0, 6, 16, 254, 172, 42] := by decide +kernel
theorem dX11_alike_0 : decode cX11_alike 0 = .ok (.aload_n 0, 1) := dq_42 (zby_at (j := 0) zbX11_alike_0 rfl)
theorem dX11_alike_1 : decode cX11_alike 1 = .ok (.iload_n 1, 1) := dq_27 (zby_at (j := 1) zbX11_alike_0 rfl)
theorem dX11_alike_2 : decode cX11_alike 2 = .ok (.invokevirtual 135, 3) := dq_182 (zby_at (j := 2) zbX11_alike_0 rfl) (zby_at (j := 3) zbX11_alike_0 rfl) (zby_at (j := 4) zbX11_alike_0 rfl)
theorem dX11_alike_5 : decode cX11_alike 5 = .ok (.ifCond .eq 11, 3) := dq_153 (zby_at (j := 5) zbX11_alike_0 rfl) (zby_at (j := 6) zbX11_alike_0 rfl) (zby_at (j := 7) zbX11_alike_0 rfl) rfl
theorem dX11_alike_8 : decode cX11_alike 8 = .ok (.aload_n 0, 1) := dq_42 (zby_at (j := 8) zbX11_alike_0 rfl)
theorem dX11_alike_9 : decode cX11_alike 9 = .ok (.iload_n 2, 1) := dq_28 (zby_at (j := 9) zbX11_alike_0 rfl)
theorem dX11_alike_10 : decode cX11_alike 10 = .ok (.invokevirtual 135, 3) := dq_182 (zby_at (j := 10) zbX11_alike_0 rfl) (zby_at (j := 11) zbX11_alike_0 rfl) (zby_at (j := 12) zbX11_alike_0 rfl)
theorem dX11_alike_13 : decode cX11_alike 13 = .ok (.ifCond .ne 6, 3) := dq_154 (zby_at (j := 13) zbX11_alike_0 rfl) (zby_at (j := 14) zbX11_alike_0 rfl) (zby_at (j := 15) zbX11_alike_0 rfl) rfl
theorem zbX11_alike_1 : zby cX11_alike 16 20 = [16, 254, 172, 42, 180, 0, 26, 180, 0, 146, 27, 50, 42, 180, 0, 26, 180, 0, 146, 28] := by decide +kernel
theorem dX11_alike_16 : decode cX11_alike 16 = .ok (.bipush (-2), 2) := dq_16 (zby_at (j := 0) zbX11_alike_1 rfl) (zby_at (j := 1) zbX11_alike_1 rfl) rfl
theorem dX11_alike_18 : decode cX11_alike 18 = .ok (.ireturn, 1) := dq_172 (zby_at (j := 2) zbX11_alike_1 rfl)
theorem dX11_alike_19 : decode cX11_alike 19 = .ok (.aload_n 0, 1) := dq_42 (zby_at (j := 3) zbX11_alike_1 rfl)
theorem dX11_alike_20 : decode cX11_alike 20 = .ok (.getfield 26, 3) := dq_180 (zby_at (j := 4) zbX11_alike_1 rfl) (zby_at (j := 5) zbX11_alike_1 rfl) (zby_at (j := 6) zbX11_alike_1 rfl)
theorem dX11_alike_23 : decode cX11_alike 23 = .ok (.getfield 146, 3) := dq_180 (zby_at (j := 7) zbX11_alike_1 rfl) (zby_at (j := 8) zbX11_alike_1 rfl) (zby_at (j := 9) zbX11_alike_1 rfl)
theorem dX11_alike_26 : decode cX11_alike 26 = .ok (.iload_n 1, 1) := dq_27 (zby_at (j := 10) zbX11_alike_1 rfl)
theorem dX11_alike_27 : decode cX11_alike 27 = .ok (.aaload, 1) := dq_50 (zby_at (j := 11) zbX11_alike_1 rfl)
theorem dX11_alike_28 : decode cX11_alike 28 = .ok (.aload_n 0, 1) := dq_42 (zby_at (j := 12) zbX11_alike_1 rfl)
theorem dX11_alike_29 : decode cX11_alike 29 = .ok (.getfield 26, 3) := dq_180 (zby_at (j := 13) zbX11_alike_1 rfl) (zby_at (j := 14) zbX11_alike_1 rfl) (zby_at (j := 15) zbX11_alike_1 rfl)
theorem zbX11_alike_2 : zby cX11_alike 32 20 = [180, 0, 146, 28, 50, 182, 0, 230, 153, 0, 7, 4, 167, 0, 4, 3, 172] := by decide +kernel
theorem dX11_alike_32 : decode cX11_alike 32 = .ok (.getfield 146, 3) := dq_180 (zby_at (j := 0) zbX11_alike_2 rfl) (zby_at (j := 1) zbX11_alike_2 rfl) (zby_at (j := 2) zbX11_alike_2 rfl)
theorem dX11_alike_35 : decode cX11_alike 35 = .ok (.iload_n 2, 1) := dq_28 (zby_at (j := 3) zbX11_alike_2 rfl)
theorem dX11_alike_36 : decode cX11_alike 36 = .ok (.aaload, 1) := dq_50 (zby_at (j := 4) zbX11_alike_2 rfl)
theorem dX11_alike_37 : decode cX11_alike 37 = .ok (.invokevirtual 230, 3) := dq_182 (zby_at (j := 5) zbX11_alike_2 rfl) (zby_at (j := 6) zbX11_alike_2 rfl) (zby_at (j := 7) zbX11_alike_2 rfl)
theorem dX11_alike_40 : decode cX11_alike 40 = .ok (.ifCond .eq 7, 3) := dq_153 (zby_at (j := 8) zbX11_alike_2 rfl) (zby_at (j := 9) zbX11_alike_2 rfl) (zby_at (j := 10) zbX11_alike_2 rfl) rfl
theorem dX11_alike_43 : decode cX11_alike 43 = .ok (.iconst 1, 1) := dq_4 (zby_at (j := 11) zbX11_alike_2 rfl)
theorem dX11_alike_44 : decode cX11_alike 44 = .ok (.goto 4, 3) := dq_167 (zby_at (j := 12) zbX11_alike_2 rfl) (zby_at (j := 13) zbX11_alike_2 rfl) (zby_at (j := 14) zbX11_alike_2 rfl) rfl
theorem dX11_alike_47 : decode cX11_alike 47 = .ok (.iconst 0, 1) := dq_3 (zby_at (j := 15) zbX11_alike_2 rfl)
theorem zbX11_alike_3 : zby cX11_alike 48 20 = [172] := by decide +kernel
theorem dX11_alike_48 : decode cX11_alike 48 = .ok (.ireturn, 1) := dq_172 (zby_at (j := 0) zbX11_alike_3 rfl)
theorem zbX11_differ_0 : zby cX11_differ 0 20 = [42, 27, 182, 0, 135, 153, 0, 11, 42, 28, 182, 0, 135, 154, 0, 6, 16, 254, 172, 42] := by decide +kernel
theorem dX11_differ_0 : decode cX11_differ 0 = .ok (.aload_n 0, 1) := dq_42 (zby_at (j := 0) zbX11_differ_0 rfl)
theorem dX11_differ_1 : decode cX11_differ 1 = .ok (.iload_n 1, 1) := dq_27 (zby_at (j := 1) zbX11_differ_0 rfl)
theorem dX11_differ_2 : decode cX11_differ 2 = .ok (.invokevirtual 135, 3) := dq_182 (zby_at (j := 2) zbX11_differ_0 rfl) (zby_at (j := 3) zbX11_differ_0 rfl) (zby_at (j := 4) zbX11_differ_0 rfl)
theorem dX11_differ_5 : decode cX11_differ 5 = .ok (.ifCond .eq 11, 3) := dq_153 (zby_at (j := 5) zbX11_differ_0 rfl) (zby_at (j := 6) zbX11_differ_0 rfl) (zby_at (j := 7) zbX11_differ_0 rfl) rfl
theorem dX11_differ_8 : decode cX11_differ 8 = .ok (.aload_n 0, 1) := dq_42 (zby_at (j := 8) zbX11_differ_0 rfl)
theorem dX11_differ_9 : decode cX11_differ 9 = .ok (.iload_n 2, 1) := dq_28 (zby_at (j := 9) zbX11_differ_0 rfl)
theorem dX11_differ_10 : decode cX11_differ 10 = .ok (.invokevirtual 135, 3) := dq_182 (zby_at (j := 10) zbX11_differ_0 rfl) (zby_at (j := 11) zbX11_differ_0 rfl) (zby_at (j := 12) zbX11_differ_0 rfl)
theorem dX11_differ_13 : decode cX11_differ 13 = .ok (.ifCond .ne 6, 3) := dq_154 (zby_at (j := 13) zbX11_differ_0 rfl) (zby_at (j := 14) zbX11_differ_0 rfl) (zby_at (j := 15) zbX11_differ_0 rfl) rfl
theorem zbX11_differ_1 : zby cX11_differ 16 20 = [16, 254, 172, 42, 180, 0, 106, 42, 180, 0, 26, 180, 0, 146, 27, 50, 182, 0, 160, 42] := by decide +kernel
theorem dX11_differ_16 : decode cX11_differ 16 = .ok (.bipush (-2), 2) := dq_16 (zby_at (j := 0) zbX11_differ_1 rfl) (zby_at (j := 1) zbX11_differ_1 rfl) rfl
theorem dX11_differ_18 : decode cX11_differ 18 = .ok (.ireturn, 1) := dq_172 (zby_at (j := 2) zbX11_differ_1 rfl)
theorem dX11_differ_19 : decode cX11_differ 19 = .ok (.aload_n 0, 1) := dq_42 (zby_at (j := 3) zbX11_differ_1 rfl)
theorem dX11_differ_20 : decode cX11_differ 20 = .ok (.getfield 106, 3) := dq_180 (zby_at (j := 4) zbX11_differ_1 rfl) (zby_at (j := 5) zbX11_differ_1 rfl) (zby_at (j := 6) zbX11_differ_1 rfl)
theorem dX11_differ_23 : decode cX11_differ 23 = .ok (.aload_n 0, 1) := dq_42 (zby_at (j := 7) zbX11_differ_1 rfl)
theorem dX11_differ_24 : decode cX11_differ 24 = .ok (.getfield 26, 3) := dq_180 (zby_at (j := 8) zbX11_differ_1 rfl) (zby_at (j := 9) zbX11_differ_1 rfl) (zby_at (j := 10) zbX11_differ_1 rfl)
theorem dX11_differ_27 : decode cX11_differ 27 = .ok (.getfield 146, 3) := dq_180 (zby_at (j := 11) zbX11_differ_1 rfl) (zby_at (j := 12) zbX11_differ_1 rfl) (zby_at (j := 13) zbX11_differ_1 rfl)
theorem dX11_differ_30 : decode cX11_differ 30 = .ok (.iload_n 1, 1) := dq_27 (zby_at (j := 14) zbX11_differ_1 rfl)
theorem dX11_differ_31 : decode cX11_differ 31 = .ok (.aaload, 1) := dq_50 (zby_at (j := 15) zbX11_differ_1 rfl)
theorem zbX11_differ_2 : zby cX11_differ 32 20 = [182, 0, 160, 42, 180, 0, 106, 42, 180, 0, 26, 180, 0, 146, 28, 50, 182, 0, 234, 42] := by decide +kernel
theorem dX11_differ_32 : decode cX11_differ 32 = .ok (.invokevirtual 160, 3) := dq_182 (zby_at (j := 0) zbX11_differ_2 rfl) (zby_at (j := 1) zbX11_differ_2 rfl) (zby_at (j := 2) zbX11_differ_2 rfl)
theorem dX11_differ_35 : decode cX11_differ 35 = .ok (.aload_n 0, 1) := dq_42 (zby_at (j := 3) zbX11_differ_2 rfl)
theorem dX11_differ_36 : decode cX11_differ 36 = .ok (.getfield 106, 3) := dq_180 (zby_at (j := 4) zbX11_differ_2 rfl) (zby_at (j := 5) zbX11_differ_2 rfl) (zby_at (j := 6) zbX11_differ_2 rfl)
theorem dX11_differ_39 : decode cX11_differ 39 = .ok (.aload_n 0, 1) := dq_42 (zby_at (j := 7) zbX11_differ_2 rfl)
theorem dX11_differ_40 : decode cX11_differ 40 = .ok (.getfield 26, 3) := dq_180 (zby_at (j := 8) zbX11_differ_2 rfl) (zby_at (j := 9) zbX11_differ_2 rfl) (zby_at (j := 10) zbX11_differ_2 rfl)
theorem dX11_differ_43 : decode cX11_differ 43 = .ok (.getfield 146, 3) := dq_180 (zby_at (j := 11) zbX11_differ_2 rfl) (zby_at (j := 12) zbX11_differ_2 rfl) (zby_at (j := 13) zbX11_differ_2 rfl)
theorem dX11_differ_46 : decode cX11_differ 46 = .ok (.iload_n 2, 1) := dq_28 (zby_at (j := 14) zbX11_differ_2 rfl)
theorem dX11_differ_47 : decode cX11_differ 47 = .ok (.aaload, 1) := dq_50 (zby_at (j := 15) zbX11_differ_2 rfl)
theorem zbX11_differ_3 : zby cX11_differ 48 20 = [182, 0, 234, 42, 180, 0, 110, 42, 180, 0, 26, 180, 0, 146, 28, 50, 182, 0, 160, 42] := by decide +kernel
theorem dX11_differ_48 : decode cX11_differ 48 = .ok (.invokevirtual 234, 3) := dq_182 (zby_at (j := 0) zbX11_differ_3 rfl) (zby_at (j := 1) zbX11_differ_3 rfl) (zby_at (j := 2) zbX11_differ_3 rfl)
theorem dX11_differ_51 : decode cX11_differ 51 = .ok (.aload_n 0, 1) := dq_42 (zby_at (j := 3) zbX11_differ_3 rfl)
theorem dX11_differ_52 : decode cX11_differ 52 = .ok (.getfield 110, 3) := dq_180 (zby_at (j := 4) zbX11_differ_3 rfl) (zby_at (j := 5) zbX11_differ_3 rfl) (zby_at (j := 6) zbX11_differ_3 rfl)
theorem dX11_differ_55 : decode cX11_differ 55 = .ok (.aload_n 0, 1) := dq_42 (zby_at (j := 7) zbX11_differ_3 rfl)
theorem dX11_differ_56 : decode cX11_differ 56 = .ok (.getfield 26, 3) := dq_180 (zby_at (j := 8) zbX11_differ_3 rfl) (zby_at (j := 9) zbX11_differ_3 rfl) (zby_at (j := 10) zbX11_differ_3 rfl)
theorem dX11_differ_59 : decode cX11_differ 59 = .ok (.getfield 146, 3) := dq_180 (zby_at (j := 11) zbX11_differ_3 rfl) (zby_at (j := 12) zbX11_differ_3 rfl) (zby_at (j := 13) zbX11_differ_3 rfl)
theorem dX11_differ_62 : decode cX11_differ 62 = .ok (.iload_n 2, 1) := dq_28 (zby_at (j := 14) zbX11_differ_3 rfl)
theorem dX11_differ_63 : decode cX11_differ 63 = .ok (.aaload, 1) := dq_50 (zby_at (j := 15) zbX11_differ_3 rfl)
theorem zbX11_differ_4 : zby cX11_differ 64 20 = [182, 0, 160, 42, 180, 0, 110, 42, 180, 0, 26, 180, 0, 146, 27, 50, 182, 0, 234, 42] := by decide +kernel
theorem dX11_differ_64 : decode cX11_differ 64 = .ok (.invokevirtual 160, 3) := dq_182 (zby_at (j := 0) zbX11_differ_4 rfl) (zby_at (j := 1) zbX11_differ_4 rfl) (zby_at (j := 2) zbX11_differ_4 rfl)
theorem dX11_differ_67 : decode cX11_differ 67 = .ok (.aload_n 0, 1) := dq_42 (zby_at (j := 3) zbX11_differ_4 rfl)
theorem dX11_differ_68 : decode cX11_differ 68 = .ok (.getfield 110, 3) := dq_180 (zby_at (j := 4) zbX11_differ_4 rfl) (zby_at (j := 5) zbX11_differ_4 rfl) (zby_at (j := 6) zbX11_differ_4 rfl)
theorem dX11_differ_71 : decode cX11_differ 71 = .ok (.aload_n 0, 1) := dq_42 (zby_at (j := 7) zbX11_differ_4 rfl)
theorem dX11_differ_72 : decode cX11_differ 72 = .ok (.getfield 26, 3) := dq_180 (zby_at (j := 8) zbX11_differ_4 rfl) (zby_at (j := 9) zbX11_differ_4 rfl) (zby_at (j := 10) zbX11_differ_4 rfl)
theorem dX11_differ_75 : decode cX11_differ 75 = .ok (.getfield 146, 3) := dq_180 (zby_at (j := 11) zbX11_differ_4 rfl) (zby_at (j := 12) zbX11_differ_4 rfl) (zby_at (j := 13) zbX11_differ_4 rfl)
theorem dX11_differ_78 : decode cX11_differ 78 = .ok (.iload_n 1, 1) := dq_27 (zby_at (j := 14) zbX11_differ_4 rfl)
theorem dX11_differ_79 : decode cX11_differ 79 = .ok (.aaload, 1) := dq_50 (zby_at (j := 15) zbX11_differ_4 rfl)
theorem zbX11_differ_5 : zby cX11_differ 80 20 = [182, 0, 234, 42, 180, 0, 106, 42, 180, 0, 110, 182, 0, 237, 42, 180, 0, 106, 3, 182] := by decide +kernel
theorem dX11_differ_80 : decode cX11_differ 80 = .ok (.invokevirtual 234, 3) := dq_182 (zby_at (j := 0) zbX11_differ_5 rfl) (zby_at (j := 1) zbX11_differ_5 rfl) (zby_at (j := 2) zbX11_differ_5 rfl)
theorem dX11_differ_83 : decode cX11_differ 83 = .ok (.aload_n 0, 1) := dq_42 (zby_at (j := 3) zbX11_differ_5 rfl)
theorem dX11_differ_84 : decode cX11_differ 84 = .ok (.getfield 106, 3) := dq_180 (zby_at (j := 4) zbX11_differ_5 rfl) (zby_at (j := 5) zbX11_differ_5 rfl) (zby_at (j := 6) zbX11_differ_5 rfl)
theorem dX11_differ_87 : decode cX11_differ 87 = .ok (.aload_n 0, 1) := dq_42 (zby_at (j := 7) zbX11_differ_5 rfl)
theorem dX11_differ_88 : decode cX11_differ 88 = .ok (.getfield 110, 3) := dq_180 (zby_at (j := 8) zbX11_differ_5 rfl) (zby_at (j := 9) zbX11_differ_5 rfl) (zby_at (j := 10) zbX11_differ_5 rfl)
theorem dX11_differ_91 : decode cX11_differ 91 = .ok (.invokevirtual 237, 3) := dq_182 (zby_at (j := 11) zbX11_differ_5 rfl) (zby_at (j := 12) zbX11_differ_5 rfl) (zby_at (j := 13) zbX11_differ_5 rfl)
theorem dX11_differ_94 : decode cX11_differ 94 = .ok (.aload_n 0, 1) := dq_42 (zby_at (j := 14) zbX11_differ_5 rfl)
theorem dX11_differ_95 : decode cX11_differ 95 = .ok (.getfield 106, 3) := dq_180 (zby_at (j := 15) zbX11_differ_5 rfl) (zby_at (j := 16) zbX11_differ_5 rfl) (zby_at (j := 17) zbX11_differ_5 rfl)
theorem zbX11_differ_6 : zby cX11_differ 96 20 = [0, 106, 3, 182, 0, 198, 172] := by decide +kernel
theorem dX11_differ_98 : decode cX11_differ 98 = .ok (.iconst 0, 1) := dq_3 (zby_at (j := 2) zbX11_differ_6 rfl)
theorem dX11_differ_99 : decode cX11_differ 99 = .ok (.invokevirtual 198, 3) := dq_182 (zby_at (j := 3) zbX11_differ_6 rfl) (zby_at (j := 4) zbX11_differ_6 rfl) (zby_at (j := 5) zbX11_differ_6 rfl)
theorem dX11_differ_102 : decode cX11_differ 102 = .ok (.ireturn, 1) := dq_172 (zby_at (j := 6) zbX11_differ_6 rfl)
theorem zbX11_within_0 : zby cX11_within 0 20 = [42, 27, 182, 0, 135, 153, 0, 11, 42, 28, 182, 0, 135, 154, 0, 6, 16, 254, 172, 42] := by decide +kernel
theorem dX11_within_0 : decode cX11_within 0 = .ok (.aload_n 0, 1) := dq_42 (zby_at (j := 0) zbX11_within_0 rfl)
theorem dX11_within_1 : decode cX11_within 1 = .ok (.iload_n 1, 1) := dq_27 (zby_at (j := 1) zbX11_within_0 rfl)
theorem dX11_within_2 : decode cX11_within 2 = .ok (.invokevirtual 135, 3) := dq_182 (zby_at (j := 2) zbX11_within_0 rfl) (zby_at (j := 3) zbX11_within_0 rfl) (zby_at (j := 4) zbX11_within_0 rfl)
theorem dX11_within_5 : decode cX11_within 5 = .ok (.ifCond .eq 11, 3) := dq_153 (zby_at (j := 5) zbX11_within_0 rfl) (zby_at (j := 6) zbX11_within_0 rfl) (zby_at (j := 7) zbX11_within_0 rfl) rfl
theorem dX11_within_8 : decode cX11_within 8 = .ok (.aload_n 0, 1) := dq_42 (zby_at (j := 8) zbX11_within_0 rfl)
theorem dX11_within_9 : decode cX11_within 9 = .ok (.iload_n 2, 1) := dq_28 (zby_at (j := 9) zbX11_within_0 rfl)
theorem dX11_within_10 : decode cX11_within 10 = .ok (.invokevirtual 135, 3) := dq_182 (zby_at (j := 10) zbX11_within_0 rfl) (zby_at (j := 11) zbX11_within_0 rfl) (zby_at (j := 12) zbX11_within_0 rfl)
theorem dX11_within_13 : decode cX11_within 13 = .ok (.ifCond .ne 6, 3) := dq_154 (zby_at (j := 13) zbX11_within_0 rfl) (zby_at (j := 14) zbX11_within_0 rfl) (zby_at (j := 15) zbX11_within_0 rfl) rfl
theorem zbX11_within_1 : zby cX11_within 16 20 = [16, 254, 172, 42, 180, 0, 106, 42, 180, 0, 26, 180, 0, 146, 27, 50, 182, 0, 160, 42] := by decide +kernel
theorem dX11_within_16 : decode cX11_within 16 = .ok (.bipush (-2), 2) := dq_16 (zby_at (j := 0) zbX11_within_1 rfl) (zby_at (j := 1) zbX11_within_1 rfl) rfl
theorem dX11_within_18 : decode cX11_within 18 = .ok (.ireturn, 1) := dq_172 (zby_at (j := 2) zbX11_within_1 rfl)
theorem dX11_within_19 : decode cX11_within 19 = .ok (.aload_n 0, 1) := dq_42 (zby_at (j := 3) zbX11_within_1 rfl)
theorem dX11_within_20 : decode cX11_within 20 = .ok (.getfield 106, 3) := dq_180 (zby_at (j := 4) zbX11_within_1 rfl) (zby_at (j := 5) zbX11_within_1 rfl) (zby_at (j := 6) zbX11_within_1 rfl)
theorem dX11_within_23 : decode cX11_within 23 = .ok (.aload_n 0, 1) := dq_42 (zby_at (j := 7) zbX11_within_1 rfl)
theorem dX11_within_24 : decode cX11_within 24 = .ok (.getfield 26, 3) := dq_180 (zby_at (j := 8) zbX11_within_1 rfl) (zby_at (j := 9) zbX11_within_1 rfl) (zby_at (j := 10) zbX11_within_1 rfl)
theorem dX11_within_27 : decode cX11_within 27 = .ok (.getfield 146, 3) := dq_180 (zby_at (j := 11) zbX11_within_1 rfl) (zby_at (j := 12) zbX11_within_1 rfl) (zby_at (j := 13) zbX11_within_1 rfl)
theorem dX11_within_30 : decode cX11_within 30 = .ok (.iload_n 1, 1) := dq_27 (zby_at (j := 14) zbX11_within_1 rfl)
theorem dX11_within_31 : decode cX11_within 31 = .ok (.aaload, 1) := dq_50 (zby_at (j := 15) zbX11_within_1 rfl)
theorem zbX11_within_2 : zby cX11_within 32 20 = [182, 0, 160, 42, 180, 0, 106, 42, 180, 0, 26, 180, 0, 146, 28, 50, 182, 0, 234, 42] := by decide +kernel
theorem dX11_within_32 : decode cX11_within 32 = .ok (.invokevirtual 160, 3) := dq_182 (zby_at (j := 0) zbX11_within_2 rfl) (zby_at (j := 1) zbX11_within_2 rfl) (zby_at (j := 2) zbX11_within_2 rfl)
theorem dX11_within_35 : decode cX11_within 35 = .ok (.aload_n 0, 1) := dq_42 (zby_at (j := 3) zbX11_within_2 rfl)
theorem dX11_within_36 : decode cX11_within 36 = .ok (.getfield 106, 3) := dq_180 (zby_at (j := 4) zbX11_within_2 rfl) (zby_at (j := 5) zbX11_within_2 rfl) (zby_at (j := 6) zbX11_within_2 rfl)
theorem dX11_within_39 : decode cX11_within 39 = .ok (.aload_n 0, 1) := dq_42 (zby_at (j := 7) zbX11_within_2 rfl)
theorem dX11_within_40 : decode cX11_within 40 = .ok (.getfield 26, 3) := dq_180 (zby_at (j := 8) zbX11_within_2 rfl) (zby_at (j := 9) zbX11_within_2 rfl) (zby_at (j := 10) zbX11_within_2 rfl)
theorem dX11_within_43 : decode cX11_within 43 = .ok (.getfield 146, 3) := dq_180 (zby_at (j := 11) zbX11_within_2 rfl) (zby_at (j := 12) zbX11_within_2 rfl) (zby_at (j := 13) zbX11_within_2 rfl)
theorem dX11_within_46 : decode cX11_within 46 = .ok (.iload_n 2, 1) := dq_28 (zby_at (j := 14) zbX11_within_2 rfl)
theorem dX11_within_47 : decode cX11_within 47 = .ok (.aaload, 1) := dq_50 (zby_at (j := 15) zbX11_within_2 rfl)
theorem zbX11_within_3 : zby cX11_within 48 20 = [182, 0, 234, 42, 180, 0, 106, 182, 0, 240, 153, 0, 7, 4, 167, 0, 4, 3, 172] := by decide +kernel
theorem dX11_within_48 : decode cX11_within 48 = .ok (.invokevirtual 234, 3) := dq_182 (zby_at (j := 0) zbX11_within_3 rfl) (zby_at (j := 1) zbX11_within_3 rfl) (zby_at (j := 2) zbX11_within_3 rfl)
theorem dX11_within_51 : decode cX11_within 51 = .ok (.aload_n 0, 1) := dq_42 (zby_at (j := 3) zbX11_within_3 rfl)
theorem dX11_within_52 : decode cX11_within 52 = .ok (.getfield 106, 3) := dq_180 (zby_at (j := 4) zbX11_within_3 rfl) (zby_at (j := 5) zbX11_within_3 rfl) (zby_at (j := 6) zbX11_within_3 rfl)
theorem dX11_within_55 : decode cX11_within 55 = .ok (.invokevirtual 240, 3) := dq_182 (zby_at (j := 7) zbX11_within_3 rfl) (zby_at (j := 8) zbX11_within_3 rfl) (zby_at (j := 9) zbX11_within_3 rfl)
theorem dX11_within_58 : decode cX11_within 58 = .ok (.ifCond .eq 7, 3) := dq_153 (zby_at (j := 10) zbX11_within_3 rfl) (zby_at (j := 11) zbX11_within_3 rfl) (zby_at (j := 12) zbX11_within_3 rfl) rfl
theorem dX11_within_61 : decode cX11_within 61 = .ok (.iconst 1, 1) := dq_4 (zby_at (j := 13) zbX11_within_3 rfl)
theorem dX11_within_62 : decode cX11_within 62 = .ok (.goto 4, 3) := dq_167 (zby_at (j := 14) zbX11_within_3 rfl) (zby_at (j := 15) zbX11_within_3 rfl) (zby_at (j := 16) zbX11_within_3 rfl) rfl
theorem zbX11_within_4 : zby cX11_within 64 20 = [4, 3, 172] := by decide +kernel
theorem dX11_within_65 : decode cX11_within 65 = .ok (.iconst 0, 1) := dq_3 (zby_at (j := 1) zbX11_within_4 rfl)
theorem dX11_within_66 : decode cX11_within 66 = .ok (.ireturn, 1) := dq_172 (zby_at (j := 2) zbX11_within_4 rfl)
theorem zbX11_dual_0 : zby cX11_dual 0 20 = [42, 27, 182, 0, 135, 153, 0, 11, 42, 28, 182, 0, 135, 154, 0, 6, 16, 254, 172, 42] := by decide +kernel
theorem dX11_dual_0 : decode cX11_dual 0 = .ok (.aload_n 0, 1) := dq_42 (zby_at (j := 0) zbX11_dual_0 rfl)
theorem dX11_dual_1 : decode cX11_dual 1 = .ok (.iload_n 1, 1) := dq_27 (zby_at (j := 1) zbX11_dual_0 rfl)
theorem dX11_dual_2 : decode cX11_dual 2 = .ok (.invokevirtual 135, 3) := dq_182 (zby_at (j := 2) zbX11_dual_0 rfl) (zby_at (j := 3) zbX11_dual_0 rfl) (zby_at (j := 4) zbX11_dual_0 rfl)
theorem dX11_dual_5 : decode cX11_dual 5 = .ok (.ifCond .eq 11, 3) := dq_153 (zby_at (j := 5) zbX11_dual_0 rfl) (zby_at (j := 6) zbX11_dual_0 rfl) (zby_at (j := 7) zbX11_dual_0 rfl) rfl
theorem dX11_dual_8 : decode cX11_dual 8 = .ok (.aload_n 0, 1) := dq_42 (zby_at (j := 8) zbX11_dual_0 rfl)
theorem dX11_dual_9 : decode cX11_dual 9 = .ok (.iload_n 2, 1) := dq_28 (zby_at (j := 9) zbX11_dual_0 rfl)
theorem dX11_dual_10 : decode cX11_dual 10 = .ok (.invokevirtual 135, 3) := dq_182 (zby_at (j := 10) zbX11_dual_0 rfl) (zby_at (j := 11) zbX11_dual_0 rfl) (zby_at (j := 12) zbX11_dual_0 rfl)
theorem dX11_dual_13 : decode cX11_dual 13 = .ok (.ifCond .ne 6, 3) := dq_154 (zby_at (j := 13) zbX11_dual_0 rfl) (zby_at (j := 14) zbX11_dual_0 rfl) (zby_at (j := 15) zbX11_dual_0 rfl) rfl
theorem zbX11_dual_1 : zby cX11_dual 16 20 = [16, 254, 172, 42, 180, 0, 106, 42, 180, 0, 26, 180, 0, 146, 28, 50, 182, 0, 160, 42] := by decide +kernel
theorem dX11_dual_16 : decode cX11_dual 16 = .ok (.bipush (-2), 2) := dq_16 (zby_at (j := 0) zbX11_dual_1 rfl) (zby_at (j := 1) zbX11_dual_1 rfl) rfl
theorem dX11_dual_18 : decode cX11_dual 18 = .ok (.ireturn, 1) := dq_172 (zby_at (j := 2) zbX11_dual_1 rfl)
theorem dX11_dual_19 : decode cX11_dual 19 = .ok (.aload_n 0, 1) := dq_42 (zby_at (j := 3) zbX11_dual_1 rfl)
theorem dX11_dual_20 : decode cX11_dual 20 = .ok (.getfield 106, 3) := dq_180 (zby_at (j := 4) zbX11_dual_1 rfl) (zby_at (j := 5) zbX11_dual_1 rfl) (zby_at (j := 6) zbX11_dual_1 rfl)
theorem dX11_dual_23 : decode cX11_dual 23 = .ok (.aload_n 0, 1) := dq_42 (zby_at (j := 7) zbX11_dual_1 rfl)
theorem dX11_dual_24 : decode cX11_dual 24 = .ok (.getfield 26, 3) := dq_180 (zby_at (j := 8) zbX11_dual_1 rfl) (zby_at (j := 9) zbX11_dual_1 rfl) (zby_at (j := 10) zbX11_dual_1 rfl)
theorem dX11_dual_27 : decode cX11_dual 27 = .ok (.getfield 146, 3) := dq_180 (zby_at (j := 11) zbX11_dual_1 rfl) (zby_at (j := 12) zbX11_dual_1 rfl) (zby_at (j := 13) zbX11_dual_1 rfl)
theorem dX11_dual_30 : decode cX11_dual 30 = .ok (.iload_n 2, 1) := dq_28 (zby_at (j := 14) zbX11_dual_1 rfl)
theorem dX11_dual_31 : decode cX11_dual 31 = .ok (.aaload, 1) := dq_50 (zby_at (j := 15) zbX11_dual_1 rfl)
theorem zbX11_dual_2 : zby cX11_dual 32 20 = [182, 0, 160, 42, 180, 0, 64, 5, 42, 180, 0, 106, 42, 180, 0, 26, 180, 0, 139, 182] := by decide +kernel
theorem dX11_dual_32 : decode cX11_dual 32 = .ok (.invokevirtual 160, 3) := dq_182 (zby_at (j := 0) zbX11_dual_2 rfl) (zby_at (j := 1) zbX11_dual_2 rfl) (zby_at (j := 2) zbX11_dual_2 rfl)
theorem dX11_dual_35 : decode cX11_dual 35 = .ok (.aload_n 0, 1) := dq_42 (zby_at (j := 3) zbX11_dual_2 rfl)
theorem dX11_dual_36 : decode cX11_dual 36 = .ok (.getfield 64, 3) := dq_180 (zby_at (j := 4) zbX11_dual_2 rfl) (zby_at (j := 5) zbX11_dual_2 rfl) (zby_at (j := 6) zbX11_dual_2 rfl)
theorem dX11_dual_39 : decode cX11_dual 39 = .ok (.iconst 2, 1) := dq_5 (zby_at (j := 7) zbX11_dual_2 rfl)
theorem dX11_dual_40 : decode cX11_dual 40 = .ok (.aload_n 0, 1) := dq_42 (zby_at (j := 8) zbX11_dual_2 rfl)
theorem dX11_dual_41 : decode cX11_dual 41 = .ok (.getfield 106, 3) := dq_180 (zby_at (j := 9) zbX11_dual_2 rfl) (zby_at (j := 10) zbX11_dual_2 rfl) (zby_at (j := 11) zbX11_dual_2 rfl)
theorem dX11_dual_44 : decode cX11_dual 44 = .ok (.aload_n 0, 1) := dq_42 (zby_at (j := 12) zbX11_dual_2 rfl)
theorem dX11_dual_45 : decode cX11_dual 45 = .ok (.getfield 26, 3) := dq_180 (zby_at (j := 13) zbX11_dual_2 rfl) (zby_at (j := 14) zbX11_dual_2 rfl) (zby_at (j := 15) zbX11_dual_2 rfl)
theorem zbX11_dual_3 : zby cX11_dual 48 20 = [180, 0, 139, 182, 0, 172, 42, 180, 0, 110, 42, 180, 0, 26, 180, 0, 146, 27, 50, 182] := by decide +kernel
theorem dX11_dual_48 : decode cX11_dual 48 = .ok (.getfield 139, 3) := dq_180 (zby_at (j := 0) zbX11_dual_3 rfl) (zby_at (j := 1) zbX11_dual_3 rfl) (zby_at (j := 2) zbX11_dual_3 rfl)
theorem dX11_dual_51 : decode cX11_dual 51 = .ok (.invokevirtual 172, 3) := dq_182 (zby_at (j := 3) zbX11_dual_3 rfl) (zby_at (j := 4) zbX11_dual_3 rfl) (zby_at (j := 5) zbX11_dual_3 rfl)
theorem dX11_dual_54 : decode cX11_dual 54 = .ok (.aload_n 0, 1) := dq_42 (zby_at (j := 6) zbX11_dual_3 rfl)
theorem dX11_dual_55 : decode cX11_dual 55 = .ok (.getfield 110, 3) := dq_180 (zby_at (j := 7) zbX11_dual_3 rfl) (zby_at (j := 8) zbX11_dual_3 rfl) (zby_at (j := 9) zbX11_dual_3 rfl)
theorem dX11_dual_58 : decode cX11_dual 58 = .ok (.aload_n 0, 1) := dq_42 (zby_at (j := 10) zbX11_dual_3 rfl)
theorem dX11_dual_59 : decode cX11_dual 59 = .ok (.getfield 26, 3) := dq_180 (zby_at (j := 11) zbX11_dual_3 rfl) (zby_at (j := 12) zbX11_dual_3 rfl) (zby_at (j := 13) zbX11_dual_3 rfl)
theorem dX11_dual_62 : decode cX11_dual 62 = .ok (.getfield 146, 3) := dq_180 (zby_at (j := 14) zbX11_dual_3 rfl) (zby_at (j := 15) zbX11_dual_3 rfl) (zby_at (j := 16) zbX11_dual_3 rfl)
theorem zbX11_dual_4 : zby cX11_dual 64 20 = [146, 27, 50, 182, 0, 160, 42, 180, 0, 64, 5, 42, 180, 0, 110, 42, 180, 0, 26, 180] := by decide +kernel
theorem dX11_dual_65 : decode cX11_dual 65 = .ok (.iload_n 1, 1) := dq_27 (zby_at (j := 1) zbX11_dual_4 rfl)
theorem dX11_dual_66 : decode cX11_dual 66 = .ok (.aaload, 1) := dq_50 (zby_at (j := 2) zbX11_dual_4 rfl)
theorem dX11_dual_67 : decode cX11_dual 67 = .ok (.invokevirtual 160, 3) := dq_182 (zby_at (j := 3) zbX11_dual_4 rfl) (zby_at (j := 4) zbX11_dual_4 rfl) (zby_at (j := 5) zbX11_dual_4 rfl)
theorem dX11_dual_70 : decode cX11_dual 70 = .ok (.aload_n 0, 1) := dq_42 (zby_at (j := 6) zbX11_dual_4 rfl)
theorem dX11_dual_71 : decode cX11_dual 71 = .ok (.getfield 64, 3) := dq_180 (zby_at (j := 7) zbX11_dual_4 rfl) (zby_at (j := 8) zbX11_dual_4 rfl) (zby_at (j := 9) zbX11_dual_4 rfl)
theorem dX11_dual_74 : decode cX11_dual 74 = .ok (.iconst 2, 1) := dq_5 (zby_at (j := 10) zbX11_dual_4 rfl)
theorem dX11_dual_75 : decode cX11_dual 75 = .ok (.aload_n 0, 1) := dq_42 (zby_at (j := 11) zbX11_dual_4 rfl)
theorem dX11_dual_76 : decode cX11_dual 76 = .ok (.getfield 110, 3) := dq_180 (zby_at (j := 12) zbX11_dual_4 rfl) (zby_at (j := 13) zbX11_dual_4 rfl) (zby_at (j := 14) zbX11_dual_4 rfl)
theorem dX11_dual_79 : decode cX11_dual 79 = .ok (.aload_n 0, 1) := dq_42 (zby_at (j := 15) zbX11_dual_4 rfl)
theorem zbX11_dual_5 : zby cX11_dual 80 20 = [180, 0, 26, 180, 0, 139, 182, 0, 172, 42, 180, 0, 106, 42, 180, 0, 26, 180, 0, 146] := by decide +kernel
theorem dX11_dual_80 : decode cX11_dual 80 = .ok (.getfield 26, 3) := dq_180 (zby_at (j := 0) zbX11_dual_5 rfl) (zby_at (j := 1) zbX11_dual_5 rfl) (zby_at (j := 2) zbX11_dual_5 rfl)
theorem dX11_dual_83 : decode cX11_dual 83 = .ok (.getfield 139, 3) := dq_180 (zby_at (j := 3) zbX11_dual_5 rfl) (zby_at (j := 4) zbX11_dual_5 rfl) (zby_at (j := 5) zbX11_dual_5 rfl)
theorem dX11_dual_86 : decode cX11_dual 86 = .ok (.invokevirtual 172, 3) := dq_182 (zby_at (j := 6) zbX11_dual_5 rfl) (zby_at (j := 7) zbX11_dual_5 rfl) (zby_at (j := 8) zbX11_dual_5 rfl)
theorem dX11_dual_89 : decode cX11_dual 89 = .ok (.aload_n 0, 1) := dq_42 (zby_at (j := 9) zbX11_dual_5 rfl)
theorem dX11_dual_90 : decode cX11_dual 90 = .ok (.getfield 106, 3) := dq_180 (zby_at (j := 10) zbX11_dual_5 rfl) (zby_at (j := 11) zbX11_dual_5 rfl) (zby_at (j := 12) zbX11_dual_5 rfl)
theorem dX11_dual_93 : decode cX11_dual 93 = .ok (.aload_n 0, 1) := dq_42 (zby_at (j := 13) zbX11_dual_5 rfl)
theorem dX11_dual_94 : decode cX11_dual 94 = .ok (.getfield 26, 3) := dq_180 (zby_at (j := 14) zbX11_dual_5 rfl) (zby_at (j := 15) zbX11_dual_5 rfl) (zby_at (j := 16) zbX11_dual_5 rfl)
theorem zbX11_dual_6 : zby cX11_dual 96 20 = [26, 180, 0, 146, 27, 50, 182, 0, 230, 153, 0, 26, 42, 180, 0, 110, 42, 180, 0, 26] := by decide +kernel
theorem dX11_dual_97 : decode cX11_dual 97 = .ok (.getfield 146, 3) := dq_180 (zby_at (j := 1) zbX11_dual_6 rfl) (zby_at (j := 2) zbX11_dual_6 rfl) (zby_at (j := 3) zbX11_dual_6 rfl)
theorem dX11_dual_100 : decode cX11_dual 100 = .ok (.iload_n 1, 1) := dq_27 (zby_at (j := 4) zbX11_dual_6 rfl)
theorem dX11_dual_101 : decode cX11_dual 101 = .ok (.aaload, 1) := dq_50 (zby_at (j := 5) zbX11_dual_6 rfl)
theorem dX11_dual_102 : decode cX11_dual 102 = .ok (.invokevirtual 230, 3) := dq_182 (zby_at (j := 6) zbX11_dual_6 rfl) (zby_at (j := 7) zbX11_dual_6 rfl) (zby_at (j := 8) zbX11_dual_6 rfl)
theorem dX11_dual_105 : decode cX11_dual 105 = .ok (.ifCond .eq 26, 3) := dq_153 (zby_at (j := 9) zbX11_dual_6 rfl) (zby_at (j := 10) zbX11_dual_6 rfl) (zby_at (j := 11) zbX11_dual_6 rfl) rfl
theorem dX11_dual_108 : decode cX11_dual 108 = .ok (.aload_n 0, 1) := dq_42 (zby_at (j := 12) zbX11_dual_6 rfl)
theorem dX11_dual_109 : decode cX11_dual 109 = .ok (.getfield 110, 3) := dq_180 (zby_at (j := 13) zbX11_dual_6 rfl) (zby_at (j := 14) zbX11_dual_6 rfl) (zby_at (j := 15) zbX11_dual_6 rfl)
theorem zbX11_dual_7 : zby cX11_dual 112 20 = [42, 180, 0, 26, 180, 0, 146, 28, 50, 182, 0, 230, 153, 0, 7, 4, 167, 0, 4, 3] := by decide +kernel
theorem dX11_dual_112 : decode cX11_dual 112 = .ok (.aload_n 0, 1) := dq_42 (zby_at (j := 0) zbX11_dual_7 rfl)
theorem dX11_dual_113 : decode cX11_dual 113 = .ok (.getfield 26, 3) := dq_180 (zby_at (j := 1) zbX11_dual_7 rfl) (zby_at (j := 2) zbX11_dual_7 rfl) (zby_at (j := 3) zbX11_dual_7 rfl)
theorem dX11_dual_116 : decode cX11_dual 116 = .ok (.getfield 146, 3) := dq_180 (zby_at (j := 4) zbX11_dual_7 rfl) (zby_at (j := 5) zbX11_dual_7 rfl) (zby_at (j := 6) zbX11_dual_7 rfl)
theorem dX11_dual_119 : decode cX11_dual 119 = .ok (.iload_n 2, 1) := dq_28 (zby_at (j := 7) zbX11_dual_7 rfl)
theorem dX11_dual_120 : decode cX11_dual 120 = .ok (.aaload, 1) := dq_50 (zby_at (j := 8) zbX11_dual_7 rfl)
theorem dX11_dual_121 : decode cX11_dual 121 = .ok (.invokevirtual 230, 3) := dq_182 (zby_at (j := 9) zbX11_dual_7 rfl) (zby_at (j := 10) zbX11_dual_7 rfl) (zby_at (j := 11) zbX11_dual_7 rfl)
theorem dX11_dual_124 : decode cX11_dual 124 = .ok (.ifCond .eq 7, 3) := dq_153 (zby_at (j := 12) zbX11_dual_7 rfl) (zby_at (j := 13) zbX11_dual_7 rfl) (zby_at (j := 14) zbX11_dual_7 rfl) rfl
theorem dX11_dual_127 : decode cX11_dual 127 = .ok (.iconst 1, 1) := dq_4 (zby_at (j := 15) zbX11_dual_7 rfl)
theorem zbX11_dual_8 : zby cX11_dual 128 20 = [167, 0, 4, 3, 172] := by decide +kernel
theorem dX11_dual_128 : decode cX11_dual 128 = .ok (.goto 4, 3) := dq_167 (zby_at (j := 0) zbX11_dual_8 rfl) (zby_at (j := 1) zbX11_dual_8 rfl) (zby_at (j := 2) zbX11_dual_8 rfl) rfl
theorem dX11_dual_131 : decode cX11_dual 131 = .ok (.iconst 0, 1) := dq_3 (zby_at (j := 3) zbX11_dual_8 rfl)
theorem dX11_dual_132 : decode cX11_dual 132 = .ok (.ireturn, 1) := dq_172 (zby_at (j := 4) zbX11_dual_8 rfl)
theorem zbX11_apart_0 : zby cX11_apart 0 20 = [42, 27, 182, 0, 135, 153, 0, 11, 42, 28, 182, 0, 135, 154, 0, 6, 16, 254, 172, 42] := by decide +kernel
theorem dX11_apart_0 : decode cX11_apart 0 = .ok (.aload_n 0, 1) := dq_42 (zby_at (j := 0) zbX11_apart_0 rfl)
theorem dX11_apart_1 : decode cX11_apart 1 = .ok (.iload_n 1, 1) := dq_27 (zby_at (j := 1) zbX11_apart_0 rfl)
theorem dX11_apart_2 : decode cX11_apart 2 = .ok (.invokevirtual 135, 3) := dq_182 (zby_at (j := 2) zbX11_apart_0 rfl) (zby_at (j := 3) zbX11_apart_0 rfl) (zby_at (j := 4) zbX11_apart_0 rfl)
theorem dX11_apart_5 : decode cX11_apart 5 = .ok (.ifCond .eq 11, 3) := dq_153 (zby_at (j := 5) zbX11_apart_0 rfl) (zby_at (j := 6) zbX11_apart_0 rfl) (zby_at (j := 7) zbX11_apart_0 rfl) rfl
theorem dX11_apart_8 : decode cX11_apart 8 = .ok (.aload_n 0, 1) := dq_42 (zby_at (j := 8) zbX11_apart_0 rfl)
theorem dX11_apart_9 : decode cX11_apart 9 = .ok (.iload_n 2, 1) := dq_28 (zby_at (j := 9) zbX11_apart_0 rfl)
theorem dX11_apart_10 : decode cX11_apart 10 = .ok (.invokevirtual 135, 3) := dq_182 (zby_at (j := 10) zbX11_apart_0 rfl) (zby_at (j := 11) zbX11_apart_0 rfl) (zby_at (j := 12) zbX11_apart_0 rfl)
theorem dX11_apart_13 : decode cX11_apart 13 = .ok (.ifCond .ne 6, 3) := dq_154 (zby_at (j := 13) zbX11_apart_0 rfl) (zby_at (j := 14) zbX11_apart_0 rfl) (zby_at (j := 15) zbX11_apart_0 rfl) rfl
theorem zbX11_apart_1 : zby cX11_apart 16 20 = [16, 254, 172, 42, 180, 0, 64, 42, 180, 0, 26, 180, 0, 146, 27, 50, 42, 180, 0, 26] := by decide +kernel
theorem dX11_apart_16 : decode cX11_apart 16 = .ok (.bipush (-2), 2) := dq_16 (zby_at (j := 0) zbX11_apart_1 rfl) (zby_at (j := 1) zbX11_apart_1 rfl) rfl
theorem dX11_apart_18 : decode cX11_apart 18 = .ok (.ireturn, 1) := dq_172 (zby_at (j := 2) zbX11_apart_1 rfl)
theorem dX11_apart_19 : decode cX11_apart 19 = .ok (.aload_n 0, 1) := dq_42 (zby_at (j := 3) zbX11_apart_1 rfl)
theorem dX11_apart_20 : decode cX11_apart 20 = .ok (.getfield 64, 3) := dq_180 (zby_at (j := 4) zbX11_apart_1 rfl) (zby_at (j := 5) zbX11_apart_1 rfl) (zby_at (j := 6) zbX11_apart_1 rfl)
theorem dX11_apart_23 : decode cX11_apart 23 = .ok (.aload_n 0, 1) := dq_42 (zby_at (j := 7) zbX11_apart_1 rfl)
theorem dX11_apart_24 : decode cX11_apart 24 = .ok (.getfield 26, 3) := dq_180 (zby_at (j := 8) zbX11_apart_1 rfl) (zby_at (j := 9) zbX11_apart_1 rfl) (zby_at (j := 10) zbX11_apart_1 rfl)
theorem dX11_apart_27 : decode cX11_apart 27 = .ok (.getfield 146, 3) := dq_180 (zby_at (j := 11) zbX11_apart_1 rfl) (zby_at (j := 12) zbX11_apart_1 rfl) (zby_at (j := 13) zbX11_apart_1 rfl)
theorem dX11_apart_30 : decode cX11_apart 30 = .ok (.iload_n 1, 1) := dq_27 (zby_at (j := 14) zbX11_apart_1 rfl)
theorem dX11_apart_31 : decode cX11_apart 31 = .ok (.aaload, 1) := dq_50 (zby_at (j := 15) zbX11_apart_1 rfl)
theorem zbX11_apart_2 : zby cX11_apart 32 20 = [42, 180, 0, 26, 180, 0, 146, 28, 50, 42, 180, 0, 26, 180, 0, 139, 182, 0, 244, 172] := by decide +kernel
theorem dX11_apart_32 : decode cX11_apart 32 = .ok (.aload_n 0, 1) := dq_42 (zby_at (j := 0) zbX11_apart_2 rfl)
theorem dX11_apart_33 : decode cX11_apart 33 = .ok (.getfield 26, 3) := dq_180 (zby_at (j := 1) zbX11_apart_2 rfl) (zby_at (j := 2) zbX11_apart_2 rfl) (zby_at (j := 3) zbX11_apart_2 rfl)
theorem dX11_apart_36 : decode cX11_apart 36 = .ok (.getfield 146, 3) := dq_180 (zby_at (j := 4) zbX11_apart_2 rfl) (zby_at (j := 5) zbX11_apart_2 rfl) (zby_at (j := 6) zbX11_apart_2 rfl)
theorem dX11_apart_39 : decode cX11_apart 39 = .ok (.iload_n 2, 1) := dq_28 (zby_at (j := 7) zbX11_apart_2 rfl)
theorem dX11_apart_40 : decode cX11_apart 40 = .ok (.aaload, 1) := dq_50 (zby_at (j := 8) zbX11_apart_2 rfl)
theorem dX11_apart_41 : decode cX11_apart 41 = .ok (.aload_n 0, 1) := dq_42 (zby_at (j := 9) zbX11_apart_2 rfl)
theorem dX11_apart_42 : decode cX11_apart 42 = .ok (.getfield 26, 3) := dq_180 (zby_at (j := 10) zbX11_apart_2 rfl) (zby_at (j := 11) zbX11_apart_2 rfl) (zby_at (j := 12) zbX11_apart_2 rfl)
theorem dX11_apart_45 : decode cX11_apart 45 = .ok (.getfield 139, 3) := dq_180 (zby_at (j := 13) zbX11_apart_2 rfl) (zby_at (j := 14) zbX11_apart_2 rfl) (zby_at (j := 15) zbX11_apart_2 rfl)
theorem zbX11_apart_3 : zby cX11_apart 48 20 = [182, 0, 244, 172] := by decide +kernel
theorem dX11_apart_48 : decode cX11_apart 48 = .ok (.invokevirtual 244, 3) := dq_182 (zby_at (j := 0) zbX11_apart_3 rfl) (zby_at (j := 1) zbX11_apart_3 rfl) (zby_at (j := 2) zbX11_apart_3 rfl)
theorem dX11_apart_51 : decode cX11_apart 51 = .ok (.ireturn, 1) := dq_172 (zby_at (j := 3) zbX11_apart_3 rfl)
theorem zbX11_packs_0 : zby cX11_packs 0 20 = [42, 27, 182, 0, 135, 153, 0, 12, 28, 155, 0, 8, 28, 4, 164, 0, 6, 16, 254, 172] := by decide +kernel
theorem dX11_packs_0 : decode cX11_packs 0 = .ok (.aload_n 0, 1) := dq_42 (zby_at (j := 0) zbX11_packs_0 rfl)
theorem dX11_packs_1 : decode cX11_packs 1 = .ok (.iload_n 1, 1) := dq_27 (zby_at (j := 1) zbX11_packs_0 rfl)
theorem dX11_packs_2 : decode cX11_packs 2 = .ok (.invokevirtual 135, 3) := dq_182 (zby_at (j := 2) zbX11_packs_0 rfl) (zby_at (j := 3) zbX11_packs_0 rfl) (zby_at (j := 4) zbX11_packs_0 rfl)
theorem dX11_packs_5 : decode cX11_packs 5 = .ok (.ifCond .eq 12, 3) := dq_153 (zby_at (j := 5) zbX11_packs_0 rfl) (zby_at (j := 6) zbX11_packs_0 rfl) (zby_at (j := 7) zbX11_packs_0 rfl) rfl
theorem dX11_packs_8 : decode cX11_packs 8 = .ok (.iload_n 2, 1) := dq_28 (zby_at (j := 8) zbX11_packs_0 rfl)
theorem dX11_packs_9 : decode cX11_packs 9 = .ok (.ifCond .lt 8, 3) := dq_155 (zby_at (j := 9) zbX11_packs_0 rfl) (zby_at (j := 10) zbX11_packs_0 rfl) (zby_at (j := 11) zbX11_packs_0 rfl) rfl
theorem dX11_packs_12 : decode cX11_packs 12 = .ok (.iload_n 2, 1) := dq_28 (zby_at (j := 12) zbX11_packs_0 rfl)
theorem dX11_packs_13 : decode cX11_packs 13 = .ok (.iconst 1, 1) := dq_4 (zby_at (j := 13) zbX11_packs_0 rfl)
theorem dX11_packs_14 : decode cX11_packs 14 = .ok (.if_icmp .le 6, 3) := dq_164 (zby_at (j := 14) zbX11_packs_0 rfl) (zby_at (j := 15) zbX11_packs_0 rfl) (zby_at (j := 16) zbX11_packs_0 rfl) rfl
theorem zbX11_packs_1 : zby cX11_packs 16 20 = [6, 16, 254, 172, 42, 180, 0, 26, 180, 0, 146, 27, 50, 78, 45, 182, 0, 150, 54, 4] := by decide +kernel
theorem dX11_packs_17 : decode cX11_packs 17 = .ok (.bipush (-2), 2) := dq_16 (zby_at (j := 1) zbX11_packs_1 rfl) (zby_at (j := 2) zbX11_packs_1 rfl) rfl
theorem dX11_packs_19 : decode cX11_packs 19 = .ok (.ireturn, 1) := dq_172 (zby_at (j := 3) zbX11_packs_1 rfl)
theorem dX11_packs_20 : decode cX11_packs 20 = .ok (.aload_n 0, 1) := dq_42 (zby_at (j := 4) zbX11_packs_1 rfl)
theorem dX11_packs_21 : decode cX11_packs 21 = .ok (.getfield 26, 3) := dq_180 (zby_at (j := 5) zbX11_packs_1 rfl) (zby_at (j := 6) zbX11_packs_1 rfl) (zby_at (j := 7) zbX11_packs_1 rfl)
theorem dX11_packs_24 : decode cX11_packs 24 = .ok (.getfield 146, 3) := dq_180 (zby_at (j := 8) zbX11_packs_1 rfl) (zby_at (j := 9) zbX11_packs_1 rfl) (zby_at (j := 10) zbX11_packs_1 rfl)
theorem dX11_packs_27 : decode cX11_packs 27 = .ok (.iload_n 1, 1) := dq_27 (zby_at (j := 11) zbX11_packs_1 rfl)
theorem dX11_packs_28 : decode cX11_packs 28 = .ok (.aaload, 1) := dq_50 (zby_at (j := 12) zbX11_packs_1 rfl)
theorem dX11_packs_29 : decode cX11_packs 29 = .ok (.astore_n 3, 1) := dq_78 (zby_at (j := 13) zbX11_packs_1 rfl)
theorem dX11_packs_30 : decode cX11_packs 30 = .ok (.aload_n 3, 1) := dq_45 (zby_at (j := 14) zbX11_packs_1 rfl)
theorem dX11_packs_31 : decode cX11_packs 31 = .ok (.invokevirtual 150, 3) := dq_182 (zby_at (j := 15) zbX11_packs_1 rfl) (zby_at (j := 16) zbX11_packs_1 rfl) (zby_at (j := 17) zbX11_packs_1 rfl)
theorem zbX11_packs_2 : zby cX11_packs 32 20 = [0, 150, 54, 4, 21, 4, 154, 0, 5, 2, 172, 21, 4, 16, 12, 164, 0, 6, 16, 253] := by decide +kernel
theorem dX11_packs_34 : decode cX11_packs 34 = .ok (.istore 4, 2) := dq_54 (zby_at (j := 2) zbX11_packs_2 rfl) (zby_at (j := 3) zbX11_packs_2 rfl)
theorem dX11_packs_36 : decode cX11_packs 36 = .ok (.iload 4, 2) := dq_21 (zby_at (j := 4) zbX11_packs_2 rfl) (zby_at (j := 5) zbX11_packs_2 rfl)
theorem dX11_packs_38 : decode cX11_packs 38 = .ok (.ifCond .ne 5, 3) := dq_154 (zby_at (j := 6) zbX11_packs_2 rfl) (zby_at (j := 7) zbX11_packs_2 rfl) (zby_at (j := 8) zbX11_packs_2 rfl) rfl
theorem dX11_packs_41 : decode cX11_packs 41 = .ok (.iconst (-1), 1) := dq_2 (zby_at (j := 9) zbX11_packs_2 rfl)
theorem dX11_packs_42 : decode cX11_packs 42 = .ok (.ireturn, 1) := dq_172 (zby_at (j := 10) zbX11_packs_2 rfl)
theorem dX11_packs_43 : decode cX11_packs 43 = .ok (.iload 4, 2) := dq_21 (zby_at (j := 11) zbX11_packs_2 rfl) (zby_at (j := 12) zbX11_packs_2 rfl)
theorem dX11_packs_45 : decode cX11_packs 45 = .ok (.bipush 12, 2) := dq_16 (zby_at (j := 13) zbX11_packs_2 rfl) (zby_at (j := 14) zbX11_packs_2 rfl) rfl
theorem dX11_packs_47 : decode cX11_packs 47 = .ok (.if_icmp .le 6, 3) := dq_164 (zby_at (j := 15) zbX11_packs_2 rfl) (zby_at (j := 16) zbX11_packs_2 rfl) (zby_at (j := 17) zbX11_packs_2 rfl) rfl
theorem zbX11_packs_3 : zby cX11_packs 48 20 = [0, 6, 16, 253, 172, 42, 180, 0, 99, 45, 182, 0, 248, 28, 154, 0, 13, 42, 180, 0] := by decide +kernel
theorem dX11_packs_50 : decode cX11_packs 50 = .ok (.bipush (-3), 2) := dq_16 (zby_at (j := 2) zbX11_packs_3 rfl) (zby_at (j := 3) zbX11_packs_3 rfl) rfl
theorem dX11_packs_52 : decode cX11_packs 52 = .ok (.ireturn, 1) := dq_172 (zby_at (j := 4) zbX11_packs_3 rfl)
theorem dX11_packs_53 : decode cX11_packs 53 = .ok (.aload_n 0, 1) := dq_42 (zby_at (j := 5) zbX11_packs_3 rfl)
theorem dX11_packs_54 : decode cX11_packs 54 = .ok (.getfield 99, 3) := dq_180 (zby_at (j := 6) zbX11_packs_3 rfl) (zby_at (j := 7) zbX11_packs_3 rfl) (zby_at (j := 8) zbX11_packs_3 rfl)
theorem dX11_packs_57 : decode cX11_packs 57 = .ok (.aload_n 3, 1) := dq_45 (zby_at (j := 9) zbX11_packs_3 rfl)
theorem dX11_packs_58 : decode cX11_packs 58 = .ok (.invokevirtual 248, 3) := dq_182 (zby_at (j := 10) zbX11_packs_3 rfl) (zby_at (j := 11) zbX11_packs_3 rfl) (zby_at (j := 12) zbX11_packs_3 rfl)
theorem dX11_packs_61 : decode cX11_packs 61 = .ok (.iload_n 2, 1) := dq_28 (zby_at (j := 13) zbX11_packs_3 rfl)
theorem dX11_packs_62 : decode cX11_packs 62 = .ok (.ifCond .ne 13, 3) := dq_154 (zby_at (j := 14) zbX11_packs_3 rfl) (zby_at (j := 15) zbX11_packs_3 rfl) (zby_at (j := 16) zbX11_packs_3 rfl) rfl
theorem zbX11_packs_4 : zby cX11_packs 64 20 = [13, 42, 180, 0, 99, 182, 0, 250, 167, 0, 10, 42, 180, 0, 99, 182, 0, 253, 172] := by decide +kernel
theorem dX11_packs_65 : decode cX11_packs 65 = .ok (.aload_n 0, 1) := dq_42 (zby_at (j := 1) zbX11_packs_4 rfl)
theorem dX11_packs_66 : decode cX11_packs 66 = .ok (.getfield 99, 3) := dq_180 (zby_at (j := 2) zbX11_packs_4 rfl) (zby_at (j := 3) zbX11_packs_4 rfl) (zby_at (j := 4) zbX11_packs_4 rfl)
theorem dX11_packs_69 : decode cX11_packs 69 = .ok (.invokevirtual 250, 3) := dq_182 (zby_at (j := 5) zbX11_packs_4 rfl) (zby_at (j := 6) zbX11_packs_4 rfl) (zby_at (j := 7) zbX11_packs_4 rfl)
theorem dX11_packs_72 : decode cX11_packs 72 = .ok (.goto 10, 3) := dq_167 (zby_at (j := 8) zbX11_packs_4 rfl) (zby_at (j := 9) zbX11_packs_4 rfl) (zby_at (j := 10) zbX11_packs_4 rfl) rfl
theorem dX11_packs_75 : decode cX11_packs 75 = .ok (.aload_n 0, 1) := dq_42 (zby_at (j := 11) zbX11_packs_4 rfl)
theorem dX11_packs_76 : decode cX11_packs 76 = .ok (.getfield 99, 3) := dq_180 (zby_at (j := 12) zbX11_packs_4 rfl) (zby_at (j := 13) zbX11_packs_4 rfl) (zby_at (j := 14) zbX11_packs_4 rfl)
theorem dX11_packs_79 : decode cX11_packs 79 = .ok (.invokevirtual 253, 3) := dq_182 (zby_at (j := 15) zbX11_packs_4 rfl) (zby_at (j := 16) zbX11_packs_4 rfl) (zby_at (j := 17) zbX11_packs_4 rfl)
theorem zbX11_packs_5 : zby cX11_packs 80 20 = [0, 253, 172] := by decide +kernel
theorem dX11_packs_82 : decode cX11_packs 82 = .ok (.ireturn, 1) := dq_172 (zby_at (j := 2) zbX11_packs_5 rfl)
theorem zbX11_nodes_0 : zby cX11_nodes 0 20 = [42, 27, 182, 0, 135, 153, 0, 26, 42, 180, 0, 78, 42, 180, 0, 26, 42, 180, 0, 26] := by decide +kernel
theorem dX11_nodes_0 : decode cX11_nodes 0 = .ok (.aload_n 0, 1) := dq_42 (zby_at (j := 0) zbX11_nodes_0 rfl)
theorem dX11_nodes_1 : decode cX11_nodes 1 = .ok (.iload_n 1, 1) := dq_27 (zby_at (j := 1) zbX11_nodes_0 rfl)
theorem dX11_nodes_2 : decode cX11_nodes 2 = .ok (.invokevirtual 135, 3) := dq_182 (zby_at (j := 2) zbX11_nodes_0 rfl) (zby_at (j := 3) zbX11_nodes_0 rfl) (zby_at (j := 4) zbX11_nodes_0 rfl)
theorem dX11_nodes_5 : decode cX11_nodes 5 = .ok (.ifCond .eq 26, 3) := dq_153 (zby_at (j := 5) zbX11_nodes_0 rfl) (zby_at (j := 6) zbX11_nodes_0 rfl) (zby_at (j := 7) zbX11_nodes_0 rfl) rfl
theorem dX11_nodes_8 : decode cX11_nodes 8 = .ok (.aload_n 0, 1) := dq_42 (zby_at (j := 8) zbX11_nodes_0 rfl)
theorem dX11_nodes_9 : decode cX11_nodes 9 = .ok (.getfield 78, 3) := dq_180 (zby_at (j := 9) zbX11_nodes_0 rfl) (zby_at (j := 10) zbX11_nodes_0 rfl) (zby_at (j := 11) zbX11_nodes_0 rfl)
theorem dX11_nodes_12 : decode cX11_nodes 12 = .ok (.aload_n 0, 1) := dq_42 (zby_at (j := 12) zbX11_nodes_0 rfl)
theorem dX11_nodes_13 : decode cX11_nodes 13 = .ok (.getfield 26, 3) := dq_180 (zby_at (j := 13) zbX11_nodes_0 rfl) (zby_at (j := 14) zbX11_nodes_0 rfl) (zby_at (j := 15) zbX11_nodes_0 rfl)
theorem zbX11_nodes_1 : zby cX11_nodes 16 20 = [42, 180, 0, 26, 180, 0, 146, 27, 50, 182, 1, 0, 167, 0, 5, 16, 254, 172] := by decide +kernel
theorem dX11_nodes_16 : decode cX11_nodes 16 = .ok (.aload_n 0, 1) := dq_42 (zby_at (j := 0) zbX11_nodes_1 rfl)
theorem dX11_nodes_17 : decode cX11_nodes 17 = .ok (.getfield 26, 3) := dq_180 (zby_at (j := 1) zbX11_nodes_1 rfl) (zby_at (j := 2) zbX11_nodes_1 rfl) (zby_at (j := 3) zbX11_nodes_1 rfl)
theorem dX11_nodes_20 : decode cX11_nodes 20 = .ok (.getfield 146, 3) := dq_180 (zby_at (j := 4) zbX11_nodes_1 rfl) (zby_at (j := 5) zbX11_nodes_1 rfl) (zby_at (j := 6) zbX11_nodes_1 rfl)
theorem dX11_nodes_23 : decode cX11_nodes 23 = .ok (.iload_n 1, 1) := dq_27 (zby_at (j := 7) zbX11_nodes_1 rfl)
theorem dX11_nodes_24 : decode cX11_nodes 24 = .ok (.aaload, 1) := dq_50 (zby_at (j := 8) zbX11_nodes_1 rfl)
theorem dX11_nodes_25 : decode cX11_nodes 25 = .ok (.invokevirtual 256, 3) := dq_182 (zby_at (j := 9) zbX11_nodes_1 rfl) (zby_at (j := 10) zbX11_nodes_1 rfl) (zby_at (j := 11) zbX11_nodes_1 rfl)
theorem dX11_nodes_28 : decode cX11_nodes 28 = .ok (.goto 5, 3) := dq_167 (zby_at (j := 12) zbX11_nodes_1 rfl) (zby_at (j := 13) zbX11_nodes_1 rfl) (zby_at (j := 14) zbX11_nodes_1 rfl) rfl
theorem dX11_nodes_31 : decode cX11_nodes 31 = .ok (.bipush (-2), 2) := dq_16 (zby_at (j := 15) zbX11_nodes_1 rfl) (zby_at (j := 16) zbX11_nodes_1 rfl) rfl
theorem zbX11_nodes_2 : zby cX11_nodes 32 20 = [254, 172] := by decide +kernel
theorem dX11_nodes_33 : decode cX11_nodes 33 = .ok (.ireturn, 1) := dq_172 (zby_at (j := 1) zbX11_nodes_2 rfl)
theorem zbX11_net_0 : zby cX11_net 0 20 = [42, 182, 1, 4, 153, 0, 17, 42, 180, 0, 78, 42, 180, 0, 26, 182, 1, 7, 167, 0] := by decide +kernel
theorem dX11_net_0 : decode cX11_net 0 = .ok (.aload_n 0, 1) := dq_42 (zby_at (j := 0) zbX11_net_0 rfl)
theorem dX11_net_1 : decode cX11_net 1 = .ok (.invokevirtual 260, 3) := dq_182 (zby_at (j := 1) zbX11_net_0 rfl) (zby_at (j := 2) zbX11_net_0 rfl) (zby_at (j := 3) zbX11_net_0 rfl)
theorem dX11_net_4 : decode cX11_net 4 = .ok (.ifCond .eq 17, 3) := dq_153 (zby_at (j := 4) zbX11_net_0 rfl) (zby_at (j := 5) zbX11_net_0 rfl) (zby_at (j := 6) zbX11_net_0 rfl) rfl
theorem dX11_net_7 : decode cX11_net 7 = .ok (.aload_n 0, 1) := dq_42 (zby_at (j := 7) zbX11_net_0 rfl)
theorem dX11_net_8 : decode cX11_net 8 = .ok (.getfield 78, 3) := dq_180 (zby_at (j := 8) zbX11_net_0 rfl) (zby_at (j := 9) zbX11_net_0 rfl) (zby_at (j := 10) zbX11_net_0 rfl)
theorem dX11_net_11 : decode cX11_net 11 = .ok (.aload_n 0, 1) := dq_42 (zby_at (j := 11) zbX11_net_0 rfl)
theorem dX11_net_12 : decode cX11_net 12 = .ok (.getfield 26, 3) := dq_180 (zby_at (j := 12) zbX11_net_0 rfl) (zby_at (j := 13) zbX11_net_0 rfl) (zby_at (j := 14) zbX11_net_0 rfl)
theorem dX11_net_15 : decode cX11_net 15 = .ok (.invokevirtual 263, 3) := dq_182 (zby_at (j := 15) zbX11_net_0 rfl) (zby_at (j := 16) zbX11_net_0 rfl) (zby_at (j := 17) zbX11_net_0 rfl)
theorem zbX11_net_1 : zby cX11_net 16 20 = [1, 7, 167, 0, 5, 16, 254, 172] := by decide +kernel
theorem dX11_net_18 : decode cX11_net 18 = .ok (.goto 5, 3) := dq_167 (zby_at (j := 2) zbX11_net_1 rfl) (zby_at (j := 3) zbX11_net_1 rfl) (zby_at (j := 4) zbX11_net_1 rfl) rfl
theorem dX11_net_21 : decode cX11_net 21 = .ok (.bipush (-2), 2) := dq_16 (zby_at (j := 5) zbX11_net_1 rfl) (zby_at (j := 6) zbX11_net_1 rfl) rfl
theorem dX11_net_23 : decode cX11_net 23 = .ok (.ireturn, 1) := dq_172 (zby_at (j := 7) zbX11_net_1 rfl)
theorem zbX11_wide_0 : zby cX11_wide 0 20 = [42, 27, 182, 0, 135, 153, 0, 11, 42, 28, 182, 0, 183, 154, 0, 6, 16, 254, 172, 42] := by decide +kernel
theorem dX11_wide_0 : decode cX11_wide 0 = .ok (.aload_n 0, 1) := dq_42 (zby_at (j := 0) zbX11_wide_0 rfl)
theorem dX11_wide_1 : decode cX11_wide 1 = .ok (.iload_n 1, 1) := dq_27 (zby_at (j := 1) zbX11_wide_0 rfl)
theorem dX11_wide_2 : decode cX11_wide 2 = .ok (.invokevirtual 135, 3) := dq_182 (zby_at (j := 2) zbX11_wide_0 rfl) (zby_at (j := 3) zbX11_wide_0 rfl) (zby_at (j := 4) zbX11_wide_0 rfl)
theorem dX11_wide_5 : decode cX11_wide 5 = .ok (.ifCond .eq 11, 3) := dq_153 (zby_at (j := 5) zbX11_wide_0 rfl) (zby_at (j := 6) zbX11_wide_0 rfl) (zby_at (j := 7) zbX11_wide_0 rfl) rfl
theorem dX11_wide_8 : decode cX11_wide 8 = .ok (.aload_n 0, 1) := dq_42 (zby_at (j := 8) zbX11_wide_0 rfl)
theorem dX11_wide_9 : decode cX11_wide 9 = .ok (.iload_n 2, 1) := dq_28 (zby_at (j := 9) zbX11_wide_0 rfl)
theorem dX11_wide_10 : decode cX11_wide 10 = .ok (.invokevirtual 183, 3) := dq_182 (zby_at (j := 10) zbX11_wide_0 rfl) (zby_at (j := 11) zbX11_wide_0 rfl) (zby_at (j := 12) zbX11_wide_0 rfl)
theorem dX11_wide_13 : decode cX11_wide 13 = .ok (.ifCond .ne 6, 3) := dq_154 (zby_at (j := 13) zbX11_wide_0 rfl) (zby_at (j := 14) zbX11_wide_0 rfl) (zby_at (j := 15) zbX11_wide_0 rfl) rfl
theorem zbX11_wide_1 : zby cX11_wide 16 20 = [16, 254, 172, 42, 180, 0, 78, 42, 180, 0, 26, 42, 180, 0, 26, 180, 0, 146, 27, 50] := by decide +kernel
theorem dX11_wide_16 : decode cX11_wide 16 = .ok (.bipush (-2), 2) := dq_16 (zby_at (j := 0) zbX11_wide_1 rfl) (zby_at (j := 1) zbX11_wide_1 rfl) rfl
theorem dX11_wide_18 : decode cX11_wide 18 = .ok (.ireturn, 1) := dq_172 (zby_at (j := 2) zbX11_wide_1 rfl)
theorem dX11_wide_19 : decode cX11_wide 19 = .ok (.aload_n 0, 1) := dq_42 (zby_at (j := 3) zbX11_wide_1 rfl)
theorem dX11_wide_20 : decode cX11_wide 20 = .ok (.getfield 78, 3) := dq_180 (zby_at (j := 4) zbX11_wide_1 rfl) (zby_at (j := 5) zbX11_wide_1 rfl) (zby_at (j := 6) zbX11_wide_1 rfl)
theorem dX11_wide_23 : decode cX11_wide 23 = .ok (.aload_n 0, 1) := dq_42 (zby_at (j := 7) zbX11_wide_1 rfl)
theorem dX11_wide_24 : decode cX11_wide 24 = .ok (.getfield 26, 3) := dq_180 (zby_at (j := 8) zbX11_wide_1 rfl) (zby_at (j := 9) zbX11_wide_1 rfl) (zby_at (j := 10) zbX11_wide_1 rfl)
theorem dX11_wide_27 : decode cX11_wide 27 = .ok (.aload_n 0, 1) := dq_42 (zby_at (j := 11) zbX11_wide_1 rfl)
theorem dX11_wide_28 : decode cX11_wide 28 = .ok (.getfield 26, 3) := dq_180 (zby_at (j := 12) zbX11_wide_1 rfl) (zby_at (j := 13) zbX11_wide_1 rfl) (zby_at (j := 14) zbX11_wide_1 rfl)
theorem dX11_wide_31 : decode cX11_wide 31 = .ok (.getfield 146, 3) := dq_180 (zby_at (j := 15) zbX11_wide_1 rfl) (zby_at (j := 16) zbX11_wide_1 rfl) (zby_at (j := 17) zbX11_wide_1 rfl)
theorem zbX11_wide_2 : zby cX11_wide 32 20 = [0, 146, 27, 50, 182, 1, 0, 87, 42, 180, 0, 78, 28, 182, 1, 11, 172] := by decide +kernel
theorem dX11_wide_34 : decode cX11_wide 34 = .ok (.iload_n 1, 1) := dq_27 (zby_at (j := 2) zbX11_wide_2 rfl)
theorem dX11_wide_35 : decode cX11_wide 35 = .ok (.aaload, 1) := dq_50 (zby_at (j := 3) zbX11_wide_2 rfl)
theorem dX11_wide_36 : decode cX11_wide 36 = .ok (.invokevirtual 256, 3) := dq_182 (zby_at (j := 4) zbX11_wide_2 rfl) (zby_at (j := 5) zbX11_wide_2 rfl) (zby_at (j := 6) zbX11_wide_2 rfl)
theorem dX11_wide_39 : decode cX11_wide 39 = .ok (.pop, 1) := dq_87 (zby_at (j := 7) zbX11_wide_2 rfl)
theorem dX11_wide_40 : decode cX11_wide 40 = .ok (.aload_n 0, 1) := dq_42 (zby_at (j := 8) zbX11_wide_2 rfl)
theorem dX11_wide_41 : decode cX11_wide 41 = .ok (.getfield 78, 3) := dq_180 (zby_at (j := 9) zbX11_wide_2 rfl) (zby_at (j := 10) zbX11_wide_2 rfl) (zby_at (j := 11) zbX11_wide_2 rfl)
theorem dX11_wide_44 : decode cX11_wide 44 = .ok (.iload_n 2, 1) := dq_28 (zby_at (j := 12) zbX11_wide_2 rfl)
theorem dX11_wide_45 : decode cX11_wide 45 = .ok (.invokevirtual 267, 3) := dq_182 (zby_at (j := 13) zbX11_wide_2 rfl) (zby_at (j := 14) zbX11_wide_2 rfl) (zby_at (j := 15) zbX11_wide_2 rfl)
theorem zbX11_wide_3 : zby cX11_wide 48 20 = [172] := by decide +kernel
theorem dX11_wide_48 : decode cX11_wide 48 = .ok (.ireturn, 1) := dq_172 (zby_at (j := 0) zbX11_wide_3 rfl)
theorem zbX11_order_0 : zby cX11_order 0 20 = [42, 27, 182, 0, 183, 153, 0, 15, 42, 180, 0, 26, 180, 1, 14, 27, 46, 167, 0, 5] := by decide +kernel
theorem dX11_order_0 : decode cX11_order 0 = .ok (.aload_n 0, 1) := dq_42 (zby_at (j := 0) zbX11_order_0 rfl)
theorem dX11_order_1 : decode cX11_order 1 = .ok (.iload_n 1, 1) := dq_27 (zby_at (j := 1) zbX11_order_0 rfl)
theorem dX11_order_2 : decode cX11_order 2 = .ok (.invokevirtual 183, 3) := dq_182 (zby_at (j := 2) zbX11_order_0 rfl) (zby_at (j := 3) zbX11_order_0 rfl) (zby_at (j := 4) zbX11_order_0 rfl)
theorem dX11_order_5 : decode cX11_order 5 = .ok (.ifCond .eq 15, 3) := dq_153 (zby_at (j := 5) zbX11_order_0 rfl) (zby_at (j := 6) zbX11_order_0 rfl) (zby_at (j := 7) zbX11_order_0 rfl) rfl
theorem dX11_order_8 : decode cX11_order 8 = .ok (.aload_n 0, 1) := dq_42 (zby_at (j := 8) zbX11_order_0 rfl)
theorem dX11_order_9 : decode cX11_order 9 = .ok (.getfield 26, 3) := dq_180 (zby_at (j := 9) zbX11_order_0 rfl) (zby_at (j := 10) zbX11_order_0 rfl) (zby_at (j := 11) zbX11_order_0 rfl)
theorem dX11_order_12 : decode cX11_order 12 = .ok (.getfield 270, 3) := dq_180 (zby_at (j := 12) zbX11_order_0 rfl) (zby_at (j := 13) zbX11_order_0 rfl) (zby_at (j := 14) zbX11_order_0 rfl)
theorem dX11_order_15 : decode cX11_order 15 = .ok (.iload_n 1, 1) := dq_27 (zby_at (j := 15) zbX11_order_0 rfl)
theorem zbX11_order_1 : zby cX11_order 16 20 = [46, 167, 0, 5, 16, 254, 172] := by decide +kernel
theorem dX11_order_16 : decode cX11_order 16 = .ok (.iaload, 1) := dq_46 (zby_at (j := 0) zbX11_order_1 rfl)
theorem dX11_order_17 : decode cX11_order 17 = .ok (.goto 5, 3) := dq_167 (zby_at (j := 1) zbX11_order_1 rfl) (zby_at (j := 2) zbX11_order_1 rfl) (zby_at (j := 3) zbX11_order_1 rfl) rfl
theorem dX11_order_20 : decode cX11_order 20 = .ok (.bipush (-2), 2) := dq_16 (zby_at (j := 4) zbX11_order_1 rfl) (zby_at (j := 5) zbX11_order_1 rfl) rfl
theorem dX11_order_22 : decode cX11_order 22 = .ok (.ireturn, 1) := dq_172 (zby_at (j := 6) zbX11_order_1 rfl)
theorem zbX11_swap_0 : zby cX11_swap 0 20 = [42, 27, 182, 0, 183, 153, 0, 16, 27, 42, 180, 0, 26, 180, 0, 139, 4, 100, 161, 0] := by decide +kernel
theorem dX11_swap_0 : decode cX11_swap 0 = .ok (.aload_n 0, 1) := dq_42 (zby_at (j := 0) zbX11_swap_0 rfl)
theorem dX11_swap_1 : decode cX11_swap 1 = .ok (.iload_n 1, 1) := dq_27 (zby_at (j := 1) zbX11_swap_0 rfl)
theorem dX11_swap_2 : decode cX11_swap 2 = .ok (.invokevirtual 183, 3) := dq_182 (zby_at (j := 2) zbX11_swap_0 rfl) (zby_at (j := 3) zbX11_swap_0 rfl) (zby_at (j := 4) zbX11_swap_0 rfl)
theorem dX11_swap_5 : decode cX11_swap 5 = .ok (.ifCond .eq 16, 3) := dq_153 (zby_at (j := 5) zbX11_swap_0 rfl) (zby_at (j := 6) zbX11_swap_0 rfl) (zby_at (j := 7) zbX11_swap_0 rfl) rfl
theorem dX11_swap_8 : decode cX11_swap 8 = .ok (.iload_n 1, 1) := dq_27 (zby_at (j := 8) zbX11_swap_0 rfl)
theorem dX11_swap_9 : decode cX11_swap 9 = .ok (.aload_n 0, 1) := dq_42 (zby_at (j := 9) zbX11_swap_0 rfl)
theorem dX11_swap_10 : decode cX11_swap 10 = .ok (.getfield 26, 3) := dq_180 (zby_at (j := 10) zbX11_swap_0 rfl) (zby_at (j := 11) zbX11_swap_0 rfl) (zby_at (j := 12) zbX11_swap_0 rfl)
theorem dX11_swap_13 : decode cX11_swap 13 = .ok (.getfield 139, 3) := dq_180 (zby_at (j := 13) zbX11_swap_0 rfl) (zby_at (j := 14) zbX11_swap_0 rfl) (zby_at (j := 15) zbX11_swap_0 rfl)
theorem zbX11_swap_1 : zby cX11_swap 16 20 = [4, 100, 161, 0, 6, 16, 254, 172, 42, 180, 0, 26, 42, 180, 0, 26, 180, 1, 14, 27] := by decide +kernel
theorem dX11_swap_16 : decode cX11_swap 16 = .ok (.iconst 1, 1) := dq_4 (zby_at (j := 0) zbX11_swap_1 rfl)
theorem dX11_swap_17 : decode cX11_swap 17 = .ok (.isub, 1) := dq_100 (zby_at (j := 1) zbX11_swap_1 rfl)
theorem dX11_swap_18 : decode cX11_swap 18 = .ok (.if_icmp .lt 6, 3) := dq_161 (zby_at (j := 2) zbX11_swap_1 rfl) (zby_at (j := 3) zbX11_swap_1 rfl) (zby_at (j := 4) zbX11_swap_1 rfl) rfl
theorem dX11_swap_21 : decode cX11_swap 21 = .ok (.bipush (-2), 2) := dq_16 (zby_at (j := 5) zbX11_swap_1 rfl) (zby_at (j := 6) zbX11_swap_1 rfl) rfl
theorem dX11_swap_23 : decode cX11_swap 23 = .ok (.ireturn, 1) := dq_172 (zby_at (j := 7) zbX11_swap_1 rfl)
theorem dX11_swap_24 : decode cX11_swap 24 = .ok (.aload_n 0, 1) := dq_42 (zby_at (j := 8) zbX11_swap_1 rfl)
theorem dX11_swap_25 : decode cX11_swap 25 = .ok (.getfield 26, 3) := dq_180 (zby_at (j := 9) zbX11_swap_1 rfl) (zby_at (j := 10) zbX11_swap_1 rfl) (zby_at (j := 11) zbX11_swap_1 rfl)
theorem dX11_swap_28 : decode cX11_swap 28 = .ok (.aload_n 0, 1) := dq_42 (zby_at (j := 12) zbX11_swap_1 rfl)
theorem dX11_swap_29 : decode cX11_swap 29 = .ok (.getfield 26, 3) := dq_180 (zby_at (j := 13) zbX11_swap_1 rfl) (zby_at (j := 14) zbX11_swap_1 rfl) (zby_at (j := 15) zbX11_swap_1 rfl)
theorem zbX11_swap_2 : zby cX11_swap 32 20 = [180, 1, 14, 27, 46, 27, 4, 96, 182, 1, 17, 87, 42, 180, 0, 78, 42, 180, 0, 26] := by decide +kernel
theorem dX11_swap_32 : decode cX11_swap 32 = .ok (.getfield 270, 3) := dq_180 (zby_at (j := 0) zbX11_swap_2 rfl) (zby_at (j := 1) zbX11_swap_2 rfl) (zby_at (j := 2) zbX11_swap_2 rfl)
theorem dX11_swap_35 : decode cX11_swap 35 = .ok (.iload_n 1, 1) := dq_27 (zby_at (j := 3) zbX11_swap_2 rfl)
theorem dX11_swap_36 : decode cX11_swap 36 = .ok (.iaload, 1) := dq_46 (zby_at (j := 4) zbX11_swap_2 rfl)
theorem dX11_swap_37 : decode cX11_swap 37 = .ok (.iload_n 1, 1) := dq_27 (zby_at (j := 5) zbX11_swap_2 rfl)
theorem dX11_swap_38 : decode cX11_swap 38 = .ok (.iconst 1, 1) := dq_4 (zby_at (j := 6) zbX11_swap_2 rfl)
theorem dX11_swap_39 : decode cX11_swap 39 = .ok (.iadd, 1) := dq_96 (zby_at (j := 7) zbX11_swap_2 rfl)
theorem dX11_swap_40 : decode cX11_swap 40 = .ok (.invokevirtual 273, 3) := dq_182 (zby_at (j := 8) zbX11_swap_2 rfl) (zby_at (j := 9) zbX11_swap_2 rfl) (zby_at (j := 10) zbX11_swap_2 rfl)
theorem dX11_swap_43 : decode cX11_swap 43 = .ok (.pop, 1) := dq_87 (zby_at (j := 11) zbX11_swap_2 rfl)
theorem dX11_swap_44 : decode cX11_swap 44 = .ok (.aload_n 0, 1) := dq_42 (zby_at (j := 12) zbX11_swap_2 rfl)
theorem dX11_swap_45 : decode cX11_swap 45 = .ok (.getfield 78, 3) := dq_180 (zby_at (j := 13) zbX11_swap_2 rfl) (zby_at (j := 14) zbX11_swap_2 rfl) (zby_at (j := 15) zbX11_swap_2 rfl)
theorem zbX11_swap_3 : zby cX11_swap 48 20 = [42, 180, 0, 26, 182, 1, 7, 172] := by decide +kernel
theorem dX11_swap_48 : decode cX11_swap 48 = .ok (.aload_n 0, 1) := dq_42 (zby_at (j := 0) zbX11_swap_3 rfl)
theorem dX11_swap_49 : decode cX11_swap 49 = .ok (.getfield 26, 3) := dq_180 (zby_at (j := 1) zbX11_swap_3 rfl) (zby_at (j := 2) zbX11_swap_3 rfl) (zby_at (j := 3) zbX11_swap_3 rfl)
theorem dX11_swap_52 : decode cX11_swap 52 = .ok (.invokevirtual 263, 3) := dq_182 (zby_at (j := 4) zbX11_swap_3 rfl) (zby_at (j := 5) zbX11_swap_3 rfl) (zby_at (j := 6) zbX11_swap_3 rfl)
theorem dX11_swap_55 : decode cX11_swap 55 = .ok (.ireturn, 1) := dq_172 (zby_at (j := 7) zbX11_swap_3 rfl)
theorem zbX11_move_0 : zby cX11_move 0 20 = [42, 27, 182, 0, 183, 153, 0, 11, 42, 28, 182, 0, 183, 154, 0, 6, 16, 254, 172, 42] := by decide +kernel
theorem dX11_move_0 : decode cX11_move 0 = .ok (.aload_n 0, 1) := dq_42 (zby_at (j := 0) zbX11_move_0 rfl)
theorem dX11_move_1 : decode cX11_move 1 = .ok (.iload_n 1, 1) := dq_27 (zby_at (j := 1) zbX11_move_0 rfl)
theorem dX11_move_2 : decode cX11_move 2 = .ok (.invokevirtual 183, 3) := dq_182 (zby_at (j := 2) zbX11_move_0 rfl) (zby_at (j := 3) zbX11_move_0 rfl) (zby_at (j := 4) zbX11_move_0 rfl)
theorem dX11_move_5 : decode cX11_move 5 = .ok (.ifCond .eq 11, 3) := dq_153 (zby_at (j := 5) zbX11_move_0 rfl) (zby_at (j := 6) zbX11_move_0 rfl) (zby_at (j := 7) zbX11_move_0 rfl) rfl
theorem dX11_move_8 : decode cX11_move 8 = .ok (.aload_n 0, 1) := dq_42 (zby_at (j := 8) zbX11_move_0 rfl)
theorem dX11_move_9 : decode cX11_move 9 = .ok (.iload_n 2, 1) := dq_28 (zby_at (j := 9) zbX11_move_0 rfl)
theorem dX11_move_10 : decode cX11_move 10 = .ok (.invokevirtual 183, 3) := dq_182 (zby_at (j := 10) zbX11_move_0 rfl) (zby_at (j := 11) zbX11_move_0 rfl) (zby_at (j := 12) zbX11_move_0 rfl)
theorem dX11_move_13 : decode cX11_move 13 = .ok (.ifCond .ne 6, 3) := dq_154 (zby_at (j := 13) zbX11_move_0 rfl) (zby_at (j := 14) zbX11_move_0 rfl) (zby_at (j := 15) zbX11_move_0 rfl) rfl
theorem zbX11_move_1 : zby cX11_move 16 20 = [16, 254, 172, 42, 180, 0, 26, 27, 28, 182, 1, 17, 172] := by decide +kernel
theorem dX11_move_16 : decode cX11_move 16 = .ok (.bipush (-2), 2) := dq_16 (zby_at (j := 0) zbX11_move_1 rfl) (zby_at (j := 1) zbX11_move_1 rfl) rfl
theorem dX11_move_18 : decode cX11_move 18 = .ok (.ireturn, 1) := dq_172 (zby_at (j := 2) zbX11_move_1 rfl)
theorem dX11_move_19 : decode cX11_move 19 = .ok (.aload_n 0, 1) := dq_42 (zby_at (j := 3) zbX11_move_1 rfl)
theorem dX11_move_20 : decode cX11_move 20 = .ok (.getfield 26, 3) := dq_180 (zby_at (j := 4) zbX11_move_1 rfl) (zby_at (j := 5) zbX11_move_1 rfl) (zby_at (j := 6) zbX11_move_1 rfl)
theorem dX11_move_23 : decode cX11_move 23 = .ok (.iload_n 1, 1) := dq_27 (zby_at (j := 7) zbX11_move_1 rfl)
theorem dX11_move_24 : decode cX11_move 24 = .ok (.iload_n 2, 1) := dq_28 (zby_at (j := 8) zbX11_move_1 rfl)
theorem dX11_move_25 : decode cX11_move 25 = .ok (.invokevirtual 273, 3) := dq_182 (zby_at (j := 9) zbX11_move_1 rfl) (zby_at (j := 10) zbX11_move_1 rfl) (zby_at (j := 11) zbX11_move_1 rfl)
theorem dX11_move_28 : decode cX11_move 28 = .ok (.ireturn, 1) := dq_172 (zby_at (j := 12) zbX11_move_1 rfl)
theorem zbX11_best_0 : zby cX11_best 0 20 = [42, 27, 182, 0, 135, 153, 0, 13, 28, 155, 0, 9, 28, 16, 10, 164, 0, 6, 16, 254] := by decide +kernel
theorem dX11_best_0 : decode cX11_best 0 = .ok (.aload_n 0, 1) := dq_42 (zby_at (j := 0) zbX11_best_0 rfl)
theorem dX11_best_1 : decode cX11_best 1 = .ok (.iload_n 1, 1) := dq_27 (zby_at (j := 1) zbX11_best_0 rfl)
theorem dX11_best_2 : decode cX11_best 2 = .ok (.invokevirtual 135, 3) := dq_182 (zby_at (j := 2) zbX11_best_0 rfl) (zby_at (j := 3) zbX11_best_0 rfl) (zby_at (j := 4) zbX11_best_0 rfl)
theorem dX11_best_5 : decode cX11_best 5 = .ok (.ifCond .eq 13, 3) := dq_153 (zby_at (j := 5) zbX11_best_0 rfl) (zby_at (j := 6) zbX11_best_0 rfl) (zby_at (j := 7) zbX11_best_0 rfl) rfl
theorem dX11_best_8 : decode cX11_best 8 = .ok (.iload_n 2, 1) := dq_28 (zby_at (j := 8) zbX11_best_0 rfl)
theorem dX11_best_9 : decode cX11_best 9 = .ok (.ifCond .lt 9, 3) := dq_155 (zby_at (j := 9) zbX11_best_0 rfl) (zby_at (j := 10) zbX11_best_0 rfl) (zby_at (j := 11) zbX11_best_0 rfl) rfl
theorem dX11_best_12 : decode cX11_best 12 = .ok (.iload_n 2, 1) := dq_28 (zby_at (j := 12) zbX11_best_0 rfl)
theorem dX11_best_13 : decode cX11_best 13 = .ok (.bipush 10, 2) := dq_16 (zby_at (j := 13) zbX11_best_0 rfl) (zby_at (j := 14) zbX11_best_0 rfl) rfl
theorem dX11_best_15 : decode cX11_best 15 = .ok (.if_icmp .le 6, 3) := dq_164 (zby_at (j := 15) zbX11_best_0 rfl) (zby_at (j := 16) zbX11_best_0 rfl) (zby_at (j := 17) zbX11_best_0 rfl) rfl
theorem zbX11_best_1 : zby cX11_best 16 20 = [0, 6, 16, 254, 172, 42, 180, 0, 26, 180, 0, 139, 16, 6, 164, 0, 6, 16, 253, 172] := by decide +kernel
theorem dX11_best_18 : decode cX11_best 18 = .ok (.bipush (-2), 2) := dq_16 (zby_at (j := 2) zbX11_best_1 rfl) (zby_at (j := 3) zbX11_best_1 rfl) rfl
theorem dX11_best_20 : decode cX11_best 20 = .ok (.ireturn, 1) := dq_172 (zby_at (j := 4) zbX11_best_1 rfl)
theorem dX11_best_21 : decode cX11_best 21 = .ok (.aload_n 0, 1) := dq_42 (zby_at (j := 5) zbX11_best_1 rfl)
theorem dX11_best_22 : decode cX11_best 22 = .ok (.getfield 26, 3) := dq_180 (zby_at (j := 6) zbX11_best_1 rfl) (zby_at (j := 7) zbX11_best_1 rfl) (zby_at (j := 8) zbX11_best_1 rfl)
theorem dX11_best_25 : decode cX11_best 25 = .ok (.getfield 139, 3) := dq_180 (zby_at (j := 9) zbX11_best_1 rfl) (zby_at (j := 10) zbX11_best_1 rfl) (zby_at (j := 11) zbX11_best_1 rfl)
theorem dX11_best_28 : decode cX11_best 28 = .ok (.bipush 6, 2) := dq_16 (zby_at (j := 12) zbX11_best_1 rfl) (zby_at (j := 13) zbX11_best_1 rfl) rfl
theorem dX11_best_30 : decode cX11_best 30 = .ok (.if_icmp .le 6, 3) := dq_164 (zby_at (j := 14) zbX11_best_1 rfl) (zby_at (j := 15) zbX11_best_1 rfl) (zby_at (j := 16) zbX11_best_1 rfl) rfl
theorem zbX11_best_2 : zby cX11_best 32 20 = [6, 16, 253, 172, 28, 42, 180, 0, 26, 180, 0, 139, 164, 0, 5, 2, 172, 42, 180, 0] := by decide +kernel
theorem dX11_best_33 : decode cX11_best 33 = .ok (.bipush (-3), 2) := dq_16 (zby_at (j := 1) zbX11_best_2 rfl) (zby_at (j := 2) zbX11_best_2 rfl) rfl
theorem dX11_best_35 : decode cX11_best 35 = .ok (.ireturn, 1) := dq_172 (zby_at (j := 3) zbX11_best_2 rfl)
theorem dX11_best_36 : decode cX11_best 36 = .ok (.iload_n 2, 1) := dq_28 (zby_at (j := 4) zbX11_best_2 rfl)
theorem dX11_best_37 : decode cX11_best 37 = .ok (.aload_n 0, 1) := dq_42 (zby_at (j := 5) zbX11_best_2 rfl)
theorem dX11_best_38 : decode cX11_best 38 = .ok (.getfield 26, 3) := dq_180 (zby_at (j := 6) zbX11_best_2 rfl) (zby_at (j := 7) zbX11_best_2 rfl) (zby_at (j := 8) zbX11_best_2 rfl)
theorem dX11_best_41 : decode cX11_best 41 = .ok (.getfield 139, 3) := dq_180 (zby_at (j := 9) zbX11_best_2 rfl) (zby_at (j := 10) zbX11_best_2 rfl) (zby_at (j := 11) zbX11_best_2 rfl)
theorem dX11_best_44 : decode cX11_best 44 = .ok (.if_icmp .le 5, 3) := dq_164 (zby_at (j := 12) zbX11_best_2 rfl) (zby_at (j := 13) zbX11_best_2 rfl) (zby_at (j := 14) zbX11_best_2 rfl) rfl
theorem dX11_best_47 : decode cX11_best 47 = .ok (.iconst (-1), 1) := dq_2 (zby_at (j := 15) zbX11_best_2 rfl)
theorem zbX11_best_3 : zby cX11_best 48 20 = [172, 42, 180, 0, 85, 42, 180, 0, 26, 180, 0, 146, 27, 50, 42, 180, 0, 26, 180, 0] := by decide +kernel
theorem dX11_best_48 : decode cX11_best 48 = .ok (.ireturn, 1) := dq_172 (zby_at (j := 0) zbX11_best_3 rfl)
theorem dX11_best_49 : decode cX11_best 49 = .ok (.aload_n 0, 1) := dq_42 (zby_at (j := 1) zbX11_best_3 rfl)
theorem dX11_best_50 : decode cX11_best 50 = .ok (.getfield 85, 3) := dq_180 (zby_at (j := 2) zbX11_best_3 rfl) (zby_at (j := 3) zbX11_best_3 rfl) (zby_at (j := 4) zbX11_best_3 rfl)
theorem dX11_best_53 : decode cX11_best 53 = .ok (.aload_n 0, 1) := dq_42 (zby_at (j := 5) zbX11_best_3 rfl)
theorem dX11_best_54 : decode cX11_best 54 = .ok (.getfield 26, 3) := dq_180 (zby_at (j := 6) zbX11_best_3 rfl) (zby_at (j := 7) zbX11_best_3 rfl) (zby_at (j := 8) zbX11_best_3 rfl)
theorem dX11_best_57 : decode cX11_best 57 = .ok (.getfield 146, 3) := dq_180 (zby_at (j := 9) zbX11_best_3 rfl) (zby_at (j := 10) zbX11_best_3 rfl) (zby_at (j := 11) zbX11_best_3 rfl)
theorem dX11_best_60 : decode cX11_best 60 = .ok (.iload_n 1, 1) := dq_27 (zby_at (j := 12) zbX11_best_3 rfl)
theorem dX11_best_61 : decode cX11_best 61 = .ok (.aaload, 1) := dq_50 (zby_at (j := 13) zbX11_best_3 rfl)
theorem dX11_best_62 : decode cX11_best 62 = .ok (.aload_n 0, 1) := dq_42 (zby_at (j := 14) zbX11_best_3 rfl)
theorem dX11_best_63 : decode cX11_best 63 = .ok (.getfield 26, 3) := dq_180 (zby_at (j := 15) zbX11_best_3 rfl) (zby_at (j := 16) zbX11_best_3 rfl) (zby_at (j := 17) zbX11_best_3 rfl)
theorem zbX11_best_4 : zby cX11_best 64 20 = [0, 26, 180, 0, 139, 182, 1, 21, 28, 154, 0, 13, 42, 180, 0, 85, 182, 1, 25, 167] := by decide +kernel
theorem dX11_best_66 : decode cX11_best 66 = .ok (.getfield 139, 3) := dq_180 (zby_at (j := 2) zbX11_best_4 rfl) (zby_at (j := 3) zbX11_best_4 rfl) (zby_at (j := 4) zbX11_best_4 rfl)
theorem dX11_best_69 : decode cX11_best 69 = .ok (.invokevirtual 277, 3) := dq_182 (zby_at (j := 5) zbX11_best_4 rfl) (zby_at (j := 6) zbX11_best_4 rfl) (zby_at (j := 7) zbX11_best_4 rfl)
theorem dX11_best_72 : decode cX11_best 72 = .ok (.iload_n 2, 1) := dq_28 (zby_at (j := 8) zbX11_best_4 rfl)
theorem dX11_best_73 : decode cX11_best 73 = .ok (.ifCond .ne 13, 3) := dq_154 (zby_at (j := 9) zbX11_best_4 rfl) (zby_at (j := 10) zbX11_best_4 rfl) (zby_at (j := 11) zbX11_best_4 rfl) rfl
theorem dX11_best_76 : decode cX11_best 76 = .ok (.aload_n 0, 1) := dq_42 (zby_at (j := 12) zbX11_best_4 rfl)
theorem dX11_best_77 : decode cX11_best 77 = .ok (.getfield 85, 3) := dq_180 (zby_at (j := 13) zbX11_best_4 rfl) (zby_at (j := 14) zbX11_best_4 rfl) (zby_at (j := 15) zbX11_best_4 rfl)
theorem zbX11_best_5 : zby cX11_best 80 20 = [182, 1, 25, 167, 0, 13, 42, 180, 0, 85, 28, 4, 100, 182, 1, 28, 172] := by decide +kernel
theorem dX11_best_80 : decode cX11_best 80 = .ok (.invokevirtual 281, 3) := dq_182 (zby_at (j := 0) zbX11_best_5 rfl) (zby_at (j := 1) zbX11_best_5 rfl) (zby_at (j := 2) zbX11_best_5 rfl)
theorem dX11_best_83 : decode cX11_best 83 = .ok (.goto 13, 3) := dq_167 (zby_at (j := 3) zbX11_best_5 rfl) (zby_at (j := 4) zbX11_best_5 rfl) (zby_at (j := 5) zbX11_best_5 rfl) rfl
theorem dX11_best_86 : decode cX11_best 86 = .ok (.aload_n 0, 1) := dq_42 (zby_at (j := 6) zbX11_best_5 rfl)
theorem dX11_best_87 : decode cX11_best 87 = .ok (.getfield 85, 3) := dq_180 (zby_at (j := 7) zbX11_best_5 rfl) (zby_at (j := 8) zbX11_best_5 rfl) (zby_at (j := 9) zbX11_best_5 rfl)
theorem dX11_best_90 : decode cX11_best 90 = .ok (.iload_n 2, 1) := dq_28 (zby_at (j := 10) zbX11_best_5 rfl)
theorem dX11_best_91 : decode cX11_best 91 = .ok (.iconst 1, 1) := dq_4 (zby_at (j := 11) zbX11_best_5 rfl)
theorem dX11_best_92 : decode cX11_best 92 = .ok (.isub, 1) := dq_100 (zby_at (j := 12) zbX11_best_5 rfl)
theorem dX11_best_93 : decode cX11_best 93 = .ok (.invokevirtual 284, 3) := dq_182 (zby_at (j := 13) zbX11_best_5 rfl) (zby_at (j := 14) zbX11_best_5 rfl) (zby_at (j := 15) zbX11_best_5 rfl)
theorem zbX11_best_6 : zby cX11_best 96 20 = [172] := by decide +kernel
theorem dX11_best_96 : decode cX11_best 96 = .ok (.ireturn, 1) := dq_172 (zby_at (j := 0) zbX11_best_6 rfl)
theorem zbX11_sift_0 : zby cX11_sift 0 20 = [42, 27, 182, 0, 135, 154, 0, 6, 16, 254, 172, 42, 180, 0, 85, 42, 180, 0, 26, 42] := by decide +kernel
theorem dX11_sift_0 : decode cX11_sift 0 = .ok (.aload_n 0, 1) := dq_42 (zby_at (j := 0) zbX11_sift_0 rfl)
theorem dX11_sift_1 : decode cX11_sift 1 = .ok (.iload_n 1, 1) := dq_27 (zby_at (j := 1) zbX11_sift_0 rfl)
theorem dX11_sift_2 : decode cX11_sift 2 = .ok (.invokevirtual 135, 3) := dq_182 (zby_at (j := 2) zbX11_sift_0 rfl) (zby_at (j := 3) zbX11_sift_0 rfl) (zby_at (j := 4) zbX11_sift_0 rfl)
theorem dX11_sift_5 : decode cX11_sift 5 = .ok (.ifCond .ne 6, 3) := dq_154 (zby_at (j := 5) zbX11_sift_0 rfl) (zby_at (j := 6) zbX11_sift_0 rfl) (zby_at (j := 7) zbX11_sift_0 rfl) rfl
theorem dX11_sift_8 : decode cX11_sift 8 = .ok (.bipush (-2), 2) := dq_16 (zby_at (j := 8) zbX11_sift_0 rfl) (zby_at (j := 9) zbX11_sift_0 rfl) rfl
theorem dX11_sift_10 : decode cX11_sift 10 = .ok (.ireturn, 1) := dq_172 (zby_at (j := 10) zbX11_sift_0 rfl)
theorem dX11_sift_11 : decode cX11_sift 11 = .ok (.aload_n 0, 1) := dq_42 (zby_at (j := 11) zbX11_sift_0 rfl)
theorem dX11_sift_12 : decode cX11_sift 12 = .ok (.getfield 85, 3) := dq_180 (zby_at (j := 12) zbX11_sift_0 rfl) (zby_at (j := 13) zbX11_sift_0 rfl) (zby_at (j := 14) zbX11_sift_0 rfl)
theorem dX11_sift_15 : decode cX11_sift 15 = .ok (.aload_n 0, 1) := dq_42 (zby_at (j := 15) zbX11_sift_0 rfl)
theorem zbX11_sift_1 : zby cX11_sift 16 20 = [180, 0, 26, 42, 180, 0, 26, 180, 0, 146, 27, 50, 42, 180, 0, 78, 182, 1, 31, 172] := by decide +kernel
theorem dX11_sift_16 : decode cX11_sift 16 = .ok (.getfield 26, 3) := dq_180 (zby_at (j := 0) zbX11_sift_1 rfl) (zby_at (j := 1) zbX11_sift_1 rfl) (zby_at (j := 2) zbX11_sift_1 rfl)
theorem dX11_sift_19 : decode cX11_sift 19 = .ok (.aload_n 0, 1) := dq_42 (zby_at (j := 3) zbX11_sift_1 rfl)
theorem dX11_sift_20 : decode cX11_sift 20 = .ok (.getfield 26, 3) := dq_180 (zby_at (j := 4) zbX11_sift_1 rfl) (zby_at (j := 5) zbX11_sift_1 rfl) (zby_at (j := 6) zbX11_sift_1 rfl)
theorem dX11_sift_23 : decode cX11_sift 23 = .ok (.getfield 146, 3) := dq_180 (zby_at (j := 7) zbX11_sift_1 rfl) (zby_at (j := 8) zbX11_sift_1 rfl) (zby_at (j := 9) zbX11_sift_1 rfl)
theorem dX11_sift_26 : decode cX11_sift 26 = .ok (.iload_n 1, 1) := dq_27 (zby_at (j := 10) zbX11_sift_1 rfl)
theorem dX11_sift_27 : decode cX11_sift 27 = .ok (.aaload, 1) := dq_50 (zby_at (j := 11) zbX11_sift_1 rfl)
theorem dX11_sift_28 : decode cX11_sift 28 = .ok (.aload_n 0, 1) := dq_42 (zby_at (j := 12) zbX11_sift_1 rfl)
theorem dX11_sift_29 : decode cX11_sift 29 = .ok (.getfield 78, 3) := dq_180 (zby_at (j := 13) zbX11_sift_1 rfl) (zby_at (j := 14) zbX11_sift_1 rfl) (zby_at (j := 15) zbX11_sift_1 rfl)
theorem zbX11_sift_2 : zby cX11_sift 32 20 = [182, 1, 31, 172] := by decide +kernel
theorem dX11_sift_32 : decode cX11_sift 32 = .ok (.invokevirtual 287, 3) := dq_182 (zby_at (j := 0) zbX11_sift_2 rfl) (zby_at (j := 1) zbX11_sift_2 rfl) (zby_at (j := 2) zbX11_sift_2 rfl)
theorem dX11_sift_35 : decode cX11_sift 35 = .ok (.ireturn, 1) := dq_172 (zby_at (j := 3) zbX11_sift_2 rfl)
theorem zbX11_ways_0 : zby cX11_ways 0 20 = [42, 27, 182, 0, 135, 153, 0, 19, 42, 28, 182, 1, 35, 153, 0, 11, 42, 29, 182, 1] := by decide +kernel
theorem dX11_ways_0 : decode cX11_ways 0 = .ok (.aload_n 0, 1) := dq_42 (zby_at (j := 0) zbX11_ways_0 rfl)
theorem dX11_ways_1 : decode cX11_ways 1 = .ok (.iload_n 1, 1) := dq_27 (zby_at (j := 1) zbX11_ways_0 rfl)
theorem dX11_ways_2 : decode cX11_ways 2 = .ok (.invokevirtual 135, 3) := dq_182 (zby_at (j := 2) zbX11_ways_0 rfl) (zby_at (j := 3) zbX11_ways_0 rfl) (zby_at (j := 4) zbX11_ways_0 rfl)
theorem dX11_ways_5 : decode cX11_ways 5 = .ok (.ifCond .eq 19, 3) := dq_153 (zby_at (j := 5) zbX11_ways_0 rfl) (zby_at (j := 6) zbX11_ways_0 rfl) (zby_at (j := 7) zbX11_ways_0 rfl) rfl
theorem dX11_ways_8 : decode cX11_ways 8 = .ok (.aload_n 0, 1) := dq_42 (zby_at (j := 8) zbX11_ways_0 rfl)
theorem dX11_ways_9 : decode cX11_ways 9 = .ok (.iload_n 2, 1) := dq_28 (zby_at (j := 9) zbX11_ways_0 rfl)
theorem dX11_ways_10 : decode cX11_ways 10 = .ok (.invokevirtual 291, 3) := dq_182 (zby_at (j := 10) zbX11_ways_0 rfl) (zby_at (j := 11) zbX11_ways_0 rfl) (zby_at (j := 12) zbX11_ways_0 rfl)
theorem dX11_ways_13 : decode cX11_ways 13 = .ok (.ifCond .eq 11, 3) := dq_153 (zby_at (j := 13) zbX11_ways_0 rfl) (zby_at (j := 14) zbX11_ways_0 rfl) (zby_at (j := 15) zbX11_ways_0 rfl) rfl
theorem zbX11_ways_1 : zby cX11_ways 16 20 = [42, 29, 182, 1, 35, 154, 0, 6, 16, 254, 172, 42, 180, 0, 92, 42, 180, 0, 26, 28] := by decide +kernel
theorem dX11_ways_16 : decode cX11_ways 16 = .ok (.aload_n 0, 1) := dq_42 (zby_at (j := 0) zbX11_ways_1 rfl)
theorem dX11_ways_17 : decode cX11_ways 17 = .ok (.iload_n 3, 1) := dq_29 (zby_at (j := 1) zbX11_ways_1 rfl)
theorem dX11_ways_18 : decode cX11_ways 18 = .ok (.invokevirtual 291, 3) := dq_182 (zby_at (j := 2) zbX11_ways_1 rfl) (zby_at (j := 3) zbX11_ways_1 rfl) (zby_at (j := 4) zbX11_ways_1 rfl)
theorem dX11_ways_21 : decode cX11_ways 21 = .ok (.ifCond .ne 6, 3) := dq_154 (zby_at (j := 5) zbX11_ways_1 rfl) (zby_at (j := 6) zbX11_ways_1 rfl) (zby_at (j := 7) zbX11_ways_1 rfl) rfl
theorem dX11_ways_24 : decode cX11_ways 24 = .ok (.bipush (-2), 2) := dq_16 (zby_at (j := 8) zbX11_ways_1 rfl) (zby_at (j := 9) zbX11_ways_1 rfl) rfl
theorem dX11_ways_26 : decode cX11_ways 26 = .ok (.ireturn, 1) := dq_172 (zby_at (j := 10) zbX11_ways_1 rfl)
theorem dX11_ways_27 : decode cX11_ways 27 = .ok (.aload_n 0, 1) := dq_42 (zby_at (j := 11) zbX11_ways_1 rfl)
theorem dX11_ways_28 : decode cX11_ways 28 = .ok (.getfield 92, 3) := dq_180 (zby_at (j := 12) zbX11_ways_1 rfl) (zby_at (j := 13) zbX11_ways_1 rfl) (zby_at (j := 14) zbX11_ways_1 rfl)
theorem dX11_ways_31 : decode cX11_ways 31 = .ok (.aload_n 0, 1) := dq_42 (zby_at (j := 15) zbX11_ways_1 rfl)
theorem zbX11_ways_2 : zby cX11_ways 32 20 = [180, 0, 26, 28, 29, 42, 180, 0, 106, 182, 1, 38, 42, 27, 182, 0, 168, 172] := by decide +kernel
theorem dX11_ways_32 : decode cX11_ways 32 = .ok (.getfield 26, 3) := dq_180 (zby_at (j := 0) zbX11_ways_2 rfl) (zby_at (j := 1) zbX11_ways_2 rfl) (zby_at (j := 2) zbX11_ways_2 rfl)
theorem dX11_ways_35 : decode cX11_ways 35 = .ok (.iload_n 2, 1) := dq_28 (zby_at (j := 3) zbX11_ways_2 rfl)
theorem dX11_ways_36 : decode cX11_ways 36 = .ok (.iload_n 3, 1) := dq_29 (zby_at (j := 4) zbX11_ways_2 rfl)
theorem dX11_ways_37 : decode cX11_ways 37 = .ok (.aload_n 0, 1) := dq_42 (zby_at (j := 5) zbX11_ways_2 rfl)
theorem dX11_ways_38 : decode cX11_ways 38 = .ok (.getfield 106, 3) := dq_180 (zby_at (j := 6) zbX11_ways_2 rfl) (zby_at (j := 7) zbX11_ways_2 rfl) (zby_at (j := 8) zbX11_ways_2 rfl)
theorem dX11_ways_41 : decode cX11_ways 41 = .ok (.invokevirtual 294, 3) := dq_182 (zby_at (j := 9) zbX11_ways_2 rfl) (zby_at (j := 10) zbX11_ways_2 rfl) (zby_at (j := 11) zbX11_ways_2 rfl)
theorem dX11_ways_44 : decode cX11_ways 44 = .ok (.aload_n 0, 1) := dq_42 (zby_at (j := 12) zbX11_ways_2 rfl)
theorem dX11_ways_45 : decode cX11_ways 45 = .ok (.iload_n 1, 1) := dq_27 (zby_at (j := 13) zbX11_ways_2 rfl)
theorem dX11_ways_46 : decode cX11_ways 46 = .ok (.invokevirtual 168, 3) := dq_182 (zby_at (j := 14) zbX11_ways_2 rfl) (zby_at (j := 15) zbX11_ways_2 rfl) (zby_at (j := 16) zbX11_ways_2 rfl)
theorem zbX11_ways_3 : zby cX11_ways 48 20 = [168, 172] := by decide +kernel
theorem dX11_ways_49 : decode cX11_ways 49 = .ok (.ireturn, 1) := dq_172 (zby_at (j := 1) zbX11_ways_3 rfl)
theorem zbX11_map_0 : zby cX11_map 0 20 = [42, 27, 182, 0, 135, 153, 0, 12, 28, 155, 0, 8, 28, 5, 164, 0, 6, 16, 254, 172] := by decide +kernel
theorem dX11_map_0 : decode cX11_map 0 = .ok (.aload_n 0, 1) := dq_42 (zby_at (j := 0) zbX11_map_0 rfl)
theorem dX11_map_1 : decode cX11_map 1 = .ok (.iload_n 1, 1) := dq_27 (zby_at (j := 1) zbX11_map_0 rfl)
theorem dX11_map_2 : decode cX11_map 2 = .ok (.invokevirtual 135, 3) := dq_182 (zby_at (j := 2) zbX11_map_0 rfl) (zby_at (j := 3) zbX11_map_0 rfl) (zby_at (j := 4) zbX11_map_0 rfl)
theorem dX11_map_5 : decode cX11_map 5 = .ok (.ifCond .eq 12, 3) := dq_153 (zby_at (j := 5) zbX11_map_0 rfl) (zby_at (j := 6) zbX11_map_0 rfl) (zby_at (j := 7) zbX11_map_0 rfl) rfl
theorem dX11_map_8 : decode cX11_map 8 = .ok (.iload_n 2, 1) := dq_28 (zby_at (j := 8) zbX11_map_0 rfl)
theorem dX11_map_9 : decode cX11_map 9 = .ok (.ifCond .lt 8, 3) := dq_155 (zby_at (j := 9) zbX11_map_0 rfl) (zby_at (j := 10) zbX11_map_0 rfl) (zby_at (j := 11) zbX11_map_0 rfl) rfl
theorem dX11_map_12 : decode cX11_map 12 = .ok (.iload_n 2, 1) := dq_28 (zby_at (j := 12) zbX11_map_0 rfl)
theorem dX11_map_13 : decode cX11_map 13 = .ok (.iconst 2, 1) := dq_5 (zby_at (j := 13) zbX11_map_0 rfl)
theorem dX11_map_14 : decode cX11_map 14 = .ok (.if_icmp .le 6, 3) := dq_164 (zby_at (j := 14) zbX11_map_0 rfl) (zby_at (j := 15) zbX11_map_0 rfl) (zby_at (j := 16) zbX11_map_0 rfl) rfl
theorem zbX11_map_1 : zby cX11_map 16 20 = [6, 16, 254, 172, 42, 180, 0, 92, 42, 180, 0, 26, 28, 42, 180, 0, 106, 182, 1, 42] := by decide +kernel
theorem dX11_map_17 : decode cX11_map 17 = .ok (.bipush (-2), 2) := dq_16 (zby_at (j := 1) zbX11_map_1 rfl) (zby_at (j := 2) zbX11_map_1 rfl) rfl
theorem dX11_map_19 : decode cX11_map 19 = .ok (.ireturn, 1) := dq_172 (zby_at (j := 3) zbX11_map_1 rfl)
theorem dX11_map_20 : decode cX11_map 20 = .ok (.aload_n 0, 1) := dq_42 (zby_at (j := 4) zbX11_map_1 rfl)
theorem dX11_map_21 : decode cX11_map 21 = .ok (.getfield 92, 3) := dq_180 (zby_at (j := 5) zbX11_map_1 rfl) (zby_at (j := 6) zbX11_map_1 rfl) (zby_at (j := 7) zbX11_map_1 rfl)
theorem dX11_map_24 : decode cX11_map 24 = .ok (.aload_n 0, 1) := dq_42 (zby_at (j := 8) zbX11_map_1 rfl)
theorem dX11_map_25 : decode cX11_map 25 = .ok (.getfield 26, 3) := dq_180 (zby_at (j := 9) zbX11_map_1 rfl) (zby_at (j := 10) zbX11_map_1 rfl) (zby_at (j := 11) zbX11_map_1 rfl)
theorem dX11_map_28 : decode cX11_map 28 = .ok (.iload_n 2, 1) := dq_28 (zby_at (j := 12) zbX11_map_1 rfl)
theorem dX11_map_29 : decode cX11_map 29 = .ok (.aload_n 0, 1) := dq_42 (zby_at (j := 13) zbX11_map_1 rfl)
theorem dX11_map_30 : decode cX11_map 30 = .ok (.getfield 106, 3) := dq_180 (zby_at (j := 14) zbX11_map_1 rfl) (zby_at (j := 15) zbX11_map_1 rfl) (zby_at (j := 16) zbX11_map_1 rfl)
theorem zbX11_map_2 : zby cX11_map 32 20 = [106, 182, 1, 42, 42, 27, 182, 0, 168, 172] := by decide +kernel
theorem dX11_map_33 : decode cX11_map 33 = .ok (.invokevirtual 298, 3) := dq_182 (zby_at (j := 1) zbX11_map_2 rfl) (zby_at (j := 2) zbX11_map_2 rfl) (zby_at (j := 3) zbX11_map_2 rfl)
theorem dX11_map_36 : decode cX11_map 36 = .ok (.aload_n 0, 1) := dq_42 (zby_at (j := 4) zbX11_map_2 rfl)
theorem dX11_map_37 : decode cX11_map 37 = .ok (.iload_n 1, 1) := dq_27 (zby_at (j := 5) zbX11_map_2 rfl)
theorem dX11_map_38 : decode cX11_map 38 = .ok (.invokevirtual 168, 3) := dq_182 (zby_at (j := 6) zbX11_map_2 rfl) (zby_at (j := 7) zbX11_map_2 rfl) (zby_at (j := 8) zbX11_map_2 rfl)
theorem dX11_map_41 : decode cX11_map 41 = .ok (.ireturn, 1) := dq_172 (zby_at (j := 9) zbX11_map_2 rfl)
theorem zbX11_cuts_0 : zby cX11_cuts 0 20 = [42, 27, 182, 0, 135, 153, 0, 19, 42, 28, 182, 1, 35, 153, 0, 11, 42, 29, 182, 1] := by decide +kernel
theorem dX11_cuts_0 : decode cX11_cuts 0 = .ok (.aload_n 0, 1) := dq_42 (zby_at (j := 0) zbX11_cuts_0 rfl)
theorem dX11_cuts_1 : decode cX11_cuts 1 = .ok (.iload_n 1, 1) := dq_27 (zby_at (j := 1) zbX11_cuts_0 rfl)
theorem dX11_cuts_2 : decode cX11_cuts 2 = .ok (.invokevirtual 135, 3) := dq_182 (zby_at (j := 2) zbX11_cuts_0 rfl) (zby_at (j := 3) zbX11_cuts_0 rfl) (zby_at (j := 4) zbX11_cuts_0 rfl)
theorem dX11_cuts_5 : decode cX11_cuts 5 = .ok (.ifCond .eq 19, 3) := dq_153 (zby_at (j := 5) zbX11_cuts_0 rfl) (zby_at (j := 6) zbX11_cuts_0 rfl) (zby_at (j := 7) zbX11_cuts_0 rfl) rfl
theorem dX11_cuts_8 : decode cX11_cuts 8 = .ok (.aload_n 0, 1) := dq_42 (zby_at (j := 8) zbX11_cuts_0 rfl)
theorem dX11_cuts_9 : decode cX11_cuts 9 = .ok (.iload_n 2, 1) := dq_28 (zby_at (j := 9) zbX11_cuts_0 rfl)
theorem dX11_cuts_10 : decode cX11_cuts 10 = .ok (.invokevirtual 291, 3) := dq_182 (zby_at (j := 10) zbX11_cuts_0 rfl) (zby_at (j := 11) zbX11_cuts_0 rfl) (zby_at (j := 12) zbX11_cuts_0 rfl)
theorem dX11_cuts_13 : decode cX11_cuts 13 = .ok (.ifCond .eq 11, 3) := dq_153 (zby_at (j := 13) zbX11_cuts_0 rfl) (zby_at (j := 14) zbX11_cuts_0 rfl) (zby_at (j := 15) zbX11_cuts_0 rfl) rfl
theorem zbX11_cuts_1 : zby cX11_cuts 16 20 = [42, 29, 182, 1, 35, 154, 0, 6, 16, 254, 172, 42, 180, 0, 92, 42, 180, 0, 26, 28] := by decide +kernel
theorem dX11_cuts_16 : decode cX11_cuts 16 = .ok (.aload_n 0, 1) := dq_42 (zby_at (j := 0) zbX11_cuts_1 rfl)
theorem dX11_cuts_17 : decode cX11_cuts 17 = .ok (.iload_n 3, 1) := dq_29 (zby_at (j := 1) zbX11_cuts_1 rfl)
theorem dX11_cuts_18 : decode cX11_cuts 18 = .ok (.invokevirtual 291, 3) := dq_182 (zby_at (j := 2) zbX11_cuts_1 rfl) (zby_at (j := 3) zbX11_cuts_1 rfl) (zby_at (j := 4) zbX11_cuts_1 rfl)
theorem dX11_cuts_21 : decode cX11_cuts 21 = .ok (.ifCond .ne 6, 3) := dq_154 (zby_at (j := 5) zbX11_cuts_1 rfl) (zby_at (j := 6) zbX11_cuts_1 rfl) (zby_at (j := 7) zbX11_cuts_1 rfl) rfl
theorem dX11_cuts_24 : decode cX11_cuts 24 = .ok (.bipush (-2), 2) := dq_16 (zby_at (j := 8) zbX11_cuts_1 rfl) (zby_at (j := 9) zbX11_cuts_1 rfl) rfl
theorem dX11_cuts_26 : decode cX11_cuts 26 = .ok (.ireturn, 1) := dq_172 (zby_at (j := 10) zbX11_cuts_1 rfl)
theorem dX11_cuts_27 : decode cX11_cuts 27 = .ok (.aload_n 0, 1) := dq_42 (zby_at (j := 11) zbX11_cuts_1 rfl)
theorem dX11_cuts_28 : decode cX11_cuts 28 = .ok (.getfield 92, 3) := dq_180 (zby_at (j := 12) zbX11_cuts_1 rfl) (zby_at (j := 13) zbX11_cuts_1 rfl) (zby_at (j := 14) zbX11_cuts_1 rfl)
theorem dX11_cuts_31 : decode cX11_cuts 31 = .ok (.aload_n 0, 1) := dq_42 (zby_at (j := 15) zbX11_cuts_1 rfl)
theorem zbX11_cuts_2 : zby cX11_cuts 32 20 = [180, 0, 26, 28, 29, 42, 180, 0, 106, 182, 1, 38, 42, 180, 0, 64, 5, 42, 180, 0] := by decide +kernel
theorem dX11_cuts_32 : decode cX11_cuts 32 = .ok (.getfield 26, 3) := dq_180 (zby_at (j := 0) zbX11_cuts_2 rfl) (zby_at (j := 1) zbX11_cuts_2 rfl) (zby_at (j := 2) zbX11_cuts_2 rfl)
theorem dX11_cuts_35 : decode cX11_cuts 35 = .ok (.iload_n 2, 1) := dq_28 (zby_at (j := 3) zbX11_cuts_2 rfl)
theorem dX11_cuts_36 : decode cX11_cuts 36 = .ok (.iload_n 3, 1) := dq_29 (zby_at (j := 4) zbX11_cuts_2 rfl)
theorem dX11_cuts_37 : decode cX11_cuts 37 = .ok (.aload_n 0, 1) := dq_42 (zby_at (j := 5) zbX11_cuts_2 rfl)
theorem dX11_cuts_38 : decode cX11_cuts 38 = .ok (.getfield 106, 3) := dq_180 (zby_at (j := 6) zbX11_cuts_2 rfl) (zby_at (j := 7) zbX11_cuts_2 rfl) (zby_at (j := 8) zbX11_cuts_2 rfl)
theorem dX11_cuts_41 : decode cX11_cuts 41 = .ok (.invokevirtual 294, 3) := dq_182 (zby_at (j := 9) zbX11_cuts_2 rfl) (zby_at (j := 10) zbX11_cuts_2 rfl) (zby_at (j := 11) zbX11_cuts_2 rfl)
theorem dX11_cuts_44 : decode cX11_cuts 44 = .ok (.aload_n 0, 1) := dq_42 (zby_at (j := 12) zbX11_cuts_2 rfl)
theorem dX11_cuts_45 : decode cX11_cuts 45 = .ok (.getfield 64, 3) := dq_180 (zby_at (j := 13) zbX11_cuts_2 rfl) (zby_at (j := 14) zbX11_cuts_2 rfl) (zby_at (j := 15) zbX11_cuts_2 rfl)
theorem zbX11_cuts_3 : zby cX11_cuts 48 20 = [5, 42, 180, 0, 106, 42, 180, 0, 26, 180, 0, 139, 182, 0, 172, 42, 27, 182, 0, 168] := by decide +kernel
theorem dX11_cuts_48 : decode cX11_cuts 48 = .ok (.iconst 2, 1) := dq_5 (zby_at (j := 0) zbX11_cuts_3 rfl)
theorem dX11_cuts_49 : decode cX11_cuts 49 = .ok (.aload_n 0, 1) := dq_42 (zby_at (j := 1) zbX11_cuts_3 rfl)
theorem dX11_cuts_50 : decode cX11_cuts 50 = .ok (.getfield 106, 3) := dq_180 (zby_at (j := 2) zbX11_cuts_3 rfl) (zby_at (j := 3) zbX11_cuts_3 rfl) (zby_at (j := 4) zbX11_cuts_3 rfl)
theorem dX11_cuts_53 : decode cX11_cuts 53 = .ok (.aload_n 0, 1) := dq_42 (zby_at (j := 5) zbX11_cuts_3 rfl)
theorem dX11_cuts_54 : decode cX11_cuts 54 = .ok (.getfield 26, 3) := dq_180 (zby_at (j := 6) zbX11_cuts_3 rfl) (zby_at (j := 7) zbX11_cuts_3 rfl) (zby_at (j := 8) zbX11_cuts_3 rfl)
theorem dX11_cuts_57 : decode cX11_cuts 57 = .ok (.getfield 139, 3) := dq_180 (zby_at (j := 9) zbX11_cuts_3 rfl) (zby_at (j := 10) zbX11_cuts_3 rfl) (zby_at (j := 11) zbX11_cuts_3 rfl)
theorem dX11_cuts_60 : decode cX11_cuts 60 = .ok (.invokevirtual 172, 3) := dq_182 (zby_at (j := 12) zbX11_cuts_3 rfl) (zby_at (j := 13) zbX11_cuts_3 rfl) (zby_at (j := 14) zbX11_cuts_3 rfl)
theorem dX11_cuts_63 : decode cX11_cuts 63 = .ok (.aload_n 0, 1) := dq_42 (zby_at (j := 15) zbX11_cuts_3 rfl)
theorem zbX11_cuts_4 : zby cX11_cuts 64 20 = [27, 182, 0, 168, 172] := by decide +kernel
theorem dX11_cuts_64 : decode cX11_cuts 64 = .ok (.iload_n 1, 1) := dq_27 (zby_at (j := 0) zbX11_cuts_4 rfl)
theorem dX11_cuts_65 : decode cX11_cuts 65 = .ok (.invokevirtual 168, 3) := dq_182 (zby_at (j := 1) zbX11_cuts_4 rfl) (zby_at (j := 2) zbX11_cuts_4 rfl) (zby_at (j := 3) zbX11_cuts_4 rfl)
theorem dX11_cuts_68 : decode cX11_cuts 68 = .ok (.ireturn, 1) := dq_172 (zby_at (j := 4) zbX11_cuts_4 rfl)
theorem zbX11_judge_0 : zby cX11_judge 0 20 = [42, 27, 182, 1, 46, 153, 0, 11, 42, 28, 182, 0, 135, 154, 0, 6, 16, 254, 172, 42] := by decide +kernel
theorem dX11_judge_0 : decode cX11_judge 0 = .ok (.aload_n 0, 1) := dq_42 (zby_at (j := 0) zbX11_judge_0 rfl)
theorem dX11_judge_1 : decode cX11_judge 1 = .ok (.iload_n 1, 1) := dq_27 (zby_at (j := 1) zbX11_judge_0 rfl)
theorem dX11_judge_2 : decode cX11_judge 2 = .ok (.invokevirtual 302, 3) := dq_182 (zby_at (j := 2) zbX11_judge_0 rfl) (zby_at (j := 3) zbX11_judge_0 rfl) (zby_at (j := 4) zbX11_judge_0 rfl)
theorem dX11_judge_5 : decode cX11_judge 5 = .ok (.ifCond .eq 11, 3) := dq_153 (zby_at (j := 5) zbX11_judge_0 rfl) (zby_at (j := 6) zbX11_judge_0 rfl) (zby_at (j := 7) zbX11_judge_0 rfl) rfl
theorem dX11_judge_8 : decode cX11_judge 8 = .ok (.aload_n 0, 1) := dq_42 (zby_at (j := 8) zbX11_judge_0 rfl)
theorem dX11_judge_9 : decode cX11_judge 9 = .ok (.iload_n 2, 1) := dq_28 (zby_at (j := 9) zbX11_judge_0 rfl)
theorem dX11_judge_10 : decode cX11_judge 10 = .ok (.invokevirtual 135, 3) := dq_182 (zby_at (j := 10) zbX11_judge_0 rfl) (zby_at (j := 11) zbX11_judge_0 rfl) (zby_at (j := 12) zbX11_judge_0 rfl)
theorem dX11_judge_13 : decode cX11_judge 13 = .ok (.ifCond .ne 6, 3) := dq_154 (zby_at (j := 13) zbX11_judge_0 rfl) (zby_at (j := 14) zbX11_judge_0 rfl) (zby_at (j := 15) zbX11_judge_0 rfl) rfl
theorem zbX11_judge_1 : zby cX11_judge 16 20 = [16, 254, 172, 42, 180, 0, 43, 27, 50, 78, 45, 182, 1, 49, 153, 0, 6, 16, 250, 172] := by decide +kernel
theorem dX11_judge_16 : decode cX11_judge 16 = .ok (.bipush (-2), 2) := dq_16 (zby_at (j := 0) zbX11_judge_1 rfl) (zby_at (j := 1) zbX11_judge_1 rfl) rfl
theorem dX11_judge_18 : decode cX11_judge 18 = .ok (.ireturn, 1) := dq_172 (zby_at (j := 2) zbX11_judge_1 rfl)
theorem dX11_judge_19 : decode cX11_judge 19 = .ok (.aload_n 0, 1) := dq_42 (zby_at (j := 3) zbX11_judge_1 rfl)
theorem dX11_judge_20 : decode cX11_judge 20 = .ok (.getfield 43, 3) := dq_180 (zby_at (j := 4) zbX11_judge_1 rfl) (zby_at (j := 5) zbX11_judge_1 rfl) (zby_at (j := 6) zbX11_judge_1 rfl)
theorem dX11_judge_23 : decode cX11_judge 23 = .ok (.iload_n 1, 1) := dq_27 (zby_at (j := 7) zbX11_judge_1 rfl)
theorem dX11_judge_24 : decode cX11_judge 24 = .ok (.aaload, 1) := dq_50 (zby_at (j := 8) zbX11_judge_1 rfl)
theorem dX11_judge_25 : decode cX11_judge 25 = .ok (.astore_n 3, 1) := dq_78 (zby_at (j := 9) zbX11_judge_1 rfl)
theorem dX11_judge_26 : decode cX11_judge 26 = .ok (.aload_n 3, 1) := dq_45 (zby_at (j := 10) zbX11_judge_1 rfl)
theorem dX11_judge_27 : decode cX11_judge 27 = .ok (.invokevirtual 305, 3) := dq_182 (zby_at (j := 11) zbX11_judge_1 rfl) (zby_at (j := 12) zbX11_judge_1 rfl) (zby_at (j := 13) zbX11_judge_1 rfl)
theorem dX11_judge_30 : decode cX11_judge 30 = .ok (.ifCond .eq 6, 3) := dq_153 (zby_at (j := 14) zbX11_judge_1 rfl) (zby_at (j := 15) zbX11_judge_1 rfl) (zby_at (j := 16) zbX11_judge_1 rfl) rfl
theorem zbX11_judge_2 : zby cX11_judge 32 20 = [6, 16, 250, 172, 42, 180, 0, 26, 180, 0, 146, 28, 50, 58, 4, 3, 54, 5, 3, 54] := by decide +kernel
theorem dX11_judge_33 : decode cX11_judge 33 = .ok (.bipush (-6), 2) := dq_16 (zby_at (j := 1) zbX11_judge_2 rfl) (zby_at (j := 2) zbX11_judge_2 rfl) rfl
theorem dX11_judge_35 : decode cX11_judge 35 = .ok (.ireturn, 1) := dq_172 (zby_at (j := 3) zbX11_judge_2 rfl)
theorem dX11_judge_36 : decode cX11_judge 36 = .ok (.aload_n 0, 1) := dq_42 (zby_at (j := 4) zbX11_judge_2 rfl)
theorem dX11_judge_37 : decode cX11_judge 37 = .ok (.getfield 26, 3) := dq_180 (zby_at (j := 5) zbX11_judge_2 rfl) (zby_at (j := 6) zbX11_judge_2 rfl) (zby_at (j := 7) zbX11_judge_2 rfl)
theorem dX11_judge_40 : decode cX11_judge 40 = .ok (.getfield 146, 3) := dq_180 (zby_at (j := 8) zbX11_judge_2 rfl) (zby_at (j := 9) zbX11_judge_2 rfl) (zby_at (j := 10) zbX11_judge_2 rfl)
theorem dX11_judge_43 : decode cX11_judge 43 = .ok (.iload_n 2, 1) := dq_28 (zby_at (j := 11) zbX11_judge_2 rfl)
theorem dX11_judge_44 : decode cX11_judge 44 = .ok (.aaload, 1) := dq_50 (zby_at (j := 12) zbX11_judge_2 rfl)
theorem dX11_judge_45 : decode cX11_judge 45 = .ok (.astore 4, 2) := dq_58 (zby_at (j := 13) zbX11_judge_2 rfl) (zby_at (j := 14) zbX11_judge_2 rfl)
theorem dX11_judge_47 : decode cX11_judge 47 = .ok (.iconst 0, 1) := dq_3 (zby_at (j := 15) zbX11_judge_2 rfl)
theorem zbX11_judge_3 : zby cX11_judge 48 20 = [54, 5, 3, 54, 6, 21, 6, 45, 180, 1, 52, 162, 0, 46, 25, 4, 21, 5, 182, 1] := by decide +kernel
theorem dX11_judge_48 : decode cX11_judge 48 = .ok (.istore 5, 2) := dq_54 (zby_at (j := 0) zbX11_judge_3 rfl) (zby_at (j := 1) zbX11_judge_3 rfl)
theorem dX11_judge_50 : decode cX11_judge 50 = .ok (.iconst 0, 1) := dq_3 (zby_at (j := 2) zbX11_judge_3 rfl)
theorem dX11_judge_51 : decode cX11_judge 51 = .ok (.istore 6, 2) := dq_54 (zby_at (j := 3) zbX11_judge_3 rfl) (zby_at (j := 4) zbX11_judge_3 rfl)
theorem dX11_judge_53 : decode cX11_judge 53 = .ok (.iload 6, 2) := dq_21 (zby_at (j := 5) zbX11_judge_3 rfl) (zby_at (j := 6) zbX11_judge_3 rfl)
theorem dX11_judge_55 : decode cX11_judge 55 = .ok (.aload_n 3, 1) := dq_45 (zby_at (j := 7) zbX11_judge_3 rfl)
theorem dX11_judge_56 : decode cX11_judge 56 = .ok (.getfield 308, 3) := dq_180 (zby_at (j := 8) zbX11_judge_3 rfl) (zby_at (j := 9) zbX11_judge_3 rfl) (zby_at (j := 10) zbX11_judge_3 rfl)
theorem dX11_judge_59 : decode cX11_judge 59 = .ok (.if_icmp .ge 46, 3) := dq_162 (zby_at (j := 11) zbX11_judge_3 rfl) (zby_at (j := 12) zbX11_judge_3 rfl) (zby_at (j := 13) zbX11_judge_3 rfl) rfl
theorem dX11_judge_62 : decode cX11_judge 62 = .ok (.aload 4, 2) := dq_25 (zby_at (j := 14) zbX11_judge_3 rfl) (zby_at (j := 15) zbX11_judge_3 rfl)
theorem zbX11_judge_4 : zby cX11_judge 64 20 = [21, 5, 182, 1, 55, 54, 7, 21, 7, 155, 0, 17, 45, 180, 1, 58, 21, 6, 47, 21] := by decide +kernel
theorem dX11_judge_64 : decode cX11_judge 64 = .ok (.iload 5, 2) := dq_21 (zby_at (j := 0) zbX11_judge_4 rfl) (zby_at (j := 1) zbX11_judge_4 rfl)
theorem dX11_judge_66 : decode cX11_judge 66 = .ok (.invokevirtual 311, 3) := dq_182 (zby_at (j := 2) zbX11_judge_4 rfl) (zby_at (j := 3) zbX11_judge_4 rfl) (zby_at (j := 4) zbX11_judge_4 rfl)
theorem dX11_judge_69 : decode cX11_judge 69 = .ok (.istore 7, 2) := dq_54 (zby_at (j := 5) zbX11_judge_4 rfl) (zby_at (j := 6) zbX11_judge_4 rfl)
theorem dX11_judge_71 : decode cX11_judge 71 = .ok (.iload 7, 2) := dq_21 (zby_at (j := 7) zbX11_judge_4 rfl) (zby_at (j := 8) zbX11_judge_4 rfl)
theorem dX11_judge_73 : decode cX11_judge 73 = .ok (.ifCond .lt 17, 3) := dq_155 (zby_at (j := 9) zbX11_judge_4 rfl) (zby_at (j := 10) zbX11_judge_4 rfl) (zby_at (j := 11) zbX11_judge_4 rfl) rfl
theorem dX11_judge_76 : decode cX11_judge 76 = .ok (.aload_n 3, 1) := dq_45 (zby_at (j := 12) zbX11_judge_4 rfl)
theorem dX11_judge_77 : decode cX11_judge 77 = .ok (.getfield 314, 3) := dq_180 (zby_at (j := 13) zbX11_judge_4 rfl) (zby_at (j := 14) zbX11_judge_4 rfl) (zby_at (j := 15) zbX11_judge_4 rfl)
theorem zbX11_judge_5 : zby cX11_judge 80 20 = [21, 6, 47, 21, 7, 133, 148, 153, 0, 6, 21, 6, 172, 21, 7, 4, 96, 54, 5, 132] := by decide +kernel
theorem dX11_judge_80 : decode cX11_judge 80 = .ok (.iload 6, 2) := dq_21 (zby_at (j := 0) zbX11_judge_5 rfl) (zby_at (j := 1) zbX11_judge_5 rfl)
theorem dX11_judge_82 : decode cX11_judge 82 = .ok (.laload, 1) := dq_47 (zby_at (j := 2) zbX11_judge_5 rfl)
theorem dX11_judge_83 : decode cX11_judge 83 = .ok (.iload 7, 2) := dq_21 (zby_at (j := 3) zbX11_judge_5 rfl) (zby_at (j := 4) zbX11_judge_5 rfl)
theorem dX11_judge_85 : decode cX11_judge 85 = .ok (.i2l, 1) := dq_133 (zby_at (j := 5) zbX11_judge_5 rfl)
theorem dX11_judge_86 : decode cX11_judge 86 = .ok (.lcmp, 1) := dq_148 (zby_at (j := 6) zbX11_judge_5 rfl)
theorem dX11_judge_87 : decode cX11_judge 87 = .ok (.ifCond .eq 6, 3) := dq_153 (zby_at (j := 7) zbX11_judge_5 rfl) (zby_at (j := 8) zbX11_judge_5 rfl) (zby_at (j := 9) zbX11_judge_5 rfl) rfl
theorem dX11_judge_90 : decode cX11_judge 90 = .ok (.iload 6, 2) := dq_21 (zby_at (j := 10) zbX11_judge_5 rfl) (zby_at (j := 11) zbX11_judge_5 rfl)
theorem dX11_judge_92 : decode cX11_judge 92 = .ok (.ireturn, 1) := dq_172 (zby_at (j := 12) zbX11_judge_5 rfl)
theorem dX11_judge_93 : decode cX11_judge 93 = .ok (.iload 7, 2) := dq_21 (zby_at (j := 13) zbX11_judge_5 rfl) (zby_at (j := 14) zbX11_judge_5 rfl)
theorem dX11_judge_95 : decode cX11_judge 95 = .ok (.iconst 1, 1) := dq_4 (zby_at (j := 15) zbX11_judge_5 rfl)
theorem zbX11_judge_6 : zby cX11_judge 96 20 = [96, 54, 5, 132, 6, 1, 167, 255, 207, 25, 4, 21, 5, 182, 1, 55, 155, 0, 7, 2] := by decide +kernel
theorem dX11_judge_96 : decode cX11_judge 96 = .ok (.iadd, 1) := dq_96 (zby_at (j := 0) zbX11_judge_6 rfl)
theorem dX11_judge_97 : decode cX11_judge 97 = .ok (.istore 5, 2) := dq_54 (zby_at (j := 1) zbX11_judge_6 rfl) (zby_at (j := 2) zbX11_judge_6 rfl)
theorem dX11_judge_99 : decode cX11_judge 99 = .ok (.iinc 6 1, 3) := dq_132 (zby_at (j := 3) zbX11_judge_6 rfl) (zby_at (j := 4) zbX11_judge_6 rfl) (zby_at (j := 5) zbX11_judge_6 rfl) rfl
theorem dX11_judge_102 : decode cX11_judge 102 = .ok (.goto (-49), 3) := dq_167 (zby_at (j := 6) zbX11_judge_6 rfl) (zby_at (j := 7) zbX11_judge_6 rfl) (zby_at (j := 8) zbX11_judge_6 rfl) rfl
theorem dX11_judge_105 : decode cX11_judge 105 = .ok (.aload 4, 2) := dq_25 (zby_at (j := 9) zbX11_judge_6 rfl) (zby_at (j := 10) zbX11_judge_6 rfl)
theorem dX11_judge_107 : decode cX11_judge 107 = .ok (.iload 5, 2) := dq_21 (zby_at (j := 11) zbX11_judge_6 rfl) (zby_at (j := 12) zbX11_judge_6 rfl)
theorem dX11_judge_109 : decode cX11_judge 109 = .ok (.invokevirtual 311, 3) := dq_182 (zby_at (j := 13) zbX11_judge_6 rfl) (zby_at (j := 14) zbX11_judge_6 rfl) (zby_at (j := 15) zbX11_judge_6 rfl)
theorem zbX11_judge_7 : zby cX11_judge 112 20 = [155, 0, 7, 2, 167, 0, 7, 45, 180, 1, 52, 172] := by decide +kernel
theorem dX11_judge_112 : decode cX11_judge 112 = .ok (.ifCond .lt 7, 3) := dq_155 (zby_at (j := 0) zbX11_judge_7 rfl) (zby_at (j := 1) zbX11_judge_7 rfl) (zby_at (j := 2) zbX11_judge_7 rfl) rfl
theorem dX11_judge_115 : decode cX11_judge 115 = .ok (.iconst (-1), 1) := dq_2 (zby_at (j := 3) zbX11_judge_7 rfl)
theorem dX11_judge_116 : decode cX11_judge 116 = .ok (.goto 7, 3) := dq_167 (zby_at (j := 4) zbX11_judge_7 rfl) (zby_at (j := 5) zbX11_judge_7 rfl) (zby_at (j := 6) zbX11_judge_7 rfl) rfl
theorem dX11_judge_119 : decode cX11_judge 119 = .ok (.aload_n 3, 1) := dq_45 (zby_at (j := 7) zbX11_judge_7 rfl)
theorem dX11_judge_120 : decode cX11_judge 120 = .ok (.getfield 308, 3) := dq_180 (zby_at (j := 8) zbX11_judge_7 rfl) (zby_at (j := 9) zbX11_judge_7 rfl) (zby_at (j := 10) zbX11_judge_7 rfl)
theorem dX11_judge_123 : decode cX11_judge 123 = .ok (.ireturn, 1) := dq_172 (zby_at (j := 11) zbX11_judge_7 rfl)
theorem zbX11_takes_0 : zby cX11_takes 0 20 = [42, 27, 182, 0, 135, 153, 0, 11, 42, 28, 182, 1, 46, 154, 0, 6, 16, 254, 172, 42] := by decide +kernel
theorem dX11_takes_0 : decode cX11_takes 0 = .ok (.aload_n 0, 1) := dq_42 (zby_at (j := 0) zbX11_takes_0 rfl)
theorem dX11_takes_1 : decode cX11_takes 1 = .ok (.iload_n 1, 1) := dq_27 (zby_at (j := 1) zbX11_takes_0 rfl)
theorem dX11_takes_2 : decode cX11_takes 2 = .ok (.invokevirtual 135, 3) := dq_182 (zby_at (j := 2) zbX11_takes_0 rfl) (zby_at (j := 3) zbX11_takes_0 rfl) (zby_at (j := 4) zbX11_takes_0 rfl)
theorem dX11_takes_5 : decode cX11_takes 5 = .ok (.ifCond .eq 11, 3) := dq_153 (zby_at (j := 5) zbX11_takes_0 rfl) (zby_at (j := 6) zbX11_takes_0 rfl) (zby_at (j := 7) zbX11_takes_0 rfl) rfl
theorem dX11_takes_8 : decode cX11_takes 8 = .ok (.aload_n 0, 1) := dq_42 (zby_at (j := 8) zbX11_takes_0 rfl)
theorem dX11_takes_9 : decode cX11_takes 9 = .ok (.iload_n 2, 1) := dq_28 (zby_at (j := 9) zbX11_takes_0 rfl)
theorem dX11_takes_10 : decode cX11_takes 10 = .ok (.invokevirtual 302, 3) := dq_182 (zby_at (j := 10) zbX11_takes_0 rfl) (zby_at (j := 11) zbX11_takes_0 rfl) (zby_at (j := 12) zbX11_takes_0 rfl)
theorem dX11_takes_13 : decode cX11_takes 13 = .ok (.ifCond .ne 6, 3) := dq_154 (zby_at (j := 13) zbX11_takes_0 rfl) (zby_at (j := 14) zbX11_takes_0 rfl) (zby_at (j := 15) zbX11_takes_0 rfl) rfl
theorem zbX11_takes_1 : zby cX11_takes 16 20 = [16, 254, 172, 42, 180, 0, 43, 28, 50, 78, 45, 182, 1, 49, 153, 0, 6, 16, 250, 172] := by decide +kernel
theorem dX11_takes_16 : decode cX11_takes 16 = .ok (.bipush (-2), 2) := dq_16 (zby_at (j := 0) zbX11_takes_1 rfl) (zby_at (j := 1) zbX11_takes_1 rfl) rfl
theorem dX11_takes_18 : decode cX11_takes 18 = .ok (.ireturn, 1) := dq_172 (zby_at (j := 2) zbX11_takes_1 rfl)
theorem dX11_takes_19 : decode cX11_takes 19 = .ok (.aload_n 0, 1) := dq_42 (zby_at (j := 3) zbX11_takes_1 rfl)
theorem dX11_takes_20 : decode cX11_takes 20 = .ok (.getfield 43, 3) := dq_180 (zby_at (j := 4) zbX11_takes_1 rfl) (zby_at (j := 5) zbX11_takes_1 rfl) (zby_at (j := 6) zbX11_takes_1 rfl)
theorem dX11_takes_23 : decode cX11_takes 23 = .ok (.iload_n 2, 1) := dq_28 (zby_at (j := 7) zbX11_takes_1 rfl)
theorem dX11_takes_24 : decode cX11_takes 24 = .ok (.aaload, 1) := dq_50 (zby_at (j := 8) zbX11_takes_1 rfl)
theorem dX11_takes_25 : decode cX11_takes 25 = .ok (.astore_n 3, 1) := dq_78 (zby_at (j := 9) zbX11_takes_1 rfl)
theorem dX11_takes_26 : decode cX11_takes 26 = .ok (.aload_n 3, 1) := dq_45 (zby_at (j := 10) zbX11_takes_1 rfl)
theorem dX11_takes_27 : decode cX11_takes 27 = .ok (.invokevirtual 305, 3) := dq_182 (zby_at (j := 11) zbX11_takes_1 rfl) (zby_at (j := 12) zbX11_takes_1 rfl) (zby_at (j := 13) zbX11_takes_1 rfl)
theorem dX11_takes_30 : decode cX11_takes 30 = .ok (.ifCond .eq 6, 3) := dq_153 (zby_at (j := 14) zbX11_takes_1 rfl) (zby_at (j := 15) zbX11_takes_1 rfl) (zby_at (j := 16) zbX11_takes_1 rfl) rfl
theorem zbX11_takes_2 : zby cX11_takes 32 20 = [6, 16, 250, 172, 42, 180, 0, 106, 182, 0, 192, 3, 54, 4, 21, 4, 45, 180, 1, 52] := by decide +kernel
theorem dX11_takes_33 : decode cX11_takes 33 = .ok (.bipush (-6), 2) := dq_16 (zby_at (j := 1) zbX11_takes_2 rfl) (zby_at (j := 2) zbX11_takes_2 rfl) rfl
theorem dX11_takes_35 : decode cX11_takes 35 = .ok (.ireturn, 1) := dq_172 (zby_at (j := 3) zbX11_takes_2 rfl)
theorem dX11_takes_36 : decode cX11_takes 36 = .ok (.aload_n 0, 1) := dq_42 (zby_at (j := 4) zbX11_takes_2 rfl)
theorem dX11_takes_37 : decode cX11_takes 37 = .ok (.getfield 106, 3) := dq_180 (zby_at (j := 5) zbX11_takes_2 rfl) (zby_at (j := 6) zbX11_takes_2 rfl) (zby_at (j := 7) zbX11_takes_2 rfl)
theorem dX11_takes_40 : decode cX11_takes 40 = .ok (.invokevirtual 192, 3) := dq_182 (zby_at (j := 8) zbX11_takes_2 rfl) (zby_at (j := 9) zbX11_takes_2 rfl) (zby_at (j := 10) zbX11_takes_2 rfl)
theorem dX11_takes_43 : decode cX11_takes 43 = .ok (.iconst 0, 1) := dq_3 (zby_at (j := 11) zbX11_takes_2 rfl)
theorem dX11_takes_44 : decode cX11_takes 44 = .ok (.istore 4, 2) := dq_54 (zby_at (j := 12) zbX11_takes_2 rfl) (zby_at (j := 13) zbX11_takes_2 rfl)
theorem dX11_takes_46 : decode cX11_takes 46 = .ok (.iload 4, 2) := dq_21 (zby_at (j := 14) zbX11_takes_2 rfl) (zby_at (j := 15) zbX11_takes_2 rfl)
theorem zbX11_takes_3 : zby cX11_takes 48 20 = [45, 180, 1, 52, 162, 0, 53, 45, 180, 1, 58, 21, 4, 47, 55, 5, 22, 5, 9, 148] := by decide +kernel
theorem dX11_takes_48 : decode cX11_takes 48 = .ok (.aload_n 3, 1) := dq_45 (zby_at (j := 0) zbX11_takes_3 rfl)
theorem dX11_takes_49 : decode cX11_takes 49 = .ok (.getfield 308, 3) := dq_180 (zby_at (j := 1) zbX11_takes_3 rfl) (zby_at (j := 2) zbX11_takes_3 rfl) (zby_at (j := 3) zbX11_takes_3 rfl)
theorem dX11_takes_52 : decode cX11_takes 52 = .ok (.if_icmp .ge 53, 3) := dq_162 (zby_at (j := 4) zbX11_takes_3 rfl) (zby_at (j := 5) zbX11_takes_3 rfl) (zby_at (j := 6) zbX11_takes_3 rfl) rfl
theorem dX11_takes_55 : decode cX11_takes 55 = .ok (.aload_n 3, 1) := dq_45 (zby_at (j := 7) zbX11_takes_3 rfl)
theorem dX11_takes_56 : decode cX11_takes 56 = .ok (.getfield 314, 3) := dq_180 (zby_at (j := 8) zbX11_takes_3 rfl) (zby_at (j := 9) zbX11_takes_3 rfl) (zby_at (j := 10) zbX11_takes_3 rfl)
theorem dX11_takes_59 : decode cX11_takes 59 = .ok (.iload 4, 2) := dq_21 (zby_at (j := 11) zbX11_takes_3 rfl) (zby_at (j := 12) zbX11_takes_3 rfl)
theorem dX11_takes_61 : decode cX11_takes 61 = .ok (.laload, 1) := dq_47 (zby_at (j := 13) zbX11_takes_3 rfl)
theorem dX11_takes_62 : decode cX11_takes 62 = .ok (.lstore 5, 2) := dq_55 (zby_at (j := 14) zbX11_takes_3 rfl) (zby_at (j := 15) zbX11_takes_3 rfl)
theorem zbX11_takes_4 : zby cX11_takes 64 20 = [22, 5, 9, 148, 155, 0, 18, 22, 5, 10, 42, 180, 0, 26, 180, 0, 139, 121, 148, 155] := by decide +kernel
theorem dX11_takes_64 : decode cX11_takes 64 = .ok (.lload 5, 2) := dq_22 (zby_at (j := 0) zbX11_takes_4 rfl) (zby_at (j := 1) zbX11_takes_4 rfl)
theorem dX11_takes_66 : decode cX11_takes 66 = .ok (.lconst 0, 1) := dq_9 (zby_at (j := 2) zbX11_takes_4 rfl)
theorem dX11_takes_67 : decode cX11_takes 67 = .ok (.lcmp, 1) := dq_148 (zby_at (j := 3) zbX11_takes_4 rfl)
theorem dX11_takes_68 : decode cX11_takes 68 = .ok (.ifCond .lt 18, 3) := dq_155 (zby_at (j := 4) zbX11_takes_4 rfl) (zby_at (j := 5) zbX11_takes_4 rfl) (zby_at (j := 6) zbX11_takes_4 rfl) rfl
theorem dX11_takes_71 : decode cX11_takes 71 = .ok (.lload 5, 2) := dq_22 (zby_at (j := 7) zbX11_takes_4 rfl) (zby_at (j := 8) zbX11_takes_4 rfl)
theorem dX11_takes_73 : decode cX11_takes 73 = .ok (.lconst 1, 1) := dq_10 (zby_at (j := 9) zbX11_takes_4 rfl)
theorem dX11_takes_74 : decode cX11_takes 74 = .ok (.aload_n 0, 1) := dq_42 (zby_at (j := 10) zbX11_takes_4 rfl)
theorem dX11_takes_75 : decode cX11_takes 75 = .ok (.getfield 26, 3) := dq_180 (zby_at (j := 11) zbX11_takes_4 rfl) (zby_at (j := 12) zbX11_takes_4 rfl) (zby_at (j := 13) zbX11_takes_4 rfl)
theorem dX11_takes_78 : decode cX11_takes 78 = .ok (.getfield 139, 3) := dq_180 (zby_at (j := 14) zbX11_takes_4 rfl) (zby_at (j := 15) zbX11_takes_4 rfl) (zby_at (j := 16) zbX11_takes_4 rfl)
theorem zbX11_takes_5 : zby cX11_takes 80 20 = [139, 121, 148, 155, 0, 6, 16, 254, 172, 42, 180, 0, 106, 22, 5, 136, 182, 0, 176, 132] := by decide +kernel
theorem dX11_takes_81 : decode cX11_takes 81 = .ok (.lshl, 1) := dq_121 (zby_at (j := 1) zbX11_takes_5 rfl)
theorem dX11_takes_82 : decode cX11_takes 82 = .ok (.lcmp, 1) := dq_148 (zby_at (j := 2) zbX11_takes_5 rfl)
theorem dX11_takes_83 : decode cX11_takes 83 = .ok (.ifCond .lt 6, 3) := dq_155 (zby_at (j := 3) zbX11_takes_5 rfl) (zby_at (j := 4) zbX11_takes_5 rfl) (zby_at (j := 5) zbX11_takes_5 rfl) rfl
theorem dX11_takes_86 : decode cX11_takes 86 = .ok (.bipush (-2), 2) := dq_16 (zby_at (j := 6) zbX11_takes_5 rfl) (zby_at (j := 7) zbX11_takes_5 rfl) rfl
theorem dX11_takes_88 : decode cX11_takes 88 = .ok (.ireturn, 1) := dq_172 (zby_at (j := 8) zbX11_takes_5 rfl)
theorem dX11_takes_89 : decode cX11_takes 89 = .ok (.aload_n 0, 1) := dq_42 (zby_at (j := 9) zbX11_takes_5 rfl)
theorem dX11_takes_90 : decode cX11_takes 90 = .ok (.getfield 106, 3) := dq_180 (zby_at (j := 10) zbX11_takes_5 rfl) (zby_at (j := 11) zbX11_takes_5 rfl) (zby_at (j := 12) zbX11_takes_5 rfl)
theorem dX11_takes_93 : decode cX11_takes 93 = .ok (.lload 5, 2) := dq_22 (zby_at (j := 13) zbX11_takes_5 rfl) (zby_at (j := 14) zbX11_takes_5 rfl)
theorem dX11_takes_95 : decode cX11_takes 95 = .ok (.l2i, 1) := dq_136 (zby_at (j := 15) zbX11_takes_5 rfl)
theorem zbX11_takes_6 : zby cX11_takes 96 20 = [182, 0, 176, 132, 4, 1, 167, 255, 200, 42, 27, 182, 0, 168, 172] := by decide +kernel
theorem dX11_takes_96 : decode cX11_takes 96 = .ok (.invokevirtual 176, 3) := dq_182 (zby_at (j := 0) zbX11_takes_6 rfl) (zby_at (j := 1) zbX11_takes_6 rfl) (zby_at (j := 2) zbX11_takes_6 rfl)
theorem dX11_takes_99 : decode cX11_takes 99 = .ok (.iinc 4 1, 3) := dq_132 (zby_at (j := 3) zbX11_takes_6 rfl) (zby_at (j := 4) zbX11_takes_6 rfl) (zby_at (j := 5) zbX11_takes_6 rfl) rfl
theorem dX11_takes_102 : decode cX11_takes 102 = .ok (.goto (-56), 3) := dq_167 (zby_at (j := 6) zbX11_takes_6 rfl) (zby_at (j := 7) zbX11_takes_6 rfl) (zby_at (j := 8) zbX11_takes_6 rfl) rfl
theorem dX11_takes_105 : decode cX11_takes 105 = .ok (.aload_n 0, 1) := dq_42 (zby_at (j := 9) zbX11_takes_6 rfl)
theorem dX11_takes_106 : decode cX11_takes 106 = .ok (.iload_n 1, 1) := dq_27 (zby_at (j := 10) zbX11_takes_6 rfl)
theorem dX11_takes_107 : decode cX11_takes 107 = .ok (.invokevirtual 168, 3) := dq_182 (zby_at (j := 11) zbX11_takes_6 rfl) (zby_at (j := 12) zbX11_takes_6 rfl) (zby_at (j := 13) zbX11_takes_6 rfl)
theorem dX11_takes_110 : decode cX11_takes 110 = .ok (.ireturn, 1) := dq_172 (zby_at (j := 14) zbX11_takes_6 rfl)
theorem zbX11_count_0 : zby cX11_count 0 20 = [27, 170, 0, 0, 0, 0, 0, 104, 0, 0, 0, 0, 0, 0, 0, 6, 0, 0, 0, 43] := by decide +kernel
theorem dX11_count_0 : decode cX11_count 0 = .ok (.iload_n 1, 1) := dq_27 (zby_at (j := 0) zbX11_count_0 rfl)
theorem dX11_count_1 : decode cX11_count 1 = .ok (.tableswitch 104 0 6 #[43, 51, 59, 67, 72, 80, 99], 43) := by decide +kernel
theorem zbX11_count_2 : zby cX11_count 32 20 = [0, 0, 0, 72, 0, 0, 0, 80, 0, 0, 0, 99, 42, 180, 0, 26, 180, 0, 139, 172] := by decide +kernel
theorem dX11_count_44 : decode cX11_count 44 = .ok (.aload_n 0, 1) := dq_42 (zby_at (j := 12) zbX11_count_2 rfl)
theorem dX11_count_45 : decode cX11_count 45 = .ok (.getfield 26, 3) := dq_180 (zby_at (j := 13) zbX11_count_2 rfl) (zby_at (j := 14) zbX11_count_2 rfl) (zby_at (j := 15) zbX11_count_2 rfl)
theorem zbX11_count_3 : zby cX11_count 48 20 = [180, 0, 139, 172, 42, 180, 0, 26, 180, 0, 132, 172, 42, 180, 0, 26, 180, 1, 62, 172] := by decide +kernel
theorem dX11_count_48 : decode cX11_count 48 = .ok (.getfield 139, 3) := dq_180 (zby_at (j := 0) zbX11_count_3 rfl) (zby_at (j := 1) zbX11_count_3 rfl) (zby_at (j := 2) zbX11_count_3 rfl)
theorem dX11_count_51 : decode cX11_count 51 = .ok (.ireturn, 1) := dq_172 (zby_at (j := 3) zbX11_count_3 rfl)
theorem dX11_count_52 : decode cX11_count 52 = .ok (.aload_n 0, 1) := dq_42 (zby_at (j := 4) zbX11_count_3 rfl)
theorem dX11_count_53 : decode cX11_count 53 = .ok (.getfield 26, 3) := dq_180 (zby_at (j := 5) zbX11_count_3 rfl) (zby_at (j := 6) zbX11_count_3 rfl) (zby_at (j := 7) zbX11_count_3 rfl)
theorem dX11_count_56 : decode cX11_count 56 = .ok (.getfield 132, 3) := dq_180 (zby_at (j := 8) zbX11_count_3 rfl) (zby_at (j := 9) zbX11_count_3 rfl) (zby_at (j := 10) zbX11_count_3 rfl)
theorem dX11_count_59 : decode cX11_count 59 = .ok (.ireturn, 1) := dq_172 (zby_at (j := 11) zbX11_count_3 rfl)
theorem dX11_count_60 : decode cX11_count 60 = .ok (.aload_n 0, 1) := dq_42 (zby_at (j := 12) zbX11_count_3 rfl)
theorem dX11_count_61 : decode cX11_count 61 = .ok (.getfield 26, 3) := dq_180 (zby_at (j := 13) zbX11_count_3 rfl) (zby_at (j := 14) zbX11_count_3 rfl) (zby_at (j := 15) zbX11_count_3 rfl)
theorem zbX11_count_4 : zby cX11_count 64 20 = [180, 1, 62, 172, 42, 180, 0, 13, 172, 42, 180, 0, 26, 182, 1, 65, 172, 42, 182, 1] := by decide +kernel
theorem dX11_count_64 : decode cX11_count 64 = .ok (.getfield 318, 3) := dq_180 (zby_at (j := 0) zbX11_count_4 rfl) (zby_at (j := 1) zbX11_count_4 rfl) (zby_at (j := 2) zbX11_count_4 rfl)
theorem dX11_count_67 : decode cX11_count 67 = .ok (.ireturn, 1) := dq_172 (zby_at (j := 3) zbX11_count_4 rfl)
theorem dX11_count_68 : decode cX11_count 68 = .ok (.aload_n 0, 1) := dq_42 (zby_at (j := 4) zbX11_count_4 rfl)
theorem dX11_count_69 : decode cX11_count 69 = .ok (.getfield 13, 3) := dq_180 (zby_at (j := 5) zbX11_count_4 rfl) (zby_at (j := 6) zbX11_count_4 rfl) (zby_at (j := 7) zbX11_count_4 rfl)
theorem dX11_count_72 : decode cX11_count 72 = .ok (.ireturn, 1) := dq_172 (zby_at (j := 8) zbX11_count_4 rfl)
theorem dX11_count_73 : decode cX11_count 73 = .ok (.aload_n 0, 1) := dq_42 (zby_at (j := 9) zbX11_count_4 rfl)
theorem dX11_count_74 : decode cX11_count 74 = .ok (.getfield 26, 3) := dq_180 (zby_at (j := 10) zbX11_count_4 rfl) (zby_at (j := 11) zbX11_count_4 rfl) (zby_at (j := 12) zbX11_count_4 rfl)
theorem dX11_count_77 : decode cX11_count 77 = .ok (.invokevirtual 321, 3) := dq_182 (zby_at (j := 13) zbX11_count_4 rfl) (zby_at (j := 14) zbX11_count_4 rfl) (zby_at (j := 15) zbX11_count_4 rfl)
theorem zbX11_count_5 : zby cX11_count 80 20 = [172, 42, 182, 1, 4, 153, 0, 13, 42, 180, 0, 26, 182, 1, 68, 167, 0, 4, 3, 172] := by decide +kernel
theorem dX11_count_80 : decode cX11_count 80 = .ok (.ireturn, 1) := dq_172 (zby_at (j := 0) zbX11_count_5 rfl)
theorem dX11_count_81 : decode cX11_count 81 = .ok (.aload_n 0, 1) := dq_42 (zby_at (j := 1) zbX11_count_5 rfl)
theorem dX11_count_82 : decode cX11_count 82 = .ok (.invokevirtual 260, 3) := dq_182 (zby_at (j := 2) zbX11_count_5 rfl) (zby_at (j := 3) zbX11_count_5 rfl) (zby_at (j := 4) zbX11_count_5 rfl)
theorem dX11_count_85 : decode cX11_count 85 = .ok (.ifCond .eq 13, 3) := dq_153 (zby_at (j := 5) zbX11_count_5 rfl) (zby_at (j := 6) zbX11_count_5 rfl) (zby_at (j := 7) zbX11_count_5 rfl) rfl
theorem dX11_count_88 : decode cX11_count 88 = .ok (.aload_n 0, 1) := dq_42 (zby_at (j := 8) zbX11_count_5 rfl)
theorem dX11_count_89 : decode cX11_count 89 = .ok (.getfield 26, 3) := dq_180 (zby_at (j := 9) zbX11_count_5 rfl) (zby_at (j := 10) zbX11_count_5 rfl) (zby_at (j := 11) zbX11_count_5 rfl)
theorem dX11_count_92 : decode cX11_count 92 = .ok (.invokevirtual 324, 3) := dq_182 (zby_at (j := 12) zbX11_count_5 rfl) (zby_at (j := 13) zbX11_count_5 rfl) (zby_at (j := 14) zbX11_count_5 rfl)
theorem dX11_count_95 : decode cX11_count 95 = .ok (.goto 4, 3) := dq_167 (zby_at (j := 15) zbX11_count_5 rfl) (zby_at (j := 16) zbX11_count_5 rfl) (zby_at (j := 17) zbX11_count_5 rfl) rfl
theorem zbX11_count_6 : zby cX11_count 96 20 = [0, 4, 3, 172, 42, 182, 1, 71, 172, 2, 172] := by decide +kernel
theorem dX11_count_98 : decode cX11_count 98 = .ok (.iconst 0, 1) := dq_3 (zby_at (j := 2) zbX11_count_6 rfl)
theorem dX11_count_99 : decode cX11_count 99 = .ok (.ireturn, 1) := dq_172 (zby_at (j := 3) zbX11_count_6 rfl)
theorem dX11_count_100 : decode cX11_count 100 = .ok (.aload_n 0, 1) := dq_42 (zby_at (j := 4) zbX11_count_6 rfl)
theorem dX11_count_101 : decode cX11_count 101 = .ok (.invokevirtual 327, 3) := dq_182 (zby_at (j := 5) zbX11_count_6 rfl) (zby_at (j := 6) zbX11_count_6 rfl) (zby_at (j := 7) zbX11_count_6 rfl)
theorem dX11_count_104 : decode cX11_count 104 = .ok (.ireturn, 1) := dq_172 (zby_at (j := 8) zbX11_count_6 rfl)
theorem dX11_count_105 : decode cX11_count 105 = .ok (.iconst (-1), 1) := dq_2 (zby_at (j := 9) zbX11_count_6 rfl)
theorem dX11_count_106 : decode cX11_count 106 = .ok (.ireturn, 1) := dq_172 (zby_at (j := 10) zbX11_count_6 rfl)
theorem zbX11_keep_0 : zby cX11_keep 0 20 = [27, 155, 0, 8, 27, 6, 161, 0, 6, 16, 254, 172, 42, 180, 0, 33, 27, 50, 42, 180] := by decide +kernel
theorem dX11_keep_0 : decode cX11_keep 0 = .ok (.iload_n 1, 1) := dq_27 (zby_at (j := 0) zbX11_keep_0 rfl)
theorem dX11_keep_1 : decode cX11_keep 1 = .ok (.ifCond .lt 8, 3) := dq_155 (zby_at (j := 1) zbX11_keep_0 rfl) (zby_at (j := 2) zbX11_keep_0 rfl) (zby_at (j := 3) zbX11_keep_0 rfl) rfl
theorem dX11_keep_4 : decode cX11_keep 4 = .ok (.iload_n 1, 1) := dq_27 (zby_at (j := 4) zbX11_keep_0 rfl)
theorem dX11_keep_5 : decode cX11_keep 5 = .ok (.iconst 3, 1) := dq_6 (zby_at (j := 5) zbX11_keep_0 rfl)
theorem dX11_keep_6 : decode cX11_keep 6 = .ok (.if_icmp .lt 6, 3) := dq_161 (zby_at (j := 6) zbX11_keep_0 rfl) (zby_at (j := 7) zbX11_keep_0 rfl) (zby_at (j := 8) zbX11_keep_0 rfl) rfl
theorem dX11_keep_9 : decode cX11_keep 9 = .ok (.bipush (-2), 2) := dq_16 (zby_at (j := 9) zbX11_keep_0 rfl) (zby_at (j := 10) zbX11_keep_0 rfl) rfl
theorem dX11_keep_11 : decode cX11_keep 11 = .ok (.ireturn, 1) := dq_172 (zby_at (j := 11) zbX11_keep_0 rfl)
theorem dX11_keep_12 : decode cX11_keep 12 = .ok (.aload_n 0, 1) := dq_42 (zby_at (j := 12) zbX11_keep_0 rfl)
theorem dX11_keep_13 : decode cX11_keep 13 = .ok (.getfield 33, 3) := dq_180 (zby_at (j := 13) zbX11_keep_0 rfl) (zby_at (j := 14) zbX11_keep_0 rfl) (zby_at (j := 15) zbX11_keep_0 rfl)
theorem zbX11_keep_1 : zby cX11_keep 16 20 = [27, 50, 42, 180, 0, 26, 182, 1, 74, 42, 180, 0, 37, 27, 4, 84, 3, 172] := by decide +kernel
theorem dX11_keep_16 : decode cX11_keep 16 = .ok (.iload_n 1, 1) := dq_27 (zby_at (j := 0) zbX11_keep_1 rfl)
theorem dX11_keep_17 : decode cX11_keep 17 = .ok (.aaload, 1) := dq_50 (zby_at (j := 1) zbX11_keep_1 rfl)
theorem dX11_keep_18 : decode cX11_keep 18 = .ok (.aload_n 0, 1) := dq_42 (zby_at (j := 2) zbX11_keep_1 rfl)
theorem dX11_keep_19 : decode cX11_keep 19 = .ok (.getfield 26, 3) := dq_180 (zby_at (j := 3) zbX11_keep_1 rfl) (zby_at (j := 4) zbX11_keep_1 rfl) (zby_at (j := 5) zbX11_keep_1 rfl)
theorem dX11_keep_22 : decode cX11_keep 22 = .ok (.invokevirtual 330, 3) := dq_182 (zby_at (j := 6) zbX11_keep_1 rfl) (zby_at (j := 7) zbX11_keep_1 rfl) (zby_at (j := 8) zbX11_keep_1 rfl)
theorem dX11_keep_25 : decode cX11_keep 25 = .ok (.aload_n 0, 1) := dq_42 (zby_at (j := 9) zbX11_keep_1 rfl)
theorem dX11_keep_26 : decode cX11_keep 26 = .ok (.getfield 37, 3) := dq_180 (zby_at (j := 10) zbX11_keep_1 rfl) (zby_at (j := 11) zbX11_keep_1 rfl) (zby_at (j := 12) zbX11_keep_1 rfl)
theorem dX11_keep_29 : decode cX11_keep 29 = .ok (.iload_n 1, 1) := dq_27 (zby_at (j := 13) zbX11_keep_1 rfl)
theorem dX11_keep_30 : decode cX11_keep 30 = .ok (.iconst 1, 1) := dq_4 (zby_at (j := 14) zbX11_keep_1 rfl)
theorem dX11_keep_31 : decode cX11_keep 31 = .ok (.bastore, 1) := dq_84 (zby_at (j := 15) zbX11_keep_1 rfl)
theorem zbX11_keep_2 : zby cX11_keep 32 20 = [3, 172] := by decide +kernel
theorem dX11_keep_32 : decode cX11_keep 32 = .ok (.iconst 0, 1) := dq_3 (zby_at (j := 0) zbX11_keep_2 rfl)
theorem dX11_keep_33 : decode cX11_keep 33 = .ok (.ireturn, 1) := dq_172 (zby_at (j := 1) zbX11_keep_2 rfl)
theorem zbX11_back_0 : zby cX11_back 0 20 = [27, 155, 0, 8, 27, 6, 161, 0, 6, 16, 254, 172, 42, 180, 0, 37, 27, 51, 154, 0] := by decide +kernel
theorem dX11_back_0 : decode cX11_back 0 = .ok (.iload_n 1, 1) := dq_27 (zby_at (j := 0) zbX11_back_0 rfl)
theorem dX11_back_1 : decode cX11_back 1 = .ok (.ifCond .lt 8, 3) := dq_155 (zby_at (j := 1) zbX11_back_0 rfl) (zby_at (j := 2) zbX11_back_0 rfl) (zby_at (j := 3) zbX11_back_0 rfl) rfl
theorem dX11_back_4 : decode cX11_back 4 = .ok (.iload_n 1, 1) := dq_27 (zby_at (j := 4) zbX11_back_0 rfl)
theorem dX11_back_5 : decode cX11_back 5 = .ok (.iconst 3, 1) := dq_6 (zby_at (j := 5) zbX11_back_0 rfl)
theorem dX11_back_6 : decode cX11_back 6 = .ok (.if_icmp .lt 6, 3) := dq_161 (zby_at (j := 6) zbX11_back_0 rfl) (zby_at (j := 7) zbX11_back_0 rfl) (zby_at (j := 8) zbX11_back_0 rfl) rfl
theorem dX11_back_9 : decode cX11_back 9 = .ok (.bipush (-2), 2) := dq_16 (zby_at (j := 9) zbX11_back_0 rfl) (zby_at (j := 10) zbX11_back_0 rfl) rfl
theorem dX11_back_11 : decode cX11_back 11 = .ok (.ireturn, 1) := dq_172 (zby_at (j := 11) zbX11_back_0 rfl)
theorem dX11_back_12 : decode cX11_back 12 = .ok (.aload_n 0, 1) := dq_42 (zby_at (j := 12) zbX11_back_0 rfl)
theorem dX11_back_13 : decode cX11_back 13 = .ok (.getfield 37, 3) := dq_180 (zby_at (j := 13) zbX11_back_0 rfl) (zby_at (j := 14) zbX11_back_0 rfl) (zby_at (j := 15) zbX11_back_0 rfl)
theorem zbX11_back_1 : zby cX11_back 16 20 = [27, 51, 154, 0, 6, 16, 250, 172, 42, 180, 0, 26, 42, 180, 0, 33, 27, 50, 182, 1] := by decide +kernel
theorem dX11_back_16 : decode cX11_back 16 = .ok (.iload_n 1, 1) := dq_27 (zby_at (j := 0) zbX11_back_1 rfl)
theorem dX11_back_17 : decode cX11_back 17 = .ok (.baload, 1) := dq_51 (zby_at (j := 1) zbX11_back_1 rfl)
theorem dX11_back_18 : decode cX11_back 18 = .ok (.ifCond .ne 6, 3) := dq_154 (zby_at (j := 2) zbX11_back_1 rfl) (zby_at (j := 3) zbX11_back_1 rfl) (zby_at (j := 4) zbX11_back_1 rfl) rfl
theorem dX11_back_21 : decode cX11_back 21 = .ok (.bipush (-6), 2) := dq_16 (zby_at (j := 5) zbX11_back_1 rfl) (zby_at (j := 6) zbX11_back_1 rfl) rfl
theorem dX11_back_23 : decode cX11_back 23 = .ok (.ireturn, 1) := dq_172 (zby_at (j := 7) zbX11_back_1 rfl)
theorem dX11_back_24 : decode cX11_back 24 = .ok (.aload_n 0, 1) := dq_42 (zby_at (j := 8) zbX11_back_1 rfl)
theorem dX11_back_25 : decode cX11_back 25 = .ok (.getfield 26, 3) := dq_180 (zby_at (j := 9) zbX11_back_1 rfl) (zby_at (j := 10) zbX11_back_1 rfl) (zby_at (j := 11) zbX11_back_1 rfl)
theorem dX11_back_28 : decode cX11_back 28 = .ok (.aload_n 0, 1) := dq_42 (zby_at (j := 12) zbX11_back_1 rfl)
theorem dX11_back_29 : decode cX11_back 29 = .ok (.getfield 33, 3) := dq_180 (zby_at (j := 13) zbX11_back_1 rfl) (zby_at (j := 14) zbX11_back_1 rfl) (zby_at (j := 15) zbX11_back_1 rfl)
theorem zbX11_back_2 : zby cX11_back 32 20 = [27, 50, 182, 1, 74, 3, 172] := by decide +kernel
theorem dX11_back_32 : decode cX11_back 32 = .ok (.iload_n 1, 1) := dq_27 (zby_at (j := 0) zbX11_back_2 rfl)
theorem dX11_back_33 : decode cX11_back 33 = .ok (.aaload, 1) := dq_50 (zby_at (j := 1) zbX11_back_2 rfl)
theorem dX11_back_34 : decode cX11_back 34 = .ok (.invokevirtual 330, 3) := dq_182 (zby_at (j := 2) zbX11_back_2 rfl) (zby_at (j := 3) zbX11_back_2 rfl) (zby_at (j := 4) zbX11_back_2 rfl)
theorem dX11_back_37 : decode cX11_back 37 = .ok (.iconst 0, 1) := dq_3 (zby_at (j := 5) zbX11_back_2 rfl)
theorem dX11_back_38 : decode cX11_back 38 = .ok (.ireturn, 1) := dq_172 (zby_at (j := 6) zbX11_back_2 rfl)
theorem zbX11_row_0 : zby cX11_row 0 20 = [42, 27, 182, 1, 46, 153, 0, 18, 28, 155, 0, 14, 28, 7, 162, 0, 9, 29, 16, 60] := by decide +kernel
theorem dX11_row_0 : decode cX11_row 0 = .ok (.aload_n 0, 1) := dq_42 (zby_at (j := 0) zbX11_row_0 rfl)
theorem dX11_row_1 : decode cX11_row 1 = .ok (.iload_n 1, 1) := dq_27 (zby_at (j := 1) zbX11_row_0 rfl)
theorem dX11_row_2 : decode cX11_row 2 = .ok (.invokevirtual 302, 3) := dq_182 (zby_at (j := 2) zbX11_row_0 rfl) (zby_at (j := 3) zbX11_row_0 rfl) (zby_at (j := 4) zbX11_row_0 rfl)
theorem dX11_row_5 : decode cX11_row 5 = .ok (.ifCond .eq 18, 3) := dq_153 (zby_at (j := 5) zbX11_row_0 rfl) (zby_at (j := 6) zbX11_row_0 rfl) (zby_at (j := 7) zbX11_row_0 rfl) rfl
theorem dX11_row_8 : decode cX11_row 8 = .ok (.iload_n 2, 1) := dq_28 (zby_at (j := 8) zbX11_row_0 rfl)
theorem dX11_row_9 : decode cX11_row 9 = .ok (.ifCond .lt 14, 3) := dq_155 (zby_at (j := 9) zbX11_row_0 rfl) (zby_at (j := 10) zbX11_row_0 rfl) (zby_at (j := 11) zbX11_row_0 rfl) rfl
theorem dX11_row_12 : decode cX11_row 12 = .ok (.iload_n 2, 1) := dq_28 (zby_at (j := 12) zbX11_row_0 rfl)
theorem dX11_row_13 : decode cX11_row 13 = .ok (.iconst 4, 1) := dq_7 (zby_at (j := 13) zbX11_row_0 rfl)
theorem dX11_row_14 : decode cX11_row 14 = .ok (.if_icmp .ge 9, 3) := dq_162 (zby_at (j := 14) zbX11_row_0 rfl) (zby_at (j := 15) zbX11_row_0 rfl) (zby_at (j := 16) zbX11_row_0 rfl) rfl
theorem zbX11_row_1 : zby cX11_row 16 20 = [9, 29, 16, 60, 164, 0, 6, 16, 254, 172, 29, 156, 0, 6, 16, 253, 172, 42, 180, 0] := by decide +kernel
theorem dX11_row_17 : decode cX11_row 17 = .ok (.iload_n 3, 1) := dq_29 (zby_at (j := 1) zbX11_row_1 rfl)
theorem dX11_row_18 : decode cX11_row 18 = .ok (.bipush 60, 2) := dq_16 (zby_at (j := 2) zbX11_row_1 rfl) (zby_at (j := 3) zbX11_row_1 rfl) rfl
theorem dX11_row_20 : decode cX11_row 20 = .ok (.if_icmp .le 6, 3) := dq_164 (zby_at (j := 4) zbX11_row_1 rfl) (zby_at (j := 5) zbX11_row_1 rfl) (zby_at (j := 6) zbX11_row_1 rfl) rfl
theorem dX11_row_23 : decode cX11_row 23 = .ok (.bipush (-2), 2) := dq_16 (zby_at (j := 7) zbX11_row_1 rfl) (zby_at (j := 8) zbX11_row_1 rfl) rfl
theorem dX11_row_25 : decode cX11_row 25 = .ok (.ireturn, 1) := dq_172 (zby_at (j := 9) zbX11_row_1 rfl)
theorem dX11_row_26 : decode cX11_row 26 = .ok (.iload_n 3, 1) := dq_29 (zby_at (j := 10) zbX11_row_1 rfl)
theorem dX11_row_27 : decode cX11_row 27 = .ok (.ifCond .ge 6, 3) := dq_156 (zby_at (j := 11) zbX11_row_1 rfl) (zby_at (j := 12) zbX11_row_1 rfl) (zby_at (j := 13) zbX11_row_1 rfl) rfl
theorem dX11_row_30 : decode cX11_row 30 = .ok (.bipush (-3), 2) := dq_16 (zby_at (j := 14) zbX11_row_1 rfl) (zby_at (j := 15) zbX11_row_1 rfl) rfl
theorem zbX11_row_2 : zby cX11_row 32 20 = [172, 42, 180, 0, 43, 27, 50, 28, 29, 182, 1, 77, 3, 172] := by decide +kernel
theorem dX11_row_32 : decode cX11_row 32 = .ok (.ireturn, 1) := dq_172 (zby_at (j := 0) zbX11_row_2 rfl)
theorem dX11_row_33 : decode cX11_row 33 = .ok (.aload_n 0, 1) := dq_42 (zby_at (j := 1) zbX11_row_2 rfl)
theorem dX11_row_34 : decode cX11_row 34 = .ok (.getfield 43, 3) := dq_180 (zby_at (j := 2) zbX11_row_2 rfl) (zby_at (j := 3) zbX11_row_2 rfl) (zby_at (j := 4) zbX11_row_2 rfl)
theorem dX11_row_37 : decode cX11_row 37 = .ok (.iload_n 1, 1) := dq_27 (zby_at (j := 5) zbX11_row_2 rfl)
theorem dX11_row_38 : decode cX11_row 38 = .ok (.aaload, 1) := dq_50 (zby_at (j := 6) zbX11_row_2 rfl)
theorem dX11_row_39 : decode cX11_row 39 = .ok (.iload_n 2, 1) := dq_28 (zby_at (j := 7) zbX11_row_2 rfl)
theorem dX11_row_40 : decode cX11_row 40 = .ok (.iload_n 3, 1) := dq_29 (zby_at (j := 8) zbX11_row_2 rfl)
theorem dX11_row_41 : decode cX11_row 41 = .ok (.invokevirtual 333, 3) := dq_182 (zby_at (j := 9) zbX11_row_2 rfl) (zby_at (j := 10) zbX11_row_2 rfl) (zby_at (j := 11) zbX11_row_2 rfl)
theorem dX11_row_44 : decode cX11_row 44 = .ok (.iconst 0, 1) := dq_3 (zby_at (j := 12) zbX11_row_2 rfl)
theorem dX11_row_45 : decode cX11_row 45 = .ok (.ireturn, 1) := dq_172 (zby_at (j := 13) zbX11_row_2 rfl)
theorem zbX11_write_0 : zby cX11_write 0 20 = [42, 27, 182, 1, 46, 154, 0, 6, 16, 254, 172, 42, 180, 0, 43, 27, 50, 58, 5, 25] := by decide +kernel
theorem dX11_write_0 : decode cX11_write 0 = .ok (.aload_n 0, 1) := dq_42 (zby_at (j := 0) zbX11_write_0 rfl)
theorem dX11_write_1 : decode cX11_write 1 = .ok (.iload_n 1, 1) := dq_27 (zby_at (j := 1) zbX11_write_0 rfl)
theorem dX11_write_2 : decode cX11_write 2 = .ok (.invokevirtual 302, 3) := dq_182 (zby_at (j := 2) zbX11_write_0 rfl) (zby_at (j := 3) zbX11_write_0 rfl) (zby_at (j := 4) zbX11_write_0 rfl)
theorem dX11_write_5 : decode cX11_write 5 = .ok (.ifCond .ne 6, 3) := dq_154 (zby_at (j := 5) zbX11_write_0 rfl) (zby_at (j := 6) zbX11_write_0 rfl) (zby_at (j := 7) zbX11_write_0 rfl) rfl
theorem dX11_write_8 : decode cX11_write 8 = .ok (.bipush (-2), 2) := dq_16 (zby_at (j := 8) zbX11_write_0 rfl) (zby_at (j := 9) zbX11_write_0 rfl) rfl
theorem dX11_write_10 : decode cX11_write 10 = .ok (.ireturn, 1) := dq_172 (zby_at (j := 10) zbX11_write_0 rfl)
theorem dX11_write_11 : decode cX11_write 11 = .ok (.aload_n 0, 1) := dq_42 (zby_at (j := 11) zbX11_write_0 rfl)
theorem dX11_write_12 : decode cX11_write 12 = .ok (.getfield 43, 3) := dq_180 (zby_at (j := 12) zbX11_write_0 rfl) (zby_at (j := 13) zbX11_write_0 rfl) (zby_at (j := 14) zbX11_write_0 rfl)
theorem dX11_write_15 : decode cX11_write 15 = .ok (.iload_n 1, 1) := dq_27 (zby_at (j := 15) zbX11_write_0 rfl)
theorem zbX11_write_1 : zby cX11_write 16 20 = [50, 58, 5, 25, 5, 182, 1, 49, 153, 0, 6, 16, 250, 172, 28, 155, 0, 12, 28, 25] := by decide +kernel
theorem dX11_write_16 : decode cX11_write 16 = .ok (.aaload, 1) := dq_50 (zby_at (j := 0) zbX11_write_1 rfl)
theorem dX11_write_17 : decode cX11_write 17 = .ok (.astore 5, 2) := dq_58 (zby_at (j := 1) zbX11_write_1 rfl) (zby_at (j := 2) zbX11_write_1 rfl)
theorem dX11_write_19 : decode cX11_write 19 = .ok (.aload 5, 2) := dq_25 (zby_at (j := 3) zbX11_write_1 rfl) (zby_at (j := 4) zbX11_write_1 rfl)
theorem dX11_write_21 : decode cX11_write 21 = .ok (.invokevirtual 305, 3) := dq_182 (zby_at (j := 5) zbX11_write_1 rfl) (zby_at (j := 6) zbX11_write_1 rfl) (zby_at (j := 7) zbX11_write_1 rfl)
theorem dX11_write_24 : decode cX11_write 24 = .ok (.ifCond .eq 6, 3) := dq_153 (zby_at (j := 8) zbX11_write_1 rfl) (zby_at (j := 9) zbX11_write_1 rfl) (zby_at (j := 10) zbX11_write_1 rfl) rfl
theorem dX11_write_27 : decode cX11_write 27 = .ok (.bipush (-6), 2) := dq_16 (zby_at (j := 11) zbX11_write_1 rfl) (zby_at (j := 12) zbX11_write_1 rfl) rfl
theorem dX11_write_29 : decode cX11_write 29 = .ok (.ireturn, 1) := dq_172 (zby_at (j := 13) zbX11_write_1 rfl)
theorem dX11_write_30 : decode cX11_write 30 = .ok (.iload_n 2, 1) := dq_28 (zby_at (j := 14) zbX11_write_1 rfl)
theorem dX11_write_31 : decode cX11_write 31 = .ok (.ifCond .lt 12, 3) := dq_155 (zby_at (j := 15) zbX11_write_1 rfl) (zby_at (j := 16) zbX11_write_1 rfl) (zby_at (j := 17) zbX11_write_1 rfl) rfl
theorem zbX11_write_2 : zby cX11_write 32 20 = [0, 12, 28, 25, 5, 180, 1, 52, 161, 0, 6, 16, 249, 172, 25, 5, 180, 1, 58, 28] := by decide +kernel
theorem dX11_write_34 : decode cX11_write 34 = .ok (.iload_n 2, 1) := dq_28 (zby_at (j := 2) zbX11_write_2 rfl)
theorem dX11_write_35 : decode cX11_write 35 = .ok (.aload 5, 2) := dq_25 (zby_at (j := 3) zbX11_write_2 rfl) (zby_at (j := 4) zbX11_write_2 rfl)
theorem dX11_write_37 : decode cX11_write 37 = .ok (.getfield 308, 3) := dq_180 (zby_at (j := 5) zbX11_write_2 rfl) (zby_at (j := 6) zbX11_write_2 rfl) (zby_at (j := 7) zbX11_write_2 rfl)
theorem dX11_write_40 : decode cX11_write 40 = .ok (.if_icmp .lt 6, 3) := dq_161 (zby_at (j := 8) zbX11_write_2 rfl) (zby_at (j := 9) zbX11_write_2 rfl) (zby_at (j := 10) zbX11_write_2 rfl) rfl
theorem dX11_write_43 : decode cX11_write 43 = .ok (.bipush (-7), 2) := dq_16 (zby_at (j := 11) zbX11_write_2 rfl) (zby_at (j := 12) zbX11_write_2 rfl) rfl
theorem dX11_write_45 : decode cX11_write 45 = .ok (.ireturn, 1) := dq_172 (zby_at (j := 13) zbX11_write_2 rfl)
theorem dX11_write_46 : decode cX11_write 46 = .ok (.aload 5, 2) := dq_25 (zby_at (j := 14) zbX11_write_2 rfl) (zby_at (j := 15) zbX11_write_2 rfl)
theorem zbX11_write_3 : zby cX11_write 48 20 = [180, 1, 58, 28, 25, 5, 33, 182, 1, 80, 80, 3, 172] := by decide +kernel
theorem dX11_write_48 : decode cX11_write 48 = .ok (.getfield 314, 3) := dq_180 (zby_at (j := 0) zbX11_write_3 rfl) (zby_at (j := 1) zbX11_write_3 rfl) (zby_at (j := 2) zbX11_write_3 rfl)
theorem dX11_write_51 : decode cX11_write 51 = .ok (.iload_n 2, 1) := dq_28 (zby_at (j := 3) zbX11_write_3 rfl)
theorem dX11_write_52 : decode cX11_write 52 = .ok (.aload 5, 2) := dq_25 (zby_at (j := 4) zbX11_write_3 rfl) (zby_at (j := 5) zbX11_write_3 rfl)
theorem dX11_write_54 : decode cX11_write 54 = .ok (.lload_n 3, 1) := dq_33 (zby_at (j := 6) zbX11_write_3 rfl)
theorem dX11_write_55 : decode cX11_write 55 = .ok (.invokevirtual 336, 3) := dq_182 (zby_at (j := 7) zbX11_write_3 rfl) (zby_at (j := 8) zbX11_write_3 rfl) (zby_at (j := 9) zbX11_write_3 rfl)
theorem dX11_write_58 : decode cX11_write 58 = .ok (.lastore, 1) := dq_80 (zby_at (j := 10) zbX11_write_3 rfl)
theorem dX11_write_59 : decode cX11_write 59 = .ok (.iconst 0, 1) := dq_3 (zby_at (j := 11) zbX11_write_3 rfl)
theorem dX11_write_60 : decode cX11_write 60 = .ok (.ireturn, 1) := dq_172 (zby_at (j := 12) zbX11_write_3 rfl)
theorem zbX11_paste_0 : zby cX11_paste 0 20 = [42, 27, 182, 1, 46, 153, 0, 11, 42, 29, 182, 1, 46, 154, 0, 6, 16, 254, 172, 42] := by decide +kernel
theorem dX11_paste_0 : decode cX11_paste 0 = .ok (.aload_n 0, 1) := dq_42 (zby_at (j := 0) zbX11_paste_0 rfl)
theorem dX11_paste_1 : decode cX11_paste 1 = .ok (.iload_n 1, 1) := dq_27 (zby_at (j := 1) zbX11_paste_0 rfl)
theorem dX11_paste_2 : decode cX11_paste 2 = .ok (.invokevirtual 302, 3) := dq_182 (zby_at (j := 2) zbX11_paste_0 rfl) (zby_at (j := 3) zbX11_paste_0 rfl) (zby_at (j := 4) zbX11_paste_0 rfl)
theorem dX11_paste_5 : decode cX11_paste 5 = .ok (.ifCond .eq 11, 3) := dq_153 (zby_at (j := 5) zbX11_paste_0 rfl) (zby_at (j := 6) zbX11_paste_0 rfl) (zby_at (j := 7) zbX11_paste_0 rfl) rfl
theorem dX11_paste_8 : decode cX11_paste 8 = .ok (.aload_n 0, 1) := dq_42 (zby_at (j := 8) zbX11_paste_0 rfl)
theorem dX11_paste_9 : decode cX11_paste 9 = .ok (.iload_n 3, 1) := dq_29 (zby_at (j := 9) zbX11_paste_0 rfl)
theorem dX11_paste_10 : decode cX11_paste 10 = .ok (.invokevirtual 302, 3) := dq_182 (zby_at (j := 10) zbX11_paste_0 rfl) (zby_at (j := 11) zbX11_paste_0 rfl) (zby_at (j := 12) zbX11_paste_0 rfl)
theorem dX11_paste_13 : decode cX11_paste 13 = .ok (.ifCond .ne 6, 3) := dq_154 (zby_at (j := 13) zbX11_paste_0 rfl) (zby_at (j := 14) zbX11_paste_0 rfl) (zby_at (j := 15) zbX11_paste_0 rfl) rfl
theorem zbX11_paste_1 : zby cX11_paste 16 20 = [16, 254, 172, 42, 180, 0, 43, 27, 50, 58, 6, 42, 180, 0, 43, 29, 50, 58, 7, 25] := by decide +kernel
theorem dX11_paste_16 : decode cX11_paste 16 = .ok (.bipush (-2), 2) := dq_16 (zby_at (j := 0) zbX11_paste_1 rfl) (zby_at (j := 1) zbX11_paste_1 rfl) rfl
theorem dX11_paste_18 : decode cX11_paste 18 = .ok (.ireturn, 1) := dq_172 (zby_at (j := 2) zbX11_paste_1 rfl)
theorem dX11_paste_19 : decode cX11_paste 19 = .ok (.aload_n 0, 1) := dq_42 (zby_at (j := 3) zbX11_paste_1 rfl)
theorem dX11_paste_20 : decode cX11_paste 20 = .ok (.getfield 43, 3) := dq_180 (zby_at (j := 4) zbX11_paste_1 rfl) (zby_at (j := 5) zbX11_paste_1 rfl) (zby_at (j := 6) zbX11_paste_1 rfl)
theorem dX11_paste_23 : decode cX11_paste 23 = .ok (.iload_n 1, 1) := dq_27 (zby_at (j := 7) zbX11_paste_1 rfl)
theorem dX11_paste_24 : decode cX11_paste 24 = .ok (.aaload, 1) := dq_50 (zby_at (j := 8) zbX11_paste_1 rfl)
theorem dX11_paste_25 : decode cX11_paste 25 = .ok (.astore 6, 2) := dq_58 (zby_at (j := 9) zbX11_paste_1 rfl) (zby_at (j := 10) zbX11_paste_1 rfl)
theorem dX11_paste_27 : decode cX11_paste 27 = .ok (.aload_n 0, 1) := dq_42 (zby_at (j := 11) zbX11_paste_1 rfl)
theorem dX11_paste_28 : decode cX11_paste 28 = .ok (.getfield 43, 3) := dq_180 (zby_at (j := 12) zbX11_paste_1 rfl) (zby_at (j := 13) zbX11_paste_1 rfl) (zby_at (j := 14) zbX11_paste_1 rfl)
theorem dX11_paste_31 : decode cX11_paste 31 = .ok (.iload_n 3, 1) := dq_29 (zby_at (j := 15) zbX11_paste_1 rfl)
theorem zbX11_paste_2 : zby cX11_paste 32 20 = [50, 58, 7, 25, 6, 182, 1, 49, 154, 0, 11, 25, 7, 182, 1, 49, 153, 0, 6, 16] := by decide +kernel
theorem dX11_paste_32 : decode cX11_paste 32 = .ok (.aaload, 1) := dq_50 (zby_at (j := 0) zbX11_paste_2 rfl)
theorem dX11_paste_33 : decode cX11_paste 33 = .ok (.astore 7, 2) := dq_58 (zby_at (j := 1) zbX11_paste_2 rfl) (zby_at (j := 2) zbX11_paste_2 rfl)
theorem dX11_paste_35 : decode cX11_paste 35 = .ok (.aload 6, 2) := dq_25 (zby_at (j := 3) zbX11_paste_2 rfl) (zby_at (j := 4) zbX11_paste_2 rfl)
theorem dX11_paste_37 : decode cX11_paste 37 = .ok (.invokevirtual 305, 3) := dq_182 (zby_at (j := 5) zbX11_paste_2 rfl) (zby_at (j := 6) zbX11_paste_2 rfl) (zby_at (j := 7) zbX11_paste_2 rfl)
theorem dX11_paste_40 : decode cX11_paste 40 = .ok (.ifCond .ne 11, 3) := dq_154 (zby_at (j := 8) zbX11_paste_2 rfl) (zby_at (j := 9) zbX11_paste_2 rfl) (zby_at (j := 10) zbX11_paste_2 rfl) rfl
theorem dX11_paste_43 : decode cX11_paste 43 = .ok (.aload 7, 2) := dq_25 (zby_at (j := 11) zbX11_paste_2 rfl) (zby_at (j := 12) zbX11_paste_2 rfl)
theorem dX11_paste_45 : decode cX11_paste 45 = .ok (.invokevirtual 305, 3) := dq_182 (zby_at (j := 13) zbX11_paste_2 rfl) (zby_at (j := 14) zbX11_paste_2 rfl) (zby_at (j := 15) zbX11_paste_2 rfl)
theorem zbX11_paste_3 : zby cX11_paste 48 20 = [153, 0, 6, 16, 250, 172, 25, 6, 180, 1, 84, 25, 7, 180, 1, 84, 159, 0, 6, 16] := by decide +kernel
theorem dX11_paste_48 : decode cX11_paste 48 = .ok (.ifCond .eq 6, 3) := dq_153 (zby_at (j := 0) zbX11_paste_3 rfl) (zby_at (j := 1) zbX11_paste_3 rfl) (zby_at (j := 2) zbX11_paste_3 rfl) rfl
theorem dX11_paste_51 : decode cX11_paste 51 = .ok (.bipush (-6), 2) := dq_16 (zby_at (j := 3) zbX11_paste_3 rfl) (zby_at (j := 4) zbX11_paste_3 rfl) rfl
theorem dX11_paste_53 : decode cX11_paste 53 = .ok (.ireturn, 1) := dq_172 (zby_at (j := 5) zbX11_paste_3 rfl)
theorem dX11_paste_54 : decode cX11_paste 54 = .ok (.aload 6, 2) := dq_25 (zby_at (j := 6) zbX11_paste_3 rfl) (zby_at (j := 7) zbX11_paste_3 rfl)
theorem dX11_paste_56 : decode cX11_paste 56 = .ok (.getfield 340, 3) := dq_180 (zby_at (j := 8) zbX11_paste_3 rfl) (zby_at (j := 9) zbX11_paste_3 rfl) (zby_at (j := 10) zbX11_paste_3 rfl)
theorem dX11_paste_59 : decode cX11_paste 59 = .ok (.aload 7, 2) := dq_25 (zby_at (j := 11) zbX11_paste_3 rfl) (zby_at (j := 12) zbX11_paste_3 rfl)
theorem dX11_paste_61 : decode cX11_paste 61 = .ok (.getfield 340, 3) := dq_180 (zby_at (j := 13) zbX11_paste_3 rfl) (zby_at (j := 14) zbX11_paste_3 rfl) (zby_at (j := 15) zbX11_paste_3 rfl)
theorem zbX11_paste_4 : zby cX11_paste 64 20 = [159, 0, 6, 16, 248, 172, 25, 6, 28, 21, 5, 182, 1, 87, 153, 0, 15, 25, 7, 21] := by decide +kernel
theorem dX11_paste_64 : decode cX11_paste 64 = .ok (.if_icmp .eq 6, 3) := dq_159 (zby_at (j := 0) zbX11_paste_4 rfl) (zby_at (j := 1) zbX11_paste_4 rfl) (zby_at (j := 2) zbX11_paste_4 rfl) rfl
theorem dX11_paste_67 : decode cX11_paste 67 = .ok (.bipush (-8), 2) := dq_16 (zby_at (j := 3) zbX11_paste_4 rfl) (zby_at (j := 4) zbX11_paste_4 rfl) rfl
theorem dX11_paste_69 : decode cX11_paste 69 = .ok (.ireturn, 1) := dq_172 (zby_at (j := 5) zbX11_paste_4 rfl)
theorem dX11_paste_70 : decode cX11_paste 70 = .ok (.aload 6, 2) := dq_25 (zby_at (j := 6) zbX11_paste_4 rfl) (zby_at (j := 7) zbX11_paste_4 rfl)
theorem dX11_paste_72 : decode cX11_paste 72 = .ok (.iload_n 2, 1) := dq_28 (zby_at (j := 8) zbX11_paste_4 rfl)
theorem dX11_paste_73 : decode cX11_paste 73 = .ok (.iload 5, 2) := dq_21 (zby_at (j := 9) zbX11_paste_4 rfl) (zby_at (j := 10) zbX11_paste_4 rfl)
theorem dX11_paste_75 : decode cX11_paste 75 = .ok (.invokevirtual 343, 3) := dq_182 (zby_at (j := 11) zbX11_paste_4 rfl) (zby_at (j := 12) zbX11_paste_4 rfl) (zby_at (j := 13) zbX11_paste_4 rfl)
theorem dX11_paste_78 : decode cX11_paste 78 = .ok (.ifCond .eq 15, 3) := dq_153 (zby_at (j := 14) zbX11_paste_4 rfl) (zby_at (j := 15) zbX11_paste_4 rfl) (zby_at (j := 16) zbX11_paste_4 rfl) rfl
theorem zbX11_paste_5 : zby cX11_paste 80 20 = [15, 25, 7, 21, 4, 21, 5, 182, 1, 87, 154, 0, 6, 16, 249, 172, 25, 6, 180, 1] := by decide +kernel
theorem dX11_paste_81 : decode cX11_paste 81 = .ok (.aload 7, 2) := dq_25 (zby_at (j := 1) zbX11_paste_5 rfl) (zby_at (j := 2) zbX11_paste_5 rfl)
theorem dX11_paste_83 : decode cX11_paste 83 = .ok (.iload 4, 2) := dq_21 (zby_at (j := 3) zbX11_paste_5 rfl) (zby_at (j := 4) zbX11_paste_5 rfl)
theorem dX11_paste_85 : decode cX11_paste 85 = .ok (.iload 5, 2) := dq_21 (zby_at (j := 5) zbX11_paste_5 rfl) (zby_at (j := 6) zbX11_paste_5 rfl)
theorem dX11_paste_87 : decode cX11_paste 87 = .ok (.invokevirtual 343, 3) := dq_182 (zby_at (j := 7) zbX11_paste_5 rfl) (zby_at (j := 8) zbX11_paste_5 rfl) (zby_at (j := 9) zbX11_paste_5 rfl)
theorem dX11_paste_90 : decode cX11_paste 90 = .ok (.ifCond .ne 6, 3) := dq_154 (zby_at (j := 10) zbX11_paste_5 rfl) (zby_at (j := 11) zbX11_paste_5 rfl) (zby_at (j := 12) zbX11_paste_5 rfl) rfl
theorem dX11_paste_93 : decode cX11_paste 93 = .ok (.bipush (-7), 2) := dq_16 (zby_at (j := 13) zbX11_paste_5 rfl) (zby_at (j := 14) zbX11_paste_5 rfl) rfl
theorem dX11_paste_95 : decode cX11_paste 95 = .ok (.ireturn, 1) := dq_172 (zby_at (j := 15) zbX11_paste_5 rfl)
theorem zbX11_paste_6 : zby cX11_paste 96 20 = [25, 6, 180, 1, 58, 28, 25, 7, 180, 1, 58, 21, 4, 21, 5, 184, 1, 91, 3, 172] := by decide +kernel
theorem dX11_paste_96 : decode cX11_paste 96 = .ok (.aload 6, 2) := dq_25 (zby_at (j := 0) zbX11_paste_6 rfl) (zby_at (j := 1) zbX11_paste_6 rfl)
theorem dX11_paste_98 : decode cX11_paste 98 = .ok (.getfield 314, 3) := dq_180 (zby_at (j := 2) zbX11_paste_6 rfl) (zby_at (j := 3) zbX11_paste_6 rfl) (zby_at (j := 4) zbX11_paste_6 rfl)
theorem dX11_paste_101 : decode cX11_paste 101 = .ok (.iload_n 2, 1) := dq_28 (zby_at (j := 5) zbX11_paste_6 rfl)
theorem dX11_paste_102 : decode cX11_paste 102 = .ok (.aload 7, 2) := dq_25 (zby_at (j := 6) zbX11_paste_6 rfl) (zby_at (j := 7) zbX11_paste_6 rfl)
theorem dX11_paste_104 : decode cX11_paste 104 = .ok (.getfield 314, 3) := dq_180 (zby_at (j := 8) zbX11_paste_6 rfl) (zby_at (j := 9) zbX11_paste_6 rfl) (zby_at (j := 10) zbX11_paste_6 rfl)
theorem dX11_paste_107 : decode cX11_paste 107 = .ok (.iload 4, 2) := dq_21 (zby_at (j := 11) zbX11_paste_6 rfl) (zby_at (j := 12) zbX11_paste_6 rfl)
theorem dX11_paste_109 : decode cX11_paste 109 = .ok (.iload 5, 2) := dq_21 (zby_at (j := 13) zbX11_paste_6 rfl) (zby_at (j := 14) zbX11_paste_6 rfl)
theorem dX11_paste_111 : decode cX11_paste 111 = .ok (.invokestatic 347, 3) := dq_184 (zby_at (j := 15) zbX11_paste_6 rfl) (zby_at (j := 16) zbX11_paste_6 rfl) (zby_at (j := 17) zbX11_paste_6 rfl)
theorem zbX11_paste_7 : zby cX11_paste 112 20 = [1, 91, 3, 172] := by decide +kernel
theorem dX11_paste_114 : decode cX11_paste 114 = .ok (.iconst 0, 1) := dq_3 (zby_at (j := 2) zbX11_paste_7 rfl)
theorem dX11_paste_115 : decode cX11_paste 115 = .ok (.ireturn, 1) := dq_172 (zby_at (j := 3) zbX11_paste_7 rfl)
theorem zbX11_tapeNumber_0 : zby cX11_tapeNumber 0 20 = [3, 62, 29, 7, 162, 0, 40, 28, 155, 0, 30, 28, 29, 96, 17, 2, 88, 162, 0, 21] := by decide +kernel
theorem dX11_tapeNumber_0 : decode cX11_tapeNumber 0 = .ok (.iconst 0, 1) := dq_3 (zby_at (j := 0) zbX11_tapeNumber_0 rfl)
theorem dX11_tapeNumber_1 : decode cX11_tapeNumber 1 = .ok (.istore_n 3, 1) := dq_62 (zby_at (j := 1) zbX11_tapeNumber_0 rfl)
theorem dX11_tapeNumber_2 : decode cX11_tapeNumber 2 = .ok (.iload_n 3, 1) := dq_29 (zby_at (j := 2) zbX11_tapeNumber_0 rfl)
theorem dX11_tapeNumber_3 : decode cX11_tapeNumber 3 = .ok (.iconst 4, 1) := dq_7 (zby_at (j := 3) zbX11_tapeNumber_0 rfl)
theorem dX11_tapeNumber_4 : decode cX11_tapeNumber 4 = .ok (.if_icmp .ge 40, 3) := dq_162 (zby_at (j := 4) zbX11_tapeNumber_0 rfl) (zby_at (j := 5) zbX11_tapeNumber_0 rfl) (zby_at (j := 6) zbX11_tapeNumber_0 rfl) rfl
theorem dX11_tapeNumber_7 : decode cX11_tapeNumber 7 = .ok (.iload_n 2, 1) := dq_28 (zby_at (j := 7) zbX11_tapeNumber_0 rfl)
theorem dX11_tapeNumber_8 : decode cX11_tapeNumber 8 = .ok (.ifCond .lt 30, 3) := dq_155 (zby_at (j := 8) zbX11_tapeNumber_0 rfl) (zby_at (j := 9) zbX11_tapeNumber_0 rfl) (zby_at (j := 10) zbX11_tapeNumber_0 rfl) rfl
theorem dX11_tapeNumber_11 : decode cX11_tapeNumber 11 = .ok (.iload_n 2, 1) := dq_28 (zby_at (j := 11) zbX11_tapeNumber_0 rfl)
theorem dX11_tapeNumber_12 : decode cX11_tapeNumber 12 = .ok (.iload_n 3, 1) := dq_29 (zby_at (j := 12) zbX11_tapeNumber_0 rfl)
theorem dX11_tapeNumber_13 : decode cX11_tapeNumber 13 = .ok (.iadd, 1) := dq_96 (zby_at (j := 13) zbX11_tapeNumber_0 rfl)
theorem dX11_tapeNumber_14 : decode cX11_tapeNumber 14 = .ok (.sipush 600, 3) := dq_17 (zby_at (j := 14) zbX11_tapeNumber_0 rfl) (zby_at (j := 15) zbX11_tapeNumber_0 rfl) (zby_at (j := 16) zbX11_tapeNumber_0 rfl) rfl
theorem zbX11_tapeNumber_1 : zby cX11_tapeNumber 16 20 = [88, 162, 0, 21, 42, 180, 0, 9, 28, 29, 96, 27, 16, 24, 16, 8, 29, 104, 100, 124] := by decide +kernel
theorem dX11_tapeNumber_17 : decode cX11_tapeNumber 17 = .ok (.if_icmp .ge 21, 3) := dq_162 (zby_at (j := 1) zbX11_tapeNumber_1 rfl) (zby_at (j := 2) zbX11_tapeNumber_1 rfl) (zby_at (j := 3) zbX11_tapeNumber_1 rfl) rfl
theorem dX11_tapeNumber_20 : decode cX11_tapeNumber 20 = .ok (.aload_n 0, 1) := dq_42 (zby_at (j := 4) zbX11_tapeNumber_1 rfl)
theorem dX11_tapeNumber_21 : decode cX11_tapeNumber 21 = .ok (.getfield 9, 3) := dq_180 (zby_at (j := 5) zbX11_tapeNumber_1 rfl) (zby_at (j := 6) zbX11_tapeNumber_1 rfl) (zby_at (j := 7) zbX11_tapeNumber_1 rfl)
theorem dX11_tapeNumber_24 : decode cX11_tapeNumber 24 = .ok (.iload_n 2, 1) := dq_28 (zby_at (j := 8) zbX11_tapeNumber_1 rfl)
theorem dX11_tapeNumber_25 : decode cX11_tapeNumber 25 = .ok (.iload_n 3, 1) := dq_29 (zby_at (j := 9) zbX11_tapeNumber_1 rfl)
theorem dX11_tapeNumber_26 : decode cX11_tapeNumber 26 = .ok (.iadd, 1) := dq_96 (zby_at (j := 10) zbX11_tapeNumber_1 rfl)
theorem dX11_tapeNumber_27 : decode cX11_tapeNumber 27 = .ok (.iload_n 1, 1) := dq_27 (zby_at (j := 11) zbX11_tapeNumber_1 rfl)
theorem dX11_tapeNumber_28 : decode cX11_tapeNumber 28 = .ok (.bipush 24, 2) := dq_16 (zby_at (j := 12) zbX11_tapeNumber_1 rfl) (zby_at (j := 13) zbX11_tapeNumber_1 rfl) rfl
theorem dX11_tapeNumber_30 : decode cX11_tapeNumber 30 = .ok (.bipush 8, 2) := dq_16 (zby_at (j := 14) zbX11_tapeNumber_1 rfl) (zby_at (j := 15) zbX11_tapeNumber_1 rfl) rfl
theorem zbX11_tapeNumber_2 : zby cX11_tapeNumber 32 20 = [29, 104, 100, 124, 145, 84, 132, 3, 1, 167, 255, 217, 177] := by decide +kernel
theorem dX11_tapeNumber_32 : decode cX11_tapeNumber 32 = .ok (.iload_n 3, 1) := dq_29 (zby_at (j := 0) zbX11_tapeNumber_2 rfl)
theorem dX11_tapeNumber_33 : decode cX11_tapeNumber 33 = .ok (.imul, 1) := dq_104 (zby_at (j := 1) zbX11_tapeNumber_2 rfl)
theorem dX11_tapeNumber_34 : decode cX11_tapeNumber 34 = .ok (.isub, 1) := dq_100 (zby_at (j := 2) zbX11_tapeNumber_2 rfl)
theorem dX11_tapeNumber_35 : decode cX11_tapeNumber 35 = .ok (.iushr, 1) := dq_124 (zby_at (j := 3) zbX11_tapeNumber_2 rfl)
theorem dX11_tapeNumber_36 : decode cX11_tapeNumber 36 = .ok (.i2b, 1) := dq_145 (zby_at (j := 4) zbX11_tapeNumber_2 rfl)
theorem dX11_tapeNumber_37 : decode cX11_tapeNumber 37 = .ok (.bastore, 1) := dq_84 (zby_at (j := 5) zbX11_tapeNumber_2 rfl)
theorem dX11_tapeNumber_38 : decode cX11_tapeNumber 38 = .ok (.iinc 3 1, 3) := dq_132 (zby_at (j := 6) zbX11_tapeNumber_2 rfl) (zby_at (j := 7) zbX11_tapeNumber_2 rfl) (zby_at (j := 8) zbX11_tapeNumber_2 rfl) rfl
theorem dX11_tapeNumber_41 : decode cX11_tapeNumber 41 = .ok (.goto (-39), 3) := dq_167 (zby_at (j := 9) zbX11_tapeNumber_2 rfl) (zby_at (j := 10) zbX11_tapeNumber_2 rfl) (zby_at (j := 11) zbX11_tapeNumber_2 rfl) rfl
theorem dX11_tapeNumber_44 : decode cX11_tapeNumber 44 = .ok (.return_, 1) := dq_177 (zby_at (j := 12) zbX11_tapeNumber_2 rfl)
theorem zbX11_takeFault_0 : zby cX11_takeFault 0 20 = [42, 3, 181, 0, 13, 42, 42, 180, 0, 50, 180, 1, 97, 181, 0, 17, 42, 42, 180, 0] := by decide +kernel
theorem dX11_takeFault_0 : decode cX11_takeFault 0 = .ok (.aload_n 0, 1) := dq_42 (zby_at (j := 0) zbX11_takeFault_0 rfl)
theorem dX11_takeFault_1 : decode cX11_takeFault 1 = .ok (.iconst 0, 1) := dq_3 (zby_at (j := 1) zbX11_takeFault_0 rfl)
theorem dX11_takeFault_2 : decode cX11_takeFault 2 = .ok (.putfield 13, 3) := dq_181 (zby_at (j := 2) zbX11_takeFault_0 rfl) (zby_at (j := 3) zbX11_takeFault_0 rfl) (zby_at (j := 4) zbX11_takeFault_0 rfl)
theorem dX11_takeFault_5 : decode cX11_takeFault 5 = .ok (.aload_n 0, 1) := dq_42 (zby_at (j := 5) zbX11_takeFault_0 rfl)
theorem dX11_takeFault_6 : decode cX11_takeFault 6 = .ok (.aload_n 0, 1) := dq_42 (zby_at (j := 6) zbX11_takeFault_0 rfl)
theorem dX11_takeFault_7 : decode cX11_takeFault 7 = .ok (.getfield 50, 3) := dq_180 (zby_at (j := 7) zbX11_takeFault_0 rfl) (zby_at (j := 8) zbX11_takeFault_0 rfl) (zby_at (j := 9) zbX11_takeFault_0 rfl)
theorem dX11_takeFault_10 : decode cX11_takeFault 10 = .ok (.getfield 353, 3) := dq_180 (zby_at (j := 10) zbX11_takeFault_0 rfl) (zby_at (j := 11) zbX11_takeFault_0 rfl) (zby_at (j := 12) zbX11_takeFault_0 rfl)
theorem dX11_takeFault_13 : decode cX11_takeFault 13 = .ok (.putfield 17, 3) := dq_181 (zby_at (j := 13) zbX11_takeFault_0 rfl) (zby_at (j := 14) zbX11_takeFault_0 rfl) (zby_at (j := 15) zbX11_takeFault_0 rfl)
theorem zbX11_takeFault_1 : zby cX11_takeFault 16 20 = [42, 42, 180, 0, 50, 180, 1, 98, 181, 0, 20, 177] := by decide +kernel
theorem dX11_takeFault_16 : decode cX11_takeFault 16 = .ok (.aload_n 0, 1) := dq_42 (zby_at (j := 0) zbX11_takeFault_1 rfl)
theorem dX11_takeFault_17 : decode cX11_takeFault 17 = .ok (.aload_n 0, 1) := dq_42 (zby_at (j := 1) zbX11_takeFault_1 rfl)
theorem dX11_takeFault_18 : decode cX11_takeFault 18 = .ok (.getfield 50, 3) := dq_180 (zby_at (j := 2) zbX11_takeFault_1 rfl) (zby_at (j := 3) zbX11_takeFault_1 rfl) (zby_at (j := 4) zbX11_takeFault_1 rfl)
theorem dX11_takeFault_21 : decode cX11_takeFault 21 = .ok (.getfield 354, 3) := dq_180 (zby_at (j := 5) zbX11_takeFault_1 rfl) (zby_at (j := 6) zbX11_takeFault_1 rfl) (zby_at (j := 7) zbX11_takeFault_1 rfl)
theorem dX11_takeFault_24 : decode cX11_takeFault 24 = .ok (.putfield 20, 3) := dq_181 (zby_at (j := 8) zbX11_takeFault_1 rfl) (zby_at (j := 9) zbX11_takeFault_1 rfl) (zby_at (j := 10) zbX11_takeFault_1 rfl)
theorem dX11_takeFault_27 : decode cX11_takeFault 27 = .ok (.return_, 1) := dq_177 (zby_at (j := 11) zbX11_takeFault_1 rfl)
theorem zbX11_isWorld_0 : zby cX11_isWorld 0 20 = [42, 180, 0, 26, 180, 0, 139, 158, 0, 7, 4, 167, 0, 4, 3, 172] := by decide +kernel
theorem dX11_isWorld_0 : decode cX11_isWorld 0 = .ok (.aload_n 0, 1) := dq_42 (zby_at (j := 0) zbX11_isWorld_0 rfl)
theorem dX11_isWorld_1 : decode cX11_isWorld 1 = .ok (.getfield 26, 3) := dq_180 (zby_at (j := 1) zbX11_isWorld_0 rfl) (zby_at (j := 2) zbX11_isWorld_0 rfl) (zby_at (j := 3) zbX11_isWorld_0 rfl)
theorem dX11_isWorld_4 : decode cX11_isWorld 4 = .ok (.getfield 139, 3) := dq_180 (zby_at (j := 4) zbX11_isWorld_0 rfl) (zby_at (j := 5) zbX11_isWorld_0 rfl) (zby_at (j := 6) zbX11_isWorld_0 rfl)
theorem dX11_isWorld_7 : decode cX11_isWorld 7 = .ok (.ifCond .le 7, 3) := dq_158 (zby_at (j := 7) zbX11_isWorld_0 rfl) (zby_at (j := 8) zbX11_isWorld_0 rfl) (zby_at (j := 9) zbX11_isWorld_0 rfl) rfl
theorem dX11_isWorld_10 : decode cX11_isWorld 10 = .ok (.iconst 1, 1) := dq_4 (zby_at (j := 10) zbX11_isWorld_0 rfl)
theorem dX11_isWorld_11 : decode cX11_isWorld 11 = .ok (.goto 4, 3) := dq_167 (zby_at (j := 11) zbX11_isWorld_0 rfl) (zby_at (j := 12) zbX11_isWorld_0 rfl) (zby_at (j := 13) zbX11_isWorld_0 rfl) rfl
theorem dX11_isWorld_14 : decode cX11_isWorld 14 = .ok (.iconst 0, 1) := dq_3 (zby_at (j := 14) zbX11_isWorld_0 rfl)
theorem dX11_isWorld_15 : decode cX11_isWorld 15 = .ok (.ireturn, 1) := dq_172 (zby_at (j := 15) zbX11_isWorld_0 rfl)
theorem zbX11_isRegister_0 : zby cX11_isRegister 0 20 = [42, 182, 1, 4, 153, 0, 17, 27, 155, 0, 13, 27, 16, 10, 162, 0, 7, 4, 167, 0] := by decide +kernel
theorem dX11_isRegister_0 : decode cX11_isRegister 0 = .ok (.aload_n 0, 1) := dq_42 (zby_at (j := 0) zbX11_isRegister_0 rfl)
theorem dX11_isRegister_1 : decode cX11_isRegister 1 = .ok (.invokevirtual 260, 3) := dq_182 (zby_at (j := 1) zbX11_isRegister_0 rfl) (zby_at (j := 2) zbX11_isRegister_0 rfl) (zby_at (j := 3) zbX11_isRegister_0 rfl)
theorem dX11_isRegister_4 : decode cX11_isRegister 4 = .ok (.ifCond .eq 17, 3) := dq_153 (zby_at (j := 4) zbX11_isRegister_0 rfl) (zby_at (j := 5) zbX11_isRegister_0 rfl) (zby_at (j := 6) zbX11_isRegister_0 rfl) rfl
theorem dX11_isRegister_7 : decode cX11_isRegister 7 = .ok (.iload_n 1, 1) := dq_27 (zby_at (j := 7) zbX11_isRegister_0 rfl)
theorem dX11_isRegister_8 : decode cX11_isRegister 8 = .ok (.ifCond .lt 13, 3) := dq_155 (zby_at (j := 8) zbX11_isRegister_0 rfl) (zby_at (j := 9) zbX11_isRegister_0 rfl) (zby_at (j := 10) zbX11_isRegister_0 rfl) rfl
theorem dX11_isRegister_11 : decode cX11_isRegister 11 = .ok (.iload_n 1, 1) := dq_27 (zby_at (j := 11) zbX11_isRegister_0 rfl)
theorem dX11_isRegister_12 : decode cX11_isRegister 12 = .ok (.bipush 10, 2) := dq_16 (zby_at (j := 12) zbX11_isRegister_0 rfl) (zby_at (j := 13) zbX11_isRegister_0 rfl) rfl
theorem dX11_isRegister_14 : decode cX11_isRegister 14 = .ok (.if_icmp .ge 7, 3) := dq_162 (zby_at (j := 14) zbX11_isRegister_0 rfl) (zby_at (j := 15) zbX11_isRegister_0 rfl) (zby_at (j := 16) zbX11_isRegister_0 rfl) rfl
theorem zbX11_isRegister_1 : zby cX11_isRegister 16 20 = [7, 4, 167, 0, 4, 3, 172] := by decide +kernel
theorem dX11_isRegister_17 : decode cX11_isRegister 17 = .ok (.iconst 1, 1) := dq_4 (zby_at (j := 1) zbX11_isRegister_1 rfl)
theorem dX11_isRegister_18 : decode cX11_isRegister 18 = .ok (.goto 4, 3) := dq_167 (zby_at (j := 2) zbX11_isRegister_1 rfl) (zby_at (j := 3) zbX11_isRegister_1 rfl) (zby_at (j := 4) zbX11_isRegister_1 rfl) rfl
theorem dX11_isRegister_21 : decode cX11_isRegister 21 = .ok (.iconst 0, 1) := dq_3 (zby_at (j := 5) zbX11_isRegister_1 rfl)
theorem dX11_isRegister_22 : decode cX11_isRegister 22 = .ok (.ireturn, 1) := dq_172 (zby_at (j := 6) zbX11_isRegister_1 rfl)
theorem zbX11_isSet_0 : zby cX11_isSet 0 20 = [42, 182, 1, 4, 153, 0, 24, 27, 155, 0, 20, 27, 4, 42, 180, 0, 26, 180, 0, 139] := by decide +kernel
theorem dX11_isSet_0 : decode cX11_isSet 0 = .ok (.aload_n 0, 1) := dq_42 (zby_at (j := 0) zbX11_isSet_0 rfl)
theorem dX11_isSet_1 : decode cX11_isSet 1 = .ok (.invokevirtual 260, 3) := dq_182 (zby_at (j := 1) zbX11_isSet_0 rfl) (zby_at (j := 2) zbX11_isSet_0 rfl) (zby_at (j := 3) zbX11_isSet_0 rfl)
theorem dX11_isSet_4 : decode cX11_isSet 4 = .ok (.ifCond .eq 24, 3) := dq_153 (zby_at (j := 4) zbX11_isSet_0 rfl) (zby_at (j := 5) zbX11_isSet_0 rfl) (zby_at (j := 6) zbX11_isSet_0 rfl) rfl
theorem dX11_isSet_7 : decode cX11_isSet 7 = .ok (.iload_n 1, 1) := dq_27 (zby_at (j := 7) zbX11_isSet_0 rfl)
theorem dX11_isSet_8 : decode cX11_isSet 8 = .ok (.ifCond .lt 20, 3) := dq_155 (zby_at (j := 8) zbX11_isSet_0 rfl) (zby_at (j := 9) zbX11_isSet_0 rfl) (zby_at (j := 10) zbX11_isSet_0 rfl) rfl
theorem dX11_isSet_11 : decode cX11_isSet 11 = .ok (.iload_n 1, 1) := dq_27 (zby_at (j := 11) zbX11_isSet_0 rfl)
theorem dX11_isSet_12 : decode cX11_isSet 12 = .ok (.iconst 1, 1) := dq_4 (zby_at (j := 12) zbX11_isSet_0 rfl)
theorem dX11_isSet_13 : decode cX11_isSet 13 = .ok (.aload_n 0, 1) := dq_42 (zby_at (j := 13) zbX11_isSet_0 rfl)
theorem dX11_isSet_14 : decode cX11_isSet 14 = .ok (.getfield 26, 3) := dq_180 (zby_at (j := 14) zbX11_isSet_0 rfl) (zby_at (j := 15) zbX11_isSet_0 rfl) (zby_at (j := 16) zbX11_isSet_0 rfl)
theorem zbX11_isSet_1 : zby cX11_isSet 16 20 = [26, 180, 0, 139, 120, 162, 0, 7, 4, 167, 0, 4, 3, 172] := by decide +kernel
theorem dX11_isSet_17 : decode cX11_isSet 17 = .ok (.getfield 139, 3) := dq_180 (zby_at (j := 1) zbX11_isSet_1 rfl) (zby_at (j := 2) zbX11_isSet_1 rfl) (zby_at (j := 3) zbX11_isSet_1 rfl)
theorem dX11_isSet_20 : decode cX11_isSet 20 = .ok (.ishl, 1) := dq_120 (zby_at (j := 4) zbX11_isSet_1 rfl)
theorem dX11_isSet_21 : decode cX11_isSet 21 = .ok (.if_icmp .ge 7, 3) := dq_162 (zby_at (j := 5) zbX11_isSet_1 rfl) (zby_at (j := 6) zbX11_isSet_1 rfl) (zby_at (j := 7) zbX11_isSet_1 rfl) rfl
theorem dX11_isSet_24 : decode cX11_isSet 24 = .ok (.iconst 1, 1) := dq_4 (zby_at (j := 8) zbX11_isSet_1 rfl)
theorem dX11_isSet_25 : decode cX11_isSet 25 = .ok (.goto 4, 3) := dq_167 (zby_at (j := 9) zbX11_isSet_1 rfl) (zby_at (j := 10) zbX11_isSet_1 rfl) (zby_at (j := 11) zbX11_isSet_1 rfl) rfl
theorem dX11_isSet_28 : decode cX11_isSet 28 = .ok (.iconst 0, 1) := dq_3 (zby_at (j := 12) zbX11_isSet_1 rfl)
theorem dX11_isSet_29 : decode cX11_isSet 29 = .ok (.ireturn, 1) := dq_172 (zby_at (j := 13) zbX11_isSet_1 rfl)
theorem zbX11_isName_0 : zby cX11_isName 0 20 = [27, 155, 0, 18, 27, 42, 180, 0, 26, 180, 0, 139, 162, 0, 7, 4, 167, 0, 4, 3] := by decide +kernel
theorem dX11_isName_0 : decode cX11_isName 0 = .ok (.iload_n 1, 1) := dq_27 (zby_at (j := 0) zbX11_isName_0 rfl)
theorem dX11_isName_1 : decode cX11_isName 1 = .ok (.ifCond .lt 18, 3) := dq_155 (zby_at (j := 1) zbX11_isName_0 rfl) (zby_at (j := 2) zbX11_isName_0 rfl) (zby_at (j := 3) zbX11_isName_0 rfl) rfl
theorem dX11_isName_4 : decode cX11_isName 4 = .ok (.iload_n 1, 1) := dq_27 (zby_at (j := 4) zbX11_isName_0 rfl)
theorem dX11_isName_5 : decode cX11_isName 5 = .ok (.aload_n 0, 1) := dq_42 (zby_at (j := 5) zbX11_isName_0 rfl)
theorem dX11_isName_6 : decode cX11_isName 6 = .ok (.getfield 26, 3) := dq_180 (zby_at (j := 6) zbX11_isName_0 rfl) (zby_at (j := 7) zbX11_isName_0 rfl) (zby_at (j := 8) zbX11_isName_0 rfl)
theorem dX11_isName_9 : decode cX11_isName 9 = .ok (.getfield 139, 3) := dq_180 (zby_at (j := 9) zbX11_isName_0 rfl) (zby_at (j := 10) zbX11_isName_0 rfl) (zby_at (j := 11) zbX11_isName_0 rfl)
theorem dX11_isName_12 : decode cX11_isName 12 = .ok (.if_icmp .ge 7, 3) := dq_162 (zby_at (j := 12) zbX11_isName_0 rfl) (zby_at (j := 13) zbX11_isName_0 rfl) (zby_at (j := 14) zbX11_isName_0 rfl) rfl
theorem dX11_isName_15 : decode cX11_isName 15 = .ok (.iconst 1, 1) := dq_4 (zby_at (j := 15) zbX11_isName_0 rfl)
theorem zbX11_isName_1 : zby cX11_isName 16 20 = [167, 0, 4, 3, 172] := by decide +kernel
theorem dX11_isName_16 : decode cX11_isName 16 = .ok (.goto 4, 3) := dq_167 (zby_at (j := 0) zbX11_isName_1 rfl) (zby_at (j := 1) zbX11_isName_1 rfl) (zby_at (j := 2) zbX11_isName_1 rfl) rfl
theorem dX11_isName_19 : decode cX11_isName 19 = .ok (.iconst 0, 1) := dq_3 (zby_at (j := 3) zbX11_isName_1 rfl)
theorem dX11_isName_20 : decode cX11_isName 20 = .ok (.ireturn, 1) := dq_172 (zby_at (j := 4) zbX11_isName_1 rfl)
theorem zbX11_isCrossing_0 : zby cX11_isCrossing 0 20 = [27, 155, 0, 13, 27, 16, 8, 162, 0, 7, 4, 167, 0, 4, 3, 172] := by decide +kernel
theorem dX11_isCrossing_0 : decode cX11_isCrossing 0 = .ok (.iload_n 1, 1) := dq_27 (zby_at (j := 0) zbX11_isCrossing_0 rfl)
theorem dX11_isCrossing_1 : decode cX11_isCrossing 1 = .ok (.ifCond .lt 13, 3) := dq_155 (zby_at (j := 1) zbX11_isCrossing_0 rfl) (zby_at (j := 2) zbX11_isCrossing_0 rfl) (zby_at (j := 3) zbX11_isCrossing_0 rfl) rfl
theorem dX11_isCrossing_4 : decode cX11_isCrossing 4 = .ok (.iload_n 1, 1) := dq_27 (zby_at (j := 4) zbX11_isCrossing_0 rfl)
theorem dX11_isCrossing_5 : decode cX11_isCrossing 5 = .ok (.bipush 8, 2) := dq_16 (zby_at (j := 5) zbX11_isCrossing_0 rfl) (zby_at (j := 6) zbX11_isCrossing_0 rfl) rfl
theorem dX11_isCrossing_7 : decode cX11_isCrossing 7 = .ok (.if_icmp .ge 7, 3) := dq_162 (zby_at (j := 7) zbX11_isCrossing_0 rfl) (zby_at (j := 8) zbX11_isCrossing_0 rfl) (zby_at (j := 9) zbX11_isCrossing_0 rfl) rfl
theorem dX11_isCrossing_10 : decode cX11_isCrossing 10 = .ok (.iconst 1, 1) := dq_4 (zby_at (j := 10) zbX11_isCrossing_0 rfl)
theorem dX11_isCrossing_11 : decode cX11_isCrossing 11 = .ok (.goto 4, 3) := dq_167 (zby_at (j := 11) zbX11_isCrossing_0 rfl) (zby_at (j := 12) zbX11_isCrossing_0 rfl) (zby_at (j := 13) zbX11_isCrossing_0 rfl) rfl
theorem dX11_isCrossing_14 : decode cX11_isCrossing 14 = .ok (.iconst 0, 1) := dq_3 (zby_at (j := 14) zbX11_isCrossing_0 rfl)
theorem dX11_isCrossing_15 : decode cX11_isCrossing 15 = .ok (.ireturn, 1) := dq_172 (zby_at (j := 15) zbX11_isCrossing_0 rfl)
theorem zbX11_isSlot_0 : zby cX11_isSlot 0 20 = [27, 155, 0, 12, 27, 7, 162, 0, 7, 4, 167, 0, 4, 3, 172] := by decide +kernel
theorem dX11_isSlot_0 : decode cX11_isSlot 0 = .ok (.iload_n 1, 1) := dq_27 (zby_at (j := 0) zbX11_isSlot_0 rfl)
theorem dX11_isSlot_1 : decode cX11_isSlot 1 = .ok (.ifCond .lt 12, 3) := dq_155 (zby_at (j := 1) zbX11_isSlot_0 rfl) (zby_at (j := 2) zbX11_isSlot_0 rfl) (zby_at (j := 3) zbX11_isSlot_0 rfl) rfl
theorem dX11_isSlot_4 : decode cX11_isSlot 4 = .ok (.iload_n 1, 1) := dq_27 (zby_at (j := 4) zbX11_isSlot_0 rfl)
theorem dX11_isSlot_5 : decode cX11_isSlot 5 = .ok (.iconst 4, 1) := dq_7 (zby_at (j := 5) zbX11_isSlot_0 rfl)
theorem dX11_isSlot_6 : decode cX11_isSlot 6 = .ok (.if_icmp .ge 7, 3) := dq_162 (zby_at (j := 6) zbX11_isSlot_0 rfl) (zby_at (j := 7) zbX11_isSlot_0 rfl) (zby_at (j := 8) zbX11_isSlot_0 rfl) rfl
theorem dX11_isSlot_9 : decode cX11_isSlot 9 = .ok (.iconst 1, 1) := dq_4 (zby_at (j := 9) zbX11_isSlot_0 rfl)
theorem dX11_isSlot_10 : decode cX11_isSlot 10 = .ok (.goto 4, 3) := dq_167 (zby_at (j := 10) zbX11_isSlot_0 rfl) (zby_at (j := 11) zbX11_isSlot_0 rfl) (zby_at (j := 12) zbX11_isSlot_0 rfl) rfl
theorem dX11_isSlot_13 : decode cX11_isSlot 13 = .ok (.iconst 0, 1) := dq_3 (zby_at (j := 13) zbX11_isSlot_0 rfl)
theorem dX11_isSlot_14 : decode cX11_isSlot 14 = .ok (.ireturn, 1) := dq_172 (zby_at (j := 14) zbX11_isSlot_0 rfl)
theorem zbX11_store_0 : zby cX11_store 0 20 = [42, 27, 182, 0, 135, 154, 0, 6, 16, 254, 172, 42, 180, 0, 26, 180, 0, 146, 27, 50] := by decide +kernel
theorem dX11_store_0 : decode cX11_store 0 = .ok (.aload_n 0, 1) := dq_42 (zby_at (j := 0) zbX11_store_0 rfl)
theorem dX11_store_1 : decode cX11_store 1 = .ok (.iload_n 1, 1) := dq_27 (zby_at (j := 1) zbX11_store_0 rfl)
theorem dX11_store_2 : decode cX11_store 2 = .ok (.invokevirtual 135, 3) := dq_182 (zby_at (j := 2) zbX11_store_0 rfl) (zby_at (j := 3) zbX11_store_0 rfl) (zby_at (j := 4) zbX11_store_0 rfl)
theorem dX11_store_5 : decode cX11_store 5 = .ok (.ifCond .ne 6, 3) := dq_154 (zby_at (j := 5) zbX11_store_0 rfl) (zby_at (j := 6) zbX11_store_0 rfl) (zby_at (j := 7) zbX11_store_0 rfl) rfl
theorem dX11_store_8 : decode cX11_store 8 = .ok (.bipush (-2), 2) := dq_16 (zby_at (j := 8) zbX11_store_0 rfl) (zby_at (j := 9) zbX11_store_0 rfl) rfl
theorem dX11_store_10 : decode cX11_store 10 = .ok (.ireturn, 1) := dq_172 (zby_at (j := 10) zbX11_store_0 rfl)
theorem dX11_store_11 : decode cX11_store 11 = .ok (.aload_n 0, 1) := dq_42 (zby_at (j := 11) zbX11_store_0 rfl)
theorem dX11_store_12 : decode cX11_store 12 = .ok (.getfield 26, 3) := dq_180 (zby_at (j := 12) zbX11_store_0 rfl) (zby_at (j := 13) zbX11_store_0 rfl) (zby_at (j := 14) zbX11_store_0 rfl)
theorem dX11_store_15 : decode cX11_store 15 = .ok (.getfield 146, 3) := dq_180 (zby_at (j := 15) zbX11_store_0 rfl) (zby_at (j := 16) zbX11_store_0 rfl) (zby_at (j := 17) zbX11_store_0 rfl)
theorem zbX11_store_1 : zby cX11_store 16 20 = [0, 146, 27, 50, 42, 180, 0, 106, 182, 0, 160, 42, 180, 0, 106, 182, 0, 150, 172] := by decide +kernel
theorem dX11_store_18 : decode cX11_store 18 = .ok (.iload_n 1, 1) := dq_27 (zby_at (j := 2) zbX11_store_1 rfl)
theorem dX11_store_19 : decode cX11_store 19 = .ok (.aaload, 1) := dq_50 (zby_at (j := 3) zbX11_store_1 rfl)
theorem dX11_store_20 : decode cX11_store 20 = .ok (.aload_n 0, 1) := dq_42 (zby_at (j := 4) zbX11_store_1 rfl)
theorem dX11_store_21 : decode cX11_store 21 = .ok (.getfield 106, 3) := dq_180 (zby_at (j := 5) zbX11_store_1 rfl) (zby_at (j := 6) zbX11_store_1 rfl) (zby_at (j := 7) zbX11_store_1 rfl)
theorem dX11_store_24 : decode cX11_store 24 = .ok (.invokevirtual 160, 3) := dq_182 (zby_at (j := 8) zbX11_store_1 rfl) (zby_at (j := 9) zbX11_store_1 rfl) (zby_at (j := 10) zbX11_store_1 rfl)
theorem dX11_store_27 : decode cX11_store 27 = .ok (.aload_n 0, 1) := dq_42 (zby_at (j := 11) zbX11_store_1 rfl)
theorem dX11_store_28 : decode cX11_store 28 = .ok (.getfield 106, 3) := dq_180 (zby_at (j := 12) zbX11_store_1 rfl) (zby_at (j := 13) zbX11_store_1 rfl) (zby_at (j := 14) zbX11_store_1 rfl)
theorem dX11_store_31 : decode cX11_store 31 = .ok (.invokevirtual 150, 3) := dq_182 (zby_at (j := 15) zbX11_store_1 rfl) (zby_at (j := 16) zbX11_store_1 rfl) (zby_at (j := 17) zbX11_store_1 rfl)
theorem zbX11_store_2 : zby cX11_store 32 20 = [0, 150, 172] := by decide +kernel
theorem dX11_store_34 : decode cX11_store 34 = .ok (.ireturn, 1) := dq_172 (zby_at (j := 2) zbX11_store_2 rfl)
theorem zbX11_isFoundName_0 : zby cX11_isFoundName 0 20 = [42, 180, 0, 106, 43, 182, 0, 160, 29, 5, 160, 0, 20, 42, 180, 0, 106, 28, 182, 0] := by decide +kernel
theorem dX11_isFoundName_0 : decode cX11_isFoundName 0 = .ok (.aload_n 0, 1) := dq_42 (zby_at (j := 0) zbX11_isFoundName_0 rfl)
theorem dX11_isFoundName_1 : decode cX11_isFoundName 1 = .ok (.getfield 106, 3) := dq_180 (zby_at (j := 1) zbX11_isFoundName_0 rfl) (zby_at (j := 2) zbX11_isFoundName_0 rfl) (zby_at (j := 3) zbX11_isFoundName_0 rfl)
theorem dX11_isFoundName_4 : decode cX11_isFoundName 4 = .ok (.aload_n 1, 1) := dq_43 (zby_at (j := 4) zbX11_isFoundName_0 rfl)
theorem dX11_isFoundName_5 : decode cX11_isFoundName 5 = .ok (.invokevirtual 160, 3) := dq_182 (zby_at (j := 5) zbX11_isFoundName_0 rfl) (zby_at (j := 6) zbX11_isFoundName_0 rfl) (zby_at (j := 7) zbX11_isFoundName_0 rfl)
theorem dX11_isFoundName_8 : decode cX11_isFoundName 8 = .ok (.iload_n 3, 1) := dq_29 (zby_at (j := 8) zbX11_isFoundName_0 rfl)
theorem dX11_isFoundName_9 : decode cX11_isFoundName 9 = .ok (.iconst 2, 1) := dq_5 (zby_at (j := 9) zbX11_isFoundName_0 rfl)
theorem dX11_isFoundName_10 : decode cX11_isFoundName 10 = .ok (.if_icmp .ne 20, 3) := dq_160 (zby_at (j := 10) zbX11_isFoundName_0 rfl) (zby_at (j := 11) zbX11_isFoundName_0 rfl) (zby_at (j := 12) zbX11_isFoundName_0 rfl) rfl
theorem dX11_isFoundName_13 : decode cX11_isFoundName 13 = .ok (.aload_n 0, 1) := dq_42 (zby_at (j := 13) zbX11_isFoundName_0 rfl)
theorem dX11_isFoundName_14 : decode cX11_isFoundName 14 = .ok (.getfield 106, 3) := dq_180 (zby_at (j := 14) zbX11_isFoundName_0 rfl) (zby_at (j := 15) zbX11_isFoundName_0 rfl) (zby_at (j := 16) zbX11_isFoundName_0 rfl)
theorem zbX11_isFoundName_1 : zby cX11_isFoundName 16 20 = [106, 28, 182, 0, 186, 42, 180, 0, 106, 43, 182, 0, 230, 172, 42, 180, 0, 106, 28, 182] := by decide +kernel
theorem dX11_isFoundName_17 : decode cX11_isFoundName 17 = .ok (.iload_n 2, 1) := dq_28 (zby_at (j := 1) zbX11_isFoundName_1 rfl)
theorem dX11_isFoundName_18 : decode cX11_isFoundName 18 = .ok (.invokevirtual 186, 3) := dq_182 (zby_at (j := 2) zbX11_isFoundName_1 rfl) (zby_at (j := 3) zbX11_isFoundName_1 rfl) (zby_at (j := 4) zbX11_isFoundName_1 rfl)
theorem dX11_isFoundName_21 : decode cX11_isFoundName 21 = .ok (.aload_n 0, 1) := dq_42 (zby_at (j := 5) zbX11_isFoundName_1 rfl)
theorem dX11_isFoundName_22 : decode cX11_isFoundName 22 = .ok (.getfield 106, 3) := dq_180 (zby_at (j := 6) zbX11_isFoundName_1 rfl) (zby_at (j := 7) zbX11_isFoundName_1 rfl) (zby_at (j := 8) zbX11_isFoundName_1 rfl)
theorem dX11_isFoundName_25 : decode cX11_isFoundName 25 = .ok (.aload_n 1, 1) := dq_43 (zby_at (j := 9) zbX11_isFoundName_1 rfl)
theorem dX11_isFoundName_26 : decode cX11_isFoundName 26 = .ok (.invokevirtual 230, 3) := dq_182 (zby_at (j := 10) zbX11_isFoundName_1 rfl) (zby_at (j := 11) zbX11_isFoundName_1 rfl) (zby_at (j := 12) zbX11_isFoundName_1 rfl)
theorem dX11_isFoundName_29 : decode cX11_isFoundName 29 = .ok (.ireturn, 1) := dq_172 (zby_at (j := 13) zbX11_isFoundName_1 rfl)
theorem dX11_isFoundName_30 : decode cX11_isFoundName 30 = .ok (.aload_n 0, 1) := dq_42 (zby_at (j := 14) zbX11_isFoundName_1 rfl)
theorem dX11_isFoundName_31 : decode cX11_isFoundName 31 = .ok (.getfield 106, 3) := dq_180 (zby_at (j := 15) zbX11_isFoundName_1 rfl) (zby_at (j := 16) zbX11_isFoundName_1 rfl) (zby_at (j := 17) zbX11_isFoundName_1 rfl)
theorem zbX11_isFoundName_2 : zby cX11_isFoundName 32 20 = [0, 106, 28, 182, 0, 189, 29, 154, 0, 13, 42, 180, 0, 106, 182, 0, 240, 167, 0, 19] := by decide +kernel
theorem dX11_isFoundName_34 : decode cX11_isFoundName 34 = .ok (.iload_n 2, 1) := dq_28 (zby_at (j := 2) zbX11_isFoundName_2 rfl)
theorem dX11_isFoundName_35 : decode cX11_isFoundName 35 = .ok (.invokevirtual 189, 3) := dq_182 (zby_at (j := 3) zbX11_isFoundName_2 rfl) (zby_at (j := 4) zbX11_isFoundName_2 rfl) (zby_at (j := 5) zbX11_isFoundName_2 rfl)
theorem dX11_isFoundName_38 : decode cX11_isFoundName 38 = .ok (.iload_n 3, 1) := dq_29 (zby_at (j := 6) zbX11_isFoundName_2 rfl)
theorem dX11_isFoundName_39 : decode cX11_isFoundName 39 = .ok (.ifCond .ne 13, 3) := dq_154 (zby_at (j := 7) zbX11_isFoundName_2 rfl) (zby_at (j := 8) zbX11_isFoundName_2 rfl) (zby_at (j := 9) zbX11_isFoundName_2 rfl) rfl
theorem dX11_isFoundName_42 : decode cX11_isFoundName 42 = .ok (.aload_n 0, 1) := dq_42 (zby_at (j := 10) zbX11_isFoundName_2 rfl)
theorem dX11_isFoundName_43 : decode cX11_isFoundName 43 = .ok (.getfield 106, 3) := dq_180 (zby_at (j := 11) zbX11_isFoundName_2 rfl) (zby_at (j := 12) zbX11_isFoundName_2 rfl) (zby_at (j := 13) zbX11_isFoundName_2 rfl)
theorem dX11_isFoundName_46 : decode cX11_isFoundName 46 = .ok (.invokevirtual 240, 3) := dq_182 (zby_at (j := 14) zbX11_isFoundName_2 rfl) (zby_at (j := 15) zbX11_isFoundName_2 rfl) (zby_at (j := 16) zbX11_isFoundName_2 rfl)
theorem zbX11_isFoundName_3 : zby cX11_isFoundName 48 20 = [240, 167, 0, 19, 42, 180, 0, 106, 43, 182, 0, 230, 154, 0, 7, 4, 167, 0, 4, 3] := by decide +kernel
theorem dX11_isFoundName_49 : decode cX11_isFoundName 49 = .ok (.goto 19, 3) := dq_167 (zby_at (j := 1) zbX11_isFoundName_3 rfl) (zby_at (j := 2) zbX11_isFoundName_3 rfl) (zby_at (j := 3) zbX11_isFoundName_3 rfl) rfl
theorem dX11_isFoundName_52 : decode cX11_isFoundName 52 = .ok (.aload_n 0, 1) := dq_42 (zby_at (j := 4) zbX11_isFoundName_3 rfl)
theorem dX11_isFoundName_53 : decode cX11_isFoundName 53 = .ok (.getfield 106, 3) := dq_180 (zby_at (j := 5) zbX11_isFoundName_3 rfl) (zby_at (j := 6) zbX11_isFoundName_3 rfl) (zby_at (j := 7) zbX11_isFoundName_3 rfl)
theorem dX11_isFoundName_56 : decode cX11_isFoundName 56 = .ok (.aload_n 1, 1) := dq_43 (zby_at (j := 8) zbX11_isFoundName_3 rfl)
theorem dX11_isFoundName_57 : decode cX11_isFoundName 57 = .ok (.invokevirtual 230, 3) := dq_182 (zby_at (j := 9) zbX11_isFoundName_3 rfl) (zby_at (j := 10) zbX11_isFoundName_3 rfl) (zby_at (j := 11) zbX11_isFoundName_3 rfl)
theorem dX11_isFoundName_60 : decode cX11_isFoundName 60 = .ok (.ifCond .ne 7, 3) := dq_154 (zby_at (j := 12) zbX11_isFoundName_3 rfl) (zby_at (j := 13) zbX11_isFoundName_3 rfl) (zby_at (j := 14) zbX11_isFoundName_3 rfl) rfl
theorem dX11_isFoundName_63 : decode cX11_isFoundName 63 = .ok (.iconst 1, 1) := dq_4 (zby_at (j := 15) zbX11_isFoundName_3 rfl)
theorem zbX11_isFoundName_4 : zby cX11_isFoundName 64 20 = [167, 0, 4, 3, 172] := by decide +kernel
theorem dX11_isFoundName_64 : decode cX11_isFoundName 64 = .ok (.goto 4, 3) := dq_167 (zby_at (j := 0) zbX11_isFoundName_4 rfl) (zby_at (j := 1) zbX11_isFoundName_4 rfl) (zby_at (j := 2) zbX11_isFoundName_4 rfl) rfl
theorem dX11_isFoundName_67 : decode cX11_isFoundName 67 = .ok (.iconst 0, 1) := dq_3 (zby_at (j := 3) zbX11_isFoundName_4 rfl)
theorem dX11_isFoundName_68 : decode cX11_isFoundName 68 = .ok (.ireturn, 1) := dq_172 (zby_at (j := 4) zbX11_isFoundName_4 rfl)
theorem zbX11_rowsInSlots_0 : zby cX11_rowsInSlots 0 20 = [3, 60, 3, 61, 28, 7, 162, 0, 24, 42, 180, 0, 43, 28, 50, 182, 1, 49, 154, 0] := by decide +kernel
theorem dX11_rowsInSlots_0 : decode cX11_rowsInSlots 0 = .ok (.iconst 0, 1) := dq_3 (zby_at (j := 0) zbX11_rowsInSlots_0 rfl)
theorem dX11_rowsInSlots_1 : decode cX11_rowsInSlots 1 = .ok (.istore_n 1, 1) := dq_60 (zby_at (j := 1) zbX11_rowsInSlots_0 rfl)
theorem dX11_rowsInSlots_2 : decode cX11_rowsInSlots 2 = .ok (.iconst 0, 1) := dq_3 (zby_at (j := 2) zbX11_rowsInSlots_0 rfl)
theorem dX11_rowsInSlots_3 : decode cX11_rowsInSlots 3 = .ok (.istore_n 2, 1) := dq_61 (zby_at (j := 3) zbX11_rowsInSlots_0 rfl)
theorem dX11_rowsInSlots_4 : decode cX11_rowsInSlots 4 = .ok (.iload_n 2, 1) := dq_28 (zby_at (j := 4) zbX11_rowsInSlots_0 rfl)
theorem dX11_rowsInSlots_5 : decode cX11_rowsInSlots 5 = .ok (.iconst 4, 1) := dq_7 (zby_at (j := 5) zbX11_rowsInSlots_0 rfl)
theorem dX11_rowsInSlots_6 : decode cX11_rowsInSlots 6 = .ok (.if_icmp .ge 24, 3) := dq_162 (zby_at (j := 6) zbX11_rowsInSlots_0 rfl) (zby_at (j := 7) zbX11_rowsInSlots_0 rfl) (zby_at (j := 8) zbX11_rowsInSlots_0 rfl) rfl
theorem dX11_rowsInSlots_9 : decode cX11_rowsInSlots 9 = .ok (.aload_n 0, 1) := dq_42 (zby_at (j := 9) zbX11_rowsInSlots_0 rfl)
theorem dX11_rowsInSlots_10 : decode cX11_rowsInSlots 10 = .ok (.getfield 43, 3) := dq_180 (zby_at (j := 10) zbX11_rowsInSlots_0 rfl) (zby_at (j := 11) zbX11_rowsInSlots_0 rfl) (zby_at (j := 12) zbX11_rowsInSlots_0 rfl)
theorem dX11_rowsInSlots_13 : decode cX11_rowsInSlots 13 = .ok (.iload_n 2, 1) := dq_28 (zby_at (j := 13) zbX11_rowsInSlots_0 rfl)
theorem dX11_rowsInSlots_14 : decode cX11_rowsInSlots 14 = .ok (.aaload, 1) := dq_50 (zby_at (j := 14) zbX11_rowsInSlots_0 rfl)
theorem dX11_rowsInSlots_15 : decode cX11_rowsInSlots 15 = .ok (.invokevirtual 305, 3) := dq_182 (zby_at (j := 15) zbX11_rowsInSlots_0 rfl) (zby_at (j := 16) zbX11_rowsInSlots_0 rfl) (zby_at (j := 17) zbX11_rowsInSlots_0 rfl)
theorem zbX11_rowsInSlots_1 : zby cX11_rowsInSlots 16 20 = [1, 49, 154, 0, 6, 132, 1, 1, 132, 2, 1, 167, 255, 233, 27, 172] := by decide +kernel
