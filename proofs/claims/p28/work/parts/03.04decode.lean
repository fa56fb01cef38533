theorem dX12_within_0 : decode cX12_within 0 = .ok (.aload_n 0, 1) := dq_42 (zby_at (j := 0) zbX12_within_0 rfl)
theorem dX12_within_1 : decode cX12_within 1 = .ok (.iload_n 1, 1) := dq_27 (zby_at (j := 1) zbX12_within_0 rfl)
theorem dX12_within_2 : decode cX12_within 2 = .ok (.iload_n 2, 1) := dq_28 (zby_at (j := 2) zbX12_within_0 rfl)
theorem dX12_within_3 : decode cX12_within 3 = .ok (.invokevirtual 360, 3) := dq_182 (zby_at (j := 3) zbX12_within_0 rfl) (zby_at (j := 4) zbX12_within_0 rfl) (zby_at (j := 5) zbX12_within_0 rfl)
theorem dX12_within_6 : decode cX12_within 6 = .ok (.ifCond .ne 6, 3) := dq_154 (zby_at (j := 6) zbX12_within_0 rfl) (zby_at (j := 7) zbX12_within_0 rfl) (zby_at (j := 8) zbX12_within_0 rfl) rfl
theorem dX12_within_9 : decode cX12_within 9 = .ok (.bipush (-2), 2) := dq_16 (zby_at (j := 9) zbX12_within_0 rfl) (zby_at (j := 10) zbX12_within_0 rfl) rfl
theorem dX12_within_11 : decode cX12_within 11 = .ok (.ireturn, 1) := dq_172 (zby_at (j := 11) zbX12_within_0 rfl)
theorem dX12_within_12 : decode cX12_within 12 = .ok (.iconst 0, 1) := dq_3 (zby_at (j := 12) zbX12_within_0 rfl)
theorem dX12_within_13 : decode cX12_within 13 = .ok (.istore_n 3, 1) := dq_62 (zby_at (j := 13) zbX12_within_0 rfl)
theorem dX12_within_14 : decode cX12_within 14 = .ok (.iload_n 3, 1) := dq_29 (zby_at (j := 14) zbX12_within_0 rfl)
theorem dX12_within_15 : decode cX12_within 15 = .ok (.aload_n 0, 1) := dq_42 (zby_at (j := 15) zbX12_within_0 rfl)
theorem zbX12_within_1 : zby cX12_within 16 20 = [182, 0, 104, 162, 0, 29, 42, 27, 29, 182, 1, 58, 153, 0, 14, 42, 28, 29, 182, 1] := by decide +kernel
theorem dX12_within_16 : decode cX12_within 16 = .ok (.invokevirtual 104, 3) := dq_182 (zby_at (j := 0) zbX12_within_1 rfl) (zby_at (j := 1) zbX12_within_1 rfl) (zby_at (j := 2) zbX12_within_1 rfl)
theorem dX12_within_19 : decode cX12_within 19 = .ok (.if_icmp .ge 29, 3) := dq_162 (zby_at (j := 3) zbX12_within_1 rfl) (zby_at (j := 4) zbX12_within_1 rfl) (zby_at (j := 5) zbX12_within_1 rfl) rfl
theorem dX12_within_22 : decode cX12_within 22 = .ok (.aload_n 0, 1) := dq_42 (zby_at (j := 6) zbX12_within_1 rfl)
theorem dX12_within_23 : decode cX12_within 23 = .ok (.iload_n 1, 1) := dq_27 (zby_at (j := 7) zbX12_within_1 rfl)
theorem dX12_within_24 : decode cX12_within 24 = .ok (.iload_n 3, 1) := dq_29 (zby_at (j := 8) zbX12_within_1 rfl)
theorem dX12_within_25 : decode cX12_within 25 = .ok (.invokevirtual 314, 3) := dq_182 (zby_at (j := 9) zbX12_within_1 rfl) (zby_at (j := 10) zbX12_within_1 rfl) (zby_at (j := 11) zbX12_within_1 rfl)
theorem dX12_within_28 : decode cX12_within 28 = .ok (.ifCond .eq 14, 3) := dq_153 (zby_at (j := 12) zbX12_within_1 rfl) (zby_at (j := 13) zbX12_within_1 rfl) (zby_at (j := 14) zbX12_within_1 rfl) rfl
theorem dX12_within_31 : decode cX12_within 31 = .ok (.aload_n 0, 1) := dq_42 (zby_at (j := 15) zbX12_within_1 rfl)
theorem zbX12_within_2 : zby cX12_within 32 20 = [28, 29, 182, 1, 58, 154, 0, 5, 3, 172, 132, 3, 1, 167, 255, 225, 4, 172] := by decide +kernel
theorem dX12_within_32 : decode cX12_within 32 = .ok (.iload_n 2, 1) := dq_28 (zby_at (j := 0) zbX12_within_2 rfl)
theorem dX12_within_33 : decode cX12_within 33 = .ok (.iload_n 3, 1) := dq_29 (zby_at (j := 1) zbX12_within_2 rfl)
theorem dX12_within_34 : decode cX12_within 34 = .ok (.invokevirtual 314, 3) := dq_182 (zby_at (j := 2) zbX12_within_2 rfl) (zby_at (j := 3) zbX12_within_2 rfl) (zby_at (j := 4) zbX12_within_2 rfl)
theorem dX12_within_37 : decode cX12_within 37 = .ok (.ifCond .ne 5, 3) := dq_154 (zby_at (j := 5) zbX12_within_2 rfl) (zby_at (j := 6) zbX12_within_2 rfl) (zby_at (j := 7) zbX12_within_2 rfl) rfl
theorem dX12_within_40 : decode cX12_within 40 = .ok (.iconst 0, 1) := dq_3 (zby_at (j := 8) zbX12_within_2 rfl)
theorem dX12_within_41 : decode cX12_within 41 = .ok (.ireturn, 1) := dq_172 (zby_at (j := 9) zbX12_within_2 rfl)
theorem dX12_within_42 : decode cX12_within 42 = .ok (.iinc 3 1, 3) := dq_132 (zby_at (j := 10) zbX12_within_2 rfl) (zby_at (j := 11) zbX12_within_2 rfl) (zby_at (j := 12) zbX12_within_2 rfl) rfl
theorem dX12_within_45 : decode cX12_within 45 = .ok (.goto (-31), 3) := dq_167 (zby_at (j := 13) zbX12_within_2 rfl) (zby_at (j := 14) zbX12_within_2 rfl) (zby_at (j := 15) zbX12_within_2 rfl) rfl
theorem zbX12_within_3 : zby cX12_within 48 20 = [4, 172] := by decide +kernel
theorem dX12_within_48 : decode cX12_within 48 = .ok (.iconst 1, 1) := dq_4 (zby_at (j := 0) zbX12_within_3 rfl)
theorem dX12_within_49 : decode cX12_within 49 = .ok (.ireturn, 1) := dq_172 (zby_at (j := 1) zbX12_within_3 rfl)
theorem zbX12_isHits_0 : zby cX12_isHits 0 20 = [42, 42, 182, 0, 104, 181, 0, 180, 42, 5, 42, 180, 0, 13, 17, 4, 0, 28, 104, 182] := by decide +kernel
theorem dX12_isHits_0 : decode cX12_isHits 0 = .ok (.aload_n 0, 1) := dq_42 (zby_at (j := 0) zbX12_isHits_0 rfl)
theorem dX12_isHits_1 : decode cX12_isHits 1 = .ok (.aload_n 0, 1) := dq_42 (zby_at (j := 1) zbX12_isHits_0 rfl)
theorem dX12_isHits_2 : decode cX12_isHits 2 = .ok (.invokevirtual 104, 3) := dq_182 (zby_at (j := 2) zbX12_isHits_0 rfl) (zby_at (j := 3) zbX12_isHits_0 rfl) (zby_at (j := 4) zbX12_isHits_0 rfl)
theorem dX12_isHits_5 : decode cX12_isHits 5 = .ok (.putfield 180, 3) := dq_181 (zby_at (j := 5) zbX12_isHits_0 rfl) (zby_at (j := 6) zbX12_isHits_0 rfl) (zby_at (j := 7) zbX12_isHits_0 rfl)
theorem dX12_isHits_8 : decode cX12_isHits 8 = .ok (.aload_n 0, 1) := dq_42 (zby_at (j := 8) zbX12_isHits_0 rfl)
theorem dX12_isHits_9 : decode cX12_isHits 9 = .ok (.iconst 2, 1) := dq_5 (zby_at (j := 9) zbX12_isHits_0 rfl)
theorem dX12_isHits_10 : decode cX12_isHits 10 = .ok (.aload_n 0, 1) := dq_42 (zby_at (j := 10) zbX12_isHits_0 rfl)
theorem dX12_isHits_11 : decode cX12_isHits 11 = .ok (.getfield 13, 3) := dq_180 (zby_at (j := 11) zbX12_isHits_0 rfl) (zby_at (j := 12) zbX12_isHits_0 rfl) (zby_at (j := 13) zbX12_isHits_0 rfl)
theorem dX12_isHits_14 : decode cX12_isHits 14 = .ok (.sipush 1024, 3) := dq_17 (zby_at (j := 14) zbX12_isHits_0 rfl) (zby_at (j := 15) zbX12_isHits_0 rfl) (zby_at (j := 16) zbX12_isHits_0 rfl) rfl
theorem zbX12_isHits_1 : zby cX12_isHits 16 20 = [0, 28, 104, 182, 0, 209, 3, 62, 29, 42, 180, 0, 180, 162, 0, 26, 42, 27, 29, 182] := by decide +kernel
theorem dX12_isHits_17 : decode cX12_isHits 17 = .ok (.iload_n 2, 1) := dq_28 (zby_at (j := 1) zbX12_isHits_1 rfl)
theorem dX12_isHits_18 : decode cX12_isHits 18 = .ok (.imul, 1) := dq_104 (zby_at (j := 2) zbX12_isHits_1 rfl)
theorem dX12_isHits_19 : decode cX12_isHits 19 = .ok (.invokevirtual 209, 3) := dq_182 (zby_at (j := 3) zbX12_isHits_1 rfl) (zby_at (j := 4) zbX12_isHits_1 rfl) (zby_at (j := 5) zbX12_isHits_1 rfl)
theorem dX12_isHits_22 : decode cX12_isHits 22 = .ok (.iconst 0, 1) := dq_3 (zby_at (j := 6) zbX12_isHits_1 rfl)
theorem dX12_isHits_23 : decode cX12_isHits 23 = .ok (.istore_n 3, 1) := dq_62 (zby_at (j := 7) zbX12_isHits_1 rfl)
theorem dX12_isHits_24 : decode cX12_isHits 24 = .ok (.iload_n 3, 1) := dq_29 (zby_at (j := 8) zbX12_isHits_1 rfl)
theorem dX12_isHits_25 : decode cX12_isHits 25 = .ok (.aload_n 0, 1) := dq_42 (zby_at (j := 9) zbX12_isHits_1 rfl)
theorem dX12_isHits_26 : decode cX12_isHits 26 = .ok (.getfield 180, 3) := dq_180 (zby_at (j := 10) zbX12_isHits_1 rfl) (zby_at (j := 11) zbX12_isHits_1 rfl) (zby_at (j := 12) zbX12_isHits_1 rfl)
theorem dX12_isHits_29 : decode cX12_isHits 29 = .ok (.if_icmp .ge 26, 3) := dq_162 (zby_at (j := 13) zbX12_isHits_1 rfl) (zby_at (j := 14) zbX12_isHits_1 rfl) (zby_at (j := 15) zbX12_isHits_1 rfl) rfl
theorem zbX12_isHits_2 : zby cX12_isHits 32 20 = [42, 27, 29, 182, 1, 58, 42, 180, 0, 40, 29, 51, 159, 0, 5, 3, 172, 132, 3, 1] := by decide +kernel
theorem dX12_isHits_32 : decode cX12_isHits 32 = .ok (.aload_n 0, 1) := dq_42 (zby_at (j := 0) zbX12_isHits_2 rfl)
theorem dX12_isHits_33 : decode cX12_isHits 33 = .ok (.iload_n 1, 1) := dq_27 (zby_at (j := 1) zbX12_isHits_2 rfl)
theorem dX12_isHits_34 : decode cX12_isHits 34 = .ok (.iload_n 3, 1) := dq_29 (zby_at (j := 2) zbX12_isHits_2 rfl)
theorem dX12_isHits_35 : decode cX12_isHits 35 = .ok (.invokevirtual 314, 3) := dq_182 (zby_at (j := 3) zbX12_isHits_2 rfl) (zby_at (j := 4) zbX12_isHits_2 rfl) (zby_at (j := 5) zbX12_isHits_2 rfl)
theorem dX12_isHits_38 : decode cX12_isHits 38 = .ok (.aload_n 0, 1) := dq_42 (zby_at (j := 6) zbX12_isHits_2 rfl)
theorem dX12_isHits_39 : decode cX12_isHits 39 = .ok (.getfield 40, 3) := dq_180 (zby_at (j := 7) zbX12_isHits_2 rfl) (zby_at (j := 8) zbX12_isHits_2 rfl) (zby_at (j := 9) zbX12_isHits_2 rfl)
theorem dX12_isHits_42 : decode cX12_isHits 42 = .ok (.iload_n 3, 1) := dq_29 (zby_at (j := 10) zbX12_isHits_2 rfl)
theorem dX12_isHits_43 : decode cX12_isHits 43 = .ok (.baload, 1) := dq_51 (zby_at (j := 11) zbX12_isHits_2 rfl)
theorem dX12_isHits_44 : decode cX12_isHits 44 = .ok (.if_icmp .eq 5, 3) := dq_159 (zby_at (j := 12) zbX12_isHits_2 rfl) (zby_at (j := 13) zbX12_isHits_2 rfl) (zby_at (j := 14) zbX12_isHits_2 rfl) rfl
theorem dX12_isHits_47 : decode cX12_isHits 47 = .ok (.iconst 0, 1) := dq_3 (zby_at (j := 15) zbX12_isHits_2 rfl)
theorem zbX12_isHits_3 : zby cX12_isHits 48 20 = [172, 132, 3, 1, 167, 255, 228, 4, 172] := by decide +kernel
theorem dX12_isHits_48 : decode cX12_isHits 48 = .ok (.ireturn, 1) := dq_172 (zby_at (j := 0) zbX12_isHits_3 rfl)
theorem dX12_isHits_49 : decode cX12_isHits 49 = .ok (.iinc 3 1, 3) := dq_132 (zby_at (j := 1) zbX12_isHits_3 rfl) (zby_at (j := 2) zbX12_isHits_3 rfl) (zby_at (j := 3) zbX12_isHits_3 rfl) rfl
theorem dX12_isHits_52 : decode cX12_isHits 52 = .ok (.goto (-28), 3) := dq_167 (zby_at (j := 4) zbX12_isHits_3 rfl) (zby_at (j := 5) zbX12_isHits_3 rfl) (zby_at (j := 6) zbX12_isHits_3 rfl) rfl
theorem dX12_isHits_55 : decode cX12_isHits 55 = .ok (.iconst 1, 1) := dq_4 (zby_at (j := 7) zbX12_isHits_3 rfl)
theorem dX12_isHits_56 : decode cX12_isHits 56 = .ok (.ireturn, 1) := dq_172 (zby_at (j := 8) zbX12_isHits_3 rfl)
theorem zbX12_dual_0 : zby cX12_dual 0 20 = [42, 27, 28, 182, 1, 104, 153, 0, 29, 42, 27, 28, 182, 1, 110, 153, 0, 16, 42, 28] := by decide +kernel
theorem dX12_dual_0 : decode cX12_dual 0 = .ok (.aload_n 0, 1) := dq_42 (zby_at (j := 0) zbX12_dual_0 rfl)
theorem dX12_dual_1 : decode cX12_dual 1 = .ok (.iload_n 1, 1) := dq_27 (zby_at (j := 1) zbX12_dual_0 rfl)
theorem dX12_dual_2 : decode cX12_dual 2 = .ok (.iload_n 2, 1) := dq_28 (zby_at (j := 2) zbX12_dual_0 rfl)
theorem dX12_dual_3 : decode cX12_dual 3 = .ok (.invokevirtual 360, 3) := dq_182 (zby_at (j := 3) zbX12_dual_0 rfl) (zby_at (j := 4) zbX12_dual_0 rfl) (zby_at (j := 5) zbX12_dual_0 rfl)
theorem dX12_dual_6 : decode cX12_dual 6 = .ok (.ifCond .eq 29, 3) := dq_153 (zby_at (j := 6) zbX12_dual_0 rfl) (zby_at (j := 7) zbX12_dual_0 rfl) (zby_at (j := 8) zbX12_dual_0 rfl) rfl
theorem dX12_dual_9 : decode cX12_dual 9 = .ok (.aload_n 0, 1) := dq_42 (zby_at (j := 9) zbX12_dual_0 rfl)
theorem dX12_dual_10 : decode cX12_dual 10 = .ok (.iload_n 1, 1) := dq_27 (zby_at (j := 10) zbX12_dual_0 rfl)
theorem dX12_dual_11 : decode cX12_dual 11 = .ok (.iload_n 2, 1) := dq_28 (zby_at (j := 11) zbX12_dual_0 rfl)
theorem dX12_dual_12 : decode cX12_dual 12 = .ok (.invokevirtual 366, 3) := dq_182 (zby_at (j := 12) zbX12_dual_0 rfl) (zby_at (j := 13) zbX12_dual_0 rfl) (zby_at (j := 14) zbX12_dual_0 rfl)
theorem dX12_dual_15 : decode cX12_dual 15 = .ok (.ifCond .eq 16, 3) := dq_153 (zby_at (j := 15) zbX12_dual_0 rfl) (zby_at (j := 16) zbX12_dual_0 rfl) (zby_at (j := 17) zbX12_dual_0 rfl) rfl
theorem zbX12_dual_1 : zby cX12_dual 16 20 = [0, 16, 42, 28, 27, 182, 1, 110, 153, 0, 7, 4, 167, 0, 9, 3, 167, 0, 5, 16] := by decide +kernel
theorem dX12_dual_18 : decode cX12_dual 18 = .ok (.aload_n 0, 1) := dq_42 (zby_at (j := 2) zbX12_dual_1 rfl)
theorem dX12_dual_19 : decode cX12_dual 19 = .ok (.iload_n 2, 1) := dq_28 (zby_at (j := 3) zbX12_dual_1 rfl)
theorem dX12_dual_20 : decode cX12_dual 20 = .ok (.iload_n 1, 1) := dq_27 (zby_at (j := 4) zbX12_dual_1 rfl)
theorem dX12_dual_21 : decode cX12_dual 21 = .ok (.invokevirtual 366, 3) := dq_182 (zby_at (j := 5) zbX12_dual_1 rfl) (zby_at (j := 6) zbX12_dual_1 rfl) (zby_at (j := 7) zbX12_dual_1 rfl)
theorem dX12_dual_24 : decode cX12_dual 24 = .ok (.ifCond .eq 7, 3) := dq_153 (zby_at (j := 8) zbX12_dual_1 rfl) (zby_at (j := 9) zbX12_dual_1 rfl) (zby_at (j := 10) zbX12_dual_1 rfl) rfl
theorem dX12_dual_27 : decode cX12_dual 27 = .ok (.iconst 1, 1) := dq_4 (zby_at (j := 11) zbX12_dual_1 rfl)
theorem dX12_dual_28 : decode cX12_dual 28 = .ok (.goto 9, 3) := dq_167 (zby_at (j := 12) zbX12_dual_1 rfl) (zby_at (j := 13) zbX12_dual_1 rfl) (zby_at (j := 14) zbX12_dual_1 rfl) rfl
theorem dX12_dual_31 : decode cX12_dual 31 = .ok (.iconst 0, 1) := dq_3 (zby_at (j := 15) zbX12_dual_1 rfl)
theorem zbX12_dual_2 : zby cX12_dual 32 20 = [167, 0, 5, 16, 254, 172] := by decide +kernel
theorem dX12_dual_32 : decode cX12_dual 32 = .ok (.goto 5, 3) := dq_167 (zby_at (j := 0) zbX12_dual_2 rfl) (zby_at (j := 1) zbX12_dual_2 rfl) (zby_at (j := 2) zbX12_dual_2 rfl) rfl
theorem dX12_dual_35 : decode cX12_dual 35 = .ok (.bipush (-2), 2) := dq_16 (zby_at (j := 3) zbX12_dual_2 rfl) (zby_at (j := 4) zbX12_dual_2 rfl) rfl
theorem dX12_dual_37 : decode cX12_dual 37 = .ok (.ireturn, 1) := dq_172 (zby_at (j := 5) zbX12_dual_2 rfl)
theorem zbX12_apart_0 : zby cX12_apart 0 20 = [42, 27, 28, 182, 1, 104, 154, 0, 6, 16, 254, 172, 3, 62, 3, 54, 4, 21, 4, 42] := by decide +kernel
theorem dX12_apart_0 : decode cX12_apart 0 = .ok (.aload_n 0, 1) := dq_42 (zby_at (j := 0) zbX12_apart_0 rfl)
theorem dX12_apart_1 : decode cX12_apart 1 = .ok (.iload_n 1, 1) := dq_27 (zby_at (j := 1) zbX12_apart_0 rfl)
theorem dX12_apart_2 : decode cX12_apart 2 = .ok (.iload_n 2, 1) := dq_28 (zby_at (j := 2) zbX12_apart_0 rfl)
theorem dX12_apart_3 : decode cX12_apart 3 = .ok (.invokevirtual 360, 3) := dq_182 (zby_at (j := 3) zbX12_apart_0 rfl) (zby_at (j := 4) zbX12_apart_0 rfl) (zby_at (j := 5) zbX12_apart_0 rfl)
theorem dX12_apart_6 : decode cX12_apart 6 = .ok (.ifCond .ne 6, 3) := dq_154 (zby_at (j := 6) zbX12_apart_0 rfl) (zby_at (j := 7) zbX12_apart_0 rfl) (zby_at (j := 8) zbX12_apart_0 rfl) rfl
theorem dX12_apart_9 : decode cX12_apart 9 = .ok (.bipush (-2), 2) := dq_16 (zby_at (j := 9) zbX12_apart_0 rfl) (zby_at (j := 10) zbX12_apart_0 rfl) rfl
theorem dX12_apart_11 : decode cX12_apart 11 = .ok (.ireturn, 1) := dq_172 (zby_at (j := 11) zbX12_apart_0 rfl)
theorem dX12_apart_12 : decode cX12_apart 12 = .ok (.iconst 0, 1) := dq_3 (zby_at (j := 12) zbX12_apart_0 rfl)
theorem dX12_apart_13 : decode cX12_apart 13 = .ok (.istore_n 3, 1) := dq_62 (zby_at (j := 13) zbX12_apart_0 rfl)
theorem dX12_apart_14 : decode cX12_apart 14 = .ok (.iconst 0, 1) := dq_3 (zby_at (j := 14) zbX12_apart_0 rfl)
theorem dX12_apart_15 : decode cX12_apart 15 = .ok (.istore 4, 2) := dq_54 (zby_at (j := 15) zbX12_apart_0 rfl) (zby_at (j := 16) zbX12_apart_0 rfl)
theorem zbX12_apart_1 : zby cX12_apart 16 20 = [4, 21, 4, 42, 182, 0, 104, 162, 0, 63, 3, 54, 5, 21, 5, 42, 182, 0, 104, 162] := by decide +kernel
theorem dX12_apart_17 : decode cX12_apart 17 = .ok (.iload 4, 2) := dq_21 (zby_at (j := 1) zbX12_apart_1 rfl) (zby_at (j := 2) zbX12_apart_1 rfl)
theorem dX12_apart_19 : decode cX12_apart 19 = .ok (.aload_n 0, 1) := dq_42 (zby_at (j := 3) zbX12_apart_1 rfl)
theorem dX12_apart_20 : decode cX12_apart 20 = .ok (.invokevirtual 104, 3) := dq_182 (zby_at (j := 4) zbX12_apart_1 rfl) (zby_at (j := 5) zbX12_apart_1 rfl) (zby_at (j := 6) zbX12_apart_1 rfl)
theorem dX12_apart_23 : decode cX12_apart 23 = .ok (.if_icmp .ge 63, 3) := dq_162 (zby_at (j := 7) zbX12_apart_1 rfl) (zby_at (j := 8) zbX12_apart_1 rfl) (zby_at (j := 9) zbX12_apart_1 rfl) rfl
theorem dX12_apart_26 : decode cX12_apart 26 = .ok (.iconst 0, 1) := dq_3 (zby_at (j := 10) zbX12_apart_1 rfl)
theorem dX12_apart_27 : decode cX12_apart 27 = .ok (.istore 5, 2) := dq_54 (zby_at (j := 11) zbX12_apart_1 rfl) (zby_at (j := 12) zbX12_apart_1 rfl)
theorem dX12_apart_29 : decode cX12_apart 29 = .ok (.iload 5, 2) := dq_21 (zby_at (j := 13) zbX12_apart_1 rfl) (zby_at (j := 14) zbX12_apart_1 rfl)
theorem dX12_apart_31 : decode cX12_apart 31 = .ok (.aload_n 0, 1) := dq_42 (zby_at (j := 15) zbX12_apart_1 rfl)
theorem zbX12_apart_2 : zby cX12_apart 32 20 = [182, 0, 104, 162, 0, 45, 42, 27, 21, 4, 182, 1, 58, 153, 0, 35, 29, 42, 28, 21] := by decide +kernel
theorem dX12_apart_32 : decode cX12_apart 32 = .ok (.invokevirtual 104, 3) := dq_182 (zby_at (j := 0) zbX12_apart_2 rfl) (zby_at (j := 1) zbX12_apart_2 rfl) (zby_at (j := 2) zbX12_apart_2 rfl)
theorem dX12_apart_35 : decode cX12_apart 35 = .ok (.if_icmp .ge 45, 3) := dq_162 (zby_at (j := 3) zbX12_apart_2 rfl) (zby_at (j := 4) zbX12_apart_2 rfl) (zby_at (j := 5) zbX12_apart_2 rfl) rfl
theorem dX12_apart_38 : decode cX12_apart 38 = .ok (.aload_n 0, 1) := dq_42 (zby_at (j := 6) zbX12_apart_2 rfl)
theorem dX12_apart_39 : decode cX12_apart 39 = .ok (.iload_n 1, 1) := dq_27 (zby_at (j := 7) zbX12_apart_2 rfl)
theorem dX12_apart_40 : decode cX12_apart 40 = .ok (.iload 4, 2) := dq_21 (zby_at (j := 8) zbX12_apart_2 rfl) (zby_at (j := 9) zbX12_apart_2 rfl)
theorem dX12_apart_42 : decode cX12_apart 42 = .ok (.invokevirtual 314, 3) := dq_182 (zby_at (j := 10) zbX12_apart_2 rfl) (zby_at (j := 11) zbX12_apart_2 rfl) (zby_at (j := 12) zbX12_apart_2 rfl)
theorem dX12_apart_45 : decode cX12_apart 45 = .ok (.ifCond .eq 35, 3) := dq_153 (zby_at (j := 13) zbX12_apart_2 rfl) (zby_at (j := 14) zbX12_apart_2 rfl) (zby_at (j := 15) zbX12_apart_2 rfl) rfl
theorem zbX12_apart_3 : zby cX12_apart 48 20 = [29, 42, 28, 21, 5, 182, 1, 58, 153, 0, 15, 21, 4, 21, 5, 126, 154, 0, 7, 4] := by decide +kernel
theorem dX12_apart_48 : decode cX12_apart 48 = .ok (.iload_n 3, 1) := dq_29 (zby_at (j := 0) zbX12_apart_3 rfl)
theorem dX12_apart_49 : decode cX12_apart 49 = .ok (.aload_n 0, 1) := dq_42 (zby_at (j := 1) zbX12_apart_3 rfl)
theorem dX12_apart_50 : decode cX12_apart 50 = .ok (.iload_n 2, 1) := dq_28 (zby_at (j := 2) zbX12_apart_3 rfl)
theorem dX12_apart_51 : decode cX12_apart 51 = .ok (.iload 5, 2) := dq_21 (zby_at (j := 3) zbX12_apart_3 rfl) (zby_at (j := 4) zbX12_apart_3 rfl)
theorem dX12_apart_53 : decode cX12_apart 53 = .ok (.invokevirtual 314, 3) := dq_182 (zby_at (j := 5) zbX12_apart_3 rfl) (zby_at (j := 6) zbX12_apart_3 rfl) (zby_at (j := 7) zbX12_apart_3 rfl)
theorem dX12_apart_56 : decode cX12_apart 56 = .ok (.ifCond .eq 15, 3) := dq_153 (zby_at (j := 8) zbX12_apart_3 rfl) (zby_at (j := 9) zbX12_apart_3 rfl) (zby_at (j := 10) zbX12_apart_3 rfl) rfl
theorem dX12_apart_59 : decode cX12_apart 59 = .ok (.iload 4, 2) := dq_21 (zby_at (j := 11) zbX12_apart_3 rfl) (zby_at (j := 12) zbX12_apart_3 rfl)
theorem dX12_apart_61 : decode cX12_apart 61 = .ok (.iload 5, 2) := dq_21 (zby_at (j := 13) zbX12_apart_3 rfl) (zby_at (j := 14) zbX12_apart_3 rfl)
theorem dX12_apart_63 : decode cX12_apart 63 = .ok (.iand, 1) := dq_126 (zby_at (j := 15) zbX12_apart_3 rfl)
theorem zbX12_apart_4 : zby cX12_apart 64 20 = [154, 0, 7, 4, 167, 0, 4, 3, 96, 62, 132, 5, 1, 167, 255, 208, 132, 4, 1, 167] := by decide +kernel
theorem dX12_apart_64 : decode cX12_apart 64 = .ok (.ifCond .ne 7, 3) := dq_154 (zby_at (j := 0) zbX12_apart_4 rfl) (zby_at (j := 1) zbX12_apart_4 rfl) (zby_at (j := 2) zbX12_apart_4 rfl) rfl
theorem dX12_apart_67 : decode cX12_apart 67 = .ok (.iconst 1, 1) := dq_4 (zby_at (j := 3) zbX12_apart_4 rfl)
theorem dX12_apart_68 : decode cX12_apart 68 = .ok (.goto 4, 3) := dq_167 (zby_at (j := 4) zbX12_apart_4 rfl) (zby_at (j := 5) zbX12_apart_4 rfl) (zby_at (j := 6) zbX12_apart_4 rfl) rfl
theorem dX12_apart_71 : decode cX12_apart 71 = .ok (.iconst 0, 1) := dq_3 (zby_at (j := 7) zbX12_apart_4 rfl)
theorem dX12_apart_72 : decode cX12_apart 72 = .ok (.iadd, 1) := dq_96 (zby_at (j := 8) zbX12_apart_4 rfl)
theorem dX12_apart_73 : decode cX12_apart 73 = .ok (.istore_n 3, 1) := dq_62 (zby_at (j := 9) zbX12_apart_4 rfl)
theorem dX12_apart_74 : decode cX12_apart 74 = .ok (.iinc 5 1, 3) := dq_132 (zby_at (j := 10) zbX12_apart_4 rfl) (zby_at (j := 11) zbX12_apart_4 rfl) (zby_at (j := 12) zbX12_apart_4 rfl) rfl
theorem dX12_apart_77 : decode cX12_apart 77 = .ok (.goto (-48), 3) := dq_167 (zby_at (j := 13) zbX12_apart_4 rfl) (zby_at (j := 14) zbX12_apart_4 rfl) (zby_at (j := 15) zbX12_apart_4 rfl) rfl
theorem zbX12_apart_5 : zby cX12_apart 80 20 = [132, 4, 1, 167, 255, 190, 29, 172] := by decide +kernel
theorem dX12_apart_80 : decode cX12_apart 80 = .ok (.iinc 4 1, 3) := dq_132 (zby_at (j := 0) zbX12_apart_5 rfl) (zby_at (j := 1) zbX12_apart_5 rfl) (zby_at (j := 2) zbX12_apart_5 rfl) rfl
theorem dX12_apart_83 : decode cX12_apart 83 = .ok (.goto (-66), 3) := dq_167 (zby_at (j := 3) zbX12_apart_5 rfl) (zby_at (j := 4) zbX12_apart_5 rfl) (zby_at (j := 5) zbX12_apart_5 rfl) rfl
theorem dX12_apart_86 : decode cX12_apart 86 = .ok (.iload_n 3, 1) := dq_29 (zby_at (j := 6) zbX12_apart_5 rfl)
theorem dX12_apart_87 : decode cX12_apart 87 = .ok (.ireturn, 1) := dq_172 (zby_at (j := 7) zbX12_apart_5 rfl)
theorem zbX12_packs_0 : zby cX12_packs 0 20 = [42, 27, 182, 1, 65, 153, 0, 13, 28, 133, 9, 10, 184, 0, 94, 154, 0, 6, 16, 254] := by decide +kernel
theorem dX12_packs_0 : decode cX12_packs 0 = .ok (.aload_n 0, 1) := dq_42 (zby_at (j := 0) zbX12_packs_0 rfl)
theorem dX12_packs_1 : decode cX12_packs 1 = .ok (.iload_n 1, 1) := dq_27 (zby_at (j := 1) zbX12_packs_0 rfl)
theorem dX12_packs_2 : decode cX12_packs 2 = .ok (.invokevirtual 321, 3) := dq_182 (zby_at (j := 2) zbX12_packs_0 rfl) (zby_at (j := 3) zbX12_packs_0 rfl) (zby_at (j := 4) zbX12_packs_0 rfl)
theorem dX12_packs_5 : decode cX12_packs 5 = .ok (.ifCond .eq 13, 3) := dq_153 (zby_at (j := 5) zbX12_packs_0 rfl) (zby_at (j := 6) zbX12_packs_0 rfl) (zby_at (j := 7) zbX12_packs_0 rfl) rfl
theorem dX12_packs_8 : decode cX12_packs 8 = .ok (.iload_n 2, 1) := dq_28 (zby_at (j := 8) zbX12_packs_0 rfl)
theorem dX12_packs_9 : decode cX12_packs 9 = .ok (.i2l, 1) := dq_133 (zby_at (j := 9) zbX12_packs_0 rfl)
theorem dX12_packs_10 : decode cX12_packs 10 = .ok (.lconst 0, 1) := dq_9 (zby_at (j := 10) zbX12_packs_0 rfl)
theorem dX12_packs_11 : decode cX12_packs 11 = .ok (.lconst 1, 1) := dq_10 (zby_at (j := 11) zbX12_packs_0 rfl)
theorem dX12_packs_12 : decode cX12_packs 12 = .ok (.invokestatic 94, 3) := dq_184 (zby_at (j := 12) zbX12_packs_0 rfl) (zby_at (j := 13) zbX12_packs_0 rfl) (zby_at (j := 14) zbX12_packs_0 rfl)
theorem dX12_packs_15 : decode cX12_packs 15 = .ok (.ifCond .ne 6, 3) := dq_154 (zby_at (j := 15) zbX12_packs_0 rfl) (zby_at (j := 16) zbX12_packs_0 rfl) (zby_at (j := 17) zbX12_packs_0 rfl) rfl
theorem zbX12_packs_1 : zby cX12_packs 16 20 = [0, 6, 16, 254, 172, 42, 27, 182, 1, 62, 62, 29, 154, 0, 5, 2, 172, 29, 16, 12] := by decide +kernel
theorem dX12_packs_18 : decode cX12_packs 18 = .ok (.bipush (-2), 2) := dq_16 (zby_at (j := 2) zbX12_packs_1 rfl) (zby_at (j := 3) zbX12_packs_1 rfl) rfl
theorem dX12_packs_20 : decode cX12_packs 20 = .ok (.ireturn, 1) := dq_172 (zby_at (j := 4) zbX12_packs_1 rfl)
theorem dX12_packs_21 : decode cX12_packs 21 = .ok (.aload_n 0, 1) := dq_42 (zby_at (j := 5) zbX12_packs_1 rfl)
theorem dX12_packs_22 : decode cX12_packs 22 = .ok (.iload_n 1, 1) := dq_27 (zby_at (j := 6) zbX12_packs_1 rfl)
theorem dX12_packs_23 : decode cX12_packs 23 = .ok (.invokevirtual 318, 3) := dq_182 (zby_at (j := 7) zbX12_packs_1 rfl) (zby_at (j := 8) zbX12_packs_1 rfl) (zby_at (j := 9) zbX12_packs_1 rfl)
theorem dX12_packs_26 : decode cX12_packs 26 = .ok (.istore_n 3, 1) := dq_62 (zby_at (j := 10) zbX12_packs_1 rfl)
theorem dX12_packs_27 : decode cX12_packs 27 = .ok (.iload_n 3, 1) := dq_29 (zby_at (j := 11) zbX12_packs_1 rfl)
theorem dX12_packs_28 : decode cX12_packs 28 = .ok (.ifCond .ne 5, 3) := dq_154 (zby_at (j := 12) zbX12_packs_1 rfl) (zby_at (j := 13) zbX12_packs_1 rfl) (zby_at (j := 14) zbX12_packs_1 rfl) rfl
theorem dX12_packs_31 : decode cX12_packs 31 = .ok (.iconst (-1), 1) := dq_2 (zby_at (j := 15) zbX12_packs_1 rfl)
theorem zbX12_packs_2 : zby cX12_packs 32 20 = [172, 29, 16, 12, 164, 0, 6, 16, 253, 172, 3, 54, 4, 3, 54, 5, 21, 5, 29, 162] := by decide +kernel
theorem dX12_packs_32 : decode cX12_packs 32 = .ok (.ireturn, 1) := dq_172 (zby_at (j := 0) zbX12_packs_2 rfl)
theorem dX12_packs_33 : decode cX12_packs 33 = .ok (.iload_n 3, 1) := dq_29 (zby_at (j := 1) zbX12_packs_2 rfl)
theorem dX12_packs_34 : decode cX12_packs 34 = .ok (.bipush 12, 2) := dq_16 (zby_at (j := 2) zbX12_packs_2 rfl) (zby_at (j := 3) zbX12_packs_2 rfl) rfl
theorem dX12_packs_36 : decode cX12_packs 36 = .ok (.if_icmp .le 6, 3) := dq_164 (zby_at (j := 4) zbX12_packs_2 rfl) (zby_at (j := 5) zbX12_packs_2 rfl) (zby_at (j := 6) zbX12_packs_2 rfl) rfl
theorem dX12_packs_39 : decode cX12_packs 39 = .ok (.bipush (-3), 2) := dq_16 (zby_at (j := 7) zbX12_packs_2 rfl) (zby_at (j := 8) zbX12_packs_2 rfl) rfl
theorem dX12_packs_41 : decode cX12_packs 41 = .ok (.ireturn, 1) := dq_172 (zby_at (j := 9) zbX12_packs_2 rfl)
theorem dX12_packs_42 : decode cX12_packs 42 = .ok (.iconst 0, 1) := dq_3 (zby_at (j := 10) zbX12_packs_2 rfl)
theorem dX12_packs_43 : decode cX12_packs 43 = .ok (.istore 4, 2) := dq_54 (zby_at (j := 11) zbX12_packs_2 rfl) (zby_at (j := 12) zbX12_packs_2 rfl)
theorem dX12_packs_45 : decode cX12_packs 45 = .ok (.iconst 0, 1) := dq_3 (zby_at (j := 13) zbX12_packs_2 rfl)
theorem dX12_packs_46 : decode cX12_packs 46 = .ok (.istore 5, 2) := dq_54 (zby_at (j := 14) zbX12_packs_2 rfl) (zby_at (j := 15) zbX12_packs_2 rfl)
theorem zbX12_packs_3 : zby cX12_packs 48 20 = [21, 5, 29, 162, 0, 35, 42, 180, 0, 58, 21, 5, 42, 27, 21, 5, 182, 1, 84, 79] := by decide +kernel
theorem dX12_packs_48 : decode cX12_packs 48 = .ok (.iload 5, 2) := dq_21 (zby_at (j := 0) zbX12_packs_3 rfl) (zby_at (j := 1) zbX12_packs_3 rfl)
theorem dX12_packs_50 : decode cX12_packs 50 = .ok (.iload_n 3, 1) := dq_29 (zby_at (j := 2) zbX12_packs_3 rfl)
theorem dX12_packs_51 : decode cX12_packs 51 = .ok (.if_icmp .ge 35, 3) := dq_162 (zby_at (j := 3) zbX12_packs_3 rfl) (zby_at (j := 4) zbX12_packs_3 rfl) (zby_at (j := 5) zbX12_packs_3 rfl) rfl
theorem dX12_packs_54 : decode cX12_packs 54 = .ok (.aload_n 0, 1) := dq_42 (zby_at (j := 6) zbX12_packs_3 rfl)
theorem dX12_packs_55 : decode cX12_packs 55 = .ok (.getfield 58, 3) := dq_180 (zby_at (j := 7) zbX12_packs_3 rfl) (zby_at (j := 8) zbX12_packs_3 rfl) (zby_at (j := 9) zbX12_packs_3 rfl)
theorem dX12_packs_58 : decode cX12_packs 58 = .ok (.iload 5, 2) := dq_21 (zby_at (j := 10) zbX12_packs_3 rfl) (zby_at (j := 11) zbX12_packs_3 rfl)
theorem dX12_packs_60 : decode cX12_packs 60 = .ok (.aload_n 0, 1) := dq_42 (zby_at (j := 12) zbX12_packs_3 rfl)
theorem dX12_packs_61 : decode cX12_packs 61 = .ok (.iload_n 1, 1) := dq_27 (zby_at (j := 13) zbX12_packs_3 rfl)
theorem dX12_packs_62 : decode cX12_packs 62 = .ok (.iload 5, 2) := dq_21 (zby_at (j := 14) zbX12_packs_3 rfl) (zby_at (j := 15) zbX12_packs_3 rfl)
theorem zbX12_packs_4 : zby cX12_packs 64 20 = [182, 1, 84, 79, 21, 4, 42, 180, 0, 58, 21, 5, 46, 128, 54, 4, 132, 5, 1, 167] := by decide +kernel
theorem dX12_packs_64 : decode cX12_packs 64 = .ok (.invokevirtual 340, 3) := dq_182 (zby_at (j := 0) zbX12_packs_4 rfl) (zby_at (j := 1) zbX12_packs_4 rfl) (zby_at (j := 2) zbX12_packs_4 rfl)
theorem dX12_packs_67 : decode cX12_packs 67 = .ok (.iastore, 1) := dq_79 (zby_at (j := 3) zbX12_packs_4 rfl)
theorem dX12_packs_68 : decode cX12_packs 68 = .ok (.iload 4, 2) := dq_21 (zby_at (j := 4) zbX12_packs_4 rfl) (zby_at (j := 5) zbX12_packs_4 rfl)
theorem dX12_packs_70 : decode cX12_packs 70 = .ok (.aload_n 0, 1) := dq_42 (zby_at (j := 6) zbX12_packs_4 rfl)
theorem dX12_packs_71 : decode cX12_packs 71 = .ok (.getfield 58, 3) := dq_180 (zby_at (j := 7) zbX12_packs_4 rfl) (zby_at (j := 8) zbX12_packs_4 rfl) (zby_at (j := 9) zbX12_packs_4 rfl)
theorem dX12_packs_74 : decode cX12_packs 74 = .ok (.iload 5, 2) := dq_21 (zby_at (j := 10) zbX12_packs_4 rfl) (zby_at (j := 11) zbX12_packs_4 rfl)
theorem dX12_packs_76 : decode cX12_packs 76 = .ok (.iaload, 1) := dq_46 (zby_at (j := 12) zbX12_packs_4 rfl)
theorem dX12_packs_77 : decode cX12_packs 77 = .ok (.ior, 1) := dq_128 (zby_at (j := 13) zbX12_packs_4 rfl)
theorem dX12_packs_78 : decode cX12_packs 78 = .ok (.istore 4, 2) := dq_54 (zby_at (j := 14) zbX12_packs_4 rfl) (zby_at (j := 15) zbX12_packs_4 rfl)
theorem zbX12_packs_5 : zby cX12_packs 80 20 = [132, 5, 1, 167, 255, 221, 29, 54, 5, 3, 54, 6, 3, 54, 7, 21, 7, 4, 29, 120] := by decide +kernel
theorem dX12_packs_80 : decode cX12_packs 80 = .ok (.iinc 5 1, 3) := dq_132 (zby_at (j := 0) zbX12_packs_5 rfl) (zby_at (j := 1) zbX12_packs_5 rfl) (zby_at (j := 2) zbX12_packs_5 rfl) rfl
theorem dX12_packs_83 : decode cX12_packs 83 = .ok (.goto (-35), 3) := dq_167 (zby_at (j := 3) zbX12_packs_5 rfl) (zby_at (j := 4) zbX12_packs_5 rfl) (zby_at (j := 5) zbX12_packs_5 rfl) rfl
theorem dX12_packs_86 : decode cX12_packs 86 = .ok (.iload_n 3, 1) := dq_29 (zby_at (j := 6) zbX12_packs_5 rfl)
theorem dX12_packs_87 : decode cX12_packs 87 = .ok (.istore 5, 2) := dq_54 (zby_at (j := 7) zbX12_packs_5 rfl) (zby_at (j := 8) zbX12_packs_5 rfl)
theorem dX12_packs_89 : decode cX12_packs 89 = .ok (.iconst 0, 1) := dq_3 (zby_at (j := 9) zbX12_packs_5 rfl)
theorem dX12_packs_90 : decode cX12_packs 90 = .ok (.istore 6, 2) := dq_54 (zby_at (j := 10) zbX12_packs_5 rfl) (zby_at (j := 11) zbX12_packs_5 rfl)
theorem dX12_packs_92 : decode cX12_packs 92 = .ok (.iconst 0, 1) := dq_3 (zby_at (j := 12) zbX12_packs_5 rfl)
theorem dX12_packs_93 : decode cX12_packs 93 = .ok (.istore 7, 2) := dq_54 (zby_at (j := 13) zbX12_packs_5 rfl) (zby_at (j := 14) zbX12_packs_5 rfl)
theorem dX12_packs_95 : decode cX12_packs 95 = .ok (.iload 7, 2) := dq_21 (zby_at (j := 15) zbX12_packs_5 rfl) (zby_at (j := 16) zbX12_packs_5 rfl)
theorem zbX12_packs_6 : zby cX12_packs 96 20 = [7, 4, 29, 120, 162, 0, 126, 3, 54, 8, 3, 54, 9, 4, 54, 10, 3, 54, 11, 21] := by decide +kernel
theorem dX12_packs_97 : decode cX12_packs 97 = .ok (.iconst 1, 1) := dq_4 (zby_at (j := 1) zbX12_packs_6 rfl)
theorem dX12_packs_98 : decode cX12_packs 98 = .ok (.iload_n 3, 1) := dq_29 (zby_at (j := 2) zbX12_packs_6 rfl)
theorem dX12_packs_99 : decode cX12_packs 99 = .ok (.ishl, 1) := dq_120 (zby_at (j := 3) zbX12_packs_6 rfl)
theorem dX12_packs_100 : decode cX12_packs 100 = .ok (.if_icmp .ge 126, 3) := dq_162 (zby_at (j := 4) zbX12_packs_6 rfl) (zby_at (j := 5) zbX12_packs_6 rfl) (zby_at (j := 6) zbX12_packs_6 rfl) rfl
theorem dX12_packs_103 : decode cX12_packs 103 = .ok (.iconst 0, 1) := dq_3 (zby_at (j := 7) zbX12_packs_6 rfl)
theorem dX12_packs_104 : decode cX12_packs 104 = .ok (.istore 8, 2) := dq_54 (zby_at (j := 8) zbX12_packs_6 rfl) (zby_at (j := 9) zbX12_packs_6 rfl)
theorem dX12_packs_106 : decode cX12_packs 106 = .ok (.iconst 0, 1) := dq_3 (zby_at (j := 10) zbX12_packs_6 rfl)
theorem dX12_packs_107 : decode cX12_packs 107 = .ok (.istore 9, 2) := dq_54 (zby_at (j := 11) zbX12_packs_6 rfl) (zby_at (j := 12) zbX12_packs_6 rfl)
theorem dX12_packs_109 : decode cX12_packs 109 = .ok (.iconst 1, 1) := dq_4 (zby_at (j := 13) zbX12_packs_6 rfl)
theorem dX12_packs_110 : decode cX12_packs 110 = .ok (.istore 10, 2) := dq_54 (zby_at (j := 14) zbX12_packs_6 rfl) (zby_at (j := 15) zbX12_packs_6 rfl)
theorem zbX12_packs_7 : zby cX12_packs 112 20 = [3, 54, 11, 21, 11, 29, 162, 0, 62, 21, 7, 21, 11, 122, 4, 126, 154, 0, 6, 167] := by decide +kernel
theorem dX12_packs_112 : decode cX12_packs 112 = .ok (.iconst 0, 1) := dq_3 (zby_at (j := 0) zbX12_packs_7 rfl)
theorem dX12_packs_113 : decode cX12_packs 113 = .ok (.istore 11, 2) := dq_54 (zby_at (j := 1) zbX12_packs_7 rfl) (zby_at (j := 2) zbX12_packs_7 rfl)
theorem dX12_packs_115 : decode cX12_packs 115 = .ok (.iload 11, 2) := dq_21 (zby_at (j := 3) zbX12_packs_7 rfl) (zby_at (j := 4) zbX12_packs_7 rfl)
theorem dX12_packs_117 : decode cX12_packs 117 = .ok (.iload_n 3, 1) := dq_29 (zby_at (j := 5) zbX12_packs_7 rfl)
theorem dX12_packs_118 : decode cX12_packs 118 = .ok (.if_icmp .ge 62, 3) := dq_162 (zby_at (j := 6) zbX12_packs_7 rfl) (zby_at (j := 7) zbX12_packs_7 rfl) (zby_at (j := 8) zbX12_packs_7 rfl) rfl
theorem dX12_packs_121 : decode cX12_packs 121 = .ok (.iload 7, 2) := dq_21 (zby_at (j := 9) zbX12_packs_7 rfl) (zby_at (j := 10) zbX12_packs_7 rfl)
theorem dX12_packs_123 : decode cX12_packs 123 = .ok (.iload 11, 2) := dq_21 (zby_at (j := 11) zbX12_packs_7 rfl) (zby_at (j := 12) zbX12_packs_7 rfl)
theorem dX12_packs_125 : decode cX12_packs 125 = .ok (.ishr, 1) := dq_122 (zby_at (j := 13) zbX12_packs_7 rfl)
theorem dX12_packs_126 : decode cX12_packs 126 = .ok (.iconst 1, 1) := dq_4 (zby_at (j := 14) zbX12_packs_7 rfl)
theorem dX12_packs_127 : decode cX12_packs 127 = .ok (.iand, 1) := dq_126 (zby_at (j := 15) zbX12_packs_7 rfl)
theorem zbX12_packs_8 : zby cX12_packs 128 20 = [154, 0, 6, 167, 0, 43, 21, 10, 153, 0, 20, 21, 8, 42, 180, 0, 58, 21, 11, 46] := by decide +kernel
theorem dX12_packs_128 : decode cX12_packs 128 = .ok (.ifCond .ne 6, 3) := dq_154 (zby_at (j := 0) zbX12_packs_8 rfl) (zby_at (j := 1) zbX12_packs_8 rfl) (zby_at (j := 2) zbX12_packs_8 rfl) rfl
theorem dX12_packs_131 : decode cX12_packs 131 = .ok (.goto 43, 3) := dq_167 (zby_at (j := 3) zbX12_packs_8 rfl) (zby_at (j := 4) zbX12_packs_8 rfl) (zby_at (j := 5) zbX12_packs_8 rfl) rfl
theorem dX12_packs_134 : decode cX12_packs 134 = .ok (.iload 10, 2) := dq_21 (zby_at (j := 6) zbX12_packs_8 rfl) (zby_at (j := 7) zbX12_packs_8 rfl)
theorem dX12_packs_136 : decode cX12_packs 136 = .ok (.ifCond .eq 20, 3) := dq_153 (zby_at (j := 8) zbX12_packs_8 rfl) (zby_at (j := 9) zbX12_packs_8 rfl) (zby_at (j := 10) zbX12_packs_8 rfl) rfl
theorem dX12_packs_139 : decode cX12_packs 139 = .ok (.iload 8, 2) := dq_21 (zby_at (j := 11) zbX12_packs_8 rfl) (zby_at (j := 12) zbX12_packs_8 rfl)
theorem dX12_packs_141 : decode cX12_packs 141 = .ok (.aload_n 0, 1) := dq_42 (zby_at (j := 13) zbX12_packs_8 rfl)
theorem dX12_packs_142 : decode cX12_packs 142 = .ok (.getfield 58, 3) := dq_180 (zby_at (j := 14) zbX12_packs_8 rfl) (zby_at (j := 15) zbX12_packs_8 rfl) (zby_at (j := 16) zbX12_packs_8 rfl)
theorem zbX12_packs_9 : zby cX12_packs 144 20 = [58, 21, 11, 46, 126, 154, 0, 7, 4, 167, 0, 4, 3, 54, 10, 21, 8, 42, 180, 0] := by decide +kernel
theorem dX12_packs_145 : decode cX12_packs 145 = .ok (.iload 11, 2) := dq_21 (zby_at (j := 1) zbX12_packs_9 rfl) (zby_at (j := 2) zbX12_packs_9 rfl)
theorem dX12_packs_147 : decode cX12_packs 147 = .ok (.iaload, 1) := dq_46 (zby_at (j := 3) zbX12_packs_9 rfl)
theorem dX12_packs_148 : decode cX12_packs 148 = .ok (.iand, 1) := dq_126 (zby_at (j := 4) zbX12_packs_9 rfl)
theorem dX12_packs_149 : decode cX12_packs 149 = .ok (.ifCond .ne 7, 3) := dq_154 (zby_at (j := 5) zbX12_packs_9 rfl) (zby_at (j := 6) zbX12_packs_9 rfl) (zby_at (j := 7) zbX12_packs_9 rfl) rfl
theorem dX12_packs_152 : decode cX12_packs 152 = .ok (.iconst 1, 1) := dq_4 (zby_at (j := 8) zbX12_packs_9 rfl)
theorem dX12_packs_153 : decode cX12_packs 153 = .ok (.goto 4, 3) := dq_167 (zby_at (j := 9) zbX12_packs_9 rfl) (zby_at (j := 10) zbX12_packs_9 rfl) (zby_at (j := 11) zbX12_packs_9 rfl) rfl
theorem dX12_packs_156 : decode cX12_packs 156 = .ok (.iconst 0, 1) := dq_3 (zby_at (j := 12) zbX12_packs_9 rfl)
theorem dX12_packs_157 : decode cX12_packs 157 = .ok (.istore 10, 2) := dq_54 (zby_at (j := 13) zbX12_packs_9 rfl) (zby_at (j := 14) zbX12_packs_9 rfl)
theorem dX12_packs_159 : decode cX12_packs 159 = .ok (.iload 8, 2) := dq_21 (zby_at (j := 15) zbX12_packs_9 rfl) (zby_at (j := 16) zbX12_packs_9 rfl)
theorem zbX12_packs_10 : zby cX12_packs 160 20 = [8, 42, 180, 0, 58, 21, 11, 46, 128, 54, 8, 132, 9, 1, 132, 11, 1, 167, 255, 194] := by decide +kernel
theorem dX12_packs_161 : decode cX12_packs 161 = .ok (.aload_n 0, 1) := dq_42 (zby_at (j := 1) zbX12_packs_10 rfl)
theorem dX12_packs_162 : decode cX12_packs 162 = .ok (.getfield 58, 3) := dq_180 (zby_at (j := 2) zbX12_packs_10 rfl) (zby_at (j := 3) zbX12_packs_10 rfl) (zby_at (j := 4) zbX12_packs_10 rfl)
theorem dX12_packs_165 : decode cX12_packs 165 = .ok (.iload 11, 2) := dq_21 (zby_at (j := 5) zbX12_packs_10 rfl) (zby_at (j := 6) zbX12_packs_10 rfl)
theorem dX12_packs_167 : decode cX12_packs 167 = .ok (.iaload, 1) := dq_46 (zby_at (j := 7) zbX12_packs_10 rfl)
theorem dX12_packs_168 : decode cX12_packs 168 = .ok (.ior, 1) := dq_128 (zby_at (j := 8) zbX12_packs_10 rfl)
theorem dX12_packs_169 : decode cX12_packs 169 = .ok (.istore 8, 2) := dq_54 (zby_at (j := 9) zbX12_packs_10 rfl) (zby_at (j := 10) zbX12_packs_10 rfl)
theorem dX12_packs_171 : decode cX12_packs 171 = .ok (.iinc 9 1, 3) := dq_132 (zby_at (j := 11) zbX12_packs_10 rfl) (zby_at (j := 12) zbX12_packs_10 rfl) (zby_at (j := 13) zbX12_packs_10 rfl) rfl
theorem dX12_packs_174 : decode cX12_packs 174 = .ok (.iinc 11 1, 3) := dq_132 (zby_at (j := 14) zbX12_packs_10 rfl) (zby_at (j := 15) zbX12_packs_10 rfl) (zby_at (j := 16) zbX12_packs_10 rfl) rfl
theorem zbX12_packs_11 : zby cX12_packs 176 20 = [1, 167, 255, 194, 21, 8, 21, 4, 160, 0, 13, 21, 5, 21, 9, 184, 0, 138, 167, 0] := by decide +kernel
theorem dX12_packs_177 : decode cX12_packs 177 = .ok (.goto (-62), 3) := dq_167 (zby_at (j := 1) zbX12_packs_11 rfl) (zby_at (j := 2) zbX12_packs_11 rfl) (zby_at (j := 3) zbX12_packs_11 rfl) rfl
theorem dX12_packs_180 : decode cX12_packs 180 = .ok (.iload 8, 2) := dq_21 (zby_at (j := 4) zbX12_packs_11 rfl) (zby_at (j := 5) zbX12_packs_11 rfl)
theorem dX12_packs_182 : decode cX12_packs 182 = .ok (.iload 4, 2) := dq_21 (zby_at (j := 6) zbX12_packs_11 rfl) (zby_at (j := 7) zbX12_packs_11 rfl)
theorem dX12_packs_184 : decode cX12_packs 184 = .ok (.if_icmp .ne 13, 3) := dq_160 (zby_at (j := 8) zbX12_packs_11 rfl) (zby_at (j := 9) zbX12_packs_11 rfl) (zby_at (j := 10) zbX12_packs_11 rfl) rfl
theorem dX12_packs_187 : decode cX12_packs 187 = .ok (.iload 5, 2) := dq_21 (zby_at (j := 11) zbX12_packs_11 rfl) (zby_at (j := 12) zbX12_packs_11 rfl)
theorem dX12_packs_189 : decode cX12_packs 189 = .ok (.iload 9, 2) := dq_21 (zby_at (j := 13) zbX12_packs_11 rfl) (zby_at (j := 14) zbX12_packs_11 rfl)
theorem dX12_packs_191 : decode cX12_packs 191 = .ok (.invokestatic 138, 3) := dq_184 (zby_at (j := 15) zbX12_packs_11 rfl) (zby_at (j := 16) zbX12_packs_11 rfl) (zby_at (j := 17) zbX12_packs_11 rfl)
theorem zbX12_packs_12 : zby cX12_packs 192 20 = [0, 138, 167, 0, 5, 21, 5, 54, 5, 21, 10, 153, 0, 13, 21, 6, 21, 9, 184, 1] := by decide +kernel
theorem dX12_packs_194 : decode cX12_packs 194 = .ok (.goto 5, 3) := dq_167 (zby_at (j := 2) zbX12_packs_12 rfl) (zby_at (j := 3) zbX12_packs_12 rfl) (zby_at (j := 4) zbX12_packs_12 rfl) rfl
theorem dX12_packs_197 : decode cX12_packs 197 = .ok (.iload 5, 2) := dq_21 (zby_at (j := 5) zbX12_packs_12 rfl) (zby_at (j := 6) zbX12_packs_12 rfl)
theorem dX12_packs_199 : decode cX12_packs 199 = .ok (.istore 5, 2) := dq_54 (zby_at (j := 7) zbX12_packs_12 rfl) (zby_at (j := 8) zbX12_packs_12 rfl)
theorem dX12_packs_201 : decode cX12_packs 201 = .ok (.iload 10, 2) := dq_21 (zby_at (j := 9) zbX12_packs_12 rfl) (zby_at (j := 10) zbX12_packs_12 rfl)
theorem dX12_packs_203 : decode cX12_packs 203 = .ok (.ifCond .eq 13, 3) := dq_153 (zby_at (j := 11) zbX12_packs_12 rfl) (zby_at (j := 12) zbX12_packs_12 rfl) (zby_at (j := 13) zbX12_packs_12 rfl) rfl
theorem dX12_packs_206 : decode cX12_packs 206 = .ok (.iload 6, 2) := dq_21 (zby_at (j := 14) zbX12_packs_12 rfl) (zby_at (j := 15) zbX12_packs_12 rfl)
theorem zbX12_packs_13 : zby cX12_packs 208 20 = [21, 9, 184, 1, 92, 167, 0, 5, 21, 6, 54, 6, 132, 7, 1, 167, 255, 128, 28, 154] := by decide +kernel
theorem dX12_packs_208 : decode cX12_packs 208 = .ok (.iload 9, 2) := dq_21 (zby_at (j := 0) zbX12_packs_13 rfl) (zby_at (j := 1) zbX12_packs_13 rfl)
theorem dX12_packs_210 : decode cX12_packs 210 = .ok (.invokestatic 348, 3) := dq_184 (zby_at (j := 2) zbX12_packs_13 rfl) (zby_at (j := 3) zbX12_packs_13 rfl) (zby_at (j := 4) zbX12_packs_13 rfl)
theorem dX12_packs_213 : decode cX12_packs 213 = .ok (.goto 5, 3) := dq_167 (zby_at (j := 5) zbX12_packs_13 rfl) (zby_at (j := 6) zbX12_packs_13 rfl) (zby_at (j := 7) zbX12_packs_13 rfl) rfl
theorem dX12_packs_216 : decode cX12_packs 216 = .ok (.iload 6, 2) := dq_21 (zby_at (j := 8) zbX12_packs_13 rfl) (zby_at (j := 9) zbX12_packs_13 rfl)
theorem dX12_packs_218 : decode cX12_packs 218 = .ok (.istore 6, 2) := dq_54 (zby_at (j := 10) zbX12_packs_13 rfl) (zby_at (j := 11) zbX12_packs_13 rfl)
theorem dX12_packs_220 : decode cX12_packs 220 = .ok (.iinc 7 1, 3) := dq_132 (zby_at (j := 12) zbX12_packs_13 rfl) (zby_at (j := 13) zbX12_packs_13 rfl) (zby_at (j := 14) zbX12_packs_13 rfl) rfl
theorem dX12_packs_223 : decode cX12_packs 223 = .ok (.goto (-128), 3) := dq_167 (zby_at (j := 15) zbX12_packs_13 rfl) (zby_at (j := 16) zbX12_packs_13 rfl) (zby_at (j := 17) zbX12_packs_13 rfl) rfl
theorem zbX12_packs_14 : zby cX12_packs 224 20 = [255, 128, 28, 154, 0, 8, 21, 5, 167, 0, 5, 21, 6, 172] := by decide +kernel
theorem dX12_packs_226 : decode cX12_packs 226 = .ok (.iload_n 2, 1) := dq_28 (zby_at (j := 2) zbX12_packs_14 rfl)
theorem dX12_packs_227 : decode cX12_packs 227 = .ok (.ifCond .ne 8, 3) := dq_154 (zby_at (j := 3) zbX12_packs_14 rfl) (zby_at (j := 4) zbX12_packs_14 rfl) (zby_at (j := 5) zbX12_packs_14 rfl) rfl
theorem dX12_packs_230 : decode cX12_packs 230 = .ok (.iload 5, 2) := dq_21 (zby_at (j := 6) zbX12_packs_14 rfl) (zby_at (j := 7) zbX12_packs_14 rfl)
theorem dX12_packs_232 : decode cX12_packs 232 = .ok (.goto 5, 3) := dq_167 (zby_at (j := 8) zbX12_packs_14 rfl) (zby_at (j := 9) zbX12_packs_14 rfl) (zby_at (j := 10) zbX12_packs_14 rfl) rfl
theorem dX12_packs_235 : decode cX12_packs 235 = .ok (.iload 6, 2) := dq_21 (zby_at (j := 11) zbX12_packs_14 rfl) (zby_at (j := 12) zbX12_packs_14 rfl)
theorem dX12_packs_237 : decode cX12_packs 237 = .ok (.ireturn, 1) := dq_172 (zby_at (j := 13) zbX12_packs_14 rfl)
theorem zbX12_takesOrder_0 : zby cX12_takesOrder 0 20 = [3, 60, 27, 16, 10, 162, 0, 24, 42, 180, 0, 64, 27, 42, 180, 0, 9, 16, 33, 27] := by decide +kernel
theorem dX12_takesOrder_0 : decode cX12_takesOrder 0 = .ok (.iconst 0, 1) := dq_3 (zby_at (j := 0) zbX12_takesOrder_0 rfl)
theorem dX12_takesOrder_1 : decode cX12_takesOrder 1 = .ok (.istore_n 1, 1) := dq_60 (zby_at (j := 1) zbX12_takesOrder_0 rfl)
theorem dX12_takesOrder_2 : decode cX12_takesOrder 2 = .ok (.iload_n 1, 1) := dq_27 (zby_at (j := 2) zbX12_takesOrder_0 rfl)
theorem dX12_takesOrder_3 : decode cX12_takesOrder 3 = .ok (.bipush 10, 2) := dq_16 (zby_at (j := 3) zbX12_takesOrder_0 rfl) (zby_at (j := 4) zbX12_takesOrder_0 rfl) rfl
theorem dX12_takesOrder_5 : decode cX12_takesOrder 5 = .ok (.if_icmp .ge 24, 3) := dq_162 (zby_at (j := 5) zbX12_takesOrder_0 rfl) (zby_at (j := 6) zbX12_takesOrder_0 rfl) (zby_at (j := 7) zbX12_takesOrder_0 rfl) rfl
theorem dX12_takesOrder_8 : decode cX12_takesOrder 8 = .ok (.aload_n 0, 1) := dq_42 (zby_at (j := 8) zbX12_takesOrder_0 rfl)
theorem dX12_takesOrder_9 : decode cX12_takesOrder 9 = .ok (.getfield 64, 3) := dq_180 (zby_at (j := 9) zbX12_takesOrder_0 rfl) (zby_at (j := 10) zbX12_takesOrder_0 rfl) (zby_at (j := 11) zbX12_takesOrder_0 rfl)
theorem dX12_takesOrder_12 : decode cX12_takesOrder 12 = .ok (.iload_n 1, 1) := dq_27 (zby_at (j := 12) zbX12_takesOrder_0 rfl)
theorem dX12_takesOrder_13 : decode cX12_takesOrder 13 = .ok (.aload_n 0, 1) := dq_42 (zby_at (j := 13) zbX12_takesOrder_0 rfl)
theorem dX12_takesOrder_14 : decode cX12_takesOrder 14 = .ok (.getfield 9, 3) := dq_180 (zby_at (j := 14) zbX12_takesOrder_0 rfl) (zby_at (j := 15) zbX12_takesOrder_0 rfl) (zby_at (j := 16) zbX12_takesOrder_0 rfl)
theorem zbX12_takesOrder_1 : zby cX12_takesOrder 16 20 = [9, 16, 33, 27, 96, 46, 79, 132, 1, 1, 167, 255, 232, 177] := by decide +kernel
theorem dX12_takesOrder_17 : decode cX12_takesOrder 17 = .ok (.bipush 33, 2) := dq_16 (zby_at (j := 1) zbX12_takesOrder_1 rfl) (zby_at (j := 2) zbX12_takesOrder_1 rfl) rfl
theorem dX12_takesOrder_19 : decode cX12_takesOrder 19 = .ok (.iload_n 1, 1) := dq_27 (zby_at (j := 3) zbX12_takesOrder_1 rfl)
theorem dX12_takesOrder_20 : decode cX12_takesOrder 20 = .ok (.iadd, 1) := dq_96 (zby_at (j := 4) zbX12_takesOrder_1 rfl)
theorem dX12_takesOrder_21 : decode cX12_takesOrder 21 = .ok (.iaload, 1) := dq_46 (zby_at (j := 5) zbX12_takesOrder_1 rfl)
theorem dX12_takesOrder_22 : decode cX12_takesOrder 22 = .ok (.iastore, 1) := dq_79 (zby_at (j := 6) zbX12_takesOrder_1 rfl)
theorem dX12_takesOrder_23 : decode cX12_takesOrder 23 = .ok (.iinc 1 1, 3) := dq_132 (zby_at (j := 7) zbX12_takesOrder_1 rfl) (zby_at (j := 8) zbX12_takesOrder_1 rfl) (zby_at (j := 9) zbX12_takesOrder_1 rfl) rfl
theorem dX12_takesOrder_26 : decode cX12_takesOrder 26 = .ok (.goto (-24), 3) := dq_167 (zby_at (j := 10) zbX12_takesOrder_1 rfl) (zby_at (j := 11) zbX12_takesOrder_1 rfl) (zby_at (j := 12) zbX12_takesOrder_1 rfl) rfl
theorem dX12_takesOrder_29 : decode cX12_takesOrder 29 = .ok (.return_, 1) := dq_177 (zby_at (j := 13) zbX12_takesOrder_1 rfl)
theorem zbX12_spotOf_0 : zby cX12_spotOf 0 20 = [3, 61, 3, 62, 29, 42, 180, 0, 9, 3, 46, 162, 0, 24, 5, 28, 104, 27, 42, 180] := by decide +kernel
theorem dX12_spotOf_0 : decode cX12_spotOf 0 = .ok (.iconst 0, 1) := dq_3 (zby_at (j := 0) zbX12_spotOf_0 rfl)
theorem dX12_spotOf_1 : decode cX12_spotOf 1 = .ok (.istore_n 2, 1) := dq_61 (zby_at (j := 1) zbX12_spotOf_0 rfl)
theorem dX12_spotOf_2 : decode cX12_spotOf 2 = .ok (.iconst 0, 1) := dq_3 (zby_at (j := 2) zbX12_spotOf_0 rfl)
theorem dX12_spotOf_3 : decode cX12_spotOf 3 = .ok (.istore_n 3, 1) := dq_62 (zby_at (j := 3) zbX12_spotOf_0 rfl)
theorem dX12_spotOf_4 : decode cX12_spotOf 4 = .ok (.iload_n 3, 1) := dq_29 (zby_at (j := 4) zbX12_spotOf_0 rfl)
theorem dX12_spotOf_5 : decode cX12_spotOf 5 = .ok (.aload_n 0, 1) := dq_42 (zby_at (j := 5) zbX12_spotOf_0 rfl)
theorem dX12_spotOf_6 : decode cX12_spotOf 6 = .ok (.getfield 9, 3) := dq_180 (zby_at (j := 6) zbX12_spotOf_0 rfl) (zby_at (j := 7) zbX12_spotOf_0 rfl) (zby_at (j := 8) zbX12_spotOf_0 rfl)
theorem dX12_spotOf_9 : decode cX12_spotOf 9 = .ok (.iconst 0, 1) := dq_3 (zby_at (j := 9) zbX12_spotOf_0 rfl)
theorem dX12_spotOf_10 : decode cX12_spotOf 10 = .ok (.iaload, 1) := dq_46 (zby_at (j := 10) zbX12_spotOf_0 rfl)
theorem dX12_spotOf_11 : decode cX12_spotOf 11 = .ok (.if_icmp .ge 24, 3) := dq_162 (zby_at (j := 11) zbX12_spotOf_0 rfl) (zby_at (j := 12) zbX12_spotOf_0 rfl) (zby_at (j := 13) zbX12_spotOf_0 rfl) rfl
theorem dX12_spotOf_14 : decode cX12_spotOf 14 = .ok (.iconst 2, 1) := dq_5 (zby_at (j := 14) zbX12_spotOf_0 rfl)
theorem dX12_spotOf_15 : decode cX12_spotOf 15 = .ok (.iload_n 2, 1) := dq_28 (zby_at (j := 15) zbX12_spotOf_0 rfl)
theorem zbX12_spotOf_1 : zby cX12_spotOf 16 20 = [104, 27, 42, 180, 0, 64, 29, 46, 122, 4, 126, 96, 61, 132, 3, 1, 167, 255, 228, 28] := by decide +kernel
theorem dX12_spotOf_16 : decode cX12_spotOf 16 = .ok (.imul, 1) := dq_104 (zby_at (j := 0) zbX12_spotOf_1 rfl)
theorem dX12_spotOf_17 : decode cX12_spotOf 17 = .ok (.iload_n 1, 1) := dq_27 (zby_at (j := 1) zbX12_spotOf_1 rfl)
theorem dX12_spotOf_18 : decode cX12_spotOf 18 = .ok (.aload_n 0, 1) := dq_42 (zby_at (j := 2) zbX12_spotOf_1 rfl)
theorem dX12_spotOf_19 : decode cX12_spotOf 19 = .ok (.getfield 64, 3) := dq_180 (zby_at (j := 3) zbX12_spotOf_1 rfl) (zby_at (j := 4) zbX12_spotOf_1 rfl) (zby_at (j := 5) zbX12_spotOf_1 rfl)
theorem dX12_spotOf_22 : decode cX12_spotOf 22 = .ok (.iload_n 3, 1) := dq_29 (zby_at (j := 6) zbX12_spotOf_1 rfl)
theorem dX12_spotOf_23 : decode cX12_spotOf 23 = .ok (.iaload, 1) := dq_46 (zby_at (j := 7) zbX12_spotOf_1 rfl)
theorem dX12_spotOf_24 : decode cX12_spotOf 24 = .ok (.ishr, 1) := dq_122 (zby_at (j := 8) zbX12_spotOf_1 rfl)
theorem dX12_spotOf_25 : decode cX12_spotOf 25 = .ok (.iconst 1, 1) := dq_4 (zby_at (j := 9) zbX12_spotOf_1 rfl)
theorem dX12_spotOf_26 : decode cX12_spotOf 26 = .ok (.iand, 1) := dq_126 (zby_at (j := 10) zbX12_spotOf_1 rfl)
theorem dX12_spotOf_27 : decode cX12_spotOf 27 = .ok (.iadd, 1) := dq_96 (zby_at (j := 11) zbX12_spotOf_1 rfl)
theorem dX12_spotOf_28 : decode cX12_spotOf 28 = .ok (.istore_n 2, 1) := dq_61 (zby_at (j := 12) zbX12_spotOf_1 rfl)
theorem dX12_spotOf_29 : decode cX12_spotOf 29 = .ok (.iinc 3 1, 3) := dq_132 (zby_at (j := 13) zbX12_spotOf_1 rfl) (zby_at (j := 14) zbX12_spotOf_1 rfl) (zby_at (j := 15) zbX12_spotOf_1 rfl) rfl
theorem zbX12_spotOf_2 : zby cX12_spotOf 32 20 = [167, 255, 228, 28, 172] := by decide +kernel
theorem dX12_spotOf_32 : decode cX12_spotOf 32 = .ok (.goto (-28), 3) := dq_167 (zby_at (j := 0) zbX12_spotOf_2 rfl) (zby_at (j := 1) zbX12_spotOf_2 rfl) (zby_at (j := 2) zbX12_spotOf_2 rfl) rfl
theorem dX12_spotOf_35 : decode cX12_spotOf 35 = .ok (.iload_n 2, 1) := dq_28 (zby_at (j := 3) zbX12_spotOf_2 rfl)
theorem dX12_spotOf_36 : decode cX12_spotOf 36 = .ok (.ireturn, 1) := dq_172 (zby_at (j := 4) zbX12_spotOf_2 rfl)
theorem zbX12_laysOut_0 : zby cX12_laysOut 0 20 = [3, 61, 28, 42, 182, 0, 104, 162, 0, 25, 42, 180, 0, 61, 42, 28, 182, 1, 113, 42] := by decide +kernel
theorem dX12_laysOut_0 : decode cX12_laysOut 0 = .ok (.iconst 0, 1) := dq_3 (zby_at (j := 0) zbX12_laysOut_0 rfl)
theorem dX12_laysOut_1 : decode cX12_laysOut 1 = .ok (.istore_n 2, 1) := dq_61 (zby_at (j := 1) zbX12_laysOut_0 rfl)
theorem dX12_laysOut_2 : decode cX12_laysOut 2 = .ok (.iload_n 2, 1) := dq_28 (zby_at (j := 2) zbX12_laysOut_0 rfl)
theorem dX12_laysOut_3 : decode cX12_laysOut 3 = .ok (.aload_n 0, 1) := dq_42 (zby_at (j := 3) zbX12_laysOut_0 rfl)
theorem dX12_laysOut_4 : decode cX12_laysOut 4 = .ok (.invokevirtual 104, 3) := dq_182 (zby_at (j := 4) zbX12_laysOut_0 rfl) (zby_at (j := 5) zbX12_laysOut_0 rfl) (zby_at (j := 6) zbX12_laysOut_0 rfl)
theorem dX12_laysOut_7 : decode cX12_laysOut 7 = .ok (.if_icmp .ge 25, 3) := dq_162 (zby_at (j := 7) zbX12_laysOut_0 rfl) (zby_at (j := 8) zbX12_laysOut_0 rfl) (zby_at (j := 9) zbX12_laysOut_0 rfl) rfl
theorem dX12_laysOut_10 : decode cX12_laysOut 10 = .ok (.aload_n 0, 1) := dq_42 (zby_at (j := 10) zbX12_laysOut_0 rfl)
theorem dX12_laysOut_11 : decode cX12_laysOut 11 = .ok (.getfield 61, 3) := dq_180 (zby_at (j := 11) zbX12_laysOut_0 rfl) (zby_at (j := 12) zbX12_laysOut_0 rfl) (zby_at (j := 13) zbX12_laysOut_0 rfl)
theorem dX12_laysOut_14 : decode cX12_laysOut 14 = .ok (.aload_n 0, 1) := dq_42 (zby_at (j := 14) zbX12_laysOut_0 rfl)
theorem dX12_laysOut_15 : decode cX12_laysOut 15 = .ok (.iload_n 2, 1) := dq_28 (zby_at (j := 15) zbX12_laysOut_0 rfl)
theorem zbX12_laysOut_1 : zby cX12_laysOut 16 20 = [182, 1, 113, 42, 27, 28, 182, 1, 58, 84, 132, 2, 1, 167, 255, 229, 177] := by decide +kernel
theorem dX12_laysOut_16 : decode cX12_laysOut 16 = .ok (.invokevirtual 369, 3) := dq_182 (zby_at (j := 0) zbX12_laysOut_1 rfl) (zby_at (j := 1) zbX12_laysOut_1 rfl) (zby_at (j := 2) zbX12_laysOut_1 rfl)
theorem dX12_laysOut_19 : decode cX12_laysOut 19 = .ok (.aload_n 0, 1) := dq_42 (zby_at (j := 3) zbX12_laysOut_1 rfl)
theorem dX12_laysOut_20 : decode cX12_laysOut 20 = .ok (.iload_n 1, 1) := dq_27 (zby_at (j := 4) zbX12_laysOut_1 rfl)
theorem dX12_laysOut_21 : decode cX12_laysOut 21 = .ok (.iload_n 2, 1) := dq_28 (zby_at (j := 5) zbX12_laysOut_1 rfl)
theorem dX12_laysOut_22 : decode cX12_laysOut 22 = .ok (.invokevirtual 314, 3) := dq_182 (zby_at (j := 6) zbX12_laysOut_1 rfl) (zby_at (j := 7) zbX12_laysOut_1 rfl) (zby_at (j := 8) zbX12_laysOut_1 rfl)
theorem dX12_laysOut_25 : decode cX12_laysOut 25 = .ok (.bastore, 1) := dq_84 (zby_at (j := 9) zbX12_laysOut_1 rfl)
theorem dX12_laysOut_26 : decode cX12_laysOut 26 = .ok (.iinc 2 1, 3) := dq_132 (zby_at (j := 10) zbX12_laysOut_1 rfl) (zby_at (j := 11) zbX12_laysOut_1 rfl) (zby_at (j := 12) zbX12_laysOut_1 rfl) rfl
theorem dX12_laysOut_29 : decode cX12_laysOut 29 = .ok (.goto (-27), 3) := dq_167 (zby_at (j := 13) zbX12_laysOut_1 rfl) (zby_at (j := 14) zbX12_laysOut_1 rfl) (zby_at (j := 15) zbX12_laysOut_1 rfl) rfl
theorem zbX12_laysOut_2 : zby cX12_laysOut 32 20 = [177] := by decide +kernel
theorem dX12_laysOut_32 : decode cX12_laysOut 32 = .ok (.return_, 1) := dq_177 (zby_at (j := 0) zbX12_laysOut_2 rfl)
theorem zbX12_isKnown_0 : zby cX12_isKnown 0 20 = [3, 62, 29, 42, 180, 1, 116, 162, 0, 69, 4, 54, 4, 3, 54, 5, 21, 5, 28, 162] := by decide +kernel
theorem dX12_isKnown_0 : decode cX12_isKnown 0 = .ok (.iconst 0, 1) := dq_3 (zby_at (j := 0) zbX12_isKnown_0 rfl)
theorem dX12_isKnown_1 : decode cX12_isKnown 1 = .ok (.istore_n 3, 1) := dq_62 (zby_at (j := 1) zbX12_isKnown_0 rfl)
theorem dX12_isKnown_2 : decode cX12_isKnown 2 = .ok (.iload_n 3, 1) := dq_29 (zby_at (j := 2) zbX12_isKnown_0 rfl)
theorem dX12_isKnown_3 : decode cX12_isKnown 3 = .ok (.aload_n 0, 1) := dq_42 (zby_at (j := 3) zbX12_isKnown_0 rfl)
theorem dX12_isKnown_4 : decode cX12_isKnown 4 = .ok (.getfield 372, 3) := dq_180 (zby_at (j := 4) zbX12_isKnown_0 rfl) (zby_at (j := 5) zbX12_isKnown_0 rfl) (zby_at (j := 6) zbX12_isKnown_0 rfl)
theorem dX12_isKnown_7 : decode cX12_isKnown 7 = .ok (.if_icmp .ge 69, 3) := dq_162 (zby_at (j := 7) zbX12_isKnown_0 rfl) (zby_at (j := 8) zbX12_isKnown_0 rfl) (zby_at (j := 9) zbX12_isKnown_0 rfl) rfl
theorem dX12_isKnown_10 : decode cX12_isKnown 10 = .ok (.iconst 1, 1) := dq_4 (zby_at (j := 10) zbX12_isKnown_0 rfl)
theorem dX12_isKnown_11 : decode cX12_isKnown 11 = .ok (.istore 4, 2) := dq_54 (zby_at (j := 11) zbX12_isKnown_0 rfl) (zby_at (j := 12) zbX12_isKnown_0 rfl)
theorem dX12_isKnown_13 : decode cX12_isKnown 13 = .ok (.iconst 0, 1) := dq_3 (zby_at (j := 13) zbX12_isKnown_0 rfl)
theorem dX12_isKnown_14 : decode cX12_isKnown 14 = .ok (.istore 5, 2) := dq_54 (zby_at (j := 14) zbX12_isKnown_0 rfl) (zby_at (j := 15) zbX12_isKnown_0 rfl)
theorem zbX12_isKnown_1 : zby cX12_isKnown 16 20 = [21, 5, 28, 162, 0, 44, 21, 4, 153, 0, 39, 42, 180, 0, 67, 28, 29, 104, 21, 5] := by decide +kernel
theorem dX12_isKnown_16 : decode cX12_isKnown 16 = .ok (.iload 5, 2) := dq_21 (zby_at (j := 0) zbX12_isKnown_1 rfl) (zby_at (j := 1) zbX12_isKnown_1 rfl)
theorem dX12_isKnown_18 : decode cX12_isKnown 18 = .ok (.iload_n 2, 1) := dq_28 (zby_at (j := 2) zbX12_isKnown_1 rfl)
theorem dX12_isKnown_19 : decode cX12_isKnown 19 = .ok (.if_icmp .ge 44, 3) := dq_162 (zby_at (j := 3) zbX12_isKnown_1 rfl) (zby_at (j := 4) zbX12_isKnown_1 rfl) (zby_at (j := 5) zbX12_isKnown_1 rfl) rfl
theorem dX12_isKnown_22 : decode cX12_isKnown 22 = .ok (.iload 4, 2) := dq_21 (zby_at (j := 6) zbX12_isKnown_1 rfl) (zby_at (j := 7) zbX12_isKnown_1 rfl)
theorem dX12_isKnown_24 : decode cX12_isKnown 24 = .ok (.ifCond .eq 39, 3) := dq_153 (zby_at (j := 8) zbX12_isKnown_1 rfl) (zby_at (j := 9) zbX12_isKnown_1 rfl) (zby_at (j := 10) zbX12_isKnown_1 rfl) rfl
theorem dX12_isKnown_27 : decode cX12_isKnown 27 = .ok (.aload_n 0, 1) := dq_42 (zby_at (j := 11) zbX12_isKnown_1 rfl)
theorem dX12_isKnown_28 : decode cX12_isKnown 28 = .ok (.getfield 67, 3) := dq_180 (zby_at (j := 12) zbX12_isKnown_1 rfl) (zby_at (j := 13) zbX12_isKnown_1 rfl) (zby_at (j := 14) zbX12_isKnown_1 rfl)
theorem dX12_isKnown_31 : decode cX12_isKnown 31 = .ok (.iload_n 2, 1) := dq_28 (zby_at (j := 15) zbX12_isKnown_1 rfl)
theorem zbX12_isKnown_2 : zby cX12_isKnown 32 20 = [29, 104, 21, 5, 96, 51, 42, 180, 0, 61, 27, 21, 5, 96, 51, 160, 0, 7, 4, 167] := by decide +kernel
theorem dX12_isKnown_32 : decode cX12_isKnown 32 = .ok (.iload_n 3, 1) := dq_29 (zby_at (j := 0) zbX12_isKnown_2 rfl)
theorem dX12_isKnown_33 : decode cX12_isKnown 33 = .ok (.imul, 1) := dq_104 (zby_at (j := 1) zbX12_isKnown_2 rfl)
theorem dX12_isKnown_34 : decode cX12_isKnown 34 = .ok (.iload 5, 2) := dq_21 (zby_at (j := 2) zbX12_isKnown_2 rfl) (zby_at (j := 3) zbX12_isKnown_2 rfl)
theorem dX12_isKnown_36 : decode cX12_isKnown 36 = .ok (.iadd, 1) := dq_96 (zby_at (j := 4) zbX12_isKnown_2 rfl)
theorem dX12_isKnown_37 : decode cX12_isKnown 37 = .ok (.baload, 1) := dq_51 (zby_at (j := 5) zbX12_isKnown_2 rfl)
theorem dX12_isKnown_38 : decode cX12_isKnown 38 = .ok (.aload_n 0, 1) := dq_42 (zby_at (j := 6) zbX12_isKnown_2 rfl)
theorem dX12_isKnown_39 : decode cX12_isKnown 39 = .ok (.getfield 61, 3) := dq_180 (zby_at (j := 7) zbX12_isKnown_2 rfl) (zby_at (j := 8) zbX12_isKnown_2 rfl) (zby_at (j := 9) zbX12_isKnown_2 rfl)
theorem dX12_isKnown_42 : decode cX12_isKnown 42 = .ok (.iload_n 1, 1) := dq_27 (zby_at (j := 10) zbX12_isKnown_2 rfl)
theorem dX12_isKnown_43 : decode cX12_isKnown 43 = .ok (.iload 5, 2) := dq_21 (zby_at (j := 11) zbX12_isKnown_2 rfl) (zby_at (j := 12) zbX12_isKnown_2 rfl)
theorem dX12_isKnown_45 : decode cX12_isKnown 45 = .ok (.iadd, 1) := dq_96 (zby_at (j := 13) zbX12_isKnown_2 rfl)
theorem dX12_isKnown_46 : decode cX12_isKnown 46 = .ok (.baload, 1) := dq_51 (zby_at (j := 14) zbX12_isKnown_2 rfl)
theorem dX12_isKnown_47 : decode cX12_isKnown 47 = .ok (.if_icmp .ne 7, 3) := dq_160 (zby_at (j := 15) zbX12_isKnown_2 rfl) (zby_at (j := 16) zbX12_isKnown_2 rfl) (zby_at (j := 17) zbX12_isKnown_2 rfl) rfl
theorem zbX12_isKnown_3 : zby cX12_isKnown 48 20 = [0, 7, 4, 167, 0, 4, 3, 54, 4, 132, 5, 1, 167, 255, 212, 21, 4, 153, 0, 5] := by decide +kernel
theorem dX12_isKnown_50 : decode cX12_isKnown 50 = .ok (.iconst 1, 1) := dq_4 (zby_at (j := 2) zbX12_isKnown_3 rfl)
theorem dX12_isKnown_51 : decode cX12_isKnown 51 = .ok (.goto 4, 3) := dq_167 (zby_at (j := 3) zbX12_isKnown_3 rfl) (zby_at (j := 4) zbX12_isKnown_3 rfl) (zby_at (j := 5) zbX12_isKnown_3 rfl) rfl
theorem dX12_isKnown_54 : decode cX12_isKnown 54 = .ok (.iconst 0, 1) := dq_3 (zby_at (j := 6) zbX12_isKnown_3 rfl)
theorem dX12_isKnown_55 : decode cX12_isKnown 55 = .ok (.istore 4, 2) := dq_54 (zby_at (j := 7) zbX12_isKnown_3 rfl) (zby_at (j := 8) zbX12_isKnown_3 rfl)
theorem dX12_isKnown_57 : decode cX12_isKnown 57 = .ok (.iinc 5 1, 3) := dq_132 (zby_at (j := 9) zbX12_isKnown_3 rfl) (zby_at (j := 10) zbX12_isKnown_3 rfl) (zby_at (j := 11) zbX12_isKnown_3 rfl) rfl
theorem dX12_isKnown_60 : decode cX12_isKnown 60 = .ok (.goto (-44), 3) := dq_167 (zby_at (j := 12) zbX12_isKnown_3 rfl) (zby_at (j := 13) zbX12_isKnown_3 rfl) (zby_at (j := 14) zbX12_isKnown_3 rfl) rfl
theorem dX12_isKnown_63 : decode cX12_isKnown 63 = .ok (.iload 4, 2) := dq_21 (zby_at (j := 15) zbX12_isKnown_3 rfl) (zby_at (j := 16) zbX12_isKnown_3 rfl)
theorem zbX12_isKnown_4 : zby cX12_isKnown 64 20 = [4, 153, 0, 5, 4, 172, 132, 3, 1, 167, 255, 185, 3, 172] := by decide +kernel
theorem dX12_isKnown_65 : decode cX12_isKnown 65 = .ok (.ifCond .eq 5, 3) := dq_153 (zby_at (j := 1) zbX12_isKnown_4 rfl) (zby_at (j := 2) zbX12_isKnown_4 rfl) (zby_at (j := 3) zbX12_isKnown_4 rfl) rfl
theorem dX12_isKnown_68 : decode cX12_isKnown 68 = .ok (.iconst 1, 1) := dq_4 (zby_at (j := 4) zbX12_isKnown_4 rfl)
theorem dX12_isKnown_69 : decode cX12_isKnown 69 = .ok (.ireturn, 1) := dq_172 (zby_at (j := 5) zbX12_isKnown_4 rfl)
theorem dX12_isKnown_70 : decode cX12_isKnown 70 = .ok (.iinc 3 1, 3) := dq_132 (zby_at (j := 6) zbX12_isKnown_4 rfl) (zby_at (j := 7) zbX12_isKnown_4 rfl) (zby_at (j := 8) zbX12_isKnown_4 rfl) rfl
theorem dX12_isKnown_73 : decode cX12_isKnown 73 = .ok (.goto (-71), 3) := dq_167 (zby_at (j := 9) zbX12_isKnown_4 rfl) (zby_at (j := 10) zbX12_isKnown_4 rfl) (zby_at (j := 11) zbX12_isKnown_4 rfl) rfl
theorem dX12_isKnown_76 : decode cX12_isKnown 76 = .ok (.iconst 0, 1) := dq_3 (zby_at (j := 12) zbX12_isKnown_4 rfl)
theorem dX12_isKnown_77 : decode cX12_isKnown 77 = .ok (.ireturn, 1) := dq_172 (zby_at (j := 13) zbX12_isKnown_4 rfl)
theorem zbX12_adds_0 : zby cX12_adds 0 20 = [42, 182, 0, 104, 27, 122, 61, 3, 62, 29, 42, 182, 0, 104, 162, 0, 111, 3, 54, 4] := by decide +kernel
theorem dX12_adds_0 : decode cX12_adds 0 = .ok (.aload_n 0, 1) := dq_42 (zby_at (j := 0) zbX12_adds_0 rfl)
theorem dX12_adds_1 : decode cX12_adds 1 = .ok (.invokevirtual 104, 3) := dq_182 (zby_at (j := 1) zbX12_adds_0 rfl) (zby_at (j := 2) zbX12_adds_0 rfl) (zby_at (j := 3) zbX12_adds_0 rfl)
theorem dX12_adds_4 : decode cX12_adds 4 = .ok (.iload_n 1, 1) := dq_27 (zby_at (j := 4) zbX12_adds_0 rfl)
theorem dX12_adds_5 : decode cX12_adds 5 = .ok (.ishr, 1) := dq_122 (zby_at (j := 5) zbX12_adds_0 rfl)
theorem dX12_adds_6 : decode cX12_adds 6 = .ok (.istore_n 2, 1) := dq_61 (zby_at (j := 6) zbX12_adds_0 rfl)
theorem dX12_adds_7 : decode cX12_adds 7 = .ok (.iconst 0, 1) := dq_3 (zby_at (j := 7) zbX12_adds_0 rfl)
theorem dX12_adds_8 : decode cX12_adds 8 = .ok (.istore_n 3, 1) := dq_62 (zby_at (j := 8) zbX12_adds_0 rfl)
theorem dX12_adds_9 : decode cX12_adds 9 = .ok (.iload_n 3, 1) := dq_29 (zby_at (j := 9) zbX12_adds_0 rfl)
theorem dX12_adds_10 : decode cX12_adds 10 = .ok (.aload_n 0, 1) := dq_42 (zby_at (j := 10) zbX12_adds_0 rfl)
theorem dX12_adds_11 : decode cX12_adds 11 = .ok (.invokevirtual 104, 3) := dq_182 (zby_at (j := 11) zbX12_adds_0 rfl) (zby_at (j := 12) zbX12_adds_0 rfl) (zby_at (j := 13) zbX12_adds_0 rfl)
theorem dX12_adds_14 : decode cX12_adds 14 = .ok (.if_icmp .ge 111, 3) := dq_162 (zby_at (j := 14) zbX12_adds_0 rfl) (zby_at (j := 15) zbX12_adds_0 rfl) (zby_at (j := 16) zbX12_adds_0 rfl) rfl
theorem zbX12_adds_1 : zby cX12_adds 16 20 = [111, 3, 54, 4, 28, 5, 108, 54, 5, 21, 5, 28, 162, 0, 25, 21, 4, 154, 0, 20] := by decide +kernel
theorem dX12_adds_17 : decode cX12_adds 17 = .ok (.iconst 0, 1) := dq_3 (zby_at (j := 1) zbX12_adds_1 rfl)
theorem dX12_adds_18 : decode cX12_adds 18 = .ok (.istore 4, 2) := dq_54 (zby_at (j := 2) zbX12_adds_1 rfl) (zby_at (j := 3) zbX12_adds_1 rfl)
theorem dX12_adds_20 : decode cX12_adds 20 = .ok (.iload_n 2, 1) := dq_28 (zby_at (j := 4) zbX12_adds_1 rfl)
theorem dX12_adds_21 : decode cX12_adds 21 = .ok (.iconst 2, 1) := dq_5 (zby_at (j := 5) zbX12_adds_1 rfl)
theorem dX12_adds_22 : decode cX12_adds 22 = .ok (.idiv, 1) := dq_108 (zby_at (j := 6) zbX12_adds_1 rfl)
theorem dX12_adds_23 : decode cX12_adds 23 = .ok (.istore 5, 2) := dq_54 (zby_at (j := 7) zbX12_adds_1 rfl) (zby_at (j := 8) zbX12_adds_1 rfl)
theorem dX12_adds_25 : decode cX12_adds 25 = .ok (.iload 5, 2) := dq_21 (zby_at (j := 9) zbX12_adds_1 rfl) (zby_at (j := 10) zbX12_adds_1 rfl)
theorem dX12_adds_27 : decode cX12_adds 27 = .ok (.iload_n 2, 1) := dq_28 (zby_at (j := 11) zbX12_adds_1 rfl)
theorem dX12_adds_28 : decode cX12_adds 28 = .ok (.if_icmp .ge 25, 3) := dq_162 (zby_at (j := 12) zbX12_adds_1 rfl) (zby_at (j := 13) zbX12_adds_1 rfl) (zby_at (j := 14) zbX12_adds_1 rfl) rfl
theorem dX12_adds_31 : decode cX12_adds 31 = .ok (.iload 4, 2) := dq_21 (zby_at (j := 15) zbX12_adds_1 rfl) (zby_at (j := 16) zbX12_adds_1 rfl)
theorem zbX12_adds_2 : zby cX12_adds 32 20 = [4, 154, 0, 20, 42, 180, 0, 61, 29, 21, 5, 96, 51, 54, 4, 132, 5, 1, 167, 255] := by decide +kernel
theorem dX12_adds_33 : decode cX12_adds 33 = .ok (.ifCond .ne 20, 3) := dq_154 (zby_at (j := 1) zbX12_adds_2 rfl) (zby_at (j := 2) zbX12_adds_2 rfl) (zby_at (j := 3) zbX12_adds_2 rfl) rfl
theorem dX12_adds_36 : decode cX12_adds 36 = .ok (.aload_n 0, 1) := dq_42 (zby_at (j := 4) zbX12_adds_2 rfl)
theorem dX12_adds_37 : decode cX12_adds 37 = .ok (.getfield 61, 3) := dq_180 (zby_at (j := 5) zbX12_adds_2 rfl) (zby_at (j := 6) zbX12_adds_2 rfl) (zby_at (j := 7) zbX12_adds_2 rfl)
theorem dX12_adds_40 : decode cX12_adds 40 = .ok (.iload_n 3, 1) := dq_29 (zby_at (j := 8) zbX12_adds_2 rfl)
theorem dX12_adds_41 : decode cX12_adds 41 = .ok (.iload 5, 2) := dq_21 (zby_at (j := 9) zbX12_adds_2 rfl) (zby_at (j := 10) zbX12_adds_2 rfl)
theorem dX12_adds_43 : decode cX12_adds 43 = .ok (.iadd, 1) := dq_96 (zby_at (j := 11) zbX12_adds_2 rfl)
theorem dX12_adds_44 : decode cX12_adds 44 = .ok (.baload, 1) := dq_51 (zby_at (j := 12) zbX12_adds_2 rfl)
theorem dX12_adds_45 : decode cX12_adds 45 = .ok (.istore 4, 2) := dq_54 (zby_at (j := 13) zbX12_adds_2 rfl) (zby_at (j := 14) zbX12_adds_2 rfl)
theorem dX12_adds_47 : decode cX12_adds 47 = .ok (.iinc 5 1, 3) := dq_132 (zby_at (j := 15) zbX12_adds_2 rfl) (zby_at (j := 16) zbX12_adds_2 rfl) (zby_at (j := 17) zbX12_adds_2 rfl) rfl
theorem zbX12_adds_3 : zby cX12_adds 48 20 = [5, 1, 167, 255, 231, 21, 4, 153, 0, 63, 42, 29, 28, 182, 1, 119, 153, 0, 6, 167] := by decide +kernel
theorem dX12_adds_50 : decode cX12_adds 50 = .ok (.goto (-25), 3) := dq_167 (zby_at (j := 2) zbX12_adds_3 rfl) (zby_at (j := 3) zbX12_adds_3 rfl) (zby_at (j := 4) zbX12_adds_3 rfl) rfl
theorem dX12_adds_53 : decode cX12_adds 53 = .ok (.iload 4, 2) := dq_21 (zby_at (j := 5) zbX12_adds_3 rfl) (zby_at (j := 6) zbX12_adds_3 rfl)
theorem dX12_adds_55 : decode cX12_adds 55 = .ok (.ifCond .eq 63, 3) := dq_153 (zby_at (j := 7) zbX12_adds_3 rfl) (zby_at (j := 8) zbX12_adds_3 rfl) (zby_at (j := 9) zbX12_adds_3 rfl) rfl
theorem dX12_adds_58 : decode cX12_adds 58 = .ok (.aload_n 0, 1) := dq_42 (zby_at (j := 10) zbX12_adds_3 rfl)
theorem dX12_adds_59 : decode cX12_adds 59 = .ok (.iload_n 3, 1) := dq_29 (zby_at (j := 11) zbX12_adds_3 rfl)
theorem dX12_adds_60 : decode cX12_adds 60 = .ok (.iload_n 2, 1) := dq_28 (zby_at (j := 12) zbX12_adds_3 rfl)
theorem dX12_adds_61 : decode cX12_adds 61 = .ok (.invokevirtual 375, 3) := dq_182 (zby_at (j := 13) zbX12_adds_3 rfl) (zby_at (j := 14) zbX12_adds_3 rfl) (zby_at (j := 15) zbX12_adds_3 rfl)
theorem zbX12_adds_4 : zby cX12_adds 64 20 = [153, 0, 6, 167, 0, 51, 3, 54, 5, 21, 5, 28, 162, 0, 32, 42, 180, 0, 67, 28] := by decide +kernel
theorem dX12_adds_64 : decode cX12_adds 64 = .ok (.ifCond .eq 6, 3) := dq_153 (zby_at (j := 0) zbX12_adds_4 rfl) (zby_at (j := 1) zbX12_adds_4 rfl) (zby_at (j := 2) zbX12_adds_4 rfl) rfl
theorem dX12_adds_67 : decode cX12_adds 67 = .ok (.goto 51, 3) := dq_167 (zby_at (j := 3) zbX12_adds_4 rfl) (zby_at (j := 4) zbX12_adds_4 rfl) (zby_at (j := 5) zbX12_adds_4 rfl) rfl
theorem dX12_adds_70 : decode cX12_adds 70 = .ok (.iconst 0, 1) := dq_3 (zby_at (j := 6) zbX12_adds_4 rfl)
theorem dX12_adds_71 : decode cX12_adds 71 = .ok (.istore 5, 2) := dq_54 (zby_at (j := 7) zbX12_adds_4 rfl) (zby_at (j := 8) zbX12_adds_4 rfl)
theorem dX12_adds_73 : decode cX12_adds 73 = .ok (.iload 5, 2) := dq_21 (zby_at (j := 9) zbX12_adds_4 rfl) (zby_at (j := 10) zbX12_adds_4 rfl)
theorem dX12_adds_75 : decode cX12_adds 75 = .ok (.iload_n 2, 1) := dq_28 (zby_at (j := 11) zbX12_adds_4 rfl)
theorem dX12_adds_76 : decode cX12_adds 76 = .ok (.if_icmp .ge 32, 3) := dq_162 (zby_at (j := 12) zbX12_adds_4 rfl) (zby_at (j := 13) zbX12_adds_4 rfl) (zby_at (j := 14) zbX12_adds_4 rfl) rfl
theorem dX12_adds_79 : decode cX12_adds 79 = .ok (.aload_n 0, 1) := dq_42 (zby_at (j := 15) zbX12_adds_4 rfl)
theorem zbX12_adds_5 : zby cX12_adds 80 20 = [180, 0, 67, 28, 42, 180, 1, 116, 104, 21, 5, 96, 42, 180, 0, 61, 29, 21, 5, 96] := by decide +kernel
theorem dX12_adds_80 : decode cX12_adds 80 = .ok (.getfield 67, 3) := dq_180 (zby_at (j := 0) zbX12_adds_5 rfl) (zby_at (j := 1) zbX12_adds_5 rfl) (zby_at (j := 2) zbX12_adds_5 rfl)
theorem dX12_adds_83 : decode cX12_adds 83 = .ok (.iload_n 2, 1) := dq_28 (zby_at (j := 3) zbX12_adds_5 rfl)
theorem dX12_adds_84 : decode cX12_adds 84 = .ok (.aload_n 0, 1) := dq_42 (zby_at (j := 4) zbX12_adds_5 rfl)
theorem dX12_adds_85 : decode cX12_adds 85 = .ok (.getfield 372, 3) := dq_180 (zby_at (j := 5) zbX12_adds_5 rfl) (zby_at (j := 6) zbX12_adds_5 rfl) (zby_at (j := 7) zbX12_adds_5 rfl)
theorem dX12_adds_88 : decode cX12_adds 88 = .ok (.imul, 1) := dq_104 (zby_at (j := 8) zbX12_adds_5 rfl)
theorem dX12_adds_89 : decode cX12_adds 89 = .ok (.iload 5, 2) := dq_21 (zby_at (j := 9) zbX12_adds_5 rfl) (zby_at (j := 10) zbX12_adds_5 rfl)
theorem dX12_adds_91 : decode cX12_adds 91 = .ok (.iadd, 1) := dq_96 (zby_at (j := 11) zbX12_adds_5 rfl)
theorem dX12_adds_92 : decode cX12_adds 92 = .ok (.aload_n 0, 1) := dq_42 (zby_at (j := 12) zbX12_adds_5 rfl)
theorem dX12_adds_93 : decode cX12_adds 93 = .ok (.getfield 61, 3) := dq_180 (zby_at (j := 13) zbX12_adds_5 rfl) (zby_at (j := 14) zbX12_adds_5 rfl) (zby_at (j := 15) zbX12_adds_5 rfl)
theorem zbX12_adds_6 : zby cX12_adds 96 20 = [29, 21, 5, 96, 51, 84, 132, 5, 1, 167, 255, 224, 42, 89, 180, 1, 116, 4, 96, 181] := by decide +kernel
theorem dX12_adds_96 : decode cX12_adds 96 = .ok (.iload_n 3, 1) := dq_29 (zby_at (j := 0) zbX12_adds_6 rfl)
theorem dX12_adds_97 : decode cX12_adds 97 = .ok (.iload 5, 2) := dq_21 (zby_at (j := 1) zbX12_adds_6 rfl) (zby_at (j := 2) zbX12_adds_6 rfl)
theorem dX12_adds_99 : decode cX12_adds 99 = .ok (.iadd, 1) := dq_96 (zby_at (j := 3) zbX12_adds_6 rfl)
theorem dX12_adds_100 : decode cX12_adds 100 = .ok (.baload, 1) := dq_51 (zby_at (j := 4) zbX12_adds_6 rfl)
theorem dX12_adds_101 : decode cX12_adds 101 = .ok (.bastore, 1) := dq_84 (zby_at (j := 5) zbX12_adds_6 rfl)
theorem dX12_adds_102 : decode cX12_adds 102 = .ok (.iinc 5 1, 3) := dq_132 (zby_at (j := 6) zbX12_adds_6 rfl) (zby_at (j := 7) zbX12_adds_6 rfl) (zby_at (j := 8) zbX12_adds_6 rfl) rfl
theorem dX12_adds_105 : decode cX12_adds 105 = .ok (.goto (-32), 3) := dq_167 (zby_at (j := 9) zbX12_adds_6 rfl) (zby_at (j := 10) zbX12_adds_6 rfl) (zby_at (j := 11) zbX12_adds_6 rfl) rfl
theorem dX12_adds_108 : decode cX12_adds 108 = .ok (.aload_n 0, 1) := dq_42 (zby_at (j := 12) zbX12_adds_6 rfl)
theorem dX12_adds_109 : decode cX12_adds 109 = .ok (.dup, 1) := dq_89 (zby_at (j := 13) zbX12_adds_6 rfl)
theorem dX12_adds_110 : decode cX12_adds 110 = .ok (.getfield 372, 3) := dq_180 (zby_at (j := 14) zbX12_adds_6 rfl) (zby_at (j := 15) zbX12_adds_6 rfl) (zby_at (j := 16) zbX12_adds_6 rfl)
theorem zbX12_adds_7 : zby cX12_adds 112 20 = [116, 4, 96, 181, 1, 116, 29, 28, 96, 62, 167, 255, 143, 177] := by decide +kernel
theorem dX12_adds_113 : decode cX12_adds 113 = .ok (.iconst 1, 1) := dq_4 (zby_at (j := 1) zbX12_adds_7 rfl)
theorem dX12_adds_114 : decode cX12_adds 114 = .ok (.iadd, 1) := dq_96 (zby_at (j := 2) zbX12_adds_7 rfl)
theorem dX12_adds_115 : decode cX12_adds 115 = .ok (.putfield 372, 3) := dq_181 (zby_at (j := 3) zbX12_adds_7 rfl) (zby_at (j := 4) zbX12_adds_7 rfl) (zby_at (j := 5) zbX12_adds_7 rfl)
theorem dX12_adds_118 : decode cX12_adds 118 = .ok (.iload_n 3, 1) := dq_29 (zby_at (j := 6) zbX12_adds_7 rfl)
theorem dX12_adds_119 : decode cX12_adds 119 = .ok (.iload_n 2, 1) := dq_28 (zby_at (j := 7) zbX12_adds_7 rfl)
theorem dX12_adds_120 : decode cX12_adds 120 = .ok (.iadd, 1) := dq_96 (zby_at (j := 8) zbX12_adds_7 rfl)
theorem dX12_adds_121 : decode cX12_adds 121 = .ok (.istore_n 3, 1) := dq_62 (zby_at (j := 9) zbX12_adds_7 rfl)
theorem dX12_adds_122 : decode cX12_adds 122 = .ok (.goto (-113), 3) := dq_167 (zby_at (j := 10) zbX12_adds_7 rfl) (zby_at (j := 11) zbX12_adds_7 rfl) (zby_at (j := 12) zbX12_adds_7 rfl) rfl
theorem dX12_adds_125 : decode cX12_adds 125 = .ok (.return_, 1) := dq_177 (zby_at (j := 13) zbX12_adds_7 rfl)
theorem zbX12_wideOf_0 : zby cX12_wideOf 0 20 = [42, 27, 182, 1, 122, 42, 3, 181, 1, 116, 42, 28, 182, 1, 125, 42, 180, 1, 116, 172] := by decide +kernel
theorem dX12_wideOf_0 : decode cX12_wideOf 0 = .ok (.aload_n 0, 1) := dq_42 (zby_at (j := 0) zbX12_wideOf_0 rfl)
theorem dX12_wideOf_1 : decode cX12_wideOf 1 = .ok (.iload_n 1, 1) := dq_27 (zby_at (j := 1) zbX12_wideOf_0 rfl)
theorem dX12_wideOf_2 : decode cX12_wideOf 2 = .ok (.invokevirtual 378, 3) := dq_182 (zby_at (j := 2) zbX12_wideOf_0 rfl) (zby_at (j := 3) zbX12_wideOf_0 rfl) (zby_at (j := 4) zbX12_wideOf_0 rfl)
theorem dX12_wideOf_5 : decode cX12_wideOf 5 = .ok (.aload_n 0, 1) := dq_42 (zby_at (j := 5) zbX12_wideOf_0 rfl)
theorem dX12_wideOf_6 : decode cX12_wideOf 6 = .ok (.iconst 0, 1) := dq_3 (zby_at (j := 6) zbX12_wideOf_0 rfl)
theorem dX12_wideOf_7 : decode cX12_wideOf 7 = .ok (.putfield 372, 3) := dq_181 (zby_at (j := 7) zbX12_wideOf_0 rfl) (zby_at (j := 8) zbX12_wideOf_0 rfl) (zby_at (j := 9) zbX12_wideOf_0 rfl)
theorem dX12_wideOf_10 : decode cX12_wideOf 10 = .ok (.aload_n 0, 1) := dq_42 (zby_at (j := 10) zbX12_wideOf_0 rfl)
theorem dX12_wideOf_11 : decode cX12_wideOf 11 = .ok (.iload_n 2, 1) := dq_28 (zby_at (j := 11) zbX12_wideOf_0 rfl)
theorem dX12_wideOf_12 : decode cX12_wideOf 12 = .ok (.invokevirtual 381, 3) := dq_182 (zby_at (j := 12) zbX12_wideOf_0 rfl) (zby_at (j := 13) zbX12_wideOf_0 rfl) (zby_at (j := 14) zbX12_wideOf_0 rfl)
theorem dX12_wideOf_15 : decode cX12_wideOf 15 = .ok (.aload_n 0, 1) := dq_42 (zby_at (j := 15) zbX12_wideOf_0 rfl)
theorem zbX12_wideOf_1 : zby cX12_wideOf 16 20 = [180, 1, 116, 172] := by decide +kernel
theorem dX12_wideOf_16 : decode cX12_wideOf 16 = .ok (.getfield 372, 3) := dq_180 (zby_at (j := 0) zbX12_wideOf_1 rfl) (zby_at (j := 1) zbX12_wideOf_1 rfl) (zby_at (j := 2) zbX12_wideOf_1 rfl)
theorem dX12_wideOf_19 : decode cX12_wideOf 19 = .ok (.ireturn, 1) := dq_172 (zby_at (j := 3) zbX12_wideOf_1 rfl)
theorem zbX12_nodesOf_0 : zby cX12_nodesOf 0 20 = [3, 61, 3, 62, 29, 42, 180, 0, 9, 3, 46, 162, 0, 18, 28, 42, 27, 29, 182, 1] := by decide +kernel
theorem dX12_nodesOf_0 : decode cX12_nodesOf 0 = .ok (.iconst 0, 1) := dq_3 (zby_at (j := 0) zbX12_nodesOf_0 rfl)
theorem dX12_nodesOf_1 : decode cX12_nodesOf 1 = .ok (.istore_n 2, 1) := dq_61 (zby_at (j := 1) zbX12_nodesOf_0 rfl)
theorem dX12_nodesOf_2 : decode cX12_nodesOf 2 = .ok (.iconst 0, 1) := dq_3 (zby_at (j := 2) zbX12_nodesOf_0 rfl)
theorem dX12_nodesOf_3 : decode cX12_nodesOf 3 = .ok (.istore_n 3, 1) := dq_62 (zby_at (j := 3) zbX12_nodesOf_0 rfl)
theorem dX12_nodesOf_4 : decode cX12_nodesOf 4 = .ok (.iload_n 3, 1) := dq_29 (zby_at (j := 4) zbX12_nodesOf_0 rfl)
theorem dX12_nodesOf_5 : decode cX12_nodesOf 5 = .ok (.aload_n 0, 1) := dq_42 (zby_at (j := 5) zbX12_nodesOf_0 rfl)
theorem dX12_nodesOf_6 : decode cX12_nodesOf 6 = .ok (.getfield 9, 3) := dq_180 (zby_at (j := 6) zbX12_nodesOf_0 rfl) (zby_at (j := 7) zbX12_nodesOf_0 rfl) (zby_at (j := 8) zbX12_nodesOf_0 rfl)
theorem dX12_nodesOf_9 : decode cX12_nodesOf 9 = .ok (.iconst 0, 1) := dq_3 (zby_at (j := 9) zbX12_nodesOf_0 rfl)
theorem dX12_nodesOf_10 : decode cX12_nodesOf 10 = .ok (.iaload, 1) := dq_46 (zby_at (j := 10) zbX12_nodesOf_0 rfl)
theorem dX12_nodesOf_11 : decode cX12_nodesOf 11 = .ok (.if_icmp .ge 18, 3) := dq_162 (zby_at (j := 11) zbX12_nodesOf_0 rfl) (zby_at (j := 12) zbX12_nodesOf_0 rfl) (zby_at (j := 13) zbX12_nodesOf_0 rfl) rfl
theorem dX12_nodesOf_14 : decode cX12_nodesOf 14 = .ok (.iload_n 2, 1) := dq_28 (zby_at (j := 14) zbX12_nodesOf_0 rfl)
theorem dX12_nodesOf_15 : decode cX12_nodesOf 15 = .ok (.aload_n 0, 1) := dq_42 (zby_at (j := 15) zbX12_nodesOf_0 rfl)
theorem zbX12_nodesOf_1 : zby cX12_nodesOf 16 20 = [27, 29, 182, 1, 128, 96, 61, 132, 3, 1, 167, 255, 234, 28, 172] := by decide +kernel
theorem dX12_nodesOf_16 : decode cX12_nodesOf 16 = .ok (.iload_n 1, 1) := dq_27 (zby_at (j := 0) zbX12_nodesOf_1 rfl)
theorem dX12_nodesOf_17 : decode cX12_nodesOf 17 = .ok (.iload_n 3, 1) := dq_29 (zby_at (j := 1) zbX12_nodesOf_1 rfl)
theorem dX12_nodesOf_18 : decode cX12_nodesOf 18 = .ok (.invokevirtual 384, 3) := dq_182 (zby_at (j := 2) zbX12_nodesOf_1 rfl) (zby_at (j := 3) zbX12_nodesOf_1 rfl) (zby_at (j := 4) zbX12_nodesOf_1 rfl)
theorem dX12_nodesOf_21 : decode cX12_nodesOf 21 = .ok (.iadd, 1) := dq_96 (zby_at (j := 5) zbX12_nodesOf_1 rfl)
theorem dX12_nodesOf_22 : decode cX12_nodesOf 22 = .ok (.istore_n 2, 1) := dq_61 (zby_at (j := 6) zbX12_nodesOf_1 rfl)
theorem dX12_nodesOf_23 : decode cX12_nodesOf 23 = .ok (.iinc 3 1, 3) := dq_132 (zby_at (j := 7) zbX12_nodesOf_1 rfl) (zby_at (j := 8) zbX12_nodesOf_1 rfl) (zby_at (j := 9) zbX12_nodesOf_1 rfl) rfl
theorem dX12_nodesOf_26 : decode cX12_nodesOf 26 = .ok (.goto (-22), 3) := dq_167 (zby_at (j := 10) zbX12_nodesOf_1 rfl) (zby_at (j := 11) zbX12_nodesOf_1 rfl) (zby_at (j := 12) zbX12_nodesOf_1 rfl) rfl
theorem dX12_nodesOf_29 : decode cX12_nodesOf 29 = .ok (.iload_n 2, 1) := dq_28 (zby_at (j := 13) zbX12_nodesOf_1 rfl)
theorem dX12_nodesOf_30 : decode cX12_nodesOf 30 = .ok (.ireturn, 1) := dq_172 (zby_at (j := 14) zbX12_nodesOf_1 rfl)
theorem zbX12_nodes_0 : zby cX12_nodes 0 20 = [42, 27, 182, 1, 65, 154, 0, 6, 16, 254, 172, 42, 182, 1, 131, 42, 27, 182, 1, 134] := by decide +kernel
theorem dX12_nodes_0 : decode cX12_nodes 0 = .ok (.aload_n 0, 1) := dq_42 (zby_at (j := 0) zbX12_nodes_0 rfl)
theorem dX12_nodes_1 : decode cX12_nodes 1 = .ok (.iload_n 1, 1) := dq_27 (zby_at (j := 1) zbX12_nodes_0 rfl)
theorem dX12_nodes_2 : decode cX12_nodes 2 = .ok (.invokevirtual 321, 3) := dq_182 (zby_at (j := 2) zbX12_nodes_0 rfl) (zby_at (j := 3) zbX12_nodes_0 rfl) (zby_at (j := 4) zbX12_nodes_0 rfl)
theorem dX12_nodes_5 : decode cX12_nodes 5 = .ok (.ifCond .ne 6, 3) := dq_154 (zby_at (j := 5) zbX12_nodes_0 rfl) (zby_at (j := 6) zbX12_nodes_0 rfl) (zby_at (j := 7) zbX12_nodes_0 rfl) rfl
theorem dX12_nodes_8 : decode cX12_nodes 8 = .ok (.bipush (-2), 2) := dq_16 (zby_at (j := 8) zbX12_nodes_0 rfl) (zby_at (j := 9) zbX12_nodes_0 rfl) rfl
theorem dX12_nodes_10 : decode cX12_nodes 10 = .ok (.ireturn, 1) := dq_172 (zby_at (j := 10) zbX12_nodes_0 rfl)
theorem dX12_nodes_11 : decode cX12_nodes 11 = .ok (.aload_n 0, 1) := dq_42 (zby_at (j := 11) zbX12_nodes_0 rfl)
theorem dX12_nodes_12 : decode cX12_nodes 12 = .ok (.invokevirtual 387, 3) := dq_182 (zby_at (j := 12) zbX12_nodes_0 rfl) (zby_at (j := 13) zbX12_nodes_0 rfl) (zby_at (j := 14) zbX12_nodes_0 rfl)
theorem dX12_nodes_15 : decode cX12_nodes 15 = .ok (.aload_n 0, 1) := dq_42 (zby_at (j := 15) zbX12_nodes_0 rfl)
theorem zbX12_nodes_1 : zby cX12_nodes 16 20 = [27, 182, 1, 134, 172] := by decide +kernel
theorem dX12_nodes_16 : decode cX12_nodes 16 = .ok (.iload_n 1, 1) := dq_27 (zby_at (j := 0) zbX12_nodes_1 rfl)
theorem dX12_nodes_17 : decode cX12_nodes 17 = .ok (.invokevirtual 390, 3) := dq_182 (zby_at (j := 1) zbX12_nodes_1 rfl) (zby_at (j := 2) zbX12_nodes_1 rfl) (zby_at (j := 3) zbX12_nodes_1 rfl)
theorem dX12_nodes_20 : decode cX12_nodes 20 = .ok (.ireturn, 1) := dq_172 (zby_at (j := 4) zbX12_nodes_1 rfl)
theorem zbX12_netOf_0 : zby cX12_netOf 0 20 = [42, 182, 1, 131, 3, 60, 3, 61, 28, 42, 180, 0, 9, 3, 46, 162, 0, 45, 42, 3] := by decide +kernel
theorem dX12_netOf_0 : decode cX12_netOf 0 = .ok (.aload_n 0, 1) := dq_42 (zby_at (j := 0) zbX12_netOf_0 rfl)
theorem dX12_netOf_1 : decode cX12_netOf 1 = .ok (.invokevirtual 387, 3) := dq_182 (zby_at (j := 1) zbX12_netOf_0 rfl) (zby_at (j := 2) zbX12_netOf_0 rfl) (zby_at (j := 3) zbX12_netOf_0 rfl)
theorem dX12_netOf_4 : decode cX12_netOf 4 = .ok (.iconst 0, 1) := dq_3 (zby_at (j := 4) zbX12_netOf_0 rfl)
theorem dX12_netOf_5 : decode cX12_netOf 5 = .ok (.istore_n 1, 1) := dq_60 (zby_at (j := 5) zbX12_netOf_0 rfl)
theorem dX12_netOf_6 : decode cX12_netOf 6 = .ok (.iconst 0, 1) := dq_3 (zby_at (j := 6) zbX12_netOf_0 rfl)
theorem dX12_netOf_7 : decode cX12_netOf 7 = .ok (.istore_n 2, 1) := dq_61 (zby_at (j := 7) zbX12_netOf_0 rfl)
theorem dX12_netOf_8 : decode cX12_netOf 8 = .ok (.iload_n 2, 1) := dq_28 (zby_at (j := 8) zbX12_netOf_0 rfl)
theorem dX12_netOf_9 : decode cX12_netOf 9 = .ok (.aload_n 0, 1) := dq_42 (zby_at (j := 9) zbX12_netOf_0 rfl)
theorem dX12_netOf_10 : decode cX12_netOf 10 = .ok (.getfield 9, 3) := dq_180 (zby_at (j := 10) zbX12_netOf_0 rfl) (zby_at (j := 11) zbX12_netOf_0 rfl) (zby_at (j := 12) zbX12_netOf_0 rfl)
theorem dX12_netOf_13 : decode cX12_netOf 13 = .ok (.iconst 0, 1) := dq_3 (zby_at (j := 13) zbX12_netOf_0 rfl)
theorem dX12_netOf_14 : decode cX12_netOf 14 = .ok (.iaload, 1) := dq_46 (zby_at (j := 14) zbX12_netOf_0 rfl)
theorem dX12_netOf_15 : decode cX12_netOf 15 = .ok (.if_icmp .ge 45, 3) := dq_162 (zby_at (j := 15) zbX12_netOf_0 rfl) (zby_at (j := 16) zbX12_netOf_0 rfl) (zby_at (j := 17) zbX12_netOf_0 rfl) rfl
theorem zbX12_netOf_1 : zby cX12_netOf 16 20 = [0, 45, 42, 3, 181, 1, 116, 3, 62, 29, 16, 10, 162, 0, 19, 42, 29, 182, 1, 122] := by decide +kernel
theorem dX12_netOf_18 : decode cX12_netOf 18 = .ok (.aload_n 0, 1) := dq_42 (zby_at (j := 2) zbX12_netOf_1 rfl)
theorem dX12_netOf_19 : decode cX12_netOf 19 = .ok (.iconst 0, 1) := dq_3 (zby_at (j := 3) zbX12_netOf_1 rfl)
theorem dX12_netOf_20 : decode cX12_netOf 20 = .ok (.putfield 372, 3) := dq_181 (zby_at (j := 4) zbX12_netOf_1 rfl) (zby_at (j := 5) zbX12_netOf_1 rfl) (zby_at (j := 6) zbX12_netOf_1 rfl)
theorem dX12_netOf_23 : decode cX12_netOf 23 = .ok (.iconst 0, 1) := dq_3 (zby_at (j := 7) zbX12_netOf_1 rfl)
theorem dX12_netOf_24 : decode cX12_netOf 24 = .ok (.istore_n 3, 1) := dq_62 (zby_at (j := 8) zbX12_netOf_1 rfl)
theorem dX12_netOf_25 : decode cX12_netOf 25 = .ok (.iload_n 3, 1) := dq_29 (zby_at (j := 9) zbX12_netOf_1 rfl)
theorem dX12_netOf_26 : decode cX12_netOf 26 = .ok (.bipush 10, 2) := dq_16 (zby_at (j := 10) zbX12_netOf_1 rfl) (zby_at (j := 11) zbX12_netOf_1 rfl) rfl
theorem dX12_netOf_28 : decode cX12_netOf 28 = .ok (.if_icmp .ge 19, 3) := dq_162 (zby_at (j := 12) zbX12_netOf_1 rfl) (zby_at (j := 13) zbX12_netOf_1 rfl) (zby_at (j := 14) zbX12_netOf_1 rfl) rfl
theorem dX12_netOf_31 : decode cX12_netOf 31 = .ok (.aload_n 0, 1) := dq_42 (zby_at (j := 15) zbX12_netOf_1 rfl)
theorem zbX12_netOf_2 : zby cX12_netOf 32 20 = [29, 182, 1, 122, 42, 28, 182, 1, 125, 132, 3, 1, 167, 255, 237, 27, 42, 180, 1, 116] := by decide +kernel
theorem dX12_netOf_32 : decode cX12_netOf 32 = .ok (.iload_n 3, 1) := dq_29 (zby_at (j := 0) zbX12_netOf_2 rfl)
theorem dX12_netOf_33 : decode cX12_netOf 33 = .ok (.invokevirtual 378, 3) := dq_182 (zby_at (j := 1) zbX12_netOf_2 rfl) (zby_at (j := 2) zbX12_netOf_2 rfl) (zby_at (j := 3) zbX12_netOf_2 rfl)
theorem dX12_netOf_36 : decode cX12_netOf 36 = .ok (.aload_n 0, 1) := dq_42 (zby_at (j := 4) zbX12_netOf_2 rfl)
theorem dX12_netOf_37 : decode cX12_netOf 37 = .ok (.iload_n 2, 1) := dq_28 (zby_at (j := 5) zbX12_netOf_2 rfl)
theorem dX12_netOf_38 : decode cX12_netOf 38 = .ok (.invokevirtual 381, 3) := dq_182 (zby_at (j := 6) zbX12_netOf_2 rfl) (zby_at (j := 7) zbX12_netOf_2 rfl) (zby_at (j := 8) zbX12_netOf_2 rfl)
theorem dX12_netOf_41 : decode cX12_netOf 41 = .ok (.iinc 3 1, 3) := dq_132 (zby_at (j := 9) zbX12_netOf_2 rfl) (zby_at (j := 10) zbX12_netOf_2 rfl) (zby_at (j := 11) zbX12_netOf_2 rfl) rfl
theorem dX12_netOf_44 : decode cX12_netOf 44 = .ok (.goto (-19), 3) := dq_167 (zby_at (j := 12) zbX12_netOf_2 rfl) (zby_at (j := 13) zbX12_netOf_2 rfl) (zby_at (j := 14) zbX12_netOf_2 rfl) rfl
theorem dX12_netOf_47 : decode cX12_netOf 47 = .ok (.iload_n 1, 1) := dq_27 (zby_at (j := 15) zbX12_netOf_2 rfl)
theorem zbX12_netOf_3 : zby cX12_netOf 48 20 = [42, 180, 1, 116, 96, 60, 132, 2, 1, 167, 255, 207, 27, 172] := by decide +kernel
theorem dX12_netOf_48 : decode cX12_netOf 48 = .ok (.aload_n 0, 1) := dq_42 (zby_at (j := 0) zbX12_netOf_3 rfl)
theorem dX12_netOf_49 : decode cX12_netOf 49 = .ok (.getfield 372, 3) := dq_180 (zby_at (j := 1) zbX12_netOf_3 rfl) (zby_at (j := 2) zbX12_netOf_3 rfl) (zby_at (j := 3) zbX12_netOf_3 rfl)
theorem dX12_netOf_52 : decode cX12_netOf 52 = .ok (.iadd, 1) := dq_96 (zby_at (j := 4) zbX12_netOf_3 rfl)
theorem dX12_netOf_53 : decode cX12_netOf 53 = .ok (.istore_n 1, 1) := dq_60 (zby_at (j := 5) zbX12_netOf_3 rfl)
theorem dX12_netOf_54 : decode cX12_netOf 54 = .ok (.iinc 2 1, 3) := dq_132 (zby_at (j := 6) zbX12_netOf_3 rfl) (zby_at (j := 7) zbX12_netOf_3 rfl) (zby_at (j := 8) zbX12_netOf_3 rfl) rfl
theorem dX12_netOf_57 : decode cX12_netOf 57 = .ok (.goto (-49), 3) := dq_167 (zby_at (j := 9) zbX12_netOf_3 rfl) (zby_at (j := 10) zbX12_netOf_3 rfl) (zby_at (j := 11) zbX12_netOf_3 rfl) rfl
theorem dX12_netOf_60 : decode cX12_netOf 60 = .ok (.iload_n 1, 1) := dq_27 (zby_at (j := 12) zbX12_netOf_3 rfl)
theorem dX12_netOf_61 : decode cX12_netOf 61 = .ok (.ireturn, 1) := dq_172 (zby_at (j := 13) zbX12_netOf_3 rfl)
theorem zbX12_net_0 : zby cX12_net 0 20 = [42, 182, 0, 98, 153, 0, 10, 42, 182, 1, 137, 167, 0, 5, 16, 254, 172] := by decide +kernel
theorem dX12_net_0 : decode cX12_net 0 = .ok (.aload_n 0, 1) := dq_42 (zby_at (j := 0) zbX12_net_0 rfl)
theorem dX12_net_1 : decode cX12_net 1 = .ok (.invokevirtual 98, 3) := dq_182 (zby_at (j := 1) zbX12_net_0 rfl) (zby_at (j := 2) zbX12_net_0 rfl) (zby_at (j := 3) zbX12_net_0 rfl)
theorem dX12_net_4 : decode cX12_net 4 = .ok (.ifCond .eq 10, 3) := dq_153 (zby_at (j := 4) zbX12_net_0 rfl) (zby_at (j := 5) zbX12_net_0 rfl) (zby_at (j := 6) zbX12_net_0 rfl) rfl
theorem dX12_net_7 : decode cX12_net 7 = .ok (.aload_n 0, 1) := dq_42 (zby_at (j := 7) zbX12_net_0 rfl)
theorem dX12_net_8 : decode cX12_net 8 = .ok (.invokevirtual 393, 3) := dq_182 (zby_at (j := 8) zbX12_net_0 rfl) (zby_at (j := 9) zbX12_net_0 rfl) (zby_at (j := 10) zbX12_net_0 rfl)
theorem dX12_net_11 : decode cX12_net 11 = .ok (.goto 5, 3) := dq_167 (zby_at (j := 11) zbX12_net_0 rfl) (zby_at (j := 12) zbX12_net_0 rfl) (zby_at (j := 13) zbX12_net_0 rfl) rfl
theorem dX12_net_14 : decode cX12_net 14 = .ok (.bipush (-2), 2) := dq_16 (zby_at (j := 14) zbX12_net_0 rfl) (zby_at (j := 15) zbX12_net_0 rfl) rfl
theorem zbX12_net_1 : zby cX12_net 16 20 = [172] := by decide +kernel
theorem dX12_net_16 : decode cX12_net 16 = .ok (.ireturn, 1) := dq_172 (zby_at (j := 0) zbX12_net_1 rfl)
theorem zbX12_wide_0 : zby cX12_wide 0 20 = [42, 27, 182, 1, 65, 153, 0, 11, 42, 28, 182, 1, 76, 154, 0, 6, 16, 254, 172, 42] := by decide +kernel
theorem dX12_wide_0 : decode cX12_wide 0 = .ok (.aload_n 0, 1) := dq_42 (zby_at (j := 0) zbX12_wide_0 rfl)
theorem dX12_wide_1 : decode cX12_wide 1 = .ok (.iload_n 1, 1) := dq_27 (zby_at (j := 1) zbX12_wide_0 rfl)
theorem dX12_wide_2 : decode cX12_wide 2 = .ok (.invokevirtual 321, 3) := dq_182 (zby_at (j := 2) zbX12_wide_0 rfl) (zby_at (j := 3) zbX12_wide_0 rfl) (zby_at (j := 4) zbX12_wide_0 rfl)
theorem dX12_wide_5 : decode cX12_wide 5 = .ok (.ifCond .eq 11, 3) := dq_153 (zby_at (j := 5) zbX12_wide_0 rfl) (zby_at (j := 6) zbX12_wide_0 rfl) (zby_at (j := 7) zbX12_wide_0 rfl) rfl
theorem dX12_wide_8 : decode cX12_wide 8 = .ok (.aload_n 0, 1) := dq_42 (zby_at (j := 8) zbX12_wide_0 rfl)
theorem dX12_wide_9 : decode cX12_wide 9 = .ok (.iload_n 2, 1) := dq_28 (zby_at (j := 9) zbX12_wide_0 rfl)
theorem dX12_wide_10 : decode cX12_wide 10 = .ok (.invokevirtual 332, 3) := dq_182 (zby_at (j := 10) zbX12_wide_0 rfl) (zby_at (j := 11) zbX12_wide_0 rfl) (zby_at (j := 12) zbX12_wide_0 rfl)
theorem dX12_wide_13 : decode cX12_wide 13 = .ok (.ifCond .ne 6, 3) := dq_154 (zby_at (j := 13) zbX12_wide_0 rfl) (zby_at (j := 14) zbX12_wide_0 rfl) (zby_at (j := 15) zbX12_wide_0 rfl) rfl
theorem zbX12_wide_1 : zby cX12_wide 16 20 = [16, 254, 172, 42, 182, 1, 131, 42, 27, 28, 182, 1, 128, 172] := by decide +kernel
theorem dX12_wide_16 : decode cX12_wide 16 = .ok (.bipush (-2), 2) := dq_16 (zby_at (j := 0) zbX12_wide_1 rfl) (zby_at (j := 1) zbX12_wide_1 rfl) rfl
theorem dX12_wide_18 : decode cX12_wide 18 = .ok (.ireturn, 1) := dq_172 (zby_at (j := 2) zbX12_wide_1 rfl)
theorem dX12_wide_19 : decode cX12_wide 19 = .ok (.aload_n 0, 1) := dq_42 (zby_at (j := 3) zbX12_wide_1 rfl)
theorem dX12_wide_20 : decode cX12_wide 20 = .ok (.invokevirtual 387, 3) := dq_182 (zby_at (j := 4) zbX12_wide_1 rfl) (zby_at (j := 5) zbX12_wide_1 rfl) (zby_at (j := 6) zbX12_wide_1 rfl)
theorem dX12_wide_23 : decode cX12_wide 23 = .ok (.aload_n 0, 1) := dq_42 (zby_at (j := 7) zbX12_wide_1 rfl)
theorem dX12_wide_24 : decode cX12_wide 24 = .ok (.iload_n 1, 1) := dq_27 (zby_at (j := 8) zbX12_wide_1 rfl)
theorem dX12_wide_25 : decode cX12_wide 25 = .ok (.iload_n 2, 1) := dq_28 (zby_at (j := 9) zbX12_wide_1 rfl)
theorem dX12_wide_26 : decode cX12_wide 26 = .ok (.invokevirtual 384, 3) := dq_182 (zby_at (j := 10) zbX12_wide_1 rfl) (zby_at (j := 11) zbX12_wide_1 rfl) (zby_at (j := 12) zbX12_wide_1 rfl)
theorem dX12_wide_29 : decode cX12_wide 29 = .ok (.ireturn, 1) := dq_172 (zby_at (j := 13) zbX12_wide_1 rfl)
theorem zbX12_order_0 : zby cX12_order 0 20 = [42, 27, 182, 1, 76, 153, 0, 15, 42, 180, 0, 9, 16, 33, 27, 96, 46, 167, 0, 5] := by decide +kernel
theorem dX12_order_0 : decode cX12_order 0 = .ok (.aload_n 0, 1) := dq_42 (zby_at (j := 0) zbX12_order_0 rfl)
theorem dX12_order_1 : decode cX12_order 1 = .ok (.iload_n 1, 1) := dq_27 (zby_at (j := 1) zbX12_order_0 rfl)
theorem dX12_order_2 : decode cX12_order 2 = .ok (.invokevirtual 332, 3) := dq_182 (zby_at (j := 2) zbX12_order_0 rfl) (zby_at (j := 3) zbX12_order_0 rfl) (zby_at (j := 4) zbX12_order_0 rfl)
theorem dX12_order_5 : decode cX12_order 5 = .ok (.ifCond .eq 15, 3) := dq_153 (zby_at (j := 5) zbX12_order_0 rfl) (zby_at (j := 6) zbX12_order_0 rfl) (zby_at (j := 7) zbX12_order_0 rfl) rfl
theorem dX12_order_8 : decode cX12_order 8 = .ok (.aload_n 0, 1) := dq_42 (zby_at (j := 8) zbX12_order_0 rfl)
theorem dX12_order_9 : decode cX12_order 9 = .ok (.getfield 9, 3) := dq_180 (zby_at (j := 9) zbX12_order_0 rfl) (zby_at (j := 10) zbX12_order_0 rfl) (zby_at (j := 11) zbX12_order_0 rfl)
theorem dX12_order_12 : decode cX12_order 12 = .ok (.bipush 33, 2) := dq_16 (zby_at (j := 12) zbX12_order_0 rfl) (zby_at (j := 13) zbX12_order_0 rfl) rfl
theorem dX12_order_14 : decode cX12_order 14 = .ok (.iload_n 1, 1) := dq_27 (zby_at (j := 14) zbX12_order_0 rfl)
theorem dX12_order_15 : decode cX12_order 15 = .ok (.iadd, 1) := dq_96 (zby_at (j := 15) zbX12_order_0 rfl)
theorem zbX12_order_1 : zby cX12_order 16 20 = [46, 167, 0, 5, 16, 254, 172] := by decide +kernel
theorem dX12_order_16 : decode cX12_order 16 = .ok (.iaload, 1) := dq_46 (zby_at (j := 0) zbX12_order_1 rfl)
theorem dX12_order_17 : decode cX12_order 17 = .ok (.goto 5, 3) := dq_167 (zby_at (j := 1) zbX12_order_1 rfl) (zby_at (j := 2) zbX12_order_1 rfl) (zby_at (j := 3) zbX12_order_1 rfl) rfl
theorem dX12_order_20 : decode cX12_order 20 = .ok (.bipush (-2), 2) := dq_16 (zby_at (j := 4) zbX12_order_1 rfl) (zby_at (j := 5) zbX12_order_1 rfl) rfl
theorem dX12_order_22 : decode cX12_order 22 = .ok (.ireturn, 1) := dq_172 (zby_at (j := 6) zbX12_order_1 rfl)
theorem zbX12_swap_0 : zby cX12_swap 0 20 = [42, 27, 182, 1, 76, 153, 0, 13, 42, 27, 4, 96, 182, 1, 76, 154, 0, 6, 16, 254] := by decide +kernel
theorem dX12_swap_0 : decode cX12_swap 0 = .ok (.aload_n 0, 1) := dq_42 (zby_at (j := 0) zbX12_swap_0 rfl)
theorem dX12_swap_1 : decode cX12_swap 1 = .ok (.iload_n 1, 1) := dq_27 (zby_at (j := 1) zbX12_swap_0 rfl)
theorem dX12_swap_2 : decode cX12_swap 2 = .ok (.invokevirtual 332, 3) := dq_182 (zby_at (j := 2) zbX12_swap_0 rfl) (zby_at (j := 3) zbX12_swap_0 rfl) (zby_at (j := 4) zbX12_swap_0 rfl)
theorem dX12_swap_5 : decode cX12_swap 5 = .ok (.ifCond .eq 13, 3) := dq_153 (zby_at (j := 5) zbX12_swap_0 rfl) (zby_at (j := 6) zbX12_swap_0 rfl) (zby_at (j := 7) zbX12_swap_0 rfl) rfl
theorem dX12_swap_8 : decode cX12_swap 8 = .ok (.aload_n 0, 1) := dq_42 (zby_at (j := 8) zbX12_swap_0 rfl)
theorem dX12_swap_9 : decode cX12_swap 9 = .ok (.iload_n 1, 1) := dq_27 (zby_at (j := 9) zbX12_swap_0 rfl)
theorem dX12_swap_10 : decode cX12_swap 10 = .ok (.iconst 1, 1) := dq_4 (zby_at (j := 10) zbX12_swap_0 rfl)
theorem dX12_swap_11 : decode cX12_swap 11 = .ok (.iadd, 1) := dq_96 (zby_at (j := 11) zbX12_swap_0 rfl)
theorem dX12_swap_12 : decode cX12_swap 12 = .ok (.invokevirtual 332, 3) := dq_182 (zby_at (j := 12) zbX12_swap_0 rfl) (zby_at (j := 13) zbX12_swap_0 rfl) (zby_at (j := 14) zbX12_swap_0 rfl)
theorem dX12_swap_15 : decode cX12_swap 15 = .ok (.ifCond .ne 6, 3) := dq_154 (zby_at (j := 15) zbX12_swap_0 rfl) (zby_at (j := 16) zbX12_swap_0 rfl) (zby_at (j := 17) zbX12_swap_0 rfl) rfl
theorem zbX12_swap_1 : zby cX12_swap 16 20 = [0, 6, 16, 254, 172, 42, 180, 0, 9, 16, 33, 27, 96, 46, 61, 42, 180, 0, 9, 16] := by decide +kernel
theorem dX12_swap_18 : decode cX12_swap 18 = .ok (.bipush (-2), 2) := dq_16 (zby_at (j := 2) zbX12_swap_1 rfl) (zby_at (j := 3) zbX12_swap_1 rfl) rfl
theorem dX12_swap_20 : decode cX12_swap 20 = .ok (.ireturn, 1) := dq_172 (zby_at (j := 4) zbX12_swap_1 rfl)
theorem dX12_swap_21 : decode cX12_swap 21 = .ok (.aload_n 0, 1) := dq_42 (zby_at (j := 5) zbX12_swap_1 rfl)
theorem dX12_swap_22 : decode cX12_swap 22 = .ok (.getfield 9, 3) := dq_180 (zby_at (j := 6) zbX12_swap_1 rfl) (zby_at (j := 7) zbX12_swap_1 rfl) (zby_at (j := 8) zbX12_swap_1 rfl)
theorem dX12_swap_25 : decode cX12_swap 25 = .ok (.bipush 33, 2) := dq_16 (zby_at (j := 9) zbX12_swap_1 rfl) (zby_at (j := 10) zbX12_swap_1 rfl) rfl
theorem dX12_swap_27 : decode cX12_swap 27 = .ok (.iload_n 1, 1) := dq_27 (zby_at (j := 11) zbX12_swap_1 rfl)
theorem dX12_swap_28 : decode cX12_swap 28 = .ok (.iadd, 1) := dq_96 (zby_at (j := 12) zbX12_swap_1 rfl)
theorem dX12_swap_29 : decode cX12_swap 29 = .ok (.iaload, 1) := dq_46 (zby_at (j := 13) zbX12_swap_1 rfl)
theorem dX12_swap_30 : decode cX12_swap 30 = .ok (.istore_n 2, 1) := dq_61 (zby_at (j := 14) zbX12_swap_1 rfl)
theorem dX12_swap_31 : decode cX12_swap 31 = .ok (.aload_n 0, 1) := dq_42 (zby_at (j := 15) zbX12_swap_1 rfl)
theorem zbX12_swap_2 : zby cX12_swap 32 20 = [180, 0, 9, 16, 33, 27, 96, 42, 180, 0, 9, 16, 33, 27, 96, 4, 96, 46, 79, 42] := by decide +kernel
theorem dX12_swap_32 : decode cX12_swap 32 = .ok (.getfield 9, 3) := dq_180 (zby_at (j := 0) zbX12_swap_2 rfl) (zby_at (j := 1) zbX12_swap_2 rfl) (zby_at (j := 2) zbX12_swap_2 rfl)
theorem dX12_swap_35 : decode cX12_swap 35 = .ok (.bipush 33, 2) := dq_16 (zby_at (j := 3) zbX12_swap_2 rfl) (zby_at (j := 4) zbX12_swap_2 rfl) rfl
theorem dX12_swap_37 : decode cX12_swap 37 = .ok (.iload_n 1, 1) := dq_27 (zby_at (j := 5) zbX12_swap_2 rfl)
theorem dX12_swap_38 : decode cX12_swap 38 = .ok (.iadd, 1) := dq_96 (zby_at (j := 6) zbX12_swap_2 rfl)
theorem dX12_swap_39 : decode cX12_swap 39 = .ok (.aload_n 0, 1) := dq_42 (zby_at (j := 7) zbX12_swap_2 rfl)
theorem dX12_swap_40 : decode cX12_swap 40 = .ok (.getfield 9, 3) := dq_180 (zby_at (j := 8) zbX12_swap_2 rfl) (zby_at (j := 9) zbX12_swap_2 rfl) (zby_at (j := 10) zbX12_swap_2 rfl)
theorem dX12_swap_43 : decode cX12_swap 43 = .ok (.bipush 33, 2) := dq_16 (zby_at (j := 11) zbX12_swap_2 rfl) (zby_at (j := 12) zbX12_swap_2 rfl) rfl
theorem dX12_swap_45 : decode cX12_swap 45 = .ok (.iload_n 1, 1) := dq_27 (zby_at (j := 13) zbX12_swap_2 rfl)
theorem dX12_swap_46 : decode cX12_swap 46 = .ok (.iadd, 1) := dq_96 (zby_at (j := 14) zbX12_swap_2 rfl)
theorem dX12_swap_47 : decode cX12_swap 47 = .ok (.iconst 1, 1) := dq_4 (zby_at (j := 15) zbX12_swap_2 rfl)
theorem zbX12_swap_3 : zby cX12_swap 48 20 = [96, 46, 79, 42, 180, 0, 9, 16, 33, 27, 96, 4, 96, 28, 79, 42, 182, 1, 137, 172] := by decide +kernel
theorem dX12_swap_48 : decode cX12_swap 48 = .ok (.iadd, 1) := dq_96 (zby_at (j := 0) zbX12_swap_3 rfl)
theorem dX12_swap_49 : decode cX12_swap 49 = .ok (.iaload, 1) := dq_46 (zby_at (j := 1) zbX12_swap_3 rfl)
theorem dX12_swap_50 : decode cX12_swap 50 = .ok (.iastore, 1) := dq_79 (zby_at (j := 2) zbX12_swap_3 rfl)
theorem dX12_swap_51 : decode cX12_swap 51 = .ok (.aload_n 0, 1) := dq_42 (zby_at (j := 3) zbX12_swap_3 rfl)
theorem dX12_swap_52 : decode cX12_swap 52 = .ok (.getfield 9, 3) := dq_180 (zby_at (j := 4) zbX12_swap_3 rfl) (zby_at (j := 5) zbX12_swap_3 rfl) (zby_at (j := 6) zbX12_swap_3 rfl)
theorem dX12_swap_55 : decode cX12_swap 55 = .ok (.bipush 33, 2) := dq_16 (zby_at (j := 7) zbX12_swap_3 rfl) (zby_at (j := 8) zbX12_swap_3 rfl) rfl
theorem dX12_swap_57 : decode cX12_swap 57 = .ok (.iload_n 1, 1) := dq_27 (zby_at (j := 9) zbX12_swap_3 rfl)
theorem dX12_swap_58 : decode cX12_swap 58 = .ok (.iadd, 1) := dq_96 (zby_at (j := 10) zbX12_swap_3 rfl)
theorem dX12_swap_59 : decode cX12_swap 59 = .ok (.iconst 1, 1) := dq_4 (zby_at (j := 11) zbX12_swap_3 rfl)
theorem dX12_swap_60 : decode cX12_swap 60 = .ok (.iadd, 1) := dq_96 (zby_at (j := 12) zbX12_swap_3 rfl)
theorem dX12_swap_61 : decode cX12_swap 61 = .ok (.iload_n 2, 1) := dq_28 (zby_at (j := 13) zbX12_swap_3 rfl)
theorem dX12_swap_62 : decode cX12_swap 62 = .ok (.iastore, 1) := dq_79 (zby_at (j := 14) zbX12_swap_3 rfl)
theorem dX12_swap_63 : decode cX12_swap 63 = .ok (.aload_n 0, 1) := dq_42 (zby_at (j := 15) zbX12_swap_3 rfl)
theorem zbX12_swap_4 : zby cX12_swap 64 20 = [182, 1, 137, 172] := by decide +kernel
theorem dX12_swap_64 : decode cX12_swap 64 = .ok (.invokevirtual 393, 3) := dq_182 (zby_at (j := 0) zbX12_swap_4 rfl) (zby_at (j := 1) zbX12_swap_4 rfl) (zby_at (j := 2) zbX12_swap_4 rfl)
theorem dX12_swap_67 : decode cX12_swap 67 = .ok (.ireturn, 1) := dq_172 (zby_at (j := 3) zbX12_swap_4 rfl)
theorem zbX12_placeOf_0 : zby cX12_placeOf 0 20 = [3, 61, 42, 180, 0, 9, 16, 33, 28, 96, 46, 27, 159, 0, 9, 132, 2, 1, 167, 255] := by decide +kernel
theorem dX12_placeOf_0 : decode cX12_placeOf 0 = .ok (.iconst 0, 1) := dq_3 (zby_at (j := 0) zbX12_placeOf_0 rfl)
theorem dX12_placeOf_1 : decode cX12_placeOf 1 = .ok (.istore_n 2, 1) := dq_61 (zby_at (j := 1) zbX12_placeOf_0 rfl)
theorem dX12_placeOf_2 : decode cX12_placeOf 2 = .ok (.aload_n 0, 1) := dq_42 (zby_at (j := 2) zbX12_placeOf_0 rfl)
theorem dX12_placeOf_3 : decode cX12_placeOf 3 = .ok (.getfield 9, 3) := dq_180 (zby_at (j := 3) zbX12_placeOf_0 rfl) (zby_at (j := 4) zbX12_placeOf_0 rfl) (zby_at (j := 5) zbX12_placeOf_0 rfl)
theorem dX12_placeOf_6 : decode cX12_placeOf 6 = .ok (.bipush 33, 2) := dq_16 (zby_at (j := 6) zbX12_placeOf_0 rfl) (zby_at (j := 7) zbX12_placeOf_0 rfl) rfl
theorem dX12_placeOf_8 : decode cX12_placeOf 8 = .ok (.iload_n 2, 1) := dq_28 (zby_at (j := 8) zbX12_placeOf_0 rfl)
theorem dX12_placeOf_9 : decode cX12_placeOf 9 = .ok (.iadd, 1) := dq_96 (zby_at (j := 9) zbX12_placeOf_0 rfl)
theorem dX12_placeOf_10 : decode cX12_placeOf 10 = .ok (.iaload, 1) := dq_46 (zby_at (j := 10) zbX12_placeOf_0 rfl)
theorem dX12_placeOf_11 : decode cX12_placeOf 11 = .ok (.iload_n 1, 1) := dq_27 (zby_at (j := 11) zbX12_placeOf_0 rfl)
theorem dX12_placeOf_12 : decode cX12_placeOf 12 = .ok (.if_icmp .eq 9, 3) := dq_159 (zby_at (j := 12) zbX12_placeOf_0 rfl) (zby_at (j := 13) zbX12_placeOf_0 rfl) (zby_at (j := 14) zbX12_placeOf_0 rfl) rfl
theorem dX12_placeOf_15 : decode cX12_placeOf 15 = .ok (.iinc 2 1, 3) := dq_132 (zby_at (j := 15) zbX12_placeOf_0 rfl) (zby_at (j := 16) zbX12_placeOf_0 rfl) (zby_at (j := 17) zbX12_placeOf_0 rfl) rfl
theorem zbX12_placeOf_1 : zby cX12_placeOf 16 20 = [2, 1, 167, 255, 240, 28, 172] := by decide +kernel
theorem dX12_placeOf_18 : decode cX12_placeOf 18 = .ok (.goto (-16), 3) := dq_167 (zby_at (j := 2) zbX12_placeOf_1 rfl) (zby_at (j := 3) zbX12_placeOf_1 rfl) (zby_at (j := 4) zbX12_placeOf_1 rfl) rfl
theorem dX12_placeOf_21 : decode cX12_placeOf 21 = .ok (.iload_n 2, 1) := dq_28 (zby_at (j := 5) zbX12_placeOf_1 rfl)
theorem dX12_placeOf_22 : decode cX12_placeOf 22 = .ok (.ireturn, 1) := dq_172 (zby_at (j := 6) zbX12_placeOf_1 rfl)
theorem zbX12_goesTo_0 : zby cX12_goesTo 0 20 = [42, 27, 182, 1, 140, 62, 29, 28, 162, 0, 29, 42, 180, 0, 9, 16, 33, 29, 96, 42] := by decide +kernel
theorem dX12_goesTo_0 : decode cX12_goesTo 0 = .ok (.aload_n 0, 1) := dq_42 (zby_at (j := 0) zbX12_goesTo_0 rfl)
theorem dX12_goesTo_1 : decode cX12_goesTo 1 = .ok (.iload_n 1, 1) := dq_27 (zby_at (j := 1) zbX12_goesTo_0 rfl)
theorem dX12_goesTo_2 : decode cX12_goesTo 2 = .ok (.invokevirtual 396, 3) := dq_182 (zby_at (j := 2) zbX12_goesTo_0 rfl) (zby_at (j := 3) zbX12_goesTo_0 rfl) (zby_at (j := 4) zbX12_goesTo_0 rfl)
theorem dX12_goesTo_5 : decode cX12_goesTo 5 = .ok (.istore_n 3, 1) := dq_62 (zby_at (j := 5) zbX12_goesTo_0 rfl)
theorem dX12_goesTo_6 : decode cX12_goesTo 6 = .ok (.iload_n 3, 1) := dq_29 (zby_at (j := 6) zbX12_goesTo_0 rfl)
theorem dX12_goesTo_7 : decode cX12_goesTo 7 = .ok (.iload_n 2, 1) := dq_28 (zby_at (j := 7) zbX12_goesTo_0 rfl)
theorem dX12_goesTo_8 : decode cX12_goesTo 8 = .ok (.if_icmp .ge 29, 3) := dq_162 (zby_at (j := 8) zbX12_goesTo_0 rfl) (zby_at (j := 9) zbX12_goesTo_0 rfl) (zby_at (j := 10) zbX12_goesTo_0 rfl) rfl
theorem dX12_goesTo_11 : decode cX12_goesTo 11 = .ok (.aload_n 0, 1) := dq_42 (zby_at (j := 11) zbX12_goesTo_0 rfl)
theorem dX12_goesTo_12 : decode cX12_goesTo 12 = .ok (.getfield 9, 3) := dq_180 (zby_at (j := 12) zbX12_goesTo_0 rfl) (zby_at (j := 13) zbX12_goesTo_0 rfl) (zby_at (j := 14) zbX12_goesTo_0 rfl)
theorem dX12_goesTo_15 : decode cX12_goesTo 15 = .ok (.bipush 33, 2) := dq_16 (zby_at (j := 15) zbX12_goesTo_0 rfl) (zby_at (j := 16) zbX12_goesTo_0 rfl) rfl
theorem zbX12_goesTo_1 : zby cX12_goesTo 16 20 = [33, 29, 96, 42, 180, 0, 9, 16, 33, 29, 96, 4, 96, 46, 79, 132, 3, 1, 167, 255] := by decide +kernel
theorem dX12_goesTo_17 : decode cX12_goesTo 17 = .ok (.iload_n 3, 1) := dq_29 (zby_at (j := 1) zbX12_goesTo_1 rfl)
theorem dX12_goesTo_18 : decode cX12_goesTo 18 = .ok (.iadd, 1) := dq_96 (zby_at (j := 2) zbX12_goesTo_1 rfl)
theorem dX12_goesTo_19 : decode cX12_goesTo 19 = .ok (.aload_n 0, 1) := dq_42 (zby_at (j := 3) zbX12_goesTo_1 rfl)
theorem dX12_goesTo_20 : decode cX12_goesTo 20 = .ok (.getfield 9, 3) := dq_180 (zby_at (j := 4) zbX12_goesTo_1 rfl) (zby_at (j := 5) zbX12_goesTo_1 rfl) (zby_at (j := 6) zbX12_goesTo_1 rfl)
theorem dX12_goesTo_23 : decode cX12_goesTo 23 = .ok (.bipush 33, 2) := dq_16 (zby_at (j := 7) zbX12_goesTo_1 rfl) (zby_at (j := 8) zbX12_goesTo_1 rfl) rfl
theorem dX12_goesTo_25 : decode cX12_goesTo 25 = .ok (.iload_n 3, 1) := dq_29 (zby_at (j := 9) zbX12_goesTo_1 rfl)
theorem dX12_goesTo_26 : decode cX12_goesTo 26 = .ok (.iadd, 1) := dq_96 (zby_at (j := 10) zbX12_goesTo_1 rfl)
theorem dX12_goesTo_27 : decode cX12_goesTo 27 = .ok (.iconst 1, 1) := dq_4 (zby_at (j := 11) zbX12_goesTo_1 rfl)
theorem dX12_goesTo_28 : decode cX12_goesTo 28 = .ok (.iadd, 1) := dq_96 (zby_at (j := 12) zbX12_goesTo_1 rfl)
theorem dX12_goesTo_29 : decode cX12_goesTo 29 = .ok (.iaload, 1) := dq_46 (zby_at (j := 13) zbX12_goesTo_1 rfl)
theorem dX12_goesTo_30 : decode cX12_goesTo 30 = .ok (.iastore, 1) := dq_79 (zby_at (j := 14) zbX12_goesTo_1 rfl)
theorem dX12_goesTo_31 : decode cX12_goesTo 31 = .ok (.iinc 3 1, 3) := dq_132 (zby_at (j := 15) zbX12_goesTo_1 rfl) (zby_at (j := 16) zbX12_goesTo_1 rfl) (zby_at (j := 17) zbX12_goesTo_1 rfl) rfl
theorem zbX12_goesTo_2 : zby cX12_goesTo 32 20 = [3, 1, 167, 255, 228, 29, 28, 164, 0, 29, 42, 180, 0, 9, 16, 33, 29, 96, 42, 180] := by decide +kernel
theorem dX12_goesTo_34 : decode cX12_goesTo 34 = .ok (.goto (-28), 3) := dq_167 (zby_at (j := 2) zbX12_goesTo_2 rfl) (zby_at (j := 3) zbX12_goesTo_2 rfl) (zby_at (j := 4) zbX12_goesTo_2 rfl) rfl
theorem dX12_goesTo_37 : decode cX12_goesTo 37 = .ok (.iload_n 3, 1) := dq_29 (zby_at (j := 5) zbX12_goesTo_2 rfl)
theorem dX12_goesTo_38 : decode cX12_goesTo 38 = .ok (.iload_n 2, 1) := dq_28 (zby_at (j := 6) zbX12_goesTo_2 rfl)
theorem dX12_goesTo_39 : decode cX12_goesTo 39 = .ok (.if_icmp .le 29, 3) := dq_164 (zby_at (j := 7) zbX12_goesTo_2 rfl) (zby_at (j := 8) zbX12_goesTo_2 rfl) (zby_at (j := 9) zbX12_goesTo_2 rfl) rfl
theorem dX12_goesTo_42 : decode cX12_goesTo 42 = .ok (.aload_n 0, 1) := dq_42 (zby_at (j := 10) zbX12_goesTo_2 rfl)
theorem dX12_goesTo_43 : decode cX12_goesTo 43 = .ok (.getfield 9, 3) := dq_180 (zby_at (j := 11) zbX12_goesTo_2 rfl) (zby_at (j := 12) zbX12_goesTo_2 rfl) (zby_at (j := 13) zbX12_goesTo_2 rfl)
theorem dX12_goesTo_46 : decode cX12_goesTo 46 = .ok (.bipush 33, 2) := dq_16 (zby_at (j := 14) zbX12_goesTo_2 rfl) (zby_at (j := 15) zbX12_goesTo_2 rfl) rfl
theorem zbX12_goesTo_3 : zby cX12_goesTo 48 20 = [29, 96, 42, 180, 0, 9, 16, 33, 29, 96, 4, 100, 46, 79, 132, 3, 255, 167, 255, 228] := by decide +kernel
theorem dX12_goesTo_48 : decode cX12_goesTo 48 = .ok (.iload_n 3, 1) := dq_29 (zby_at (j := 0) zbX12_goesTo_3 rfl)
theorem dX12_goesTo_49 : decode cX12_goesTo 49 = .ok (.iadd, 1) := dq_96 (zby_at (j := 1) zbX12_goesTo_3 rfl)
theorem dX12_goesTo_50 : decode cX12_goesTo 50 = .ok (.aload_n 0, 1) := dq_42 (zby_at (j := 2) zbX12_goesTo_3 rfl)
theorem dX12_goesTo_51 : decode cX12_goesTo 51 = .ok (.getfield 9, 3) := dq_180 (zby_at (j := 3) zbX12_goesTo_3 rfl) (zby_at (j := 4) zbX12_goesTo_3 rfl) (zby_at (j := 5) zbX12_goesTo_3 rfl)
theorem dX12_goesTo_54 : decode cX12_goesTo 54 = .ok (.bipush 33, 2) := dq_16 (zby_at (j := 6) zbX12_goesTo_3 rfl) (zby_at (j := 7) zbX12_goesTo_3 rfl) rfl
theorem dX12_goesTo_56 : decode cX12_goesTo 56 = .ok (.iload_n 3, 1) := dq_29 (zby_at (j := 8) zbX12_goesTo_3 rfl)
theorem dX12_goesTo_57 : decode cX12_goesTo 57 = .ok (.iadd, 1) := dq_96 (zby_at (j := 9) zbX12_goesTo_3 rfl)
theorem dX12_goesTo_58 : decode cX12_goesTo 58 = .ok (.iconst 1, 1) := dq_4 (zby_at (j := 10) zbX12_goesTo_3 rfl)
theorem dX12_goesTo_59 : decode cX12_goesTo 59 = .ok (.isub, 1) := dq_100 (zby_at (j := 11) zbX12_goesTo_3 rfl)
theorem dX12_goesTo_60 : decode cX12_goesTo 60 = .ok (.iaload, 1) := dq_46 (zby_at (j := 12) zbX12_goesTo_3 rfl)
theorem dX12_goesTo_61 : decode cX12_goesTo 61 = .ok (.iastore, 1) := dq_79 (zby_at (j := 13) zbX12_goesTo_3 rfl)
theorem dX12_goesTo_62 : decode cX12_goesTo 62 = .ok (.iinc 3 (-1), 3) := dq_132 (zby_at (j := 14) zbX12_goesTo_3 rfl) (zby_at (j := 15) zbX12_goesTo_3 rfl) (zby_at (j := 16) zbX12_goesTo_3 rfl) rfl
theorem zbX12_goesTo_4 : zby cX12_goesTo 64 20 = [255, 167, 255, 228, 42, 180, 0, 9, 16, 33, 28, 96, 27, 79, 177] := by decide +kernel
theorem dX12_goesTo_65 : decode cX12_goesTo 65 = .ok (.goto (-28), 3) := dq_167 (zby_at (j := 1) zbX12_goesTo_4 rfl) (zby_at (j := 2) zbX12_goesTo_4 rfl) (zby_at (j := 3) zbX12_goesTo_4 rfl) rfl
theorem dX12_goesTo_68 : decode cX12_goesTo 68 = .ok (.aload_n 0, 1) := dq_42 (zby_at (j := 4) zbX12_goesTo_4 rfl)
theorem dX12_goesTo_69 : decode cX12_goesTo 69 = .ok (.getfield 9, 3) := dq_180 (zby_at (j := 5) zbX12_goesTo_4 rfl) (zby_at (j := 6) zbX12_goesTo_4 rfl) (zby_at (j := 7) zbX12_goesTo_4 rfl)
theorem dX12_goesTo_72 : decode cX12_goesTo 72 = .ok (.bipush 33, 2) := dq_16 (zby_at (j := 8) zbX12_goesTo_4 rfl) (zby_at (j := 9) zbX12_goesTo_4 rfl) rfl
theorem dX12_goesTo_74 : decode cX12_goesTo 74 = .ok (.iload_n 2, 1) := dq_28 (zby_at (j := 10) zbX12_goesTo_4 rfl)
theorem dX12_goesTo_75 : decode cX12_goesTo 75 = .ok (.iadd, 1) := dq_96 (zby_at (j := 11) zbX12_goesTo_4 rfl)
theorem dX12_goesTo_76 : decode cX12_goesTo 76 = .ok (.iload_n 1, 1) := dq_27 (zby_at (j := 12) zbX12_goesTo_4 rfl)
theorem dX12_goesTo_77 : decode cX12_goesTo 77 = .ok (.iastore, 1) := dq_79 (zby_at (j := 13) zbX12_goesTo_4 rfl)
theorem dX12_goesTo_78 : decode cX12_goesTo 78 = .ok (.return_, 1) := dq_177 (zby_at (j := 14) zbX12_goesTo_4 rfl)
theorem zbX12_move_0 : zby cX12_move 0 20 = [42, 27, 182, 1, 76, 153, 0, 11, 42, 28, 182, 1, 76, 154, 0, 6, 16, 254, 172, 42] := by decide +kernel
theorem dX12_move_0 : decode cX12_move 0 = .ok (.aload_n 0, 1) := dq_42 (zby_at (j := 0) zbX12_move_0 rfl)
theorem dX12_move_1 : decode cX12_move 1 = .ok (.iload_n 1, 1) := dq_27 (zby_at (j := 1) zbX12_move_0 rfl)
theorem dX12_move_2 : decode cX12_move 2 = .ok (.invokevirtual 332, 3) := dq_182 (zby_at (j := 2) zbX12_move_0 rfl) (zby_at (j := 3) zbX12_move_0 rfl) (zby_at (j := 4) zbX12_move_0 rfl)
theorem dX12_move_5 : decode cX12_move 5 = .ok (.ifCond .eq 11, 3) := dq_153 (zby_at (j := 5) zbX12_move_0 rfl) (zby_at (j := 6) zbX12_move_0 rfl) (zby_at (j := 7) zbX12_move_0 rfl) rfl
theorem dX12_move_8 : decode cX12_move 8 = .ok (.aload_n 0, 1) := dq_42 (zby_at (j := 8) zbX12_move_0 rfl)
theorem dX12_move_9 : decode cX12_move 9 = .ok (.iload_n 2, 1) := dq_28 (zby_at (j := 9) zbX12_move_0 rfl)
theorem dX12_move_10 : decode cX12_move 10 = .ok (.invokevirtual 332, 3) := dq_182 (zby_at (j := 10) zbX12_move_0 rfl) (zby_at (j := 11) zbX12_move_0 rfl) (zby_at (j := 12) zbX12_move_0 rfl)
theorem dX12_move_13 : decode cX12_move 13 = .ok (.ifCond .ne 6, 3) := dq_154 (zby_at (j := 13) zbX12_move_0 rfl) (zby_at (j := 14) zbX12_move_0 rfl) (zby_at (j := 15) zbX12_move_0 rfl) rfl
theorem zbX12_move_1 : zby cX12_move 16 20 = [16, 254, 172, 42, 27, 182, 1, 140, 62, 42, 27, 28, 182, 1, 143, 29, 172] := by decide +kernel
theorem dX12_move_16 : decode cX12_move 16 = .ok (.bipush (-2), 2) := dq_16 (zby_at (j := 0) zbX12_move_1 rfl) (zby_at (j := 1) zbX12_move_1 rfl) rfl
theorem dX12_move_18 : decode cX12_move 18 = .ok (.ireturn, 1) := dq_172 (zby_at (j := 2) zbX12_move_1 rfl)
theorem dX12_move_19 : decode cX12_move 19 = .ok (.aload_n 0, 1) := dq_42 (zby_at (j := 3) zbX12_move_1 rfl)
theorem dX12_move_20 : decode cX12_move 20 = .ok (.iload_n 1, 1) := dq_27 (zby_at (j := 4) zbX12_move_1 rfl)
theorem dX12_move_21 : decode cX12_move 21 = .ok (.invokevirtual 396, 3) := dq_182 (zby_at (j := 5) zbX12_move_1 rfl) (zby_at (j := 6) zbX12_move_1 rfl) (zby_at (j := 7) zbX12_move_1 rfl)
theorem dX12_move_24 : decode cX12_move 24 = .ok (.istore_n 3, 1) := dq_62 (zby_at (j := 8) zbX12_move_1 rfl)
theorem dX12_move_25 : decode cX12_move 25 = .ok (.aload_n 0, 1) := dq_42 (zby_at (j := 9) zbX12_move_1 rfl)
theorem dX12_move_26 : decode cX12_move 26 = .ok (.iload_n 1, 1) := dq_27 (zby_at (j := 10) zbX12_move_1 rfl)
theorem dX12_move_27 : decode cX12_move 27 = .ok (.iload_n 2, 1) := dq_28 (zby_at (j := 11) zbX12_move_1 rfl)
theorem dX12_move_28 : decode cX12_move 28 = .ok (.invokevirtual 399, 3) := dq_182 (zby_at (j := 12) zbX12_move_1 rfl) (zby_at (j := 13) zbX12_move_1 rfl) (zby_at (j := 14) zbX12_move_1 rfl)
theorem dX12_move_31 : decode cX12_move 31 = .ok (.iload_n 3, 1) := dq_29 (zby_at (j := 15) zbX12_move_1 rfl)
theorem zbX12_move_2 : zby cX12_move 32 20 = [172] := by decide +kernel
theorem dX12_move_32 : decode cX12_move 32 = .ok (.ireturn, 1) := dq_172 (zby_at (j := 0) zbX12_move_2 rfl)
theorem zbX12_nextOrder_0 : zby cX12_nextOrder 0 20 = [27, 5, 100, 61, 28, 155, 0, 26, 42, 180, 0, 64, 28, 46, 42, 180, 0, 64, 28, 4] := by decide +kernel
theorem dX12_nextOrder_0 : decode cX12_nextOrder 0 = .ok (.iload_n 1, 1) := dq_27 (zby_at (j := 0) zbX12_nextOrder_0 rfl)
theorem dX12_nextOrder_1 : decode cX12_nextOrder 1 = .ok (.iconst 2, 1) := dq_5 (zby_at (j := 1) zbX12_nextOrder_0 rfl)
theorem dX12_nextOrder_2 : decode cX12_nextOrder 2 = .ok (.isub, 1) := dq_100 (zby_at (j := 2) zbX12_nextOrder_0 rfl)
theorem dX12_nextOrder_3 : decode cX12_nextOrder 3 = .ok (.istore_n 2, 1) := dq_61 (zby_at (j := 3) zbX12_nextOrder_0 rfl)
theorem dX12_nextOrder_4 : decode cX12_nextOrder 4 = .ok (.iload_n 2, 1) := dq_28 (zby_at (j := 4) zbX12_nextOrder_0 rfl)
theorem dX12_nextOrder_5 : decode cX12_nextOrder 5 = .ok (.ifCond .lt 26, 3) := dq_155 (zby_at (j := 5) zbX12_nextOrder_0 rfl) (zby_at (j := 6) zbX12_nextOrder_0 rfl) (zby_at (j := 7) zbX12_nextOrder_0 rfl) rfl
theorem dX12_nextOrder_8 : decode cX12_nextOrder 8 = .ok (.aload_n 0, 1) := dq_42 (zby_at (j := 8) zbX12_nextOrder_0 rfl)
theorem dX12_nextOrder_9 : decode cX12_nextOrder 9 = .ok (.getfield 64, 3) := dq_180 (zby_at (j := 9) zbX12_nextOrder_0 rfl) (zby_at (j := 10) zbX12_nextOrder_0 rfl) (zby_at (j := 11) zbX12_nextOrder_0 rfl)
theorem dX12_nextOrder_12 : decode cX12_nextOrder 12 = .ok (.iload_n 2, 1) := dq_28 (zby_at (j := 12) zbX12_nextOrder_0 rfl)
theorem dX12_nextOrder_13 : decode cX12_nextOrder 13 = .ok (.iaload, 1) := dq_46 (zby_at (j := 13) zbX12_nextOrder_0 rfl)
theorem dX12_nextOrder_14 : decode cX12_nextOrder 14 = .ok (.aload_n 0, 1) := dq_42 (zby_at (j := 14) zbX12_nextOrder_0 rfl)
theorem dX12_nextOrder_15 : decode cX12_nextOrder 15 = .ok (.getfield 64, 3) := dq_180 (zby_at (j := 15) zbX12_nextOrder_0 rfl) (zby_at (j := 16) zbX12_nextOrder_0 rfl) (zby_at (j := 17) zbX12_nextOrder_0 rfl)
theorem zbX12_nextOrder_1 : zby cX12_nextOrder 16 20 = [0, 64, 28, 4, 96, 46, 164, 0, 9, 132, 2, 255, 167, 255, 232, 28, 156, 0, 5, 3] := by decide +kernel
theorem dX12_nextOrder_18 : decode cX12_nextOrder 18 = .ok (.iload_n 2, 1) := dq_28 (zby_at (j := 2) zbX12_nextOrder_1 rfl)
theorem dX12_nextOrder_19 : decode cX12_nextOrder 19 = .ok (.iconst 1, 1) := dq_4 (zby_at (j := 3) zbX12_nextOrder_1 rfl)
theorem dX12_nextOrder_20 : decode cX12_nextOrder 20 = .ok (.iadd, 1) := dq_96 (zby_at (j := 4) zbX12_nextOrder_1 rfl)
theorem dX12_nextOrder_21 : decode cX12_nextOrder 21 = .ok (.iaload, 1) := dq_46 (zby_at (j := 5) zbX12_nextOrder_1 rfl)
theorem dX12_nextOrder_22 : decode cX12_nextOrder 22 = .ok (.if_icmp .le 9, 3) := dq_164 (zby_at (j := 6) zbX12_nextOrder_1 rfl) (zby_at (j := 7) zbX12_nextOrder_1 rfl) (zby_at (j := 8) zbX12_nextOrder_1 rfl) rfl
theorem dX12_nextOrder_25 : decode cX12_nextOrder 25 = .ok (.iinc 2 (-1), 3) := dq_132 (zby_at (j := 9) zbX12_nextOrder_1 rfl) (zby_at (j := 10) zbX12_nextOrder_1 rfl) (zby_at (j := 11) zbX12_nextOrder_1 rfl) rfl
theorem dX12_nextOrder_28 : decode cX12_nextOrder 28 = .ok (.goto (-24), 3) := dq_167 (zby_at (j := 12) zbX12_nextOrder_1 rfl) (zby_at (j := 13) zbX12_nextOrder_1 rfl) (zby_at (j := 14) zbX12_nextOrder_1 rfl) rfl
theorem dX12_nextOrder_31 : decode cX12_nextOrder 31 = .ok (.iload_n 2, 1) := dq_28 (zby_at (j := 15) zbX12_nextOrder_1 rfl)
theorem zbX12_nextOrder_2 : zby cX12_nextOrder 32 20 = [156, 0, 5, 3, 172, 27, 4, 100, 62, 42, 180, 0, 64, 29, 46, 42, 180, 0, 64, 28] := by decide +kernel
theorem dX12_nextOrder_32 : decode cX12_nextOrder 32 = .ok (.ifCond .ge 5, 3) := dq_156 (zby_at (j := 0) zbX12_nextOrder_2 rfl) (zby_at (j := 1) zbX12_nextOrder_2 rfl) (zby_at (j := 2) zbX12_nextOrder_2 rfl) rfl
theorem dX12_nextOrder_35 : decode cX12_nextOrder 35 = .ok (.iconst 0, 1) := dq_3 (zby_at (j := 3) zbX12_nextOrder_2 rfl)
theorem dX12_nextOrder_36 : decode cX12_nextOrder 36 = .ok (.ireturn, 1) := dq_172 (zby_at (j := 4) zbX12_nextOrder_2 rfl)
theorem dX12_nextOrder_37 : decode cX12_nextOrder 37 = .ok (.iload_n 1, 1) := dq_27 (zby_at (j := 5) zbX12_nextOrder_2 rfl)
theorem dX12_nextOrder_38 : decode cX12_nextOrder 38 = .ok (.iconst 1, 1) := dq_4 (zby_at (j := 6) zbX12_nextOrder_2 rfl)
theorem dX12_nextOrder_39 : decode cX12_nextOrder 39 = .ok (.isub, 1) := dq_100 (zby_at (j := 7) zbX12_nextOrder_2 rfl)
theorem dX12_nextOrder_40 : decode cX12_nextOrder 40 = .ok (.istore_n 3, 1) := dq_62 (zby_at (j := 8) zbX12_nextOrder_2 rfl)
theorem dX12_nextOrder_41 : decode cX12_nextOrder 41 = .ok (.aload_n 0, 1) := dq_42 (zby_at (j := 9) zbX12_nextOrder_2 rfl)
theorem dX12_nextOrder_42 : decode cX12_nextOrder 42 = .ok (.getfield 64, 3) := dq_180 (zby_at (j := 10) zbX12_nextOrder_2 rfl) (zby_at (j := 11) zbX12_nextOrder_2 rfl) (zby_at (j := 12) zbX12_nextOrder_2 rfl)
theorem dX12_nextOrder_45 : decode cX12_nextOrder 45 = .ok (.iload_n 3, 1) := dq_29 (zby_at (j := 13) zbX12_nextOrder_2 rfl)
theorem dX12_nextOrder_46 : decode cX12_nextOrder 46 = .ok (.iaload, 1) := dq_46 (zby_at (j := 14) zbX12_nextOrder_2 rfl)
theorem dX12_nextOrder_47 : decode cX12_nextOrder 47 = .ok (.aload_n 0, 1) := dq_42 (zby_at (j := 15) zbX12_nextOrder_2 rfl)
theorem zbX12_nextOrder_3 : zby cX12_nextOrder 48 20 = [180, 0, 64, 28, 46, 162, 0, 9, 132, 3, 255, 167, 255, 238, 42, 28, 29, 182, 1, 147] := by decide +kernel
theorem dX12_nextOrder_48 : decode cX12_nextOrder 48 = .ok (.getfield 64, 3) := dq_180 (zby_at (j := 0) zbX12_nextOrder_3 rfl) (zby_at (j := 1) zbX12_nextOrder_3 rfl) (zby_at (j := 2) zbX12_nextOrder_3 rfl)
theorem dX12_nextOrder_51 : decode cX12_nextOrder 51 = .ok (.iload_n 2, 1) := dq_28 (zby_at (j := 3) zbX12_nextOrder_3 rfl)
theorem dX12_nextOrder_52 : decode cX12_nextOrder 52 = .ok (.iaload, 1) := dq_46 (zby_at (j := 4) zbX12_nextOrder_3 rfl)
theorem dX12_nextOrder_53 : decode cX12_nextOrder 53 = .ok (.if_icmp .ge 9, 3) := dq_162 (zby_at (j := 5) zbX12_nextOrder_3 rfl) (zby_at (j := 6) zbX12_nextOrder_3 rfl) (zby_at (j := 7) zbX12_nextOrder_3 rfl) rfl
theorem dX12_nextOrder_56 : decode cX12_nextOrder 56 = .ok (.iinc 3 (-1), 3) := dq_132 (zby_at (j := 8) zbX12_nextOrder_3 rfl) (zby_at (j := 9) zbX12_nextOrder_3 rfl) (zby_at (j := 10) zbX12_nextOrder_3 rfl) rfl
theorem dX12_nextOrder_59 : decode cX12_nextOrder 59 = .ok (.goto (-18), 3) := dq_167 (zby_at (j := 11) zbX12_nextOrder_3 rfl) (zby_at (j := 12) zbX12_nextOrder_3 rfl) (zby_at (j := 13) zbX12_nextOrder_3 rfl) rfl
theorem dX12_nextOrder_62 : decode cX12_nextOrder 62 = .ok (.aload_n 0, 1) := dq_42 (zby_at (j := 14) zbX12_nextOrder_3 rfl)
theorem dX12_nextOrder_63 : decode cX12_nextOrder 63 = .ok (.iload_n 2, 1) := dq_28 (zby_at (j := 15) zbX12_nextOrder_3 rfl)
theorem zbX12_nextOrder_4 : zby cX12_nextOrder 64 20 = [29, 182, 1, 147, 28, 4, 96, 54, 4, 27, 4, 100, 54, 5, 21, 4, 21, 5, 162, 0] := by decide +kernel
theorem dX12_nextOrder_64 : decode cX12_nextOrder 64 = .ok (.iload_n 3, 1) := dq_29 (zby_at (j := 0) zbX12_nextOrder_4 rfl)
theorem dX12_nextOrder_65 : decode cX12_nextOrder 65 = .ok (.invokevirtual 403, 3) := dq_182 (zby_at (j := 1) zbX12_nextOrder_4 rfl) (zby_at (j := 2) zbX12_nextOrder_4 rfl) (zby_at (j := 3) zbX12_nextOrder_4 rfl)
theorem dX12_nextOrder_68 : decode cX12_nextOrder 68 = .ok (.iload_n 2, 1) := dq_28 (zby_at (j := 4) zbX12_nextOrder_4 rfl)
theorem dX12_nextOrder_69 : decode cX12_nextOrder 69 = .ok (.iconst 1, 1) := dq_4 (zby_at (j := 5) zbX12_nextOrder_4 rfl)
theorem dX12_nextOrder_70 : decode cX12_nextOrder 70 = .ok (.iadd, 1) := dq_96 (zby_at (j := 6) zbX12_nextOrder_4 rfl)
theorem dX12_nextOrder_71 : decode cX12_nextOrder 71 = .ok (.istore 4, 2) := dq_54 (zby_at (j := 7) zbX12_nextOrder_4 rfl) (zby_at (j := 8) zbX12_nextOrder_4 rfl)
theorem dX12_nextOrder_73 : decode cX12_nextOrder 73 = .ok (.iload_n 1, 1) := dq_27 (zby_at (j := 9) zbX12_nextOrder_4 rfl)
theorem dX12_nextOrder_74 : decode cX12_nextOrder 74 = .ok (.iconst 1, 1) := dq_4 (zby_at (j := 10) zbX12_nextOrder_4 rfl)
theorem dX12_nextOrder_75 : decode cX12_nextOrder 75 = .ok (.isub, 1) := dq_100 (zby_at (j := 11) zbX12_nextOrder_4 rfl)
theorem dX12_nextOrder_76 : decode cX12_nextOrder 76 = .ok (.istore 5, 2) := dq_54 (zby_at (j := 12) zbX12_nextOrder_4 rfl) (zby_at (j := 13) zbX12_nextOrder_4 rfl)
theorem dX12_nextOrder_78 : decode cX12_nextOrder 78 = .ok (.iload 4, 2) := dq_21 (zby_at (j := 14) zbX12_nextOrder_4 rfl) (zby_at (j := 15) zbX12_nextOrder_4 rfl)
theorem zbX12_nextOrder_5 : zby cX12_nextOrder 80 20 = [21, 5, 162, 0, 20, 42, 21, 4, 21, 5, 182, 1, 147, 132, 4, 1, 132, 5, 255, 167] := by decide +kernel
theorem dX12_nextOrder_80 : decode cX12_nextOrder 80 = .ok (.iload 5, 2) := dq_21 (zby_at (j := 0) zbX12_nextOrder_5 rfl) (zby_at (j := 1) zbX12_nextOrder_5 rfl)
theorem dX12_nextOrder_82 : decode cX12_nextOrder 82 = .ok (.if_icmp .ge 20, 3) := dq_162 (zby_at (j := 2) zbX12_nextOrder_5 rfl) (zby_at (j := 3) zbX12_nextOrder_5 rfl) (zby_at (j := 4) zbX12_nextOrder_5 rfl) rfl
theorem dX12_nextOrder_85 : decode cX12_nextOrder 85 = .ok (.aload_n 0, 1) := dq_42 (zby_at (j := 5) zbX12_nextOrder_5 rfl)
theorem dX12_nextOrder_86 : decode cX12_nextOrder 86 = .ok (.iload 4, 2) := dq_21 (zby_at (j := 6) zbX12_nextOrder_5 rfl) (zby_at (j := 7) zbX12_nextOrder_5 rfl)
theorem dX12_nextOrder_88 : decode cX12_nextOrder 88 = .ok (.iload 5, 2) := dq_21 (zby_at (j := 8) zbX12_nextOrder_5 rfl) (zby_at (j := 9) zbX12_nextOrder_5 rfl)
theorem dX12_nextOrder_90 : decode cX12_nextOrder 90 = .ok (.invokevirtual 403, 3) := dq_182 (zby_at (j := 10) zbX12_nextOrder_5 rfl) (zby_at (j := 11) zbX12_nextOrder_5 rfl) (zby_at (j := 12) zbX12_nextOrder_5 rfl)
theorem dX12_nextOrder_93 : decode cX12_nextOrder 93 = .ok (.iinc 4 1, 3) := dq_132 (zby_at (j := 13) zbX12_nextOrder_5 rfl) (zby_at (j := 14) zbX12_nextOrder_5 rfl) (zby_at (j := 15) zbX12_nextOrder_5 rfl) rfl
theorem zbX12_nextOrder_6 : zby cX12_nextOrder 96 20 = [132, 5, 255, 167, 255, 235, 4, 172] := by decide +kernel
theorem dX12_nextOrder_96 : decode cX12_nextOrder 96 = .ok (.iinc 5 (-1), 3) := dq_132 (zby_at (j := 0) zbX12_nextOrder_6 rfl) (zby_at (j := 1) zbX12_nextOrder_6 rfl) (zby_at (j := 2) zbX12_nextOrder_6 rfl) rfl
theorem dX12_nextOrder_99 : decode cX12_nextOrder 99 = .ok (.goto (-21), 3) := dq_167 (zby_at (j := 3) zbX12_nextOrder_6 rfl) (zby_at (j := 4) zbX12_nextOrder_6 rfl) (zby_at (j := 5) zbX12_nextOrder_6 rfl) rfl
theorem dX12_nextOrder_102 : decode cX12_nextOrder 102 = .ok (.iconst 1, 1) := dq_4 (zby_at (j := 6) zbX12_nextOrder_6 rfl)
theorem dX12_nextOrder_103 : decode cX12_nextOrder 103 = .ok (.ireturn, 1) := dq_172 (zby_at (j := 7) zbX12_nextOrder_6 rfl)
theorem zbX12_trades_0 : zby cX12_trades 0 20 = [42, 180, 0, 64, 27, 46, 62, 42, 180, 0, 64, 27, 42, 180, 0, 64, 28, 46, 79, 42] := by decide +kernel
theorem dX12_trades_0 : decode cX12_trades 0 = .ok (.aload_n 0, 1) := dq_42 (zby_at (j := 0) zbX12_trades_0 rfl)
theorem dX12_trades_1 : decode cX12_trades 1 = .ok (.getfield 64, 3) := dq_180 (zby_at (j := 1) zbX12_trades_0 rfl) (zby_at (j := 2) zbX12_trades_0 rfl) (zby_at (j := 3) zbX12_trades_0 rfl)
theorem dX12_trades_4 : decode cX12_trades 4 = .ok (.iload_n 1, 1) := dq_27 (zby_at (j := 4) zbX12_trades_0 rfl)
theorem dX12_trades_5 : decode cX12_trades 5 = .ok (.iaload, 1) := dq_46 (zby_at (j := 5) zbX12_trades_0 rfl)
theorem dX12_trades_6 : decode cX12_trades 6 = .ok (.istore_n 3, 1) := dq_62 (zby_at (j := 6) zbX12_trades_0 rfl)
theorem dX12_trades_7 : decode cX12_trades 7 = .ok (.aload_n 0, 1) := dq_42 (zby_at (j := 7) zbX12_trades_0 rfl)
theorem dX12_trades_8 : decode cX12_trades 8 = .ok (.getfield 64, 3) := dq_180 (zby_at (j := 8) zbX12_trades_0 rfl) (zby_at (j := 9) zbX12_trades_0 rfl) (zby_at (j := 10) zbX12_trades_0 rfl)
theorem dX12_trades_11 : decode cX12_trades 11 = .ok (.iload_n 1, 1) := dq_27 (zby_at (j := 11) zbX12_trades_0 rfl)
theorem dX12_trades_12 : decode cX12_trades 12 = .ok (.aload_n 0, 1) := dq_42 (zby_at (j := 12) zbX12_trades_0 rfl)
theorem dX12_trades_13 : decode cX12_trades 13 = .ok (.getfield 64, 3) := dq_180 (zby_at (j := 13) zbX12_trades_0 rfl) (zby_at (j := 14) zbX12_trades_0 rfl) (zby_at (j := 15) zbX12_trades_0 rfl)
theorem zbX12_trades_1 : zby cX12_trades 16 20 = [28, 46, 79, 42, 180, 0, 64, 28, 29, 79, 177] := by decide +kernel
theorem dX12_trades_16 : decode cX12_trades 16 = .ok (.iload_n 2, 1) := dq_28 (zby_at (j := 0) zbX12_trades_1 rfl)
theorem dX12_trades_17 : decode cX12_trades 17 = .ok (.iaload, 1) := dq_46 (zby_at (j := 1) zbX12_trades_1 rfl)
theorem dX12_trades_18 : decode cX12_trades 18 = .ok (.iastore, 1) := dq_79 (zby_at (j := 2) zbX12_trades_1 rfl)
theorem dX12_trades_19 : decode cX12_trades 19 = .ok (.aload_n 0, 1) := dq_42 (zby_at (j := 3) zbX12_trades_1 rfl)
theorem dX12_trades_20 : decode cX12_trades 20 = .ok (.getfield 64, 3) := dq_180 (zby_at (j := 4) zbX12_trades_1 rfl) (zby_at (j := 5) zbX12_trades_1 rfl) (zby_at (j := 6) zbX12_trades_1 rfl)
theorem dX12_trades_23 : decode cX12_trades 23 = .ok (.iload_n 2, 1) := dq_28 (zby_at (j := 7) zbX12_trades_1 rfl)
theorem dX12_trades_24 : decode cX12_trades 24 = .ok (.iload_n 3, 1) := dq_29 (zby_at (j := 8) zbX12_trades_1 rfl)
theorem dX12_trades_25 : decode cX12_trades 25 = .ok (.iastore, 1) := dq_79 (zby_at (j := 9) zbX12_trades_1 rfl)
theorem dX12_trades_26 : decode cX12_trades 26 = .ok (.return_, 1) := dq_177 (zby_at (j := 10) zbX12_trades_1 rfl)
theorem zbX12_findsBest_0 : zby cX12_findsBest 0 20 = [2, 61, 3, 62, 29, 16, 10, 162, 0, 16, 42, 180, 0, 64, 29, 29, 79, 132, 3, 1] := by decide +kernel
theorem dX12_findsBest_0 : decode cX12_findsBest 0 = .ok (.iconst (-1), 1) := dq_2 (zby_at (j := 0) zbX12_findsBest_0 rfl)
theorem dX12_findsBest_1 : decode cX12_findsBest 1 = .ok (.istore_n 2, 1) := dq_61 (zby_at (j := 1) zbX12_findsBest_0 rfl)
theorem dX12_findsBest_2 : decode cX12_findsBest 2 = .ok (.iconst 0, 1) := dq_3 (zby_at (j := 2) zbX12_findsBest_0 rfl)
theorem dX12_findsBest_3 : decode cX12_findsBest 3 = .ok (.istore_n 3, 1) := dq_62 (zby_at (j := 3) zbX12_findsBest_0 rfl)
theorem dX12_findsBest_4 : decode cX12_findsBest 4 = .ok (.iload_n 3, 1) := dq_29 (zby_at (j := 4) zbX12_findsBest_0 rfl)
theorem dX12_findsBest_5 : decode cX12_findsBest 5 = .ok (.bipush 10, 2) := dq_16 (zby_at (j := 5) zbX12_findsBest_0 rfl) (zby_at (j := 6) zbX12_findsBest_0 rfl) rfl
theorem dX12_findsBest_7 : decode cX12_findsBest 7 = .ok (.if_icmp .ge 16, 3) := dq_162 (zby_at (j := 7) zbX12_findsBest_0 rfl) (zby_at (j := 8) zbX12_findsBest_0 rfl) (zby_at (j := 9) zbX12_findsBest_0 rfl) rfl
theorem dX12_findsBest_10 : decode cX12_findsBest 10 = .ok (.aload_n 0, 1) := dq_42 (zby_at (j := 10) zbX12_findsBest_0 rfl)
theorem dX12_findsBest_11 : decode cX12_findsBest 11 = .ok (.getfield 64, 3) := dq_180 (zby_at (j := 11) zbX12_findsBest_0 rfl) (zby_at (j := 12) zbX12_findsBest_0 rfl) (zby_at (j := 13) zbX12_findsBest_0 rfl)
theorem dX12_findsBest_14 : decode cX12_findsBest 14 = .ok (.iload_n 3, 1) := dq_29 (zby_at (j := 14) zbX12_findsBest_0 rfl)
theorem dX12_findsBest_15 : decode cX12_findsBest 15 = .ok (.iload_n 3, 1) := dq_29 (zby_at (j := 15) zbX12_findsBest_0 rfl)
theorem zbX12_findsBest_1 : zby cX12_findsBest 16 20 = [79, 132, 3, 1, 167, 255, 240, 4, 62, 29, 153, 0, 68, 42, 27, 182, 1, 134, 54, 4] := by decide +kernel
theorem dX12_findsBest_16 : decode cX12_findsBest 16 = .ok (.iastore, 1) := dq_79 (zby_at (j := 0) zbX12_findsBest_1 rfl)
theorem dX12_findsBest_17 : decode cX12_findsBest 17 = .ok (.iinc 3 1, 3) := dq_132 (zby_at (j := 1) zbX12_findsBest_1 rfl) (zby_at (j := 2) zbX12_findsBest_1 rfl) (zby_at (j := 3) zbX12_findsBest_1 rfl) rfl
theorem dX12_findsBest_20 : decode cX12_findsBest 20 = .ok (.goto (-16), 3) := dq_167 (zby_at (j := 4) zbX12_findsBest_1 rfl) (zby_at (j := 5) zbX12_findsBest_1 rfl) (zby_at (j := 6) zbX12_findsBest_1 rfl) rfl
theorem dX12_findsBest_23 : decode cX12_findsBest 23 = .ok (.iconst 1, 1) := dq_4 (zby_at (j := 7) zbX12_findsBest_1 rfl)
theorem dX12_findsBest_24 : decode cX12_findsBest 24 = .ok (.istore_n 3, 1) := dq_62 (zby_at (j := 8) zbX12_findsBest_1 rfl)
theorem dX12_findsBest_25 : decode cX12_findsBest 25 = .ok (.iload_n 3, 1) := dq_29 (zby_at (j := 9) zbX12_findsBest_1 rfl)
theorem dX12_findsBest_26 : decode cX12_findsBest 26 = .ok (.ifCond .eq 68, 3) := dq_153 (zby_at (j := 10) zbX12_findsBest_1 rfl) (zby_at (j := 11) zbX12_findsBest_1 rfl) (zby_at (j := 12) zbX12_findsBest_1 rfl) rfl
theorem dX12_findsBest_29 : decode cX12_findsBest 29 = .ok (.aload_n 0, 1) := dq_42 (zby_at (j := 13) zbX12_findsBest_1 rfl)
theorem dX12_findsBest_30 : decode cX12_findsBest 30 = .ok (.iload_n 1, 1) := dq_27 (zby_at (j := 14) zbX12_findsBest_1 rfl)
theorem dX12_findsBest_31 : decode cX12_findsBest 31 = .ok (.invokevirtual 390, 3) := dq_182 (zby_at (j := 15) zbX12_findsBest_1 rfl) (zby_at (j := 16) zbX12_findsBest_1 rfl) (zby_at (j := 17) zbX12_findsBest_1 rfl)
theorem zbX12_findsBest_2 : zby cX12_findsBest 32 20 = [1, 134, 54, 4, 28, 2, 159, 0, 9, 21, 4, 28, 162, 0, 36, 21, 4, 61, 3, 54] := by decide +kernel
theorem dX12_findsBest_34 : decode cX12_findsBest 34 = .ok (.istore 4, 2) := dq_54 (zby_at (j := 2) zbX12_findsBest_2 rfl) (zby_at (j := 3) zbX12_findsBest_2 rfl)
theorem dX12_findsBest_36 : decode cX12_findsBest 36 = .ok (.iload_n 2, 1) := dq_28 (zby_at (j := 4) zbX12_findsBest_2 rfl)
theorem dX12_findsBest_37 : decode cX12_findsBest 37 = .ok (.iconst (-1), 1) := dq_2 (zby_at (j := 5) zbX12_findsBest_2 rfl)
theorem dX12_findsBest_38 : decode cX12_findsBest 38 = .ok (.if_icmp .eq 9, 3) := dq_159 (zby_at (j := 6) zbX12_findsBest_2 rfl) (zby_at (j := 7) zbX12_findsBest_2 rfl) (zby_at (j := 8) zbX12_findsBest_2 rfl) rfl
theorem dX12_findsBest_41 : decode cX12_findsBest 41 = .ok (.iload 4, 2) := dq_21 (zby_at (j := 9) zbX12_findsBest_2 rfl) (zby_at (j := 10) zbX12_findsBest_2 rfl)
theorem dX12_findsBest_43 : decode cX12_findsBest 43 = .ok (.iload_n 2, 1) := dq_28 (zby_at (j := 11) zbX12_findsBest_2 rfl)
theorem dX12_findsBest_44 : decode cX12_findsBest 44 = .ok (.if_icmp .ge 36, 3) := dq_162 (zby_at (j := 12) zbX12_findsBest_2 rfl) (zby_at (j := 13) zbX12_findsBest_2 rfl) (zby_at (j := 14) zbX12_findsBest_2 rfl) rfl
theorem dX12_findsBest_47 : decode cX12_findsBest 47 = .ok (.iload 4, 2) := dq_21 (zby_at (j := 15) zbX12_findsBest_2 rfl) (zby_at (j := 16) zbX12_findsBest_2 rfl)
theorem zbX12_findsBest_3 : zby cX12_findsBest 48 20 = [4, 61, 3, 54, 5, 21, 5, 16, 10, 162, 0, 23, 42, 180, 0, 70, 21, 5, 42, 180] := by decide +kernel
theorem dX12_findsBest_49 : decode cX12_findsBest 49 = .ok (.istore_n 2, 1) := dq_61 (zby_at (j := 1) zbX12_findsBest_3 rfl)
theorem dX12_findsBest_50 : decode cX12_findsBest 50 = .ok (.iconst 0, 1) := dq_3 (zby_at (j := 2) zbX12_findsBest_3 rfl)
theorem dX12_findsBest_51 : decode cX12_findsBest 51 = .ok (.istore 5, 2) := dq_54 (zby_at (j := 3) zbX12_findsBest_3 rfl) (zby_at (j := 4) zbX12_findsBest_3 rfl)
theorem dX12_findsBest_53 : decode cX12_findsBest 53 = .ok (.iload 5, 2) := dq_21 (zby_at (j := 5) zbX12_findsBest_3 rfl) (zby_at (j := 6) zbX12_findsBest_3 rfl)
theorem dX12_findsBest_55 : decode cX12_findsBest 55 = .ok (.bipush 10, 2) := dq_16 (zby_at (j := 7) zbX12_findsBest_3 rfl) (zby_at (j := 8) zbX12_findsBest_3 rfl) rfl
theorem dX12_findsBest_57 : decode cX12_findsBest 57 = .ok (.if_icmp .ge 23, 3) := dq_162 (zby_at (j := 9) zbX12_findsBest_3 rfl) (zby_at (j := 10) zbX12_findsBest_3 rfl) (zby_at (j := 11) zbX12_findsBest_3 rfl) rfl
theorem dX12_findsBest_60 : decode cX12_findsBest 60 = .ok (.aload_n 0, 1) := dq_42 (zby_at (j := 12) zbX12_findsBest_3 rfl)
theorem dX12_findsBest_61 : decode cX12_findsBest 61 = .ok (.getfield 70, 3) := dq_180 (zby_at (j := 13) zbX12_findsBest_3 rfl) (zby_at (j := 14) zbX12_findsBest_3 rfl) (zby_at (j := 15) zbX12_findsBest_3 rfl)
theorem zbX12_findsBest_4 : zby cX12_findsBest 64 20 = [21, 5, 42, 180, 0, 64, 21, 5, 46, 79, 132, 5, 1, 167, 255, 232, 42, 42, 180, 0] := by decide +kernel
theorem dX12_findsBest_64 : decode cX12_findsBest 64 = .ok (.iload 5, 2) := dq_21 (zby_at (j := 0) zbX12_findsBest_4 rfl) (zby_at (j := 1) zbX12_findsBest_4 rfl)
theorem dX12_findsBest_66 : decode cX12_findsBest 66 = .ok (.aload_n 0, 1) := dq_42 (zby_at (j := 2) zbX12_findsBest_4 rfl)
theorem dX12_findsBest_67 : decode cX12_findsBest 67 = .ok (.getfield 64, 3) := dq_180 (zby_at (j := 3) zbX12_findsBest_4 rfl) (zby_at (j := 4) zbX12_findsBest_4 rfl) (zby_at (j := 5) zbX12_findsBest_4 rfl)
theorem dX12_findsBest_70 : decode cX12_findsBest 70 = .ok (.iload 5, 2) := dq_21 (zby_at (j := 6) zbX12_findsBest_4 rfl) (zby_at (j := 7) zbX12_findsBest_4 rfl)
theorem dX12_findsBest_72 : decode cX12_findsBest 72 = .ok (.iaload, 1) := dq_46 (zby_at (j := 8) zbX12_findsBest_4 rfl)
theorem dX12_findsBest_73 : decode cX12_findsBest 73 = .ok (.iastore, 1) := dq_79 (zby_at (j := 9) zbX12_findsBest_4 rfl)
theorem dX12_findsBest_74 : decode cX12_findsBest 74 = .ok (.iinc 5 1, 3) := dq_132 (zby_at (j := 10) zbX12_findsBest_4 rfl) (zby_at (j := 11) zbX12_findsBest_4 rfl) (zby_at (j := 12) zbX12_findsBest_4 rfl) rfl
theorem dX12_findsBest_77 : decode cX12_findsBest 77 = .ok (.goto (-24), 3) := dq_167 (zby_at (j := 13) zbX12_findsBest_4 rfl) (zby_at (j := 14) zbX12_findsBest_4 rfl) (zby_at (j := 15) zbX12_findsBest_4 rfl) rfl
theorem zbX12_findsBest_5 : zby cX12_findsBest 80 20 = [42, 42, 180, 0, 9, 3, 46, 182, 1, 150, 62, 167, 255, 190, 28, 172] := by decide +kernel
theorem dX12_findsBest_80 : decode cX12_findsBest 80 = .ok (.aload_n 0, 1) := dq_42 (zby_at (j := 0) zbX12_findsBest_5 rfl)
theorem dX12_findsBest_81 : decode cX12_findsBest 81 = .ok (.aload_n 0, 1) := dq_42 (zby_at (j := 1) zbX12_findsBest_5 rfl)
theorem dX12_findsBest_82 : decode cX12_findsBest 82 = .ok (.getfield 9, 3) := dq_180 (zby_at (j := 2) zbX12_findsBest_5 rfl) (zby_at (j := 3) zbX12_findsBest_5 rfl) (zby_at (j := 4) zbX12_findsBest_5 rfl)
theorem dX12_findsBest_85 : decode cX12_findsBest 85 = .ok (.iconst 0, 1) := dq_3 (zby_at (j := 5) zbX12_findsBest_5 rfl)
theorem dX12_findsBest_86 : decode cX12_findsBest 86 = .ok (.iaload, 1) := dq_46 (zby_at (j := 6) zbX12_findsBest_5 rfl)
theorem dX12_findsBest_87 : decode cX12_findsBest 87 = .ok (.invokevirtual 406, 3) := dq_182 (zby_at (j := 7) zbX12_findsBest_5 rfl) (zby_at (j := 8) zbX12_findsBest_5 rfl) (zby_at (j := 9) zbX12_findsBest_5 rfl)
theorem dX12_findsBest_90 : decode cX12_findsBest 90 = .ok (.istore_n 3, 1) := dq_62 (zby_at (j := 10) zbX12_findsBest_5 rfl)
theorem dX12_findsBest_91 : decode cX12_findsBest 91 = .ok (.goto (-66), 3) := dq_167 (zby_at (j := 11) zbX12_findsBest_5 rfl) (zby_at (j := 12) zbX12_findsBest_5 rfl) (zby_at (j := 13) zbX12_findsBest_5 rfl) rfl
theorem dX12_findsBest_94 : decode cX12_findsBest 94 = .ok (.iload_n 2, 1) := dq_28 (zby_at (j := 14) zbX12_findsBest_5 rfl)
theorem dX12_findsBest_95 : decode cX12_findsBest 95 = .ok (.ireturn, 1) := dq_172 (zby_at (j := 15) zbX12_findsBest_5 rfl)
theorem zbX12_best_0 : zby cX12_best 0 20 = [42, 27, 182, 1, 65, 153, 0, 15, 28, 133, 9, 20, 1, 79, 184, 0, 94, 154, 0, 6] := by decide +kernel
theorem dX12_best_0 : decode cX12_best 0 = .ok (.aload_n 0, 1) := dq_42 (zby_at (j := 0) zbX12_best_0 rfl)
theorem dX12_best_1 : decode cX12_best 1 = .ok (.iload_n 1, 1) := dq_27 (zby_at (j := 1) zbX12_best_0 rfl)
theorem dX12_best_2 : decode cX12_best 2 = .ok (.invokevirtual 321, 3) := dq_182 (zby_at (j := 2) zbX12_best_0 rfl) (zby_at (j := 3) zbX12_best_0 rfl) (zby_at (j := 4) zbX12_best_0 rfl)
theorem dX12_best_5 : decode cX12_best 5 = .ok (.ifCond .eq 15, 3) := dq_153 (zby_at (j := 5) zbX12_best_0 rfl) (zby_at (j := 6) zbX12_best_0 rfl) (zby_at (j := 7) zbX12_best_0 rfl) rfl
theorem dX12_best_8 : decode cX12_best 8 = .ok (.iload_n 2, 1) := dq_28 (zby_at (j := 8) zbX12_best_0 rfl)
theorem dX12_best_9 : decode cX12_best 9 = .ok (.i2l, 1) := dq_133 (zby_at (j := 9) zbX12_best_0 rfl)
theorem dX12_best_10 : decode cX12_best 10 = .ok (.lconst 0, 1) := dq_9 (zby_at (j := 10) zbX12_best_0 rfl)
theorem dX12_best_11 : decode cX12_best 11 = .ok (.ldc2_w 335, 3) := dq_20 (zby_at (j := 11) zbX12_best_0 rfl) (zby_at (j := 12) zbX12_best_0 rfl) (zby_at (j := 13) zbX12_best_0 rfl)
theorem dX12_best_14 : decode cX12_best 14 = .ok (.invokestatic 94, 3) := dq_184 (zby_at (j := 14) zbX12_best_0 rfl) (zby_at (j := 15) zbX12_best_0 rfl) (zby_at (j := 16) zbX12_best_0 rfl)
theorem zbX12_best_1 : zby cX12_best 16 20 = [94, 154, 0, 6, 16, 254, 172, 42, 180, 0, 9, 3, 46, 16, 6, 164, 0, 6, 16, 253] := by decide +kernel
theorem dX12_best_17 : decode cX12_best 17 = .ok (.ifCond .ne 6, 3) := dq_154 (zby_at (j := 1) zbX12_best_1 rfl) (zby_at (j := 2) zbX12_best_1 rfl) (zby_at (j := 3) zbX12_best_1 rfl) rfl
theorem dX12_best_20 : decode cX12_best 20 = .ok (.bipush (-2), 2) := dq_16 (zby_at (j := 4) zbX12_best_1 rfl) (zby_at (j := 5) zbX12_best_1 rfl) rfl
theorem dX12_best_22 : decode cX12_best 22 = .ok (.ireturn, 1) := dq_172 (zby_at (j := 6) zbX12_best_1 rfl)
theorem dX12_best_23 : decode cX12_best 23 = .ok (.aload_n 0, 1) := dq_42 (zby_at (j := 7) zbX12_best_1 rfl)
theorem dX12_best_24 : decode cX12_best 24 = .ok (.getfield 9, 3) := dq_180 (zby_at (j := 8) zbX12_best_1 rfl) (zby_at (j := 9) zbX12_best_1 rfl) (zby_at (j := 10) zbX12_best_1 rfl)
theorem dX12_best_27 : decode cX12_best 27 = .ok (.iconst 0, 1) := dq_3 (zby_at (j := 11) zbX12_best_1 rfl)
theorem dX12_best_28 : decode cX12_best 28 = .ok (.iaload, 1) := dq_46 (zby_at (j := 12) zbX12_best_1 rfl)
theorem dX12_best_29 : decode cX12_best 29 = .ok (.bipush 6, 2) := dq_16 (zby_at (j := 13) zbX12_best_1 rfl) (zby_at (j := 14) zbX12_best_1 rfl) rfl
theorem dX12_best_31 : decode cX12_best 31 = .ok (.if_icmp .le 6, 3) := dq_164 (zby_at (j := 15) zbX12_best_1 rfl) (zby_at (j := 16) zbX12_best_1 rfl) (zby_at (j := 17) zbX12_best_1 rfl) rfl
theorem zbX12_best_2 : zby cX12_best 32 20 = [0, 6, 16, 253, 172, 42, 27, 182, 1, 153, 62, 28, 154, 0, 7, 29, 167, 0, 25, 28] := by decide +kernel
theorem dX12_best_34 : decode cX12_best 34 = .ok (.bipush (-3), 2) := dq_16 (zby_at (j := 2) zbX12_best_2 rfl) (zby_at (j := 3) zbX12_best_2 rfl) rfl
theorem dX12_best_36 : decode cX12_best 36 = .ok (.ireturn, 1) := dq_172 (zby_at (j := 4) zbX12_best_2 rfl)
theorem dX12_best_37 : decode cX12_best 37 = .ok (.aload_n 0, 1) := dq_42 (zby_at (j := 5) zbX12_best_2 rfl)
theorem dX12_best_38 : decode cX12_best 38 = .ok (.iload_n 1, 1) := dq_27 (zby_at (j := 6) zbX12_best_2 rfl)
theorem dX12_best_39 : decode cX12_best 39 = .ok (.invokevirtual 409, 3) := dq_182 (zby_at (j := 7) zbX12_best_2 rfl) (zby_at (j := 8) zbX12_best_2 rfl) (zby_at (j := 9) zbX12_best_2 rfl)
theorem dX12_best_42 : decode cX12_best 42 = .ok (.istore_n 3, 1) := dq_62 (zby_at (j := 10) zbX12_best_2 rfl)
theorem dX12_best_43 : decode cX12_best 43 = .ok (.iload_n 2, 1) := dq_28 (zby_at (j := 11) zbX12_best_2 rfl)
theorem dX12_best_44 : decode cX12_best 44 = .ok (.ifCond .ne 7, 3) := dq_154 (zby_at (j := 12) zbX12_best_2 rfl) (zby_at (j := 13) zbX12_best_2 rfl) (zby_at (j := 14) zbX12_best_2 rfl) rfl
theorem dX12_best_47 : decode cX12_best 47 = .ok (.iload_n 3, 1) := dq_29 (zby_at (j := 15) zbX12_best_2 rfl)
theorem zbX12_best_3 : zby cX12_best 48 20 = [167, 0, 25, 28, 42, 180, 0, 9, 3, 46, 164, 0, 7, 2, 167, 0, 11, 42, 180, 0] := by decide +kernel
theorem dX12_best_48 : decode cX12_best 48 = .ok (.goto 25, 3) := dq_167 (zby_at (j := 0) zbX12_best_3 rfl) (zby_at (j := 1) zbX12_best_3 rfl) (zby_at (j := 2) zbX12_best_3 rfl) rfl
theorem dX12_best_51 : decode cX12_best 51 = .ok (.iload_n 2, 1) := dq_28 (zby_at (j := 3) zbX12_best_3 rfl)
theorem dX12_best_52 : decode cX12_best 52 = .ok (.aload_n 0, 1) := dq_42 (zby_at (j := 4) zbX12_best_3 rfl)
theorem dX12_best_53 : decode cX12_best 53 = .ok (.getfield 9, 3) := dq_180 (zby_at (j := 5) zbX12_best_3 rfl) (zby_at (j := 6) zbX12_best_3 rfl) (zby_at (j := 7) zbX12_best_3 rfl)
theorem dX12_best_56 : decode cX12_best 56 = .ok (.iconst 0, 1) := dq_3 (zby_at (j := 8) zbX12_best_3 rfl)
theorem dX12_best_57 : decode cX12_best 57 = .ok (.iaload, 1) := dq_46 (zby_at (j := 9) zbX12_best_3 rfl)
theorem dX12_best_58 : decode cX12_best 58 = .ok (.if_icmp .le 7, 3) := dq_164 (zby_at (j := 10) zbX12_best_3 rfl) (zby_at (j := 11) zbX12_best_3 rfl) (zby_at (j := 12) zbX12_best_3 rfl) rfl
theorem dX12_best_61 : decode cX12_best 61 = .ok (.iconst (-1), 1) := dq_2 (zby_at (j := 13) zbX12_best_3 rfl)
theorem dX12_best_62 : decode cX12_best 62 = .ok (.goto 11, 3) := dq_167 (zby_at (j := 14) zbX12_best_3 rfl) (zby_at (j := 15) zbX12_best_3 rfl) (zby_at (j := 16) zbX12_best_3 rfl) rfl
theorem zbX12_best_4 : zby cX12_best 64 20 = [11, 42, 180, 0, 70, 28, 4, 100, 46, 172] := by decide +kernel
theorem dX12_best_65 : decode cX12_best 65 = .ok (.aload_n 0, 1) := dq_42 (zby_at (j := 1) zbX12_best_4 rfl)
theorem dX12_best_66 : decode cX12_best 66 = .ok (.getfield 70, 3) := dq_180 (zby_at (j := 2) zbX12_best_4 rfl) (zby_at (j := 3) zbX12_best_4 rfl) (zby_at (j := 4) zbX12_best_4 rfl)
theorem dX12_best_69 : decode cX12_best 69 = .ok (.iload_n 2, 1) := dq_28 (zby_at (j := 5) zbX12_best_4 rfl)
theorem dX12_best_70 : decode cX12_best 70 = .ok (.iconst 1, 1) := dq_4 (zby_at (j := 6) zbX12_best_4 rfl)
theorem dX12_best_71 : decode cX12_best 71 = .ok (.isub, 1) := dq_100 (zby_at (j := 7) zbX12_best_4 rfl)
theorem dX12_best_72 : decode cX12_best 72 = .ok (.iaload, 1) := dq_46 (zby_at (j := 8) zbX12_best_4 rfl)
theorem dX12_best_73 : decode cX12_best 73 = .ok (.ireturn, 1) := dq_172 (zby_at (j := 9) zbX12_best_4 rfl)
theorem zbX12_sift_0 : zby cX12_sift 0 20 = [42, 27, 182, 1, 65, 154, 0, 6, 16, 254, 172, 3, 61, 3, 62, 29, 42, 180, 0, 9] := by decide +kernel
theorem dX12_sift_0 : decode cX12_sift 0 = .ok (.aload_n 0, 1) := dq_42 (zby_at (j := 0) zbX12_sift_0 rfl)
theorem dX12_sift_1 : decode cX12_sift 1 = .ok (.iload_n 1, 1) := dq_27 (zby_at (j := 1) zbX12_sift_0 rfl)
theorem dX12_sift_2 : decode cX12_sift 2 = .ok (.invokevirtual 321, 3) := dq_182 (zby_at (j := 2) zbX12_sift_0 rfl) (zby_at (j := 3) zbX12_sift_0 rfl) (zby_at (j := 4) zbX12_sift_0 rfl)
theorem dX12_sift_5 : decode cX12_sift 5 = .ok (.ifCond .ne 6, 3) := dq_154 (zby_at (j := 5) zbX12_sift_0 rfl) (zby_at (j := 6) zbX12_sift_0 rfl) (zby_at (j := 7) zbX12_sift_0 rfl) rfl
theorem dX12_sift_8 : decode cX12_sift 8 = .ok (.bipush (-2), 2) := dq_16 (zby_at (j := 8) zbX12_sift_0 rfl) (zby_at (j := 9) zbX12_sift_0 rfl) rfl
theorem dX12_sift_10 : decode cX12_sift 10 = .ok (.ireturn, 1) := dq_172 (zby_at (j := 10) zbX12_sift_0 rfl)
theorem dX12_sift_11 : decode cX12_sift 11 = .ok (.iconst 0, 1) := dq_3 (zby_at (j := 11) zbX12_sift_0 rfl)
theorem dX12_sift_12 : decode cX12_sift 12 = .ok (.istore_n 2, 1) := dq_61 (zby_at (j := 12) zbX12_sift_0 rfl)
theorem dX12_sift_13 : decode cX12_sift 13 = .ok (.iconst 0, 1) := dq_3 (zby_at (j := 13) zbX12_sift_0 rfl)
theorem dX12_sift_14 : decode cX12_sift 14 = .ok (.istore_n 3, 1) := dq_62 (zby_at (j := 14) zbX12_sift_0 rfl)
theorem dX12_sift_15 : decode cX12_sift 15 = .ok (.iload_n 3, 1) := dq_29 (zby_at (j := 15) zbX12_sift_0 rfl)
theorem zbX12_sift_1 : zby cX12_sift 16 20 = [42, 180, 0, 9, 3, 46, 162, 0, 79, 2, 54, 4, 3, 54, 5, 21, 5, 42, 180, 0] := by decide +kernel
theorem dX12_sift_16 : decode cX12_sift 16 = .ok (.aload_n 0, 1) := dq_42 (zby_at (j := 0) zbX12_sift_1 rfl)
theorem dX12_sift_17 : decode cX12_sift 17 = .ok (.getfield 9, 3) := dq_180 (zby_at (j := 1) zbX12_sift_1 rfl) (zby_at (j := 2) zbX12_sift_1 rfl) (zby_at (j := 3) zbX12_sift_1 rfl)
theorem dX12_sift_20 : decode cX12_sift 20 = .ok (.iconst 0, 1) := dq_3 (zby_at (j := 4) zbX12_sift_1 rfl)
theorem dX12_sift_21 : decode cX12_sift 21 = .ok (.iaload, 1) := dq_46 (zby_at (j := 5) zbX12_sift_1 rfl)
theorem dX12_sift_22 : decode cX12_sift 22 = .ok (.if_icmp .ge 79, 3) := dq_162 (zby_at (j := 6) zbX12_sift_1 rfl) (zby_at (j := 7) zbX12_sift_1 rfl) (zby_at (j := 8) zbX12_sift_1 rfl) rfl
theorem dX12_sift_25 : decode cX12_sift 25 = .ok (.iconst (-1), 1) := dq_2 (zby_at (j := 9) zbX12_sift_1 rfl)
theorem dX12_sift_26 : decode cX12_sift 26 = .ok (.istore 4, 2) := dq_54 (zby_at (j := 10) zbX12_sift_1 rfl) (zby_at (j := 11) zbX12_sift_1 rfl)
theorem dX12_sift_28 : decode cX12_sift 28 = .ok (.iconst 0, 1) := dq_3 (zby_at (j := 12) zbX12_sift_1 rfl)
theorem dX12_sift_29 : decode cX12_sift 29 = .ok (.istore 5, 2) := dq_54 (zby_at (j := 13) zbX12_sift_1 rfl) (zby_at (j := 14) zbX12_sift_1 rfl)
theorem dX12_sift_31 : decode cX12_sift 31 = .ok (.iload 5, 2) := dq_21 (zby_at (j := 15) zbX12_sift_1 rfl) (zby_at (j := 16) zbX12_sift_1 rfl)
theorem zbX12_sift_2 : zby cX12_sift 32 20 = [5, 42, 180, 0, 9, 3, 46, 162, 0, 49, 42, 29, 21, 5, 182, 1, 143, 42, 182, 1] := by decide +kernel
theorem dX12_sift_33 : decode cX12_sift 33 = .ok (.aload_n 0, 1) := dq_42 (zby_at (j := 1) zbX12_sift_2 rfl)
theorem dX12_sift_34 : decode cX12_sift 34 = .ok (.getfield 9, 3) := dq_180 (zby_at (j := 2) zbX12_sift_2 rfl) (zby_at (j := 3) zbX12_sift_2 rfl) (zby_at (j := 4) zbX12_sift_2 rfl)
theorem dX12_sift_37 : decode cX12_sift 37 = .ok (.iconst 0, 1) := dq_3 (zby_at (j := 5) zbX12_sift_2 rfl)
theorem dX12_sift_38 : decode cX12_sift 38 = .ok (.iaload, 1) := dq_46 (zby_at (j := 6) zbX12_sift_2 rfl)
theorem dX12_sift_39 : decode cX12_sift 39 = .ok (.if_icmp .ge 49, 3) := dq_162 (zby_at (j := 7) zbX12_sift_2 rfl) (zby_at (j := 8) zbX12_sift_2 rfl) (zby_at (j := 9) zbX12_sift_2 rfl) rfl
theorem dX12_sift_42 : decode cX12_sift 42 = .ok (.aload_n 0, 1) := dq_42 (zby_at (j := 10) zbX12_sift_2 rfl)
theorem dX12_sift_43 : decode cX12_sift 43 = .ok (.iload_n 3, 1) := dq_29 (zby_at (j := 11) zbX12_sift_2 rfl)
theorem dX12_sift_44 : decode cX12_sift 44 = .ok (.iload 5, 2) := dq_21 (zby_at (j := 12) zbX12_sift_2 rfl) (zby_at (j := 13) zbX12_sift_2 rfl)
theorem dX12_sift_46 : decode cX12_sift 46 = .ok (.invokevirtual 399, 3) := dq_182 (zby_at (j := 14) zbX12_sift_2 rfl) (zby_at (j := 15) zbX12_sift_2 rfl) (zby_at (j := 16) zbX12_sift_2 rfl)
theorem zbX12_sift_3 : zby cX12_sift 48 20 = [143, 42, 182, 1, 131, 42, 27, 182, 1, 134, 54, 6, 21, 4, 2, 159, 0, 12, 21, 6] := by decide +kernel
theorem dX12_sift_49 : decode cX12_sift 49 = .ok (.aload_n 0, 1) := dq_42 (zby_at (j := 1) zbX12_sift_3 rfl)
theorem dX12_sift_50 : decode cX12_sift 50 = .ok (.invokevirtual 387, 3) := dq_182 (zby_at (j := 2) zbX12_sift_3 rfl) (zby_at (j := 3) zbX12_sift_3 rfl) (zby_at (j := 4) zbX12_sift_3 rfl)
theorem dX12_sift_53 : decode cX12_sift 53 = .ok (.aload_n 0, 1) := dq_42 (zby_at (j := 5) zbX12_sift_3 rfl)
theorem dX12_sift_54 : decode cX12_sift 54 = .ok (.iload_n 1, 1) := dq_27 (zby_at (j := 6) zbX12_sift_3 rfl)
theorem dX12_sift_55 : decode cX12_sift 55 = .ok (.invokevirtual 390, 3) := dq_182 (zby_at (j := 7) zbX12_sift_3 rfl) (zby_at (j := 8) zbX12_sift_3 rfl) (zby_at (j := 9) zbX12_sift_3 rfl)
theorem dX12_sift_58 : decode cX12_sift 58 = .ok (.istore 6, 2) := dq_54 (zby_at (j := 10) zbX12_sift_3 rfl) (zby_at (j := 11) zbX12_sift_3 rfl)
theorem dX12_sift_60 : decode cX12_sift 60 = .ok (.iload 4, 2) := dq_21 (zby_at (j := 12) zbX12_sift_3 rfl) (zby_at (j := 13) zbX12_sift_3 rfl)
theorem dX12_sift_62 : decode cX12_sift 62 = .ok (.iconst (-1), 1) := dq_2 (zby_at (j := 14) zbX12_sift_3 rfl)
theorem dX12_sift_63 : decode cX12_sift 63 = .ok (.if_icmp .eq 12, 3) := dq_159 (zby_at (j := 15) zbX12_sift_3 rfl) (zby_at (j := 16) zbX12_sift_3 rfl) (zby_at (j := 17) zbX12_sift_3 rfl) rfl
theorem zbX12_sift_4 : zby cX12_sift 64 20 = [0, 12, 21, 6, 28, 161, 0, 6, 167, 0, 10, 21, 5, 54, 4, 21, 6, 61, 132, 5] := by decide +kernel
theorem dX12_sift_66 : decode cX12_sift 66 = .ok (.iload 6, 2) := dq_21 (zby_at (j := 2) zbX12_sift_4 rfl) (zby_at (j := 3) zbX12_sift_4 rfl)
theorem dX12_sift_68 : decode cX12_sift 68 = .ok (.iload_n 2, 1) := dq_28 (zby_at (j := 4) zbX12_sift_4 rfl)
theorem dX12_sift_69 : decode cX12_sift 69 = .ok (.if_icmp .lt 6, 3) := dq_161 (zby_at (j := 5) zbX12_sift_4 rfl) (zby_at (j := 6) zbX12_sift_4 rfl) (zby_at (j := 7) zbX12_sift_4 rfl) rfl
theorem dX12_sift_72 : decode cX12_sift 72 = .ok (.goto 10, 3) := dq_167 (zby_at (j := 8) zbX12_sift_4 rfl) (zby_at (j := 9) zbX12_sift_4 rfl) (zby_at (j := 10) zbX12_sift_4 rfl) rfl
theorem dX12_sift_75 : decode cX12_sift 75 = .ok (.iload 5, 2) := dq_21 (zby_at (j := 11) zbX12_sift_4 rfl) (zby_at (j := 12) zbX12_sift_4 rfl)
theorem dX12_sift_77 : decode cX12_sift 77 = .ok (.istore 4, 2) := dq_54 (zby_at (j := 13) zbX12_sift_4 rfl) (zby_at (j := 14) zbX12_sift_4 rfl)
theorem dX12_sift_79 : decode cX12_sift 79 = .ok (.iload 6, 2) := dq_21 (zby_at (j := 15) zbX12_sift_4 rfl) (zby_at (j := 16) zbX12_sift_4 rfl)
theorem zbX12_sift_5 : zby cX12_sift 80 20 = [6, 61, 132, 5, 1, 167, 255, 202, 42, 29, 21, 4, 182, 1, 143, 132, 3, 1, 167, 255] := by decide +kernel
theorem dX12_sift_81 : decode cX12_sift 81 = .ok (.istore_n 2, 1) := dq_61 (zby_at (j := 1) zbX12_sift_5 rfl)
theorem dX12_sift_82 : decode cX12_sift 82 = .ok (.iinc 5 1, 3) := dq_132 (zby_at (j := 2) zbX12_sift_5 rfl) (zby_at (j := 3) zbX12_sift_5 rfl) (zby_at (j := 4) zbX12_sift_5 rfl) rfl
theorem dX12_sift_85 : decode cX12_sift 85 = .ok (.goto (-54), 3) := dq_167 (zby_at (j := 5) zbX12_sift_5 rfl) (zby_at (j := 6) zbX12_sift_5 rfl) (zby_at (j := 7) zbX12_sift_5 rfl) rfl
theorem dX12_sift_88 : decode cX12_sift 88 = .ok (.aload_n 0, 1) := dq_42 (zby_at (j := 8) zbX12_sift_5 rfl)
theorem dX12_sift_89 : decode cX12_sift 89 = .ok (.iload_n 3, 1) := dq_29 (zby_at (j := 9) zbX12_sift_5 rfl)
theorem dX12_sift_90 : decode cX12_sift 90 = .ok (.iload 4, 2) := dq_21 (zby_at (j := 10) zbX12_sift_5 rfl) (zby_at (j := 11) zbX12_sift_5 rfl)
theorem dX12_sift_92 : decode cX12_sift 92 = .ok (.invokevirtual 399, 3) := dq_182 (zby_at (j := 12) zbX12_sift_5 rfl) (zby_at (j := 13) zbX12_sift_5 rfl) (zby_at (j := 14) zbX12_sift_5 rfl)
theorem dX12_sift_95 : decode cX12_sift 95 = .ok (.iinc 3 1, 3) := dq_132 (zby_at (j := 15) zbX12_sift_5 rfl) (zby_at (j := 16) zbX12_sift_5 rfl) (zby_at (j := 17) zbX12_sift_5 rfl) rfl
theorem zbX12_sift_6 : zby cX12_sift 96 20 = [3, 1, 167, 255, 173, 28, 172] := by decide +kernel
theorem dX12_sift_98 : decode cX12_sift 98 = .ok (.goto (-83), 3) := dq_167 (zby_at (j := 2) zbX12_sift_6 rfl) (zby_at (j := 3) zbX12_sift_6 rfl) (zby_at (j := 4) zbX12_sift_6 rfl) rfl
theorem dX12_sift_101 : decode cX12_sift 101 = .ok (.iload_n 2, 1) := dq_28 (zby_at (j := 5) zbX12_sift_6 rfl)
theorem dX12_sift_102 : decode cX12_sift 102 = .ok (.ireturn, 1) := dq_172 (zby_at (j := 6) zbX12_sift_6 rfl)
theorem zbX12_isCrossing_0 : zby cX12_isCrossing 0 20 = [42, 182, 0, 98, 153, 0, 19, 27, 133, 9, 20, 1, 156, 184, 0, 94, 153, 0, 7, 4] := by decide +kernel
theorem dX12_isCrossing_0 : decode cX12_isCrossing 0 = .ok (.aload_n 0, 1) := dq_42 (zby_at (j := 0) zbX12_isCrossing_0 rfl)
theorem dX12_isCrossing_1 : decode cX12_isCrossing 1 = .ok (.invokevirtual 98, 3) := dq_182 (zby_at (j := 1) zbX12_isCrossing_0 rfl) (zby_at (j := 2) zbX12_isCrossing_0 rfl) (zby_at (j := 3) zbX12_isCrossing_0 rfl)
theorem dX12_isCrossing_4 : decode cX12_isCrossing 4 = .ok (.ifCond .eq 19, 3) := dq_153 (zby_at (j := 4) zbX12_isCrossing_0 rfl) (zby_at (j := 5) zbX12_isCrossing_0 rfl) (zby_at (j := 6) zbX12_isCrossing_0 rfl) rfl
theorem dX12_isCrossing_7 : decode cX12_isCrossing 7 = .ok (.iload_n 1, 1) := dq_27 (zby_at (j := 7) zbX12_isCrossing_0 rfl)
theorem dX12_isCrossing_8 : decode cX12_isCrossing 8 = .ok (.i2l, 1) := dq_133 (zby_at (j := 8) zbX12_isCrossing_0 rfl)
theorem dX12_isCrossing_9 : decode cX12_isCrossing 9 = .ok (.lconst 0, 1) := dq_9 (zby_at (j := 9) zbX12_isCrossing_0 rfl)
theorem dX12_isCrossing_10 : decode cX12_isCrossing 10 = .ok (.ldc2_w 412, 3) := dq_20 (zby_at (j := 10) zbX12_isCrossing_0 rfl) (zby_at (j := 11) zbX12_isCrossing_0 rfl) (zby_at (j := 12) zbX12_isCrossing_0 rfl)
theorem dX12_isCrossing_13 : decode cX12_isCrossing 13 = .ok (.invokestatic 94, 3) := dq_184 (zby_at (j := 13) zbX12_isCrossing_0 rfl) (zby_at (j := 14) zbX12_isCrossing_0 rfl) (zby_at (j := 15) zbX12_isCrossing_0 rfl)
theorem zbX12_isCrossing_1 : zby cX12_isCrossing 16 20 = [153, 0, 7, 4, 167, 0, 4, 3, 172] := by decide +kernel
theorem dX12_isCrossing_16 : decode cX12_isCrossing 16 = .ok (.ifCond .eq 7, 3) := dq_153 (zby_at (j := 0) zbX12_isCrossing_1 rfl) (zby_at (j := 1) zbX12_isCrossing_1 rfl) (zby_at (j := 2) zbX12_isCrossing_1 rfl) rfl
theorem dX12_isCrossing_19 : decode cX12_isCrossing 19 = .ok (.iconst 1, 1) := dq_4 (zby_at (j := 3) zbX12_isCrossing_1 rfl)
theorem dX12_isCrossing_20 : decode cX12_isCrossing 20 = .ok (.goto 4, 3) := dq_167 (zby_at (j := 4) zbX12_isCrossing_1 rfl) (zby_at (j := 5) zbX12_isCrossing_1 rfl) (zby_at (j := 6) zbX12_isCrossing_1 rfl) rfl
theorem dX12_isCrossing_23 : decode cX12_isCrossing 23 = .ok (.iconst 0, 1) := dq_3 (zby_at (j := 7) zbX12_isCrossing_1 rfl)
theorem dX12_isCrossing_24 : decode cX12_isCrossing 24 = .ok (.ireturn, 1) := dq_172 (zby_at (j := 8) zbX12_isCrossing_1 rfl)
theorem zbX12_one_0 : zby cX12_one 0 20 = [42, 180, 0, 9, 16, 13, 27, 96, 46, 172] := by decide +kernel
theorem dX12_one_0 : decode cX12_one 0 = .ok (.aload_n 0, 1) := dq_42 (zby_at (j := 0) zbX12_one_0 rfl)
theorem dX12_one_1 : decode cX12_one 1 = .ok (.getfield 9, 3) := dq_180 (zby_at (j := 1) zbX12_one_0 rfl) (zby_at (j := 2) zbX12_one_0 rfl) (zby_at (j := 3) zbX12_one_0 rfl)
theorem dX12_one_4 : decode cX12_one 4 = .ok (.bipush 13, 2) := dq_16 (zby_at (j := 4) zbX12_one_0 rfl) (zby_at (j := 5) zbX12_one_0 rfl) rfl
theorem dX12_one_6 : decode cX12_one 6 = .ok (.iload_n 1, 1) := dq_27 (zby_at (j := 6) zbX12_one_0 rfl)
theorem dX12_one_7 : decode cX12_one 7 = .ok (.iadd, 1) := dq_96 (zby_at (j := 7) zbX12_one_0 rfl)
theorem dX12_one_8 : decode cX12_one 8 = .ok (.iaload, 1) := dq_46 (zby_at (j := 8) zbX12_one_0 rfl)
theorem dX12_one_9 : decode cX12_one 9 = .ok (.ireturn, 1) := dq_172 (zby_at (j := 9) zbX12_one_0 rfl)
theorem zbX12_other_0 : zby cX12_other 0 20 = [42, 180, 0, 9, 16, 23, 27, 96, 46, 172] := by decide +kernel
theorem dX12_other_0 : decode cX12_other 0 = .ok (.aload_n 0, 1) := dq_42 (zby_at (j := 0) zbX12_other_0 rfl)
theorem dX12_other_1 : decode cX12_other 1 = .ok (.getfield 9, 3) := dq_180 (zby_at (j := 1) zbX12_other_0 rfl) (zby_at (j := 2) zbX12_other_0 rfl) (zby_at (j := 3) zbX12_other_0 rfl)
theorem dX12_other_4 : decode cX12_other 4 = .ok (.bipush 23, 2) := dq_16 (zby_at (j := 4) zbX12_other_0 rfl) (zby_at (j := 5) zbX12_other_0 rfl) rfl
theorem dX12_other_6 : decode cX12_other 6 = .ok (.iload_n 1, 1) := dq_27 (zby_at (j := 6) zbX12_other_0 rfl)
theorem dX12_other_7 : decode cX12_other 7 = .ok (.iadd, 1) := dq_96 (zby_at (j := 7) zbX12_other_0 rfl)
theorem dX12_other_8 : decode cX12_other 8 = .ok (.iaload, 1) := dq_46 (zby_at (j := 8) zbX12_other_0 rfl)
theorem dX12_other_9 : decode cX12_other 9 = .ok (.ireturn, 1) := dq_172 (zby_at (j := 9) zbX12_other_0 rfl)
theorem zbX12_fillEnds_0 : zby cX12_fillEnds 0 20 = [3, 61, 28, 16, 8, 162, 0, 16, 42, 180, 0, 73, 28, 3, 79, 132, 2, 1, 167, 255] := by decide +kernel
theorem dX12_fillEnds_0 : decode cX12_fillEnds 0 = .ok (.iconst 0, 1) := dq_3 (zby_at (j := 0) zbX12_fillEnds_0 rfl)
theorem dX12_fillEnds_1 : decode cX12_fillEnds 1 = .ok (.istore_n 2, 1) := dq_61 (zby_at (j := 1) zbX12_fillEnds_0 rfl)
theorem dX12_fillEnds_2 : decode cX12_fillEnds 2 = .ok (.iload_n 2, 1) := dq_28 (zby_at (j := 2) zbX12_fillEnds_0 rfl)
theorem dX12_fillEnds_3 : decode cX12_fillEnds 3 = .ok (.bipush 8, 2) := dq_16 (zby_at (j := 3) zbX12_fillEnds_0 rfl) (zby_at (j := 4) zbX12_fillEnds_0 rfl) rfl
theorem dX12_fillEnds_5 : decode cX12_fillEnds 5 = .ok (.if_icmp .ge 16, 3) := dq_162 (zby_at (j := 5) zbX12_fillEnds_0 rfl) (zby_at (j := 6) zbX12_fillEnds_0 rfl) (zby_at (j := 7) zbX12_fillEnds_0 rfl) rfl
theorem dX12_fillEnds_8 : decode cX12_fillEnds 8 = .ok (.aload_n 0, 1) := dq_42 (zby_at (j := 8) zbX12_fillEnds_0 rfl)
theorem dX12_fillEnds_9 : decode cX12_fillEnds 9 = .ok (.getfield 73, 3) := dq_180 (zby_at (j := 9) zbX12_fillEnds_0 rfl) (zby_at (j := 10) zbX12_fillEnds_0 rfl) (zby_at (j := 11) zbX12_fillEnds_0 rfl)
theorem dX12_fillEnds_12 : decode cX12_fillEnds 12 = .ok (.iload_n 2, 1) := dq_28 (zby_at (j := 12) zbX12_fillEnds_0 rfl)
theorem dX12_fillEnds_13 : decode cX12_fillEnds 13 = .ok (.iconst 0, 1) := dq_3 (zby_at (j := 13) zbX12_fillEnds_0 rfl)
theorem dX12_fillEnds_14 : decode cX12_fillEnds 14 = .ok (.iastore, 1) := dq_79 (zby_at (j := 14) zbX12_fillEnds_0 rfl)
theorem dX12_fillEnds_15 : decode cX12_fillEnds 15 = .ok (.iinc 2 1, 3) := dq_132 (zby_at (j := 15) zbX12_fillEnds_0 rfl) (zby_at (j := 16) zbX12_fillEnds_0 rfl) (zby_at (j := 17) zbX12_fillEnds_0 rfl) rfl
theorem zbX12_fillEnds_1 : zby cX12_fillEnds 16 20 = [2, 1, 167, 255, 240, 3, 61, 28, 42, 180, 0, 9, 5, 46, 162, 0, 45, 42, 180, 0] := by decide +kernel
theorem dX12_fillEnds_18 : decode cX12_fillEnds 18 = .ok (.goto (-16), 3) := dq_167 (zby_at (j := 2) zbX12_fillEnds_1 rfl) (zby_at (j := 3) zbX12_fillEnds_1 rfl) (zby_at (j := 4) zbX12_fillEnds_1 rfl) rfl
theorem dX12_fillEnds_21 : decode cX12_fillEnds 21 = .ok (.iconst 0, 1) := dq_3 (zby_at (j := 5) zbX12_fillEnds_1 rfl)
theorem dX12_fillEnds_22 : decode cX12_fillEnds 22 = .ok (.istore_n 2, 1) := dq_61 (zby_at (j := 6) zbX12_fillEnds_1 rfl)
theorem dX12_fillEnds_23 : decode cX12_fillEnds 23 = .ok (.iload_n 2, 1) := dq_28 (zby_at (j := 7) zbX12_fillEnds_1 rfl)
theorem dX12_fillEnds_24 : decode cX12_fillEnds 24 = .ok (.aload_n 0, 1) := dq_42 (zby_at (j := 8) zbX12_fillEnds_1 rfl)
theorem dX12_fillEnds_25 : decode cX12_fillEnds 25 = .ok (.getfield 9, 3) := dq_180 (zby_at (j := 9) zbX12_fillEnds_1 rfl) (zby_at (j := 10) zbX12_fillEnds_1 rfl) (zby_at (j := 11) zbX12_fillEnds_1 rfl)
theorem dX12_fillEnds_28 : decode cX12_fillEnds 28 = .ok (.iconst 2, 1) := dq_5 (zby_at (j := 12) zbX12_fillEnds_1 rfl)
theorem dX12_fillEnds_29 : decode cX12_fillEnds 29 = .ok (.iaload, 1) := dq_46 (zby_at (j := 13) zbX12_fillEnds_1 rfl)
theorem dX12_fillEnds_30 : decode cX12_fillEnds 30 = .ok (.if_icmp .ge 45, 3) := dq_162 (zby_at (j := 14) zbX12_fillEnds_1 rfl) (zby_at (j := 15) zbX12_fillEnds_1 rfl) (zby_at (j := 16) zbX12_fillEnds_1 rfl) rfl
theorem zbX12_fillEnds_2 : zby cX12_fillEnds 32 20 = [45, 42, 180, 0, 73, 42, 28, 182, 1, 158, 92, 46, 27, 28, 122, 4, 126, 96, 79, 42] := by decide +kernel
theorem dX12_fillEnds_33 : decode cX12_fillEnds 33 = .ok (.aload_n 0, 1) := dq_42 (zby_at (j := 1) zbX12_fillEnds_2 rfl)
theorem dX12_fillEnds_34 : decode cX12_fillEnds 34 = .ok (.getfield 73, 3) := dq_180 (zby_at (j := 2) zbX12_fillEnds_2 rfl) (zby_at (j := 3) zbX12_fillEnds_2 rfl) (zby_at (j := 4) zbX12_fillEnds_2 rfl)
theorem dX12_fillEnds_37 : decode cX12_fillEnds 37 = .ok (.aload_n 0, 1) := dq_42 (zby_at (j := 5) zbX12_fillEnds_2 rfl)
theorem dX12_fillEnds_38 : decode cX12_fillEnds 38 = .ok (.iload_n 2, 1) := dq_28 (zby_at (j := 6) zbX12_fillEnds_2 rfl)
theorem dX12_fillEnds_39 : decode cX12_fillEnds 39 = .ok (.invokevirtual 414, 3) := dq_182 (zby_at (j := 7) zbX12_fillEnds_2 rfl) (zby_at (j := 8) zbX12_fillEnds_2 rfl) (zby_at (j := 9) zbX12_fillEnds_2 rfl)
theorem dX12_fillEnds_42 : decode cX12_fillEnds 42 = .ok (.dup2, 1) := dq_92 (zby_at (j := 10) zbX12_fillEnds_2 rfl)
theorem dX12_fillEnds_43 : decode cX12_fillEnds 43 = .ok (.iaload, 1) := dq_46 (zby_at (j := 11) zbX12_fillEnds_2 rfl)
theorem dX12_fillEnds_44 : decode cX12_fillEnds 44 = .ok (.iload_n 1, 1) := dq_27 (zby_at (j := 12) zbX12_fillEnds_2 rfl)
theorem dX12_fillEnds_45 : decode cX12_fillEnds 45 = .ok (.iload_n 2, 1) := dq_28 (zby_at (j := 13) zbX12_fillEnds_2 rfl)
theorem dX12_fillEnds_46 : decode cX12_fillEnds 46 = .ok (.ishr, 1) := dq_122 (zby_at (j := 14) zbX12_fillEnds_2 rfl)
theorem dX12_fillEnds_47 : decode cX12_fillEnds 47 = .ok (.iconst 1, 1) := dq_4 (zby_at (j := 15) zbX12_fillEnds_2 rfl)
theorem zbX12_fillEnds_3 : zby cX12_fillEnds 48 20 = [126, 96, 79, 42, 180, 0, 73, 42, 28, 182, 1, 161, 92, 46, 27, 28, 122, 4, 126, 96] := by decide +kernel
theorem dX12_fillEnds_48 : decode cX12_fillEnds 48 = .ok (.iand, 1) := dq_126 (zby_at (j := 0) zbX12_fillEnds_3 rfl)
theorem dX12_fillEnds_49 : decode cX12_fillEnds 49 = .ok (.iadd, 1) := dq_96 (zby_at (j := 1) zbX12_fillEnds_3 rfl)
theorem dX12_fillEnds_50 : decode cX12_fillEnds 50 = .ok (.iastore, 1) := dq_79 (zby_at (j := 2) zbX12_fillEnds_3 rfl)
theorem dX12_fillEnds_51 : decode cX12_fillEnds 51 = .ok (.aload_n 0, 1) := dq_42 (zby_at (j := 3) zbX12_fillEnds_3 rfl)
theorem dX12_fillEnds_52 : decode cX12_fillEnds 52 = .ok (.getfield 73, 3) := dq_180 (zby_at (j := 4) zbX12_fillEnds_3 rfl) (zby_at (j := 5) zbX12_fillEnds_3 rfl) (zby_at (j := 6) zbX12_fillEnds_3 rfl)
theorem dX12_fillEnds_55 : decode cX12_fillEnds 55 = .ok (.aload_n 0, 1) := dq_42 (zby_at (j := 7) zbX12_fillEnds_3 rfl)
theorem dX12_fillEnds_56 : decode cX12_fillEnds 56 = .ok (.iload_n 2, 1) := dq_28 (zby_at (j := 8) zbX12_fillEnds_3 rfl)
theorem dX12_fillEnds_57 : decode cX12_fillEnds 57 = .ok (.invokevirtual 417, 3) := dq_182 (zby_at (j := 9) zbX12_fillEnds_3 rfl) (zby_at (j := 10) zbX12_fillEnds_3 rfl) (zby_at (j := 11) zbX12_fillEnds_3 rfl)
theorem dX12_fillEnds_60 : decode cX12_fillEnds 60 = .ok (.dup2, 1) := dq_92 (zby_at (j := 12) zbX12_fillEnds_3 rfl)
theorem dX12_fillEnds_61 : decode cX12_fillEnds 61 = .ok (.iaload, 1) := dq_46 (zby_at (j := 13) zbX12_fillEnds_3 rfl)
theorem dX12_fillEnds_62 : decode cX12_fillEnds 62 = .ok (.iload_n 1, 1) := dq_27 (zby_at (j := 14) zbX12_fillEnds_3 rfl)
theorem dX12_fillEnds_63 : decode cX12_fillEnds 63 = .ok (.iload_n 2, 1) := dq_28 (zby_at (j := 15) zbX12_fillEnds_3 rfl)
theorem zbX12_fillEnds_4 : zby cX12_fillEnds 64 20 = [122, 4, 126, 96, 79, 132, 2, 1, 167, 255, 207, 177] := by decide +kernel
theorem dX12_fillEnds_64 : decode cX12_fillEnds 64 = .ok (.ishr, 1) := dq_122 (zby_at (j := 0) zbX12_fillEnds_4 rfl)
theorem dX12_fillEnds_65 : decode cX12_fillEnds 65 = .ok (.iconst 1, 1) := dq_4 (zby_at (j := 1) zbX12_fillEnds_4 rfl)
theorem dX12_fillEnds_66 : decode cX12_fillEnds 66 = .ok (.iand, 1) := dq_126 (zby_at (j := 2) zbX12_fillEnds_4 rfl)
theorem dX12_fillEnds_67 : decode cX12_fillEnds 67 = .ok (.iadd, 1) := dq_96 (zby_at (j := 3) zbX12_fillEnds_4 rfl)
theorem dX12_fillEnds_68 : decode cX12_fillEnds 68 = .ok (.iastore, 1) := dq_79 (zby_at (j := 4) zbX12_fillEnds_4 rfl)
theorem dX12_fillEnds_69 : decode cX12_fillEnds 69 = .ok (.iinc 2 1, 3) := dq_132 (zby_at (j := 5) zbX12_fillEnds_4 rfl) (zby_at (j := 6) zbX12_fillEnds_4 rfl) (zby_at (j := 7) zbX12_fillEnds_4 rfl) rfl
theorem dX12_fillEnds_72 : decode cX12_fillEnds 72 = .ok (.goto (-49), 3) := dq_167 (zby_at (j := 8) zbX12_fillEnds_4 rfl) (zby_at (j := 9) zbX12_fillEnds_4 rfl) (zby_at (j := 10) zbX12_fillEnds_4 rfl) rfl
theorem dX12_fillEnds_75 : decode cX12_fillEnds 75 = .ok (.return_, 1) := dq_177 (zby_at (j := 11) zbX12_fillEnds_4 rfl)
theorem zbX12_hangs_0 : zby cX12_hangs 0 20 = [4, 28, 120, 62, 3, 54, 4, 21, 4, 16, 8, 162, 0, 84, 3, 54, 5, 21, 5, 42] := by decide +kernel
theorem dX12_hangs_0 : decode cX12_hangs 0 = .ok (.iconst 1, 1) := dq_4 (zby_at (j := 0) zbX12_hangs_0 rfl)
theorem dX12_hangs_1 : decode cX12_hangs 1 = .ok (.iload_n 2, 1) := dq_28 (zby_at (j := 1) zbX12_hangs_0 rfl)
theorem dX12_hangs_2 : decode cX12_hangs 2 = .ok (.ishl, 1) := dq_120 (zby_at (j := 2) zbX12_hangs_0 rfl)
theorem dX12_hangs_3 : decode cX12_hangs 3 = .ok (.istore_n 3, 1) := dq_62 (zby_at (j := 3) zbX12_hangs_0 rfl)
theorem dX12_hangs_4 : decode cX12_hangs 4 = .ok (.iconst 0, 1) := dq_3 (zby_at (j := 4) zbX12_hangs_0 rfl)
theorem dX12_hangs_5 : decode cX12_hangs 5 = .ok (.istore 4, 2) := dq_54 (zby_at (j := 5) zbX12_hangs_0 rfl) (zby_at (j := 6) zbX12_hangs_0 rfl)
theorem dX12_hangs_7 : decode cX12_hangs 7 = .ok (.iload 4, 2) := dq_21 (zby_at (j := 7) zbX12_hangs_0 rfl) (zby_at (j := 8) zbX12_hangs_0 rfl)
theorem dX12_hangs_9 : decode cX12_hangs 9 = .ok (.bipush 8, 2) := dq_16 (zby_at (j := 9) zbX12_hangs_0 rfl) (zby_at (j := 10) zbX12_hangs_0 rfl) rfl
theorem dX12_hangs_11 : decode cX12_hangs 11 = .ok (.if_icmp .ge 84, 3) := dq_162 (zby_at (j := 11) zbX12_hangs_0 rfl) (zby_at (j := 12) zbX12_hangs_0 rfl) (zby_at (j := 13) zbX12_hangs_0 rfl) rfl
theorem dX12_hangs_14 : decode cX12_hangs 14 = .ok (.iconst 0, 1) := dq_3 (zby_at (j := 14) zbX12_hangs_0 rfl)
theorem dX12_hangs_15 : decode cX12_hangs 15 = .ok (.istore 5, 2) := dq_54 (zby_at (j := 15) zbX12_hangs_0 rfl) (zby_at (j := 16) zbX12_hangs_0 rfl)
theorem zbX12_hangs_1 : zby cX12_hangs 16 20 = [5, 21, 5, 42, 180, 0, 9, 5, 46, 162, 0, 64, 27, 21, 5, 122, 4, 126, 4, 160] := by decide +kernel
theorem dX12_hangs_17 : decode cX12_hangs 17 = .ok (.iload 5, 2) := dq_21 (zby_at (j := 1) zbX12_hangs_1 rfl) (zby_at (j := 2) zbX12_hangs_1 rfl)
theorem dX12_hangs_19 : decode cX12_hangs 19 = .ok (.aload_n 0, 1) := dq_42 (zby_at (j := 3) zbX12_hangs_1 rfl)
theorem dX12_hangs_20 : decode cX12_hangs 20 = .ok (.getfield 9, 3) := dq_180 (zby_at (j := 4) zbX12_hangs_1 rfl) (zby_at (j := 5) zbX12_hangs_1 rfl) (zby_at (j := 6) zbX12_hangs_1 rfl)
theorem dX12_hangs_23 : decode cX12_hangs 23 = .ok (.iconst 2, 1) := dq_5 (zby_at (j := 7) zbX12_hangs_1 rfl)
theorem dX12_hangs_24 : decode cX12_hangs 24 = .ok (.iaload, 1) := dq_46 (zby_at (j := 8) zbX12_hangs_1 rfl)
theorem dX12_hangs_25 : decode cX12_hangs 25 = .ok (.if_icmp .ge 64, 3) := dq_162 (zby_at (j := 9) zbX12_hangs_1 rfl) (zby_at (j := 10) zbX12_hangs_1 rfl) (zby_at (j := 11) zbX12_hangs_1 rfl) rfl
theorem dX12_hangs_28 : decode cX12_hangs 28 = .ok (.iload_n 1, 1) := dq_27 (zby_at (j := 12) zbX12_hangs_1 rfl)
theorem dX12_hangs_29 : decode cX12_hangs 29 = .ok (.iload 5, 2) := dq_21 (zby_at (j := 13) zbX12_hangs_1 rfl) (zby_at (j := 14) zbX12_hangs_1 rfl)
theorem dX12_hangs_31 : decode cX12_hangs 31 = .ok (.ishr, 1) := dq_122 (zby_at (j := 15) zbX12_hangs_1 rfl)
theorem zbX12_hangs_2 : zby cX12_hangs 32 20 = [4, 126, 4, 160, 0, 48, 29, 42, 21, 5, 182, 1, 158, 122, 4, 126, 29, 42, 21, 5] := by decide +kernel
theorem dX12_hangs_32 : decode cX12_hangs 32 = .ok (.iconst 1, 1) := dq_4 (zby_at (j := 0) zbX12_hangs_2 rfl)
theorem dX12_hangs_33 : decode cX12_hangs 33 = .ok (.iand, 1) := dq_126 (zby_at (j := 1) zbX12_hangs_2 rfl)
theorem dX12_hangs_34 : decode cX12_hangs 34 = .ok (.iconst 1, 1) := dq_4 (zby_at (j := 2) zbX12_hangs_2 rfl)
theorem dX12_hangs_35 : decode cX12_hangs 35 = .ok (.if_icmp .ne 48, 3) := dq_160 (zby_at (j := 3) zbX12_hangs_2 rfl) (zby_at (j := 4) zbX12_hangs_2 rfl) (zby_at (j := 5) zbX12_hangs_2 rfl) rfl
theorem dX12_hangs_38 : decode cX12_hangs 38 = .ok (.iload_n 3, 1) := dq_29 (zby_at (j := 6) zbX12_hangs_2 rfl)
theorem dX12_hangs_39 : decode cX12_hangs 39 = .ok (.aload_n 0, 1) := dq_42 (zby_at (j := 7) zbX12_hangs_2 rfl)
theorem dX12_hangs_40 : decode cX12_hangs 40 = .ok (.iload 5, 2) := dq_21 (zby_at (j := 8) zbX12_hangs_2 rfl) (zby_at (j := 9) zbX12_hangs_2 rfl)
theorem dX12_hangs_42 : decode cX12_hangs 42 = .ok (.invokevirtual 414, 3) := dq_182 (zby_at (j := 10) zbX12_hangs_2 rfl) (zby_at (j := 11) zbX12_hangs_2 rfl) (zby_at (j := 12) zbX12_hangs_2 rfl)
theorem dX12_hangs_45 : decode cX12_hangs 45 = .ok (.ishr, 1) := dq_122 (zby_at (j := 13) zbX12_hangs_2 rfl)
theorem dX12_hangs_46 : decode cX12_hangs 46 = .ok (.iconst 1, 1) := dq_4 (zby_at (j := 14) zbX12_hangs_2 rfl)
theorem dX12_hangs_47 : decode cX12_hangs 47 = .ok (.iand, 1) := dq_126 (zby_at (j := 15) zbX12_hangs_2 rfl)
theorem zbX12_hangs_3 : zby cX12_hangs 48 20 = [29, 42, 21, 5, 182, 1, 161, 122, 4, 126, 128, 4, 160, 0, 23, 29, 4, 42, 21, 5] := by decide +kernel
theorem dX12_hangs_48 : decode cX12_hangs 48 = .ok (.iload_n 3, 1) := dq_29 (zby_at (j := 0) zbX12_hangs_3 rfl)
theorem dX12_hangs_49 : decode cX12_hangs 49 = .ok (.aload_n 0, 1) := dq_42 (zby_at (j := 1) zbX12_hangs_3 rfl)
theorem dX12_hangs_50 : decode cX12_hangs 50 = .ok (.iload 5, 2) := dq_21 (zby_at (j := 2) zbX12_hangs_3 rfl) (zby_at (j := 3) zbX12_hangs_3 rfl)
theorem dX12_hangs_52 : decode cX12_hangs 52 = .ok (.invokevirtual 417, 3) := dq_182 (zby_at (j := 4) zbX12_hangs_3 rfl) (zby_at (j := 5) zbX12_hangs_3 rfl) (zby_at (j := 6) zbX12_hangs_3 rfl)
theorem dX12_hangs_55 : decode cX12_hangs 55 = .ok (.ishr, 1) := dq_122 (zby_at (j := 7) zbX12_hangs_3 rfl)
theorem dX12_hangs_56 : decode cX12_hangs 56 = .ok (.iconst 1, 1) := dq_4 (zby_at (j := 8) zbX12_hangs_3 rfl)
theorem dX12_hangs_57 : decode cX12_hangs 57 = .ok (.iand, 1) := dq_126 (zby_at (j := 9) zbX12_hangs_3 rfl)
theorem dX12_hangs_58 : decode cX12_hangs 58 = .ok (.ior, 1) := dq_128 (zby_at (j := 10) zbX12_hangs_3 rfl)
theorem dX12_hangs_59 : decode cX12_hangs 59 = .ok (.iconst 1, 1) := dq_4 (zby_at (j := 11) zbX12_hangs_3 rfl)
theorem dX12_hangs_60 : decode cX12_hangs 60 = .ok (.if_icmp .ne 23, 3) := dq_160 (zby_at (j := 12) zbX12_hangs_3 rfl) (zby_at (j := 13) zbX12_hangs_3 rfl) (zby_at (j := 14) zbX12_hangs_3 rfl) rfl
theorem dX12_hangs_63 : decode cX12_hangs 63 = .ok (.iload_n 3, 1) := dq_29 (zby_at (j := 15) zbX12_hangs_3 rfl)
theorem zbX12_hangs_4 : zby cX12_hangs 64 20 = [4, 42, 21, 5, 182, 1, 158, 120, 4, 42, 21, 5, 182, 1, 161, 120, 128, 128, 62, 132] := by decide +kernel
theorem dX12_hangs_64 : decode cX12_hangs 64 = .ok (.iconst 1, 1) := dq_4 (zby_at (j := 0) zbX12_hangs_4 rfl)
theorem dX12_hangs_65 : decode cX12_hangs 65 = .ok (.aload_n 0, 1) := dq_42 (zby_at (j := 1) zbX12_hangs_4 rfl)
theorem dX12_hangs_66 : decode cX12_hangs 66 = .ok (.iload 5, 2) := dq_21 (zby_at (j := 2) zbX12_hangs_4 rfl) (zby_at (j := 3) zbX12_hangs_4 rfl)
theorem dX12_hangs_68 : decode cX12_hangs 68 = .ok (.invokevirtual 414, 3) := dq_182 (zby_at (j := 4) zbX12_hangs_4 rfl) (zby_at (j := 5) zbX12_hangs_4 rfl) (zby_at (j := 6) zbX12_hangs_4 rfl)
theorem dX12_hangs_71 : decode cX12_hangs 71 = .ok (.ishl, 1) := dq_120 (zby_at (j := 7) zbX12_hangs_4 rfl)
theorem dX12_hangs_72 : decode cX12_hangs 72 = .ok (.iconst 1, 1) := dq_4 (zby_at (j := 8) zbX12_hangs_4 rfl)
theorem dX12_hangs_73 : decode cX12_hangs 73 = .ok (.aload_n 0, 1) := dq_42 (zby_at (j := 9) zbX12_hangs_4 rfl)
theorem dX12_hangs_74 : decode cX12_hangs 74 = .ok (.iload 5, 2) := dq_21 (zby_at (j := 10) zbX12_hangs_4 rfl) (zby_at (j := 11) zbX12_hangs_4 rfl)
theorem dX12_hangs_76 : decode cX12_hangs 76 = .ok (.invokevirtual 417, 3) := dq_182 (zby_at (j := 12) zbX12_hangs_4 rfl) (zby_at (j := 13) zbX12_hangs_4 rfl) (zby_at (j := 14) zbX12_hangs_4 rfl)
theorem dX12_hangs_79 : decode cX12_hangs 79 = .ok (.ishl, 1) := dq_120 (zby_at (j := 15) zbX12_hangs_4 rfl)
theorem zbX12_hangs_5 : zby cX12_hangs 80 20 = [128, 128, 62, 132, 5, 1, 167, 255, 187, 132, 4, 1, 167, 255, 171, 29, 172] := by decide +kernel
theorem dX12_hangs_80 : decode cX12_hangs 80 = .ok (.ior, 1) := dq_128 (zby_at (j := 0) zbX12_hangs_5 rfl)
theorem dX12_hangs_81 : decode cX12_hangs 81 = .ok (.ior, 1) := dq_128 (zby_at (j := 1) zbX12_hangs_5 rfl)
theorem dX12_hangs_82 : decode cX12_hangs 82 = .ok (.istore_n 3, 1) := dq_62 (zby_at (j := 2) zbX12_hangs_5 rfl)
theorem dX12_hangs_83 : decode cX12_hangs 83 = .ok (.iinc 5 1, 3) := dq_132 (zby_at (j := 3) zbX12_hangs_5 rfl) (zby_at (j := 4) zbX12_hangs_5 rfl) (zby_at (j := 5) zbX12_hangs_5 rfl) rfl
theorem dX12_hangs_86 : decode cX12_hangs 86 = .ok (.goto (-69), 3) := dq_167 (zby_at (j := 6) zbX12_hangs_5 rfl) (zby_at (j := 7) zbX12_hangs_5 rfl) (zby_at (j := 8) zbX12_hangs_5 rfl) rfl
theorem dX12_hangs_89 : decode cX12_hangs 89 = .ok (.iinc 4 1, 3) := dq_132 (zby_at (j := 9) zbX12_hangs_5 rfl) (zby_at (j := 10) zbX12_hangs_5 rfl) (zby_at (j := 11) zbX12_hangs_5 rfl) rfl
theorem dX12_hangs_92 : decode cX12_hangs 92 = .ok (.goto (-85), 3) := dq_167 (zby_at (j := 12) zbX12_hangs_5 rfl) (zby_at (j := 13) zbX12_hangs_5 rfl) (zby_at (j := 14) zbX12_hangs_5 rfl) rfl
theorem dX12_hangs_95 : decode cX12_hangs 95 = .ok (.iload_n 3, 1) := dq_29 (zby_at (j := 15) zbX12_hangs_5 rfl)
theorem zbX12_hangs_6 : zby cX12_hangs 96 20 = [172] := by decide +kernel
theorem dX12_hangs_96 : decode cX12_hangs 96 = .ok (.ireturn, 1) := dq_172 (zby_at (j := 0) zbX12_hangs_6 rfl)
theorem zbX12_isWay_0 : zby cX12_isWay 0 20 = [28, 29, 160, 0, 13, 27, 154, 0, 7, 4, 167, 0, 4, 3, 172, 42, 27, 182, 1, 164] := by decide +kernel
theorem dX12_isWay_0 : decode cX12_isWay 0 = .ok (.iload_n 2, 1) := dq_28 (zby_at (j := 0) zbX12_isWay_0 rfl)
theorem dX12_isWay_1 : decode cX12_isWay 1 = .ok (.iload_n 3, 1) := dq_29 (zby_at (j := 1) zbX12_isWay_0 rfl)
theorem dX12_isWay_2 : decode cX12_isWay 2 = .ok (.if_icmp .ne 13, 3) := dq_160 (zby_at (j := 2) zbX12_isWay_0 rfl) (zby_at (j := 3) zbX12_isWay_0 rfl) (zby_at (j := 4) zbX12_isWay_0 rfl) rfl
theorem dX12_isWay_5 : decode cX12_isWay 5 = .ok (.iload_n 1, 1) := dq_27 (zby_at (j := 5) zbX12_isWay_0 rfl)
theorem dX12_isWay_6 : decode cX12_isWay 6 = .ok (.ifCond .ne 7, 3) := dq_154 (zby_at (j := 6) zbX12_isWay_0 rfl) (zby_at (j := 7) zbX12_isWay_0 rfl) (zby_at (j := 8) zbX12_isWay_0 rfl) rfl
theorem dX12_isWay_9 : decode cX12_isWay 9 = .ok (.iconst 1, 1) := dq_4 (zby_at (j := 9) zbX12_isWay_0 rfl)
theorem dX12_isWay_10 : decode cX12_isWay 10 = .ok (.goto 4, 3) := dq_167 (zby_at (j := 10) zbX12_isWay_0 rfl) (zby_at (j := 11) zbX12_isWay_0 rfl) (zby_at (j := 12) zbX12_isWay_0 rfl) rfl
theorem dX12_isWay_13 : decode cX12_isWay 13 = .ok (.iconst 0, 1) := dq_3 (zby_at (j := 13) zbX12_isWay_0 rfl)
theorem dX12_isWay_14 : decode cX12_isWay 14 = .ok (.ireturn, 1) := dq_172 (zby_at (j := 14) zbX12_isWay_0 rfl)
theorem dX12_isWay_15 : decode cX12_isWay 15 = .ok (.aload_n 0, 1) := dq_42 (zby_at (j := 15) zbX12_isWay_0 rfl)
theorem zbX12_isWay_1 : zby cX12_isWay 16 20 = [27, 182, 1, 164, 42, 180, 0, 73, 28, 46, 4, 160, 0, 13, 42, 180, 0, 73, 29, 46] := by decide +kernel
theorem dX12_isWay_16 : decode cX12_isWay 16 = .ok (.iload_n 1, 1) := dq_27 (zby_at (j := 0) zbX12_isWay_1 rfl)
theorem dX12_isWay_17 : decode cX12_isWay 17 = .ok (.invokevirtual 420, 3) := dq_182 (zby_at (j := 1) zbX12_isWay_1 rfl) (zby_at (j := 2) zbX12_isWay_1 rfl) (zby_at (j := 3) zbX12_isWay_1 rfl)
theorem dX12_isWay_20 : decode cX12_isWay 20 = .ok (.aload_n 0, 1) := dq_42 (zby_at (j := 4) zbX12_isWay_1 rfl)
theorem dX12_isWay_21 : decode cX12_isWay 21 = .ok (.getfield 73, 3) := dq_180 (zby_at (j := 5) zbX12_isWay_1 rfl) (zby_at (j := 6) zbX12_isWay_1 rfl) (zby_at (j := 7) zbX12_isWay_1 rfl)
theorem dX12_isWay_24 : decode cX12_isWay 24 = .ok (.iload_n 2, 1) := dq_28 (zby_at (j := 8) zbX12_isWay_1 rfl)
theorem dX12_isWay_25 : decode cX12_isWay 25 = .ok (.iaload, 1) := dq_46 (zby_at (j := 9) zbX12_isWay_1 rfl)
theorem dX12_isWay_26 : decode cX12_isWay 26 = .ok (.iconst 1, 1) := dq_4 (zby_at (j := 10) zbX12_isWay_1 rfl)
theorem dX12_isWay_27 : decode cX12_isWay 27 = .ok (.if_icmp .ne 13, 3) := dq_160 (zby_at (j := 11) zbX12_isWay_1 rfl) (zby_at (j := 12) zbX12_isWay_1 rfl) (zby_at (j := 13) zbX12_isWay_1 rfl) rfl
theorem dX12_isWay_30 : decode cX12_isWay 30 = .ok (.aload_n 0, 1) := dq_42 (zby_at (j := 14) zbX12_isWay_1 rfl)
theorem dX12_isWay_31 : decode cX12_isWay 31 = .ok (.getfield 73, 3) := dq_180 (zby_at (j := 15) zbX12_isWay_1 rfl) (zby_at (j := 16) zbX12_isWay_1 rfl) (zby_at (j := 17) zbX12_isWay_1 rfl)
theorem zbX12_isWay_2 : zby cX12_isWay 32 20 = [0, 73, 29, 46, 4, 159, 0, 5, 3, 172, 42, 27, 28, 182, 1, 167, 54, 4, 3, 54] := by decide +kernel
theorem dX12_isWay_34 : decode cX12_isWay 34 = .ok (.iload_n 3, 1) := dq_29 (zby_at (j := 2) zbX12_isWay_2 rfl)
theorem dX12_isWay_35 : decode cX12_isWay 35 = .ok (.iaload, 1) := dq_46 (zby_at (j := 3) zbX12_isWay_2 rfl)
theorem dX12_isWay_36 : decode cX12_isWay 36 = .ok (.iconst 1, 1) := dq_4 (zby_at (j := 4) zbX12_isWay_2 rfl)
theorem dX12_isWay_37 : decode cX12_isWay 37 = .ok (.if_icmp .eq 5, 3) := dq_159 (zby_at (j := 5) zbX12_isWay_2 rfl) (zby_at (j := 6) zbX12_isWay_2 rfl) (zby_at (j := 7) zbX12_isWay_2 rfl) rfl
theorem dX12_isWay_40 : decode cX12_isWay 40 = .ok (.iconst 0, 1) := dq_3 (zby_at (j := 8) zbX12_isWay_2 rfl)
theorem dX12_isWay_41 : decode cX12_isWay 41 = .ok (.ireturn, 1) := dq_172 (zby_at (j := 9) zbX12_isWay_2 rfl)
theorem dX12_isWay_42 : decode cX12_isWay 42 = .ok (.aload_n 0, 1) := dq_42 (zby_at (j := 10) zbX12_isWay_2 rfl)
theorem dX12_isWay_43 : decode cX12_isWay 43 = .ok (.iload_n 1, 1) := dq_27 (zby_at (j := 11) zbX12_isWay_2 rfl)
theorem dX12_isWay_44 : decode cX12_isWay 44 = .ok (.iload_n 2, 1) := dq_28 (zby_at (j := 12) zbX12_isWay_2 rfl)
theorem dX12_isWay_45 : decode cX12_isWay 45 = .ok (.invokevirtual 423, 3) := dq_182 (zby_at (j := 13) zbX12_isWay_2 rfl) (zby_at (j := 14) zbX12_isWay_2 rfl) (zby_at (j := 15) zbX12_isWay_2 rfl)
theorem zbX12_isWay_3 : zby cX12_isWay 48 20 = [54, 4, 3, 54, 5, 21, 5, 16, 8, 162, 0, 64, 21, 4, 21, 5, 122, 4, 126, 154] := by decide +kernel
theorem dX12_isWay_48 : decode cX12_isWay 48 = .ok (.istore 4, 2) := dq_54 (zby_at (j := 0) zbX12_isWay_3 rfl) (zby_at (j := 1) zbX12_isWay_3 rfl)
theorem dX12_isWay_50 : decode cX12_isWay 50 = .ok (.iconst 0, 1) := dq_3 (zby_at (j := 2) zbX12_isWay_3 rfl)
theorem dX12_isWay_51 : decode cX12_isWay 51 = .ok (.istore 5, 2) := dq_54 (zby_at (j := 3) zbX12_isWay_3 rfl) (zby_at (j := 4) zbX12_isWay_3 rfl)
theorem dX12_isWay_53 : decode cX12_isWay 53 = .ok (.iload 5, 2) := dq_21 (zby_at (j := 5) zbX12_isWay_3 rfl) (zby_at (j := 6) zbX12_isWay_3 rfl)
theorem dX12_isWay_55 : decode cX12_isWay 55 = .ok (.bipush 8, 2) := dq_16 (zby_at (j := 7) zbX12_isWay_3 rfl) (zby_at (j := 8) zbX12_isWay_3 rfl) rfl
theorem dX12_isWay_57 : decode cX12_isWay 57 = .ok (.if_icmp .ge 64, 3) := dq_162 (zby_at (j := 9) zbX12_isWay_3 rfl) (zby_at (j := 10) zbX12_isWay_3 rfl) (zby_at (j := 11) zbX12_isWay_3 rfl) rfl
theorem dX12_isWay_60 : decode cX12_isWay 60 = .ok (.iload 4, 2) := dq_21 (zby_at (j := 12) zbX12_isWay_3 rfl) (zby_at (j := 13) zbX12_isWay_3 rfl)
theorem dX12_isWay_62 : decode cX12_isWay 62 = .ok (.iload 5, 2) := dq_21 (zby_at (j := 14) zbX12_isWay_3 rfl) (zby_at (j := 15) zbX12_isWay_3 rfl)
theorem zbX12_isWay_4 : zby cX12_isWay 64 20 = [122, 4, 126, 154, 0, 13, 42, 180, 0, 73, 21, 5, 46, 157, 0, 36, 21, 5, 28, 159] := by decide +kernel
theorem dX12_isWay_64 : decode cX12_isWay 64 = .ok (.ishr, 1) := dq_122 (zby_at (j := 0) zbX12_isWay_4 rfl)
theorem dX12_isWay_65 : decode cX12_isWay 65 = .ok (.iconst 1, 1) := dq_4 (zby_at (j := 1) zbX12_isWay_4 rfl)
theorem dX12_isWay_66 : decode cX12_isWay 66 = .ok (.iand, 1) := dq_126 (zby_at (j := 2) zbX12_isWay_4 rfl)
theorem dX12_isWay_67 : decode cX12_isWay 67 = .ok (.ifCond .ne 13, 3) := dq_154 (zby_at (j := 3) zbX12_isWay_4 rfl) (zby_at (j := 4) zbX12_isWay_4 rfl) (zby_at (j := 5) zbX12_isWay_4 rfl) rfl
theorem dX12_isWay_70 : decode cX12_isWay 70 = .ok (.aload_n 0, 1) := dq_42 (zby_at (j := 6) zbX12_isWay_4 rfl)
theorem dX12_isWay_71 : decode cX12_isWay 71 = .ok (.getfield 73, 3) := dq_180 (zby_at (j := 7) zbX12_isWay_4 rfl) (zby_at (j := 8) zbX12_isWay_4 rfl) (zby_at (j := 9) zbX12_isWay_4 rfl)
theorem dX12_isWay_74 : decode cX12_isWay 74 = .ok (.iload 5, 2) := dq_21 (zby_at (j := 10) zbX12_isWay_4 rfl) (zby_at (j := 11) zbX12_isWay_4 rfl)
theorem dX12_isWay_76 : decode cX12_isWay 76 = .ok (.iaload, 1) := dq_46 (zby_at (j := 12) zbX12_isWay_4 rfl)
theorem dX12_isWay_77 : decode cX12_isWay 77 = .ok (.ifCond .gt 36, 3) := dq_157 (zby_at (j := 13) zbX12_isWay_4 rfl) (zby_at (j := 14) zbX12_isWay_4 rfl) (zby_at (j := 15) zbX12_isWay_4 rfl) rfl
theorem zbX12_isWay_5 : zby cX12_isWay 80 20 = [21, 5, 28, 159, 0, 32, 21, 5, 29, 159, 0, 26, 42, 180, 0, 73, 21, 5, 46, 153] := by decide +kernel
theorem dX12_isWay_80 : decode cX12_isWay 80 = .ok (.iload 5, 2) := dq_21 (zby_at (j := 0) zbX12_isWay_5 rfl) (zby_at (j := 1) zbX12_isWay_5 rfl)
theorem dX12_isWay_82 : decode cX12_isWay 82 = .ok (.iload_n 2, 1) := dq_28 (zby_at (j := 2) zbX12_isWay_5 rfl)
theorem dX12_isWay_83 : decode cX12_isWay 83 = .ok (.if_icmp .eq 32, 3) := dq_159 (zby_at (j := 3) zbX12_isWay_5 rfl) (zby_at (j := 4) zbX12_isWay_5 rfl) (zby_at (j := 5) zbX12_isWay_5 rfl) rfl
theorem dX12_isWay_86 : decode cX12_isWay 86 = .ok (.iload 5, 2) := dq_21 (zby_at (j := 6) zbX12_isWay_5 rfl) (zby_at (j := 7) zbX12_isWay_5 rfl)
theorem dX12_isWay_88 : decode cX12_isWay 88 = .ok (.iload_n 3, 1) := dq_29 (zby_at (j := 8) zbX12_isWay_5 rfl)
theorem dX12_isWay_89 : decode cX12_isWay 89 = .ok (.if_icmp .eq 26, 3) := dq_159 (zby_at (j := 9) zbX12_isWay_5 rfl) (zby_at (j := 10) zbX12_isWay_5 rfl) (zby_at (j := 11) zbX12_isWay_5 rfl) rfl
theorem dX12_isWay_92 : decode cX12_isWay 92 = .ok (.aload_n 0, 1) := dq_42 (zby_at (j := 12) zbX12_isWay_5 rfl)
theorem dX12_isWay_93 : decode cX12_isWay 93 = .ok (.getfield 73, 3) := dq_180 (zby_at (j := 13) zbX12_isWay_5 rfl) (zby_at (j := 14) zbX12_isWay_5 rfl) (zby_at (j := 15) zbX12_isWay_5 rfl)
theorem zbX12_isWay_6 : zby cX12_isWay 96 20 = [21, 5, 46, 153, 0, 16, 42, 180, 0, 73, 21, 5, 46, 5, 159, 0, 5, 3, 172, 132] := by decide +kernel
theorem dX12_isWay_96 : decode cX12_isWay 96 = .ok (.iload 5, 2) := dq_21 (zby_at (j := 0) zbX12_isWay_6 rfl) (zby_at (j := 1) zbX12_isWay_6 rfl)
theorem dX12_isWay_98 : decode cX12_isWay 98 = .ok (.iaload, 1) := dq_46 (zby_at (j := 2) zbX12_isWay_6 rfl)
theorem dX12_isWay_99 : decode cX12_isWay 99 = .ok (.ifCond .eq 16, 3) := dq_153 (zby_at (j := 3) zbX12_isWay_6 rfl) (zby_at (j := 4) zbX12_isWay_6 rfl) (zby_at (j := 5) zbX12_isWay_6 rfl) rfl
theorem dX12_isWay_102 : decode cX12_isWay 102 = .ok (.aload_n 0, 1) := dq_42 (zby_at (j := 6) zbX12_isWay_6 rfl)
theorem dX12_isWay_103 : decode cX12_isWay 103 = .ok (.getfield 73, 3) := dq_180 (zby_at (j := 7) zbX12_isWay_6 rfl) (zby_at (j := 8) zbX12_isWay_6 rfl) (zby_at (j := 9) zbX12_isWay_6 rfl)
theorem dX12_isWay_106 : decode cX12_isWay 106 = .ok (.iload 5, 2) := dq_21 (zby_at (j := 10) zbX12_isWay_6 rfl) (zby_at (j := 11) zbX12_isWay_6 rfl)
theorem dX12_isWay_108 : decode cX12_isWay 108 = .ok (.iaload, 1) := dq_46 (zby_at (j := 12) zbX12_isWay_6 rfl)
theorem dX12_isWay_109 : decode cX12_isWay 109 = .ok (.iconst 2, 1) := dq_5 (zby_at (j := 13) zbX12_isWay_6 rfl)
theorem dX12_isWay_110 : decode cX12_isWay 110 = .ok (.if_icmp .eq 5, 3) := dq_159 (zby_at (j := 14) zbX12_isWay_6 rfl) (zby_at (j := 15) zbX12_isWay_6 rfl) (zby_at (j := 16) zbX12_isWay_6 rfl) rfl
theorem zbX12_isWay_7 : zby cX12_isWay 112 20 = [5, 3, 172, 132, 5, 1, 167, 255, 191, 4, 172] := by decide +kernel
theorem dX12_isWay_113 : decode cX12_isWay 113 = .ok (.iconst 0, 1) := dq_3 (zby_at (j := 1) zbX12_isWay_7 rfl)
theorem dX12_isWay_114 : decode cX12_isWay 114 = .ok (.ireturn, 1) := dq_172 (zby_at (j := 2) zbX12_isWay_7 rfl)
theorem dX12_isWay_115 : decode cX12_isWay 115 = .ok (.iinc 5 1, 3) := dq_132 (zby_at (j := 3) zbX12_isWay_7 rfl) (zby_at (j := 4) zbX12_isWay_7 rfl) (zby_at (j := 5) zbX12_isWay_7 rfl) rfl
theorem dX12_isWay_118 : decode cX12_isWay 118 = .ok (.goto (-65), 3) := dq_167 (zby_at (j := 6) zbX12_isWay_7 rfl) (zby_at (j := 7) zbX12_isWay_7 rfl) (zby_at (j := 8) zbX12_isWay_7 rfl) rfl
theorem dX12_isWay_121 : decode cX12_isWay 121 = .ok (.iconst 1, 1) := dq_4 (zby_at (j := 9) zbX12_isWay_7 rfl)
theorem dX12_isWay_122 : decode cX12_isWay 122 = .ok (.ireturn, 1) := dq_172 (zby_at (j := 10) zbX12_isWay_7 rfl)
theorem zbX12_fillWays_0 : zby cX12_fillWays 0 20 = [3, 62, 29, 17, 4, 0, 162, 0, 42, 42, 180, 0, 40, 29, 29, 4, 42, 180, 0, 9] := by decide +kernel
theorem dX12_fillWays_0 : decode cX12_fillWays 0 = .ok (.iconst 0, 1) := dq_3 (zby_at (j := 0) zbX12_fillWays_0 rfl)
theorem dX12_fillWays_1 : decode cX12_fillWays 1 = .ok (.istore_n 3, 1) := dq_62 (zby_at (j := 1) zbX12_fillWays_0 rfl)
theorem dX12_fillWays_2 : decode cX12_fillWays 2 = .ok (.iload_n 3, 1) := dq_29 (zby_at (j := 2) zbX12_fillWays_0 rfl)
theorem dX12_fillWays_3 : decode cX12_fillWays 3 = .ok (.sipush 1024, 3) := dq_17 (zby_at (j := 3) zbX12_fillWays_0 rfl) (zby_at (j := 4) zbX12_fillWays_0 rfl) (zby_at (j := 5) zbX12_fillWays_0 rfl) rfl
theorem dX12_fillWays_6 : decode cX12_fillWays 6 = .ok (.if_icmp .ge 42, 3) := dq_162 (zby_at (j := 6) zbX12_fillWays_0 rfl) (zby_at (j := 7) zbX12_fillWays_0 rfl) (zby_at (j := 8) zbX12_fillWays_0 rfl) rfl
theorem dX12_fillWays_9 : decode cX12_fillWays 9 = .ok (.aload_n 0, 1) := dq_42 (zby_at (j := 9) zbX12_fillWays_0 rfl)
theorem dX12_fillWays_10 : decode cX12_fillWays 10 = .ok (.getfield 40, 3) := dq_180 (zby_at (j := 10) zbX12_fillWays_0 rfl) (zby_at (j := 11) zbX12_fillWays_0 rfl) (zby_at (j := 12) zbX12_fillWays_0 rfl)
theorem dX12_fillWays_13 : decode cX12_fillWays 13 = .ok (.iload_n 3, 1) := dq_29 (zby_at (j := 13) zbX12_fillWays_0 rfl)
theorem dX12_fillWays_14 : decode cX12_fillWays 14 = .ok (.iload_n 3, 1) := dq_29 (zby_at (j := 14) zbX12_fillWays_0 rfl)
theorem dX12_fillWays_15 : decode cX12_fillWays 15 = .ok (.iconst 1, 1) := dq_4 (zby_at (j := 15) zbX12_fillWays_0 rfl)
theorem zbX12_fillWays_1 : zby cX12_fillWays 16 20 = [42, 180, 0, 9, 5, 46, 120, 162, 0, 17, 42, 29, 27, 28, 182, 1, 170, 153, 0, 7] := by decide +kernel
theorem dX12_fillWays_16 : decode cX12_fillWays 16 = .ok (.aload_n 0, 1) := dq_42 (zby_at (j := 0) zbX12_fillWays_1 rfl)
theorem dX12_fillWays_17 : decode cX12_fillWays 17 = .ok (.getfield 9, 3) := dq_180 (zby_at (j := 1) zbX12_fillWays_1 rfl) (zby_at (j := 2) zbX12_fillWays_1 rfl) (zby_at (j := 3) zbX12_fillWays_1 rfl)
theorem dX12_fillWays_20 : decode cX12_fillWays 20 = .ok (.iconst 2, 1) := dq_5 (zby_at (j := 4) zbX12_fillWays_1 rfl)
theorem dX12_fillWays_21 : decode cX12_fillWays 21 = .ok (.iaload, 1) := dq_46 (zby_at (j := 5) zbX12_fillWays_1 rfl)
theorem dX12_fillWays_22 : decode cX12_fillWays 22 = .ok (.ishl, 1) := dq_120 (zby_at (j := 6) zbX12_fillWays_1 rfl)
theorem dX12_fillWays_23 : decode cX12_fillWays 23 = .ok (.if_icmp .ge 17, 3) := dq_162 (zby_at (j := 7) zbX12_fillWays_1 rfl) (zby_at (j := 8) zbX12_fillWays_1 rfl) (zby_at (j := 9) zbX12_fillWays_1 rfl) rfl
theorem dX12_fillWays_26 : decode cX12_fillWays 26 = .ok (.aload_n 0, 1) := dq_42 (zby_at (j := 10) zbX12_fillWays_1 rfl)
theorem dX12_fillWays_27 : decode cX12_fillWays 27 = .ok (.iload_n 3, 1) := dq_29 (zby_at (j := 11) zbX12_fillWays_1 rfl)
theorem dX12_fillWays_28 : decode cX12_fillWays 28 = .ok (.iload_n 1, 1) := dq_27 (zby_at (j := 12) zbX12_fillWays_1 rfl)
theorem dX12_fillWays_29 : decode cX12_fillWays 29 = .ok (.iload_n 2, 1) := dq_28 (zby_at (j := 13) zbX12_fillWays_1 rfl)
theorem dX12_fillWays_30 : decode cX12_fillWays 30 = .ok (.invokevirtual 426, 3) := dq_182 (zby_at (j := 14) zbX12_fillWays_1 rfl) (zby_at (j := 15) zbX12_fillWays_1 rfl) (zby_at (j := 16) zbX12_fillWays_1 rfl)
theorem zbX12_fillWays_2 : zby cX12_fillWays 32 20 = [170, 153, 0, 7, 4, 167, 0, 4, 3, 84, 132, 3, 1, 167, 255, 213, 177] := by decide +kernel
theorem dX12_fillWays_33 : decode cX12_fillWays 33 = .ok (.ifCond .eq 7, 3) := dq_153 (zby_at (j := 1) zbX12_fillWays_2 rfl) (zby_at (j := 2) zbX12_fillWays_2 rfl) (zby_at (j := 3) zbX12_fillWays_2 rfl) rfl
theorem dX12_fillWays_36 : decode cX12_fillWays 36 = .ok (.iconst 1, 1) := dq_4 (zby_at (j := 4) zbX12_fillWays_2 rfl)
theorem dX12_fillWays_37 : decode cX12_fillWays 37 = .ok (.goto 4, 3) := dq_167 (zby_at (j := 5) zbX12_fillWays_2 rfl) (zby_at (j := 6) zbX12_fillWays_2 rfl) (zby_at (j := 7) zbX12_fillWays_2 rfl) rfl
theorem dX12_fillWays_40 : decode cX12_fillWays 40 = .ok (.iconst 0, 1) := dq_3 (zby_at (j := 8) zbX12_fillWays_2 rfl)
theorem dX12_fillWays_41 : decode cX12_fillWays 41 = .ok (.bastore, 1) := dq_84 (zby_at (j := 9) zbX12_fillWays_2 rfl)
theorem dX12_fillWays_42 : decode cX12_fillWays 42 = .ok (.iinc 3 1, 3) := dq_132 (zby_at (j := 10) zbX12_fillWays_2 rfl) (zby_at (j := 11) zbX12_fillWays_2 rfl) (zby_at (j := 12) zbX12_fillWays_2 rfl) rfl
theorem dX12_fillWays_45 : decode cX12_fillWays 45 = .ok (.goto (-43), 3) := dq_167 (zby_at (j := 13) zbX12_fillWays_2 rfl) (zby_at (j := 14) zbX12_fillWays_2 rfl) (zby_at (j := 15) zbX12_fillWays_2 rfl) rfl
theorem zbX12_fillWays_3 : zby cX12_fillWays 48 20 = [177] := by decide +kernel
theorem dX12_fillWays_48 : decode cX12_fillWays 48 = .ok (.return_, 1) := dq_177 (zby_at (j := 0) zbX12_fillWays_3 rfl)
theorem zbX12_ways_0 : zby cX12_ways 0 20 = [42, 27, 182, 1, 65, 153, 0, 19, 42, 28, 182, 1, 174, 153, 0, 11, 42, 29, 182, 1] := by decide +kernel
theorem dX12_ways_0 : decode cX12_ways 0 = .ok (.aload_n 0, 1) := dq_42 (zby_at (j := 0) zbX12_ways_0 rfl)
theorem dX12_ways_1 : decode cX12_ways 1 = .ok (.iload_n 1, 1) := dq_27 (zby_at (j := 1) zbX12_ways_0 rfl)
theorem dX12_ways_2 : decode cX12_ways 2 = .ok (.invokevirtual 321, 3) := dq_182 (zby_at (j := 2) zbX12_ways_0 rfl) (zby_at (j := 3) zbX12_ways_0 rfl) (zby_at (j := 4) zbX12_ways_0 rfl)
theorem dX12_ways_5 : decode cX12_ways 5 = .ok (.ifCond .eq 19, 3) := dq_153 (zby_at (j := 5) zbX12_ways_0 rfl) (zby_at (j := 6) zbX12_ways_0 rfl) (zby_at (j := 7) zbX12_ways_0 rfl) rfl
theorem dX12_ways_8 : decode cX12_ways 8 = .ok (.aload_n 0, 1) := dq_42 (zby_at (j := 8) zbX12_ways_0 rfl)
theorem dX12_ways_9 : decode cX12_ways 9 = .ok (.iload_n 2, 1) := dq_28 (zby_at (j := 9) zbX12_ways_0 rfl)
theorem dX12_ways_10 : decode cX12_ways 10 = .ok (.invokevirtual 430, 3) := dq_182 (zby_at (j := 10) zbX12_ways_0 rfl) (zby_at (j := 11) zbX12_ways_0 rfl) (zby_at (j := 12) zbX12_ways_0 rfl)
theorem dX12_ways_13 : decode cX12_ways 13 = .ok (.ifCond .eq 11, 3) := dq_153 (zby_at (j := 13) zbX12_ways_0 rfl) (zby_at (j := 14) zbX12_ways_0 rfl) (zby_at (j := 15) zbX12_ways_0 rfl) rfl
theorem zbX12_ways_1 : zby cX12_ways 16 20 = [42, 29, 182, 1, 174, 154, 0, 6, 16, 254, 172, 42, 28, 29, 182, 1, 177, 42, 27, 182] := by decide +kernel
theorem dX12_ways_16 : decode cX12_ways 16 = .ok (.aload_n 0, 1) := dq_42 (zby_at (j := 0) zbX12_ways_1 rfl)
theorem dX12_ways_17 : decode cX12_ways 17 = .ok (.iload_n 3, 1) := dq_29 (zby_at (j := 1) zbX12_ways_1 rfl)
theorem dX12_ways_18 : decode cX12_ways 18 = .ok (.invokevirtual 430, 3) := dq_182 (zby_at (j := 2) zbX12_ways_1 rfl) (zby_at (j := 3) zbX12_ways_1 rfl) (zby_at (j := 4) zbX12_ways_1 rfl)
theorem dX12_ways_21 : decode cX12_ways 21 = .ok (.ifCond .ne 6, 3) := dq_154 (zby_at (j := 5) zbX12_ways_1 rfl) (zby_at (j := 6) zbX12_ways_1 rfl) (zby_at (j := 7) zbX12_ways_1 rfl) rfl
theorem dX12_ways_24 : decode cX12_ways 24 = .ok (.bipush (-2), 2) := dq_16 (zby_at (j := 8) zbX12_ways_1 rfl) (zby_at (j := 9) zbX12_ways_1 rfl) rfl
theorem dX12_ways_26 : decode cX12_ways 26 = .ok (.ireturn, 1) := dq_172 (zby_at (j := 10) zbX12_ways_1 rfl)
theorem dX12_ways_27 : decode cX12_ways 27 = .ok (.aload_n 0, 1) := dq_42 (zby_at (j := 11) zbX12_ways_1 rfl)
theorem dX12_ways_28 : decode cX12_ways 28 = .ok (.iload_n 2, 1) := dq_28 (zby_at (j := 12) zbX12_ways_1 rfl)
theorem dX12_ways_29 : decode cX12_ways 29 = .ok (.iload_n 3, 1) := dq_29 (zby_at (j := 13) zbX12_ways_1 rfl)
theorem dX12_ways_30 : decode cX12_ways 30 = .ok (.invokevirtual 433, 3) := dq_182 (zby_at (j := 14) zbX12_ways_1 rfl) (zby_at (j := 15) zbX12_ways_1 rfl) (zby_at (j := 16) zbX12_ways_1 rfl)
theorem zbX12_ways_2 : zby cX12_ways 32 20 = [177, 42, 27, 182, 1, 68, 172] := by decide +kernel
theorem dX12_ways_33 : decode cX12_ways 33 = .ok (.aload_n 0, 1) := dq_42 (zby_at (j := 1) zbX12_ways_2 rfl)
theorem dX12_ways_34 : decode cX12_ways 34 = .ok (.iload_n 1, 1) := dq_27 (zby_at (j := 2) zbX12_ways_2 rfl)
theorem dX12_ways_35 : decode cX12_ways 35 = .ok (.invokevirtual 324, 3) := dq_182 (zby_at (j := 3) zbX12_ways_2 rfl) (zby_at (j := 4) zbX12_ways_2 rfl) (zby_at (j := 5) zbX12_ways_2 rfl)
theorem dX12_ways_38 : decode cX12_ways 38 = .ok (.ireturn, 1) := dq_172 (zby_at (j := 6) zbX12_ways_2 rfl)
theorem zbX12_crossings_0 : zby cX12_crossings 0 20 = [3, 60, 3, 61, 28, 42, 180, 0, 9, 5, 46, 162, 0, 27, 27, 4, 42, 28, 182, 1] := by decide +kernel
theorem dX12_crossings_0 : decode cX12_crossings 0 = .ok (.iconst 0, 1) := dq_3 (zby_at (j := 0) zbX12_crossings_0 rfl)
theorem dX12_crossings_1 : decode cX12_crossings 1 = .ok (.istore_n 1, 1) := dq_60 (zby_at (j := 1) zbX12_crossings_0 rfl)
theorem dX12_crossings_2 : decode cX12_crossings 2 = .ok (.iconst 0, 1) := dq_3 (zby_at (j := 2) zbX12_crossings_0 rfl)
theorem dX12_crossings_3 : decode cX12_crossings 3 = .ok (.istore_n 2, 1) := dq_61 (zby_at (j := 3) zbX12_crossings_0 rfl)
theorem dX12_crossings_4 : decode cX12_crossings 4 = .ok (.iload_n 2, 1) := dq_28 (zby_at (j := 4) zbX12_crossings_0 rfl)
theorem dX12_crossings_5 : decode cX12_crossings 5 = .ok (.aload_n 0, 1) := dq_42 (zby_at (j := 5) zbX12_crossings_0 rfl)
theorem dX12_crossings_6 : decode cX12_crossings 6 = .ok (.getfield 9, 3) := dq_180 (zby_at (j := 6) zbX12_crossings_0 rfl) (zby_at (j := 7) zbX12_crossings_0 rfl) (zby_at (j := 8) zbX12_crossings_0 rfl)
theorem dX12_crossings_9 : decode cX12_crossings 9 = .ok (.iconst 2, 1) := dq_5 (zby_at (j := 9) zbX12_crossings_0 rfl)
theorem dX12_crossings_10 : decode cX12_crossings 10 = .ok (.iaload, 1) := dq_46 (zby_at (j := 10) zbX12_crossings_0 rfl)
theorem dX12_crossings_11 : decode cX12_crossings 11 = .ok (.if_icmp .ge 27, 3) := dq_162 (zby_at (j := 11) zbX12_crossings_0 rfl) (zby_at (j := 12) zbX12_crossings_0 rfl) (zby_at (j := 13) zbX12_crossings_0 rfl) rfl
theorem dX12_crossings_14 : decode cX12_crossings 14 = .ok (.iload_n 1, 1) := dq_27 (zby_at (j := 14) zbX12_crossings_0 rfl)
theorem dX12_crossings_15 : decode cX12_crossings 15 = .ok (.iconst 1, 1) := dq_4 (zby_at (j := 15) zbX12_crossings_0 rfl)
theorem zbX12_crossings_1 : zby cX12_crossings 16 20 = [42, 28, 182, 1, 158, 120, 4, 42, 28, 182, 1, 161, 120, 128, 128, 60, 132, 2, 1, 167] := by decide +kernel
theorem dX12_crossings_16 : decode cX12_crossings 16 = .ok (.aload_n 0, 1) := dq_42 (zby_at (j := 0) zbX12_crossings_1 rfl)
theorem dX12_crossings_17 : decode cX12_crossings 17 = .ok (.iload_n 2, 1) := dq_28 (zby_at (j := 1) zbX12_crossings_1 rfl)
theorem dX12_crossings_18 : decode cX12_crossings 18 = .ok (.invokevirtual 414, 3) := dq_182 (zby_at (j := 2) zbX12_crossings_1 rfl) (zby_at (j := 3) zbX12_crossings_1 rfl) (zby_at (j := 4) zbX12_crossings_1 rfl)
theorem dX12_crossings_21 : decode cX12_crossings 21 = .ok (.ishl, 1) := dq_120 (zby_at (j := 5) zbX12_crossings_1 rfl)
theorem dX12_crossings_22 : decode cX12_crossings 22 = .ok (.iconst 1, 1) := dq_4 (zby_at (j := 6) zbX12_crossings_1 rfl)
theorem dX12_crossings_23 : decode cX12_crossings 23 = .ok (.aload_n 0, 1) := dq_42 (zby_at (j := 7) zbX12_crossings_1 rfl)
theorem dX12_crossings_24 : decode cX12_crossings 24 = .ok (.iload_n 2, 1) := dq_28 (zby_at (j := 8) zbX12_crossings_1 rfl)
theorem dX12_crossings_25 : decode cX12_crossings 25 = .ok (.invokevirtual 417, 3) := dq_182 (zby_at (j := 9) zbX12_crossings_1 rfl) (zby_at (j := 10) zbX12_crossings_1 rfl) (zby_at (j := 11) zbX12_crossings_1 rfl)
theorem dX12_crossings_28 : decode cX12_crossings 28 = .ok (.ishl, 1) := dq_120 (zby_at (j := 12) zbX12_crossings_1 rfl)
theorem dX12_crossings_29 : decode cX12_crossings 29 = .ok (.ior, 1) := dq_128 (zby_at (j := 13) zbX12_crossings_1 rfl)
theorem dX12_crossings_30 : decode cX12_crossings 30 = .ok (.ior, 1) := dq_128 (zby_at (j := 14) zbX12_crossings_1 rfl)
theorem dX12_crossings_31 : decode cX12_crossings 31 = .ok (.istore_n 1, 1) := dq_60 (zby_at (j := 15) zbX12_crossings_1 rfl)
theorem zbX12_crossings_2 : zby cX12_crossings 32 20 = [132, 2, 1, 167, 255, 225, 27, 172] := by decide +kernel
theorem dX12_crossings_32 : decode cX12_crossings 32 = .ok (.iinc 2 1, 3) := dq_132 (zby_at (j := 0) zbX12_crossings_2 rfl) (zby_at (j := 1) zbX12_crossings_2 rfl) (zby_at (j := 2) zbX12_crossings_2 rfl) rfl
theorem dX12_crossings_35 : decode cX12_crossings 35 = .ok (.goto (-31), 3) := dq_167 (zby_at (j := 3) zbX12_crossings_2 rfl) (zby_at (j := 4) zbX12_crossings_2 rfl) (zby_at (j := 5) zbX12_crossings_2 rfl) rfl
theorem dX12_crossings_38 : decode cX12_crossings 38 = .ok (.iload_n 1, 1) := dq_27 (zby_at (j := 6) zbX12_crossings_2 rfl)
theorem dX12_crossings_39 : decode cX12_crossings 39 = .ok (.ireturn, 1) := dq_172 (zby_at (j := 7) zbX12_crossings_2 rfl)
theorem zbX12_isTree_0 : zby cX12_isTree 0 20 = [28, 154, 0, 13, 27, 154, 0, 7, 4, 167, 0, 4, 3, 172, 3, 62, 28, 29, 122, 4] := by decide +kernel
theorem dX12_isTree_0 : decode cX12_isTree 0 = .ok (.iload_n 2, 1) := dq_28 (zby_at (j := 0) zbX12_isTree_0 rfl)
theorem dX12_isTree_1 : decode cX12_isTree 1 = .ok (.ifCond .ne 13, 3) := dq_154 (zby_at (j := 1) zbX12_isTree_0 rfl) (zby_at (j := 2) zbX12_isTree_0 rfl) (zby_at (j := 3) zbX12_isTree_0 rfl) rfl
theorem dX12_isTree_4 : decode cX12_isTree 4 = .ok (.iload_n 1, 1) := dq_27 (zby_at (j := 4) zbX12_isTree_0 rfl)
theorem dX12_isTree_5 : decode cX12_isTree 5 = .ok (.ifCond .ne 7, 3) := dq_154 (zby_at (j := 5) zbX12_isTree_0 rfl) (zby_at (j := 6) zbX12_isTree_0 rfl) (zby_at (j := 7) zbX12_isTree_0 rfl) rfl
theorem dX12_isTree_8 : decode cX12_isTree 8 = .ok (.iconst 1, 1) := dq_4 (zby_at (j := 8) zbX12_isTree_0 rfl)
theorem dX12_isTree_9 : decode cX12_isTree 9 = .ok (.goto 4, 3) := dq_167 (zby_at (j := 9) zbX12_isTree_0 rfl) (zby_at (j := 10) zbX12_isTree_0 rfl) (zby_at (j := 11) zbX12_isTree_0 rfl) rfl
theorem dX12_isTree_12 : decode cX12_isTree 12 = .ok (.iconst 0, 1) := dq_3 (zby_at (j := 12) zbX12_isTree_0 rfl)
theorem dX12_isTree_13 : decode cX12_isTree 13 = .ok (.ireturn, 1) := dq_172 (zby_at (j := 13) zbX12_isTree_0 rfl)
theorem dX12_isTree_14 : decode cX12_isTree 14 = .ok (.iconst 0, 1) := dq_3 (zby_at (j := 14) zbX12_isTree_0 rfl)
theorem dX12_isTree_15 : decode cX12_isTree 15 = .ok (.istore_n 3, 1) := dq_62 (zby_at (j := 15) zbX12_isTree_0 rfl)
theorem zbX12_isTree_1 : zby cX12_isTree 16 20 = [28, 29, 122, 4, 126, 154, 0, 9, 132, 3, 1, 167, 255, 245, 42, 27, 29, 182, 1, 167] := by decide +kernel
theorem dX12_isTree_16 : decode cX12_isTree 16 = .ok (.iload_n 2, 1) := dq_28 (zby_at (j := 0) zbX12_isTree_1 rfl)
theorem dX12_isTree_17 : decode cX12_isTree 17 = .ok (.iload_n 3, 1) := dq_29 (zby_at (j := 1) zbX12_isTree_1 rfl)
theorem dX12_isTree_18 : decode cX12_isTree 18 = .ok (.ishr, 1) := dq_122 (zby_at (j := 2) zbX12_isTree_1 rfl)
theorem dX12_isTree_19 : decode cX12_isTree 19 = .ok (.iconst 1, 1) := dq_4 (zby_at (j := 3) zbX12_isTree_1 rfl)
theorem dX12_isTree_20 : decode cX12_isTree 20 = .ok (.iand, 1) := dq_126 (zby_at (j := 4) zbX12_isTree_1 rfl)
theorem dX12_isTree_21 : decode cX12_isTree 21 = .ok (.ifCond .ne 9, 3) := dq_154 (zby_at (j := 5) zbX12_isTree_1 rfl) (zby_at (j := 6) zbX12_isTree_1 rfl) (zby_at (j := 7) zbX12_isTree_1 rfl) rfl
theorem dX12_isTree_24 : decode cX12_isTree 24 = .ok (.iinc 3 1, 3) := dq_132 (zby_at (j := 8) zbX12_isTree_1 rfl) (zby_at (j := 9) zbX12_isTree_1 rfl) (zby_at (j := 10) zbX12_isTree_1 rfl) rfl
theorem dX12_isTree_27 : decode cX12_isTree 27 = .ok (.goto (-11), 3) := dq_167 (zby_at (j := 11) zbX12_isTree_1 rfl) (zby_at (j := 12) zbX12_isTree_1 rfl) (zby_at (j := 13) zbX12_isTree_1 rfl) rfl
theorem dX12_isTree_30 : decode cX12_isTree 30 = .ok (.aload_n 0, 1) := dq_42 (zby_at (j := 14) zbX12_isTree_1 rfl)
theorem dX12_isTree_31 : decode cX12_isTree 31 = .ok (.iload_n 1, 1) := dq_27 (zby_at (j := 15) zbX12_isTree_1 rfl)
theorem zbX12_isTree_2 : zby cX12_isTree 32 20 = [29, 182, 1, 167, 28, 160, 0, 20, 27, 184, 1, 81, 28, 184, 1, 81, 4, 100, 160, 0] := by decide +kernel
theorem dX12_isTree_32 : decode cX12_isTree 32 = .ok (.iload_n 3, 1) := dq_29 (zby_at (j := 0) zbX12_isTree_2 rfl)
theorem dX12_isTree_33 : decode cX12_isTree 33 = .ok (.invokevirtual 423, 3) := dq_182 (zby_at (j := 1) zbX12_isTree_2 rfl) (zby_at (j := 2) zbX12_isTree_2 rfl) (zby_at (j := 3) zbX12_isTree_2 rfl)
theorem dX12_isTree_36 : decode cX12_isTree 36 = .ok (.iload_n 2, 1) := dq_28 (zby_at (j := 4) zbX12_isTree_2 rfl)
theorem dX12_isTree_37 : decode cX12_isTree 37 = .ok (.if_icmp .ne 20, 3) := dq_160 (zby_at (j := 5) zbX12_isTree_2 rfl) (zby_at (j := 6) zbX12_isTree_2 rfl) (zby_at (j := 7) zbX12_isTree_2 rfl) rfl
theorem dX12_isTree_40 : decode cX12_isTree 40 = .ok (.iload_n 1, 1) := dq_27 (zby_at (j := 8) zbX12_isTree_2 rfl)
theorem dX12_isTree_41 : decode cX12_isTree 41 = .ok (.invokestatic 337, 3) := dq_184 (zby_at (j := 9) zbX12_isTree_2 rfl) (zby_at (j := 10) zbX12_isTree_2 rfl) (zby_at (j := 11) zbX12_isTree_2 rfl)
theorem dX12_isTree_44 : decode cX12_isTree 44 = .ok (.iload_n 2, 1) := dq_28 (zby_at (j := 12) zbX12_isTree_2 rfl)
theorem dX12_isTree_45 : decode cX12_isTree 45 = .ok (.invokestatic 337, 3) := dq_184 (zby_at (j := 13) zbX12_isTree_2 rfl) (zby_at (j := 14) zbX12_isTree_2 rfl) (zby_at (j := 15) zbX12_isTree_2 rfl)
theorem zbX12_isTree_3 : zby cX12_isTree 48 20 = [4, 100, 160, 0, 7, 4, 167, 0, 4, 3, 172] := by decide +kernel
theorem dX12_isTree_48 : decode cX12_isTree 48 = .ok (.iconst 1, 1) := dq_4 (zby_at (j := 0) zbX12_isTree_3 rfl)
theorem dX12_isTree_49 : decode cX12_isTree 49 = .ok (.isub, 1) := dq_100 (zby_at (j := 1) zbX12_isTree_3 rfl)
theorem dX12_isTree_50 : decode cX12_isTree 50 = .ok (.if_icmp .ne 7, 3) := dq_160 (zby_at (j := 2) zbX12_isTree_3 rfl) (zby_at (j := 3) zbX12_isTree_3 rfl) (zby_at (j := 4) zbX12_isTree_3 rfl) rfl
theorem dX12_isTree_53 : decode cX12_isTree 53 = .ok (.iconst 1, 1) := dq_4 (zby_at (j := 5) zbX12_isTree_3 rfl)
theorem dX12_isTree_54 : decode cX12_isTree 54 = .ok (.goto 4, 3) := dq_167 (zby_at (j := 6) zbX12_isTree_3 rfl) (zby_at (j := 7) zbX12_isTree_3 rfl) (zby_at (j := 8) zbX12_isTree_3 rfl) rfl
theorem dX12_isTree_57 : decode cX12_isTree 57 = .ok (.iconst 0, 1) := dq_3 (zby_at (j := 9) zbX12_isTree_3 rfl)
theorem dX12_isTree_58 : decode cX12_isTree 58 = .ok (.ireturn, 1) := dq_172 (zby_at (j := 10) zbX12_isTree_3 rfl)
theorem zbX12_isPairs_0 : zby cX12_isPairs 0 20 = [42, 27, 182, 1, 164, 4, 61, 3, 62, 29, 16, 8, 162, 0, 29, 28, 153, 0, 17, 42] := by decide +kernel
theorem dX12_isPairs_0 : decode cX12_isPairs 0 = .ok (.aload_n 0, 1) := dq_42 (zby_at (j := 0) zbX12_isPairs_0 rfl)
theorem dX12_isPairs_1 : decode cX12_isPairs 1 = .ok (.iload_n 1, 1) := dq_27 (zby_at (j := 1) zbX12_isPairs_0 rfl)
theorem dX12_isPairs_2 : decode cX12_isPairs 2 = .ok (.invokevirtual 420, 3) := dq_182 (zby_at (j := 2) zbX12_isPairs_0 rfl) (zby_at (j := 3) zbX12_isPairs_0 rfl) (zby_at (j := 4) zbX12_isPairs_0 rfl)
theorem dX12_isPairs_5 : decode cX12_isPairs 5 = .ok (.iconst 1, 1) := dq_4 (zby_at (j := 5) zbX12_isPairs_0 rfl)
theorem dX12_isPairs_6 : decode cX12_isPairs 6 = .ok (.istore_n 2, 1) := dq_61 (zby_at (j := 6) zbX12_isPairs_0 rfl)
theorem dX12_isPairs_7 : decode cX12_isPairs 7 = .ok (.iconst 0, 1) := dq_3 (zby_at (j := 7) zbX12_isPairs_0 rfl)
theorem dX12_isPairs_8 : decode cX12_isPairs 8 = .ok (.istore_n 3, 1) := dq_62 (zby_at (j := 8) zbX12_isPairs_0 rfl)
theorem dX12_isPairs_9 : decode cX12_isPairs 9 = .ok (.iload_n 3, 1) := dq_29 (zby_at (j := 9) zbX12_isPairs_0 rfl)
theorem dX12_isPairs_10 : decode cX12_isPairs 10 = .ok (.bipush 8, 2) := dq_16 (zby_at (j := 10) zbX12_isPairs_0 rfl) (zby_at (j := 11) zbX12_isPairs_0 rfl) rfl
theorem dX12_isPairs_12 : decode cX12_isPairs 12 = .ok (.if_icmp .ge 29, 3) := dq_162 (zby_at (j := 12) zbX12_isPairs_0 rfl) (zby_at (j := 13) zbX12_isPairs_0 rfl) (zby_at (j := 14) zbX12_isPairs_0 rfl) rfl
theorem dX12_isPairs_15 : decode cX12_isPairs 15 = .ok (.iload_n 2, 1) := dq_28 (zby_at (j := 15) zbX12_isPairs_0 rfl)
theorem zbX12_isPairs_1 : zby cX12_isPairs 16 20 = [153, 0, 17, 42, 180, 0, 73, 29, 46, 5, 162, 0, 7, 4, 167, 0, 4, 3, 61, 132] := by decide +kernel
theorem dX12_isPairs_16 : decode cX12_isPairs 16 = .ok (.ifCond .eq 17, 3) := dq_153 (zby_at (j := 0) zbX12_isPairs_1 rfl) (zby_at (j := 1) zbX12_isPairs_1 rfl) (zby_at (j := 2) zbX12_isPairs_1 rfl) rfl
theorem dX12_isPairs_19 : decode cX12_isPairs 19 = .ok (.aload_n 0, 1) := dq_42 (zby_at (j := 3) zbX12_isPairs_1 rfl)
theorem dX12_isPairs_20 : decode cX12_isPairs 20 = .ok (.getfield 73, 3) := dq_180 (zby_at (j := 4) zbX12_isPairs_1 rfl) (zby_at (j := 5) zbX12_isPairs_1 rfl) (zby_at (j := 6) zbX12_isPairs_1 rfl)
theorem dX12_isPairs_23 : decode cX12_isPairs 23 = .ok (.iload_n 3, 1) := dq_29 (zby_at (j := 7) zbX12_isPairs_1 rfl)
theorem dX12_isPairs_24 : decode cX12_isPairs 24 = .ok (.iaload, 1) := dq_46 (zby_at (j := 8) zbX12_isPairs_1 rfl)
theorem dX12_isPairs_25 : decode cX12_isPairs 25 = .ok (.iconst 2, 1) := dq_5 (zby_at (j := 9) zbX12_isPairs_1 rfl)
theorem dX12_isPairs_26 : decode cX12_isPairs 26 = .ok (.if_icmp .ge 7, 3) := dq_162 (zby_at (j := 10) zbX12_isPairs_1 rfl) (zby_at (j := 11) zbX12_isPairs_1 rfl) (zby_at (j := 12) zbX12_isPairs_1 rfl) rfl
theorem dX12_isPairs_29 : decode cX12_isPairs 29 = .ok (.iconst 1, 1) := dq_4 (zby_at (j := 13) zbX12_isPairs_1 rfl)
theorem dX12_isPairs_30 : decode cX12_isPairs 30 = .ok (.goto 4, 3) := dq_167 (zby_at (j := 14) zbX12_isPairs_1 rfl) (zby_at (j := 15) zbX12_isPairs_1 rfl) (zby_at (j := 16) zbX12_isPairs_1 rfl) rfl
theorem zbX12_isPairs_2 : zby cX12_isPairs 32 20 = [4, 3, 61, 132, 3, 1, 167, 255, 227, 28, 172] := by decide +kernel
theorem dX12_isPairs_33 : decode cX12_isPairs 33 = .ok (.iconst 0, 1) := dq_3 (zby_at (j := 1) zbX12_isPairs_2 rfl)
theorem dX12_isPairs_34 : decode cX12_isPairs 34 = .ok (.istore_n 2, 1) := dq_61 (zby_at (j := 2) zbX12_isPairs_2 rfl)
theorem dX12_isPairs_35 : decode cX12_isPairs 35 = .ok (.iinc 3 1, 3) := dq_132 (zby_at (j := 3) zbX12_isPairs_2 rfl) (zby_at (j := 4) zbX12_isPairs_2 rfl) (zby_at (j := 5) zbX12_isPairs_2 rfl) rfl
theorem dX12_isPairs_38 : decode cX12_isPairs 38 = .ok (.goto (-29), 3) := dq_167 (zby_at (j := 6) zbX12_isPairs_2 rfl) (zby_at (j := 7) zbX12_isPairs_2 rfl) (zby_at (j := 8) zbX12_isPairs_2 rfl) rfl
theorem dX12_isPairs_41 : decode cX12_isPairs 41 = .ok (.iload_n 2, 1) := dq_28 (zby_at (j := 9) zbX12_isPairs_2 rfl)
theorem dX12_isPairs_42 : decode cX12_isPairs 42 = .ok (.ireturn, 1) := dq_172 (zby_at (j := 10) zbX12_isPairs_2 rfl)
theorem zbX12_isCover_0 : zby cX12_isCover 0 20 = [42, 27, 182, 1, 164, 4, 62, 3, 54, 4, 21, 4, 16, 8, 162, 0, 38, 29, 153, 0] := by decide +kernel
theorem dX12_isCover_0 : decode cX12_isCover 0 = .ok (.aload_n 0, 1) := dq_42 (zby_at (j := 0) zbX12_isCover_0 rfl)
theorem dX12_isCover_1 : decode cX12_isCover 1 = .ok (.iload_n 1, 1) := dq_27 (zby_at (j := 1) zbX12_isCover_0 rfl)
theorem dX12_isCover_2 : decode cX12_isCover 2 = .ok (.invokevirtual 420, 3) := dq_182 (zby_at (j := 2) zbX12_isCover_0 rfl) (zby_at (j := 3) zbX12_isCover_0 rfl) (zby_at (j := 4) zbX12_isCover_0 rfl)
theorem dX12_isCover_5 : decode cX12_isCover 5 = .ok (.iconst 1, 1) := dq_4 (zby_at (j := 5) zbX12_isCover_0 rfl)
theorem dX12_isCover_6 : decode cX12_isCover 6 = .ok (.istore_n 3, 1) := dq_62 (zby_at (j := 6) zbX12_isCover_0 rfl)
theorem dX12_isCover_7 : decode cX12_isCover 7 = .ok (.iconst 0, 1) := dq_3 (zby_at (j := 7) zbX12_isCover_0 rfl)
theorem dX12_isCover_8 : decode cX12_isCover 8 = .ok (.istore 4, 2) := dq_54 (zby_at (j := 8) zbX12_isCover_0 rfl) (zby_at (j := 9) zbX12_isCover_0 rfl)
theorem dX12_isCover_10 : decode cX12_isCover 10 = .ok (.iload 4, 2) := dq_21 (zby_at (j := 10) zbX12_isCover_0 rfl) (zby_at (j := 11) zbX12_isCover_0 rfl)
theorem dX12_isCover_12 : decode cX12_isCover 12 = .ok (.bipush 8, 2) := dq_16 (zby_at (j := 12) zbX12_isCover_0 rfl) (zby_at (j := 13) zbX12_isCover_0 rfl) rfl
theorem dX12_isCover_14 : decode cX12_isCover 14 = .ok (.if_icmp .ge 38, 3) := dq_162 (zby_at (j := 14) zbX12_isCover_0 rfl) (zby_at (j := 15) zbX12_isCover_0 rfl) (zby_at (j := 16) zbX12_isCover_0 rfl) rfl
theorem zbX12_isCover_1 : zby cX12_isCover 16 20 = [38, 29, 153, 0, 26, 28, 21, 4, 122, 4, 126, 153, 0, 13, 42, 180, 0, 73, 21, 4] := by decide +kernel
theorem dX12_isCover_17 : decode cX12_isCover 17 = .ok (.iload_n 3, 1) := dq_29 (zby_at (j := 1) zbX12_isCover_1 rfl)
theorem dX12_isCover_18 : decode cX12_isCover 18 = .ok (.ifCond .eq 26, 3) := dq_153 (zby_at (j := 2) zbX12_isCover_1 rfl) (zby_at (j := 3) zbX12_isCover_1 rfl) (zby_at (j := 4) zbX12_isCover_1 rfl) rfl
theorem dX12_isCover_21 : decode cX12_isCover 21 = .ok (.iload_n 2, 1) := dq_28 (zby_at (j := 5) zbX12_isCover_1 rfl)
theorem dX12_isCover_22 : decode cX12_isCover 22 = .ok (.iload 4, 2) := dq_21 (zby_at (j := 6) zbX12_isCover_1 rfl) (zby_at (j := 7) zbX12_isCover_1 rfl)
theorem dX12_isCover_24 : decode cX12_isCover 24 = .ok (.ishr, 1) := dq_122 (zby_at (j := 8) zbX12_isCover_1 rfl)
theorem dX12_isCover_25 : decode cX12_isCover 25 = .ok (.iconst 1, 1) := dq_4 (zby_at (j := 9) zbX12_isCover_1 rfl)
theorem dX12_isCover_26 : decode cX12_isCover 26 = .ok (.iand, 1) := dq_126 (zby_at (j := 10) zbX12_isCover_1 rfl)
theorem dX12_isCover_27 : decode cX12_isCover 27 = .ok (.ifCond .eq 13, 3) := dq_153 (zby_at (j := 11) zbX12_isCover_1 rfl) (zby_at (j := 12) zbX12_isCover_1 rfl) (zby_at (j := 13) zbX12_isCover_1 rfl) rfl
theorem dX12_isCover_30 : decode cX12_isCover 30 = .ok (.aload_n 0, 1) := dq_42 (zby_at (j := 14) zbX12_isCover_1 rfl)
theorem dX12_isCover_31 : decode cX12_isCover 31 = .ok (.getfield 73, 3) := dq_180 (zby_at (j := 15) zbX12_isCover_1 rfl) (zby_at (j := 16) zbX12_isCover_1 rfl) (zby_at (j := 17) zbX12_isCover_1 rfl)
theorem zbX12_isCover_2 : zby cX12_isCover 32 20 = [0, 73, 21, 4, 46, 158, 0, 7, 4, 167, 0, 4, 3, 62, 132, 4, 1, 167, 255, 217] := by decide +kernel
theorem dX12_isCover_34 : decode cX12_isCover 34 = .ok (.iload 4, 2) := dq_21 (zby_at (j := 2) zbX12_isCover_2 rfl) (zby_at (j := 3) zbX12_isCover_2 rfl)
theorem dX12_isCover_36 : decode cX12_isCover 36 = .ok (.iaload, 1) := dq_46 (zby_at (j := 4) zbX12_isCover_2 rfl)
theorem dX12_isCover_37 : decode cX12_isCover 37 = .ok (.ifCond .le 7, 3) := dq_158 (zby_at (j := 5) zbX12_isCover_2 rfl) (zby_at (j := 6) zbX12_isCover_2 rfl) (zby_at (j := 7) zbX12_isCover_2 rfl) rfl
theorem dX12_isCover_40 : decode cX12_isCover 40 = .ok (.iconst 1, 1) := dq_4 (zby_at (j := 8) zbX12_isCover_2 rfl)
theorem dX12_isCover_41 : decode cX12_isCover 41 = .ok (.goto 4, 3) := dq_167 (zby_at (j := 9) zbX12_isCover_2 rfl) (zby_at (j := 10) zbX12_isCover_2 rfl) (zby_at (j := 11) zbX12_isCover_2 rfl) rfl
theorem dX12_isCover_44 : decode cX12_isCover 44 = .ok (.iconst 0, 1) := dq_3 (zby_at (j := 12) zbX12_isCover_2 rfl)
theorem dX12_isCover_45 : decode cX12_isCover 45 = .ok (.istore_n 3, 1) := dq_62 (zby_at (j := 13) zbX12_isCover_2 rfl)
theorem dX12_isCover_46 : decode cX12_isCover 46 = .ok (.iinc 4 1, 3) := dq_132 (zby_at (j := 14) zbX12_isCover_2 rfl) (zby_at (j := 15) zbX12_isCover_2 rfl) (zby_at (j := 16) zbX12_isCover_2 rfl) rfl
theorem zbX12_isCover_3 : zby cX12_isCover 48 20 = [1, 167, 255, 217, 29, 172] := by decide +kernel
theorem dX12_isCover_49 : decode cX12_isCover 49 = .ok (.goto (-39), 3) := dq_167 (zby_at (j := 1) zbX12_isCover_3 rfl) (zby_at (j := 2) zbX12_isCover_3 rfl) (zby_at (j := 3) zbX12_isCover_3 rfl) rfl
theorem dX12_isCover_52 : decode cX12_isCover 52 = .ok (.iload_n 3, 1) := dq_29 (zby_at (j := 4) zbX12_isCover_3 rfl)
theorem dX12_isCover_53 : decode cX12_isCover 53 = .ok (.ireturn, 1) := dq_172 (zby_at (j := 5) zbX12_isCover_3 rfl)
theorem zbX12_map_0 : zby cX12_map 0 20 = [42, 27, 182, 1, 65, 153, 0, 15, 28, 133, 9, 20, 0, 92, 184, 0, 94, 154, 0, 6] := by decide +kernel
theorem dX12_map_0 : decode cX12_map 0 = .ok (.aload_n 0, 1) := dq_42 (zby_at (j := 0) zbX12_map_0 rfl)
theorem dX12_map_1 : decode cX12_map 1 = .ok (.iload_n 1, 1) := dq_27 (zby_at (j := 1) zbX12_map_0 rfl)
theorem dX12_map_2 : decode cX12_map 2 = .ok (.invokevirtual 321, 3) := dq_182 (zby_at (j := 2) zbX12_map_0 rfl) (zby_at (j := 3) zbX12_map_0 rfl) (zby_at (j := 4) zbX12_map_0 rfl)
theorem dX12_map_5 : decode cX12_map 5 = .ok (.ifCond .eq 15, 3) := dq_153 (zby_at (j := 5) zbX12_map_0 rfl) (zby_at (j := 6) zbX12_map_0 rfl) (zby_at (j := 7) zbX12_map_0 rfl) rfl
theorem dX12_map_8 : decode cX12_map 8 = .ok (.iload_n 2, 1) := dq_28 (zby_at (j := 8) zbX12_map_0 rfl)
theorem dX12_map_9 : decode cX12_map 9 = .ok (.i2l, 1) := dq_133 (zby_at (j := 9) zbX12_map_0 rfl)
theorem dX12_map_10 : decode cX12_map 10 = .ok (.lconst 0, 1) := dq_9 (zby_at (j := 10) zbX12_map_0 rfl)
theorem dX12_map_11 : decode cX12_map 11 = .ok (.ldc2_w 92, 3) := dq_20 (zby_at (j := 11) zbX12_map_0 rfl) (zby_at (j := 12) zbX12_map_0 rfl) (zby_at (j := 13) zbX12_map_0 rfl)
theorem dX12_map_14 : decode cX12_map 14 = .ok (.invokestatic 94, 3) := dq_184 (zby_at (j := 14) zbX12_map_0 rfl) (zby_at (j := 15) zbX12_map_0 rfl) (zby_at (j := 16) zbX12_map_0 rfl)
theorem zbX12_map_1 : zby cX12_map 16 20 = [94, 154, 0, 6, 16, 254, 172, 42, 182, 1, 180, 62, 3, 54, 4, 21, 4, 17, 4, 0] := by decide +kernel
theorem dX12_map_17 : decode cX12_map 17 = .ok (.ifCond .ne 6, 3) := dq_154 (zby_at (j := 1) zbX12_map_1 rfl) (zby_at (j := 2) zbX12_map_1 rfl) (zby_at (j := 3) zbX12_map_1 rfl) rfl
theorem dX12_map_20 : decode cX12_map 20 = .ok (.bipush (-2), 2) := dq_16 (zby_at (j := 4) zbX12_map_1 rfl) (zby_at (j := 5) zbX12_map_1 rfl) rfl
theorem dX12_map_22 : decode cX12_map 22 = .ok (.ireturn, 1) := dq_172 (zby_at (j := 6) zbX12_map_1 rfl)
theorem dX12_map_23 : decode cX12_map 23 = .ok (.aload_n 0, 1) := dq_42 (zby_at (j := 7) zbX12_map_1 rfl)
theorem dX12_map_24 : decode cX12_map 24 = .ok (.invokevirtual 436, 3) := dq_182 (zby_at (j := 8) zbX12_map_1 rfl) (zby_at (j := 9) zbX12_map_1 rfl) (zby_at (j := 10) zbX12_map_1 rfl)
theorem dX12_map_27 : decode cX12_map 27 = .ok (.istore_n 3, 1) := dq_62 (zby_at (j := 11) zbX12_map_1 rfl)
theorem dX12_map_28 : decode cX12_map 28 = .ok (.iconst 0, 1) := dq_3 (zby_at (j := 12) zbX12_map_1 rfl)
theorem dX12_map_29 : decode cX12_map 29 = .ok (.istore 4, 2) := dq_54 (zby_at (j := 13) zbX12_map_1 rfl) (zby_at (j := 14) zbX12_map_1 rfl)
theorem dX12_map_31 : decode cX12_map 31 = .ok (.iload 4, 2) := dq_21 (zby_at (j := 15) zbX12_map_1 rfl) (zby_at (j := 16) zbX12_map_1 rfl)
theorem zbX12_map_2 : zby cX12_map 32 20 = [4, 17, 4, 0, 162, 0, 78, 42, 180, 0, 40, 21, 4, 21, 4, 4, 42, 180, 0, 9] := by decide +kernel
theorem dX12_map_33 : decode cX12_map 33 = .ok (.sipush 1024, 3) := dq_17 (zby_at (j := 1) zbX12_map_2 rfl) (zby_at (j := 2) zbX12_map_2 rfl) (zby_at (j := 3) zbX12_map_2 rfl) rfl
theorem dX12_map_36 : decode cX12_map 36 = .ok (.if_icmp .ge 78, 3) := dq_162 (zby_at (j := 4) zbX12_map_2 rfl) (zby_at (j := 5) zbX12_map_2 rfl) (zby_at (j := 6) zbX12_map_2 rfl) rfl
theorem dX12_map_39 : decode cX12_map 39 = .ok (.aload_n 0, 1) := dq_42 (zby_at (j := 7) zbX12_map_2 rfl)
theorem dX12_map_40 : decode cX12_map 40 = .ok (.getfield 40, 3) := dq_180 (zby_at (j := 8) zbX12_map_2 rfl) (zby_at (j := 9) zbX12_map_2 rfl) (zby_at (j := 10) zbX12_map_2 rfl)
theorem dX12_map_43 : decode cX12_map 43 = .ok (.iload 4, 2) := dq_21 (zby_at (j := 11) zbX12_map_2 rfl) (zby_at (j := 12) zbX12_map_2 rfl)
theorem dX12_map_45 : decode cX12_map 45 = .ok (.iload 4, 2) := dq_21 (zby_at (j := 13) zbX12_map_2 rfl) (zby_at (j := 14) zbX12_map_2 rfl)
theorem dX12_map_47 : decode cX12_map 47 = .ok (.iconst 1, 1) := dq_4 (zby_at (j := 15) zbX12_map_2 rfl)
theorem zbX12_map_3 : zby cX12_map 48 20 = [42, 180, 0, 9, 5, 46, 120, 162, 0, 51, 28, 154, 0, 16, 42, 21, 4, 29, 182, 1] := by decide +kernel
theorem dX12_map_48 : decode cX12_map 48 = .ok (.aload_n 0, 1) := dq_42 (zby_at (j := 0) zbX12_map_3 rfl)
theorem dX12_map_49 : decode cX12_map 49 = .ok (.getfield 9, 3) := dq_180 (zby_at (j := 1) zbX12_map_3 rfl) (zby_at (j := 2) zbX12_map_3 rfl) (zby_at (j := 3) zbX12_map_3 rfl)
theorem dX12_map_52 : decode cX12_map 52 = .ok (.iconst 2, 1) := dq_5 (zby_at (j := 4) zbX12_map_3 rfl)
theorem dX12_map_53 : decode cX12_map 53 = .ok (.iaload, 1) := dq_46 (zby_at (j := 5) zbX12_map_3 rfl)
theorem dX12_map_54 : decode cX12_map 54 = .ok (.ishl, 1) := dq_120 (zby_at (j := 6) zbX12_map_3 rfl)
theorem dX12_map_55 : decode cX12_map 55 = .ok (.if_icmp .ge 51, 3) := dq_162 (zby_at (j := 7) zbX12_map_3 rfl) (zby_at (j := 8) zbX12_map_3 rfl) (zby_at (j := 9) zbX12_map_3 rfl) rfl
theorem dX12_map_58 : decode cX12_map 58 = .ok (.iload_n 2, 1) := dq_28 (zby_at (j := 10) zbX12_map_3 rfl)
theorem dX12_map_59 : decode cX12_map 59 = .ok (.ifCond .ne 16, 3) := dq_154 (zby_at (j := 11) zbX12_map_3 rfl) (zby_at (j := 12) zbX12_map_3 rfl) (zby_at (j := 13) zbX12_map_3 rfl) rfl
theorem dX12_map_62 : decode cX12_map 62 = .ok (.aload_n 0, 1) := dq_42 (zby_at (j := 14) zbX12_map_3 rfl)
theorem dX12_map_63 : decode cX12_map 63 = .ok (.iload 4, 2) := dq_21 (zby_at (j := 15) zbX12_map_3 rfl) (zby_at (j := 16) zbX12_map_3 rfl)
theorem zbX12_map_4 : zby cX12_map 64 20 = [4, 29, 182, 1, 183, 153, 0, 37, 167, 0, 30, 28, 4, 160, 0, 15, 42, 21, 4, 182] := by decide +kernel
theorem dX12_map_65 : decode cX12_map 65 = .ok (.iload_n 3, 1) := dq_29 (zby_at (j := 1) zbX12_map_4 rfl)
theorem dX12_map_66 : decode cX12_map 66 = .ok (.invokevirtual 439, 3) := dq_182 (zby_at (j := 2) zbX12_map_4 rfl) (zby_at (j := 3) zbX12_map_4 rfl) (zby_at (j := 4) zbX12_map_4 rfl)
theorem dX12_map_69 : decode cX12_map 69 = .ok (.ifCond .eq 37, 3) := dq_153 (zby_at (j := 5) zbX12_map_4 rfl) (zby_at (j := 6) zbX12_map_4 rfl) (zby_at (j := 7) zbX12_map_4 rfl) rfl
theorem dX12_map_72 : decode cX12_map 72 = .ok (.goto 30, 3) := dq_167 (zby_at (j := 8) zbX12_map_4 rfl) (zby_at (j := 9) zbX12_map_4 rfl) (zby_at (j := 10) zbX12_map_4 rfl) rfl
theorem dX12_map_75 : decode cX12_map 75 = .ok (.iload_n 2, 1) := dq_28 (zby_at (j := 11) zbX12_map_4 rfl)
theorem dX12_map_76 : decode cX12_map 76 = .ok (.iconst 1, 1) := dq_4 (zby_at (j := 12) zbX12_map_4 rfl)
theorem dX12_map_77 : decode cX12_map 77 = .ok (.if_icmp .ne 15, 3) := dq_160 (zby_at (j := 13) zbX12_map_4 rfl) (zby_at (j := 14) zbX12_map_4 rfl) (zby_at (j := 15) zbX12_map_4 rfl) rfl
theorem zbX12_map_5 : zby cX12_map 80 20 = [42, 21, 4, 182, 1, 186, 153, 0, 20, 167, 0, 13, 42, 21, 4, 29, 182, 1, 189, 153] := by decide +kernel
theorem dX12_map_80 : decode cX12_map 80 = .ok (.aload_n 0, 1) := dq_42 (zby_at (j := 0) zbX12_map_5 rfl)
theorem dX12_map_81 : decode cX12_map 81 = .ok (.iload 4, 2) := dq_21 (zby_at (j := 1) zbX12_map_5 rfl) (zby_at (j := 2) zbX12_map_5 rfl)
theorem dX12_map_83 : decode cX12_map 83 = .ok (.invokevirtual 442, 3) := dq_182 (zby_at (j := 3) zbX12_map_5 rfl) (zby_at (j := 4) zbX12_map_5 rfl) (zby_at (j := 5) zbX12_map_5 rfl)
theorem dX12_map_86 : decode cX12_map 86 = .ok (.ifCond .eq 20, 3) := dq_153 (zby_at (j := 6) zbX12_map_5 rfl) (zby_at (j := 7) zbX12_map_5 rfl) (zby_at (j := 8) zbX12_map_5 rfl) rfl
theorem dX12_map_89 : decode cX12_map 89 = .ok (.goto 13, 3) := dq_167 (zby_at (j := 9) zbX12_map_5 rfl) (zby_at (j := 10) zbX12_map_5 rfl) (zby_at (j := 11) zbX12_map_5 rfl) rfl
theorem dX12_map_92 : decode cX12_map 92 = .ok (.aload_n 0, 1) := dq_42 (zby_at (j := 12) zbX12_map_5 rfl)
theorem dX12_map_93 : decode cX12_map 93 = .ok (.iload 4, 2) := dq_21 (zby_at (j := 13) zbX12_map_5 rfl) (zby_at (j := 14) zbX12_map_5 rfl)
theorem dX12_map_95 : decode cX12_map 95 = .ok (.iload_n 3, 1) := dq_29 (zby_at (j := 15) zbX12_map_5 rfl)
theorem zbX12_map_6 : zby cX12_map 96 20 = [182, 1, 189, 153, 0, 7, 4, 167, 0, 4, 3, 84, 132, 4, 1, 167, 255, 176, 42, 27] := by decide +kernel
theorem dX12_map_96 : decode cX12_map 96 = .ok (.invokevirtual 445, 3) := dq_182 (zby_at (j := 0) zbX12_map_6 rfl) (zby_at (j := 1) zbX12_map_6 rfl) (zby_at (j := 2) zbX12_map_6 rfl)
theorem dX12_map_99 : decode cX12_map 99 = .ok (.ifCond .eq 7, 3) := dq_153 (zby_at (j := 3) zbX12_map_6 rfl) (zby_at (j := 4) zbX12_map_6 rfl) (zby_at (j := 5) zbX12_map_6 rfl) rfl
theorem dX12_map_102 : decode cX12_map 102 = .ok (.iconst 1, 1) := dq_4 (zby_at (j := 6) zbX12_map_6 rfl)
theorem dX12_map_103 : decode cX12_map 103 = .ok (.goto 4, 3) := dq_167 (zby_at (j := 7) zbX12_map_6 rfl) (zby_at (j := 8) zbX12_map_6 rfl) (zby_at (j := 9) zbX12_map_6 rfl) rfl
theorem dX12_map_106 : decode cX12_map 106 = .ok (.iconst 0, 1) := dq_3 (zby_at (j := 10) zbX12_map_6 rfl)
theorem dX12_map_107 : decode cX12_map 107 = .ok (.bastore, 1) := dq_84 (zby_at (j := 11) zbX12_map_6 rfl)
theorem dX12_map_108 : decode cX12_map 108 = .ok (.iinc 4 1, 3) := dq_132 (zby_at (j := 12) zbX12_map_6 rfl) (zby_at (j := 13) zbX12_map_6 rfl) (zby_at (j := 14) zbX12_map_6 rfl) rfl
theorem dX12_map_111 : decode cX12_map 111 = .ok (.goto (-80), 3) := dq_167 (zby_at (j := 15) zbX12_map_6 rfl) (zby_at (j := 16) zbX12_map_6 rfl) (zby_at (j := 17) zbX12_map_6 rfl) rfl
theorem zbX12_map_7 : zby cX12_map 112 20 = [255, 176, 42, 27, 182, 1, 68, 172] := by decide +kernel
theorem dX12_map_114 : decode cX12_map 114 = .ok (.aload_n 0, 1) := dq_42 (zby_at (j := 2) zbX12_map_7 rfl)
theorem dX12_map_115 : decode cX12_map 115 = .ok (.iload_n 1, 1) := dq_27 (zby_at (j := 3) zbX12_map_7 rfl)
theorem dX12_map_116 : decode cX12_map 116 = .ok (.invokevirtual 324, 3) := dq_182 (zby_at (j := 4) zbX12_map_7 rfl) (zby_at (j := 5) zbX12_map_7 rfl) (zby_at (j := 6) zbX12_map_7 rfl)
theorem dX12_map_119 : decode cX12_map 119 = .ok (.ireturn, 1) := dq_172 (zby_at (j := 7) zbX12_map_7 rfl)
theorem zbX12_cuts_0 : zby cX12_cuts 0 20 = [42, 27, 182, 1, 65, 153, 0, 19, 42, 28, 182, 1, 174, 153, 0, 11, 42, 29, 182, 1] := by decide +kernel
theorem dX12_cuts_0 : decode cX12_cuts 0 = .ok (.aload_n 0, 1) := dq_42 (zby_at (j := 0) zbX12_cuts_0 rfl)
theorem dX12_cuts_1 : decode cX12_cuts 1 = .ok (.iload_n 1, 1) := dq_27 (zby_at (j := 1) zbX12_cuts_0 rfl)
theorem dX12_cuts_2 : decode cX12_cuts 2 = .ok (.invokevirtual 321, 3) := dq_182 (zby_at (j := 2) zbX12_cuts_0 rfl) (zby_at (j := 3) zbX12_cuts_0 rfl) (zby_at (j := 4) zbX12_cuts_0 rfl)
theorem dX12_cuts_5 : decode cX12_cuts 5 = .ok (.ifCond .eq 19, 3) := dq_153 (zby_at (j := 5) zbX12_cuts_0 rfl) (zby_at (j := 6) zbX12_cuts_0 rfl) (zby_at (j := 7) zbX12_cuts_0 rfl) rfl
theorem dX12_cuts_8 : decode cX12_cuts 8 = .ok (.aload_n 0, 1) := dq_42 (zby_at (j := 8) zbX12_cuts_0 rfl)
theorem dX12_cuts_9 : decode cX12_cuts 9 = .ok (.iload_n 2, 1) := dq_28 (zby_at (j := 9) zbX12_cuts_0 rfl)
theorem dX12_cuts_10 : decode cX12_cuts 10 = .ok (.invokevirtual 430, 3) := dq_182 (zby_at (j := 10) zbX12_cuts_0 rfl) (zby_at (j := 11) zbX12_cuts_0 rfl) (zby_at (j := 12) zbX12_cuts_0 rfl)
theorem dX12_cuts_13 : decode cX12_cuts 13 = .ok (.ifCond .eq 11, 3) := dq_153 (zby_at (j := 13) zbX12_cuts_0 rfl) (zby_at (j := 14) zbX12_cuts_0 rfl) (zby_at (j := 15) zbX12_cuts_0 rfl) rfl
theorem zbX12_cuts_1 : zby cX12_cuts 16 20 = [42, 29, 182, 1, 174, 154, 0, 6, 16, 254, 172, 42, 42, 182, 0, 104, 181, 0, 180, 42] := by decide +kernel
theorem dX12_cuts_16 : decode cX12_cuts 16 = .ok (.aload_n 0, 1) := dq_42 (zby_at (j := 0) zbX12_cuts_1 rfl)
theorem dX12_cuts_17 : decode cX12_cuts 17 = .ok (.iload_n 3, 1) := dq_29 (zby_at (j := 1) zbX12_cuts_1 rfl)
theorem dX12_cuts_18 : decode cX12_cuts 18 = .ok (.invokevirtual 430, 3) := dq_182 (zby_at (j := 2) zbX12_cuts_1 rfl) (zby_at (j := 3) zbX12_cuts_1 rfl) (zby_at (j := 4) zbX12_cuts_1 rfl)
theorem dX12_cuts_21 : decode cX12_cuts 21 = .ok (.ifCond .ne 6, 3) := dq_154 (zby_at (j := 5) zbX12_cuts_1 rfl) (zby_at (j := 6) zbX12_cuts_1 rfl) (zby_at (j := 7) zbX12_cuts_1 rfl) rfl
theorem dX12_cuts_24 : decode cX12_cuts 24 = .ok (.bipush (-2), 2) := dq_16 (zby_at (j := 8) zbX12_cuts_1 rfl) (zby_at (j := 9) zbX12_cuts_1 rfl) rfl
theorem dX12_cuts_26 : decode cX12_cuts 26 = .ok (.ireturn, 1) := dq_172 (zby_at (j := 10) zbX12_cuts_1 rfl)
theorem dX12_cuts_27 : decode cX12_cuts 27 = .ok (.aload_n 0, 1) := dq_42 (zby_at (j := 11) zbX12_cuts_1 rfl)
theorem dX12_cuts_28 : decode cX12_cuts 28 = .ok (.aload_n 0, 1) := dq_42 (zby_at (j := 12) zbX12_cuts_1 rfl)
theorem dX12_cuts_29 : decode cX12_cuts 29 = .ok (.invokevirtual 104, 3) := dq_182 (zby_at (j := 13) zbX12_cuts_1 rfl) (zby_at (j := 14) zbX12_cuts_1 rfl) (zby_at (j := 15) zbX12_cuts_1 rfl)
theorem zbX12_cuts_2 : zby cX12_cuts 32 20 = [181, 0, 180, 42, 28, 29, 182, 1, 177, 3, 54, 4, 21, 4, 17, 4, 0, 162, 0, 23] := by decide +kernel
theorem dX12_cuts_32 : decode cX12_cuts 32 = .ok (.putfield 180, 3) := dq_181 (zby_at (j := 0) zbX12_cuts_2 rfl) (zby_at (j := 1) zbX12_cuts_2 rfl) (zby_at (j := 2) zbX12_cuts_2 rfl)
theorem dX12_cuts_35 : decode cX12_cuts 35 = .ok (.aload_n 0, 1) := dq_42 (zby_at (j := 3) zbX12_cuts_2 rfl)
theorem dX12_cuts_36 : decode cX12_cuts 36 = .ok (.iload_n 2, 1) := dq_28 (zby_at (j := 4) zbX12_cuts_2 rfl)
theorem dX12_cuts_37 : decode cX12_cuts 37 = .ok (.iload_n 3, 1) := dq_29 (zby_at (j := 5) zbX12_cuts_2 rfl)
theorem dX12_cuts_38 : decode cX12_cuts 38 = .ok (.invokevirtual 433, 3) := dq_182 (zby_at (j := 6) zbX12_cuts_2 rfl) (zby_at (j := 7) zbX12_cuts_2 rfl) (zby_at (j := 8) zbX12_cuts_2 rfl)
theorem dX12_cuts_41 : decode cX12_cuts 41 = .ok (.iconst 0, 1) := dq_3 (zby_at (j := 9) zbX12_cuts_2 rfl)
theorem dX12_cuts_42 : decode cX12_cuts 42 = .ok (.istore 4, 2) := dq_54 (zby_at (j := 10) zbX12_cuts_2 rfl) (zby_at (j := 11) zbX12_cuts_2 rfl)
theorem dX12_cuts_44 : decode cX12_cuts 44 = .ok (.iload 4, 2) := dq_21 (zby_at (j := 12) zbX12_cuts_2 rfl) (zby_at (j := 13) zbX12_cuts_2 rfl)
theorem dX12_cuts_46 : decode cX12_cuts 46 = .ok (.sipush 1024, 3) := dq_17 (zby_at (j := 14) zbX12_cuts_2 rfl) (zby_at (j := 15) zbX12_cuts_2 rfl) (zby_at (j := 16) zbX12_cuts_2 rfl) rfl
theorem zbX12_cuts_3 : zby cX12_cuts 48 20 = [0, 162, 0, 23, 42, 180, 0, 46, 21, 4, 42, 180, 0, 40, 21, 4, 51, 84, 132, 4] := by decide +kernel
theorem dX12_cuts_49 : decode cX12_cuts 49 = .ok (.if_icmp .ge 23, 3) := dq_162 (zby_at (j := 1) zbX12_cuts_3 rfl) (zby_at (j := 2) zbX12_cuts_3 rfl) (zby_at (j := 3) zbX12_cuts_3 rfl) rfl
theorem dX12_cuts_52 : decode cX12_cuts 52 = .ok (.aload_n 0, 1) := dq_42 (zby_at (j := 4) zbX12_cuts_3 rfl)
theorem dX12_cuts_53 : decode cX12_cuts 53 = .ok (.getfield 46, 3) := dq_180 (zby_at (j := 5) zbX12_cuts_3 rfl) (zby_at (j := 6) zbX12_cuts_3 rfl) (zby_at (j := 7) zbX12_cuts_3 rfl)
theorem dX12_cuts_56 : decode cX12_cuts 56 = .ok (.iload 4, 2) := dq_21 (zby_at (j := 8) zbX12_cuts_3 rfl) (zby_at (j := 9) zbX12_cuts_3 rfl)
theorem dX12_cuts_58 : decode cX12_cuts 58 = .ok (.aload_n 0, 1) := dq_42 (zby_at (j := 10) zbX12_cuts_3 rfl)
theorem dX12_cuts_59 : decode cX12_cuts 59 = .ok (.getfield 40, 3) := dq_180 (zby_at (j := 11) zbX12_cuts_3 rfl) (zby_at (j := 12) zbX12_cuts_3 rfl) (zby_at (j := 13) zbX12_cuts_3 rfl)
theorem dX12_cuts_62 : decode cX12_cuts 62 = .ok (.iload 4, 2) := dq_21 (zby_at (j := 14) zbX12_cuts_3 rfl) (zby_at (j := 15) zbX12_cuts_3 rfl)
theorem zbX12_cuts_4 : zby cX12_cuts 64 20 = [51, 84, 132, 4, 1, 167, 255, 231, 42, 5, 42, 180, 0, 46, 3, 182, 0, 209, 42, 27] := by decide +kernel
theorem dX12_cuts_64 : decode cX12_cuts 64 = .ok (.baload, 1) := dq_51 (zby_at (j := 0) zbX12_cuts_4 rfl)
theorem dX12_cuts_65 : decode cX12_cuts 65 = .ok (.bastore, 1) := dq_84 (zby_at (j := 1) zbX12_cuts_4 rfl)
theorem dX12_cuts_66 : decode cX12_cuts 66 = .ok (.iinc 4 1, 3) := dq_132 (zby_at (j := 2) zbX12_cuts_4 rfl) (zby_at (j := 3) zbX12_cuts_4 rfl) (zby_at (j := 4) zbX12_cuts_4 rfl) rfl
theorem dX12_cuts_69 : decode cX12_cuts 69 = .ok (.goto (-25), 3) := dq_167 (zby_at (j := 5) zbX12_cuts_4 rfl) (zby_at (j := 6) zbX12_cuts_4 rfl) (zby_at (j := 7) zbX12_cuts_4 rfl) rfl
theorem dX12_cuts_72 : decode cX12_cuts 72 = .ok (.aload_n 0, 1) := dq_42 (zby_at (j := 8) zbX12_cuts_4 rfl)
theorem dX12_cuts_73 : decode cX12_cuts 73 = .ok (.iconst 2, 1) := dq_5 (zby_at (j := 9) zbX12_cuts_4 rfl)
theorem dX12_cuts_74 : decode cX12_cuts 74 = .ok (.aload_n 0, 1) := dq_42 (zby_at (j := 10) zbX12_cuts_4 rfl)
theorem dX12_cuts_75 : decode cX12_cuts 75 = .ok (.getfield 46, 3) := dq_180 (zby_at (j := 11) zbX12_cuts_4 rfl) (zby_at (j := 12) zbX12_cuts_4 rfl) (zby_at (j := 13) zbX12_cuts_4 rfl)
theorem dX12_cuts_78 : decode cX12_cuts 78 = .ok (.iconst 0, 1) := dq_3 (zby_at (j := 14) zbX12_cuts_4 rfl)
theorem dX12_cuts_79 : decode cX12_cuts 79 = .ok (.invokevirtual 209, 3) := dq_182 (zby_at (j := 15) zbX12_cuts_4 rfl) (zby_at (j := 16) zbX12_cuts_4 rfl) (zby_at (j := 17) zbX12_cuts_4 rfl)
theorem zbX12_cuts_5 : zby cX12_cuts 80 20 = [0, 209, 42, 27, 182, 1, 68, 172] := by decide +kernel
theorem dX12_cuts_82 : decode cX12_cuts 82 = .ok (.aload_n 0, 1) := dq_42 (zby_at (j := 2) zbX12_cuts_5 rfl)
theorem dX12_cuts_83 : decode cX12_cuts 83 = .ok (.iload_n 1, 1) := dq_27 (zby_at (j := 3) zbX12_cuts_5 rfl)
theorem dX12_cuts_84 : decode cX12_cuts 84 = .ok (.invokevirtual 324, 3) := dq_182 (zby_at (j := 4) zbX12_cuts_5 rfl) (zby_at (j := 5) zbX12_cuts_5 rfl) (zby_at (j := 6) zbX12_cuts_5 rfl)
theorem dX12_cuts_87 : decode cX12_cuts 87 = .ok (.ireturn, 1) := dq_172 (zby_at (j := 7) zbX12_cuts_5 rfl)
theorem zbX12_judge_0 : zby cX12_judge 0 20 = [27, 184, 1, 192, 153, 0, 11, 42, 28, 182, 1, 65, 154, 0, 6, 16, 254, 172, 42, 180] := by decide +kernel
theorem dX12_judge_0 : decode cX12_judge 0 = .ok (.iload_n 1, 1) := dq_27 (zby_at (j := 0) zbX12_judge_0 rfl)
theorem dX12_judge_1 : decode cX12_judge 1 = .ok (.invokestatic 448, 3) := dq_184 (zby_at (j := 1) zbX12_judge_0 rfl) (zby_at (j := 2) zbX12_judge_0 rfl) (zby_at (j := 3) zbX12_judge_0 rfl)
theorem dX12_judge_4 : decode cX12_judge 4 = .ok (.ifCond .eq 11, 3) := dq_153 (zby_at (j := 4) zbX12_judge_0 rfl) (zby_at (j := 5) zbX12_judge_0 rfl) (zby_at (j := 6) zbX12_judge_0 rfl) rfl
theorem dX12_judge_7 : decode cX12_judge 7 = .ok (.aload_n 0, 1) := dq_42 (zby_at (j := 7) zbX12_judge_0 rfl)
theorem dX12_judge_8 : decode cX12_judge 8 = .ok (.iload_n 2, 1) := dq_28 (zby_at (j := 8) zbX12_judge_0 rfl)
theorem dX12_judge_9 : decode cX12_judge 9 = .ok (.invokevirtual 321, 3) := dq_182 (zby_at (j := 9) zbX12_judge_0 rfl) (zby_at (j := 10) zbX12_judge_0 rfl) (zby_at (j := 11) zbX12_judge_0 rfl)
theorem dX12_judge_12 : decode cX12_judge 12 = .ok (.ifCond .ne 6, 3) := dq_154 (zby_at (j := 12) zbX12_judge_0 rfl) (zby_at (j := 13) zbX12_judge_0 rfl) (zby_at (j := 14) zbX12_judge_0 rfl) rfl
theorem dX12_judge_15 : decode cX12_judge 15 = .ok (.bipush (-2), 2) := dq_16 (zby_at (j := 15) zbX12_judge_0 rfl) (zby_at (j := 16) zbX12_judge_0 rfl) rfl
theorem zbX12_judge_1 : zby cX12_judge 16 20 = [254, 172, 42, 180, 0, 76, 27, 46, 2, 160, 0, 6, 16, 250, 172, 3, 62, 29, 42, 180] := by decide +kernel
theorem dX12_judge_17 : decode cX12_judge 17 = .ok (.ireturn, 1) := dq_172 (zby_at (j := 1) zbX12_judge_1 rfl)
theorem dX12_judge_18 : decode cX12_judge 18 = .ok (.aload_n 0, 1) := dq_42 (zby_at (j := 2) zbX12_judge_1 rfl)
theorem dX12_judge_19 : decode cX12_judge 19 = .ok (.getfield 76, 3) := dq_180 (zby_at (j := 3) zbX12_judge_1 rfl) (zby_at (j := 4) zbX12_judge_1 rfl) (zby_at (j := 5) zbX12_judge_1 rfl)
theorem dX12_judge_22 : decode cX12_judge 22 = .ok (.iload_n 1, 1) := dq_27 (zby_at (j := 6) zbX12_judge_1 rfl)
theorem dX12_judge_23 : decode cX12_judge 23 = .ok (.iaload, 1) := dq_46 (zby_at (j := 7) zbX12_judge_1 rfl)
theorem dX12_judge_24 : decode cX12_judge 24 = .ok (.iconst (-1), 1) := dq_2 (zby_at (j := 8) zbX12_judge_1 rfl)
theorem dX12_judge_25 : decode cX12_judge 25 = .ok (.if_icmp .ne 6, 3) := dq_160 (zby_at (j := 9) zbX12_judge_1 rfl) (zby_at (j := 10) zbX12_judge_1 rfl) (zby_at (j := 11) zbX12_judge_1 rfl) rfl
theorem dX12_judge_28 : decode cX12_judge 28 = .ok (.bipush (-6), 2) := dq_16 (zby_at (j := 12) zbX12_judge_1 rfl) (zby_at (j := 13) zbX12_judge_1 rfl) rfl
theorem dX12_judge_30 : decode cX12_judge 30 = .ok (.ireturn, 1) := dq_172 (zby_at (j := 14) zbX12_judge_1 rfl)
theorem dX12_judge_31 : decode cX12_judge 31 = .ok (.iconst 0, 1) := dq_3 (zby_at (j := 15) zbX12_judge_1 rfl)
theorem zbX12_judge_2 : zby cX12_judge 32 20 = [62, 29, 42, 180, 0, 76, 27, 46, 162, 0, 43, 42, 28, 29, 182, 1, 84, 54, 4, 21] := by decide +kernel
theorem dX12_judge_32 : decode cX12_judge 32 = .ok (.istore_n 3, 1) := dq_62 (zby_at (j := 0) zbX12_judge_2 rfl)
theorem dX12_judge_33 : decode cX12_judge 33 = .ok (.iload_n 3, 1) := dq_29 (zby_at (j := 1) zbX12_judge_2 rfl)
theorem dX12_judge_34 : decode cX12_judge 34 = .ok (.aload_n 0, 1) := dq_42 (zby_at (j := 2) zbX12_judge_2 rfl)
theorem dX12_judge_35 : decode cX12_judge 35 = .ok (.getfield 76, 3) := dq_180 (zby_at (j := 3) zbX12_judge_2 rfl) (zby_at (j := 4) zbX12_judge_2 rfl) (zby_at (j := 5) zbX12_judge_2 rfl)
theorem dX12_judge_38 : decode cX12_judge 38 = .ok (.iload_n 1, 1) := dq_27 (zby_at (j := 6) zbX12_judge_2 rfl)
theorem dX12_judge_39 : decode cX12_judge 39 = .ok (.iaload, 1) := dq_46 (zby_at (j := 7) zbX12_judge_2 rfl)
theorem dX12_judge_40 : decode cX12_judge 40 = .ok (.if_icmp .ge 43, 3) := dq_162 (zby_at (j := 8) zbX12_judge_2 rfl) (zby_at (j := 9) zbX12_judge_2 rfl) (zby_at (j := 10) zbX12_judge_2 rfl) rfl
theorem dX12_judge_43 : decode cX12_judge 43 = .ok (.aload_n 0, 1) := dq_42 (zby_at (j := 11) zbX12_judge_2 rfl)
theorem dX12_judge_44 : decode cX12_judge 44 = .ok (.iload_n 2, 1) := dq_28 (zby_at (j := 12) zbX12_judge_2 rfl)
theorem dX12_judge_45 : decode cX12_judge 45 = .ok (.iload_n 3, 1) := dq_29 (zby_at (j := 13) zbX12_judge_2 rfl)
theorem dX12_judge_46 : decode cX12_judge 46 = .ok (.invokevirtual 340, 3) := dq_182 (zby_at (j := 14) zbX12_judge_2 rfl) (zby_at (j := 15) zbX12_judge_2 rfl) (zby_at (j := 16) zbX12_judge_2 rfl)
theorem zbX12_judge_3 : zby cX12_judge 48 20 = [84, 54, 4, 21, 4, 2, 159, 0, 21, 42, 180, 0, 82, 16, 60, 27, 104, 29, 96, 47] := by decide +kernel
theorem dX12_judge_49 : decode cX12_judge 49 = .ok (.istore 4, 2) := dq_54 (zby_at (j := 1) zbX12_judge_3 rfl) (zby_at (j := 2) zbX12_judge_3 rfl)
theorem dX12_judge_51 : decode cX12_judge 51 = .ok (.iload 4, 2) := dq_21 (zby_at (j := 3) zbX12_judge_3 rfl) (zby_at (j := 4) zbX12_judge_3 rfl)
theorem dX12_judge_53 : decode cX12_judge 53 = .ok (.iconst (-1), 1) := dq_2 (zby_at (j := 5) zbX12_judge_3 rfl)
theorem dX12_judge_54 : decode cX12_judge 54 = .ok (.if_icmp .eq 21, 3) := dq_159 (zby_at (j := 6) zbX12_judge_3 rfl) (zby_at (j := 7) zbX12_judge_3 rfl) (zby_at (j := 8) zbX12_judge_3 rfl) rfl
theorem dX12_judge_57 : decode cX12_judge 57 = .ok (.aload_n 0, 1) := dq_42 (zby_at (j := 9) zbX12_judge_3 rfl)
theorem dX12_judge_58 : decode cX12_judge 58 = .ok (.getfield 82, 3) := dq_180 (zby_at (j := 10) zbX12_judge_3 rfl) (zby_at (j := 11) zbX12_judge_3 rfl) (zby_at (j := 12) zbX12_judge_3 rfl)
theorem dX12_judge_61 : decode cX12_judge 61 = .ok (.bipush 60, 2) := dq_16 (zby_at (j := 13) zbX12_judge_3 rfl) (zby_at (j := 14) zbX12_judge_3 rfl) rfl
theorem dX12_judge_63 : decode cX12_judge 63 = .ok (.iload_n 1, 1) := dq_27 (zby_at (j := 15) zbX12_judge_3 rfl)
theorem zbX12_judge_4 : zby cX12_judge 64 20 = [104, 29, 96, 47, 21, 4, 133, 148, 153, 0, 5, 29, 172, 132, 3, 1, 167, 255, 209, 42] := by decide +kernel
theorem dX12_judge_64 : decode cX12_judge 64 = .ok (.imul, 1) := dq_104 (zby_at (j := 0) zbX12_judge_4 rfl)
theorem dX12_judge_65 : decode cX12_judge 65 = .ok (.iload_n 3, 1) := dq_29 (zby_at (j := 1) zbX12_judge_4 rfl)
theorem dX12_judge_66 : decode cX12_judge 66 = .ok (.iadd, 1) := dq_96 (zby_at (j := 2) zbX12_judge_4 rfl)
theorem dX12_judge_67 : decode cX12_judge 67 = .ok (.laload, 1) := dq_47 (zby_at (j := 3) zbX12_judge_4 rfl)
theorem dX12_judge_68 : decode cX12_judge 68 = .ok (.iload 4, 2) := dq_21 (zby_at (j := 4) zbX12_judge_4 rfl) (zby_at (j := 5) zbX12_judge_4 rfl)
theorem dX12_judge_70 : decode cX12_judge 70 = .ok (.i2l, 1) := dq_133 (zby_at (j := 6) zbX12_judge_4 rfl)
theorem dX12_judge_71 : decode cX12_judge 71 = .ok (.lcmp, 1) := dq_148 (zby_at (j := 7) zbX12_judge_4 rfl)
theorem dX12_judge_72 : decode cX12_judge 72 = .ok (.ifCond .eq 5, 3) := dq_153 (zby_at (j := 8) zbX12_judge_4 rfl) (zby_at (j := 9) zbX12_judge_4 rfl) (zby_at (j := 10) zbX12_judge_4 rfl) rfl
theorem dX12_judge_75 : decode cX12_judge 75 = .ok (.iload_n 3, 1) := dq_29 (zby_at (j := 11) zbX12_judge_4 rfl)
theorem dX12_judge_76 : decode cX12_judge 76 = .ok (.ireturn, 1) := dq_172 (zby_at (j := 12) zbX12_judge_4 rfl)
theorem dX12_judge_77 : decode cX12_judge 77 = .ok (.iinc 3 1, 3) := dq_132 (zby_at (j := 13) zbX12_judge_4 rfl) (zby_at (j := 14) zbX12_judge_4 rfl) (zby_at (j := 15) zbX12_judge_4 rfl) rfl
theorem zbX12_judge_5 : zby cX12_judge 80 20 = [167, 255, 209, 42, 28, 42, 180, 0, 76, 27, 46, 182, 1, 84, 2, 160, 0, 12, 42, 180] := by decide +kernel
theorem dX12_judge_80 : decode cX12_judge 80 = .ok (.goto (-47), 3) := dq_167 (zby_at (j := 0) zbX12_judge_5 rfl) (zby_at (j := 1) zbX12_judge_5 rfl) (zby_at (j := 2) zbX12_judge_5 rfl) rfl
theorem dX12_judge_83 : decode cX12_judge 83 = .ok (.aload_n 0, 1) := dq_42 (zby_at (j := 3) zbX12_judge_5 rfl)
theorem dX12_judge_84 : decode cX12_judge 84 = .ok (.iload_n 2, 1) := dq_28 (zby_at (j := 4) zbX12_judge_5 rfl)
theorem dX12_judge_85 : decode cX12_judge 85 = .ok (.aload_n 0, 1) := dq_42 (zby_at (j := 5) zbX12_judge_5 rfl)
theorem dX12_judge_86 : decode cX12_judge 86 = .ok (.getfield 76, 3) := dq_180 (zby_at (j := 6) zbX12_judge_5 rfl) (zby_at (j := 7) zbX12_judge_5 rfl) (zby_at (j := 8) zbX12_judge_5 rfl)
theorem dX12_judge_89 : decode cX12_judge 89 = .ok (.iload_n 1, 1) := dq_27 (zby_at (j := 9) zbX12_judge_5 rfl)
theorem dX12_judge_90 : decode cX12_judge 90 = .ok (.iaload, 1) := dq_46 (zby_at (j := 10) zbX12_judge_5 rfl)
theorem dX12_judge_91 : decode cX12_judge 91 = .ok (.invokevirtual 340, 3) := dq_182 (zby_at (j := 11) zbX12_judge_5 rfl) (zby_at (j := 12) zbX12_judge_5 rfl) (zby_at (j := 13) zbX12_judge_5 rfl)
theorem dX12_judge_94 : decode cX12_judge 94 = .ok (.iconst (-1), 1) := dq_2 (zby_at (j := 14) zbX12_judge_5 rfl)
theorem dX12_judge_95 : decode cX12_judge 95 = .ok (.if_icmp .ne 12, 3) := dq_160 (zby_at (j := 15) zbX12_judge_5 rfl) (zby_at (j := 16) zbX12_judge_5 rfl) (zby_at (j := 17) zbX12_judge_5 rfl) rfl
theorem zbX12_judge_6 : zby cX12_judge 96 20 = [0, 12, 42, 180, 0, 76, 27, 46, 167, 0, 4, 2, 172] := by decide +kernel
theorem dX12_judge_98 : decode cX12_judge 98 = .ok (.aload_n 0, 1) := dq_42 (zby_at (j := 2) zbX12_judge_6 rfl)
theorem dX12_judge_99 : decode cX12_judge 99 = .ok (.getfield 76, 3) := dq_180 (zby_at (j := 3) zbX12_judge_6 rfl) (zby_at (j := 4) zbX12_judge_6 rfl) (zby_at (j := 5) zbX12_judge_6 rfl)
theorem dX12_judge_102 : decode cX12_judge 102 = .ok (.iload_n 1, 1) := dq_27 (zby_at (j := 6) zbX12_judge_6 rfl)
theorem dX12_judge_103 : decode cX12_judge 103 = .ok (.iaload, 1) := dq_46 (zby_at (j := 7) zbX12_judge_6 rfl)
theorem dX12_judge_104 : decode cX12_judge 104 = .ok (.goto 4, 3) := dq_167 (zby_at (j := 8) zbX12_judge_6 rfl) (zby_at (j := 9) zbX12_judge_6 rfl) (zby_at (j := 10) zbX12_judge_6 rfl) rfl
theorem dX12_judge_107 : decode cX12_judge 107 = .ok (.iconst (-1), 1) := dq_2 (zby_at (j := 11) zbX12_judge_6 rfl)
theorem dX12_judge_108 : decode cX12_judge 108 = .ok (.ireturn, 1) := dq_172 (zby_at (j := 12) zbX12_judge_6 rfl)
theorem zbX12_takes__0 : zby cX12_takes_ 0 20 = [42, 27, 182, 1, 65, 153, 0, 10, 28, 184, 1, 192, 154, 0, 6, 16, 254, 172, 42, 180] := by decide +kernel
theorem dX12_takes__0 : decode cX12_takes_ 0 = .ok (.aload_n 0, 1) := dq_42 (zby_at (j := 0) zbX12_takes__0 rfl)
theorem dX12_takes__1 : decode cX12_takes_ 1 = .ok (.iload_n 1, 1) := dq_27 (zby_at (j := 1) zbX12_takes__0 rfl)
theorem dX12_takes__2 : decode cX12_takes_ 2 = .ok (.invokevirtual 321, 3) := dq_182 (zby_at (j := 2) zbX12_takes__0 rfl) (zby_at (j := 3) zbX12_takes__0 rfl) (zby_at (j := 4) zbX12_takes__0 rfl)
theorem dX12_takes__5 : decode cX12_takes_ 5 = .ok (.ifCond .eq 10, 3) := dq_153 (zby_at (j := 5) zbX12_takes__0 rfl) (zby_at (j := 6) zbX12_takes__0 rfl) (zby_at (j := 7) zbX12_takes__0 rfl) rfl
theorem dX12_takes__8 : decode cX12_takes_ 8 = .ok (.iload_n 2, 1) := dq_28 (zby_at (j := 8) zbX12_takes__0 rfl)
theorem dX12_takes__9 : decode cX12_takes_ 9 = .ok (.invokestatic 448, 3) := dq_184 (zby_at (j := 9) zbX12_takes__0 rfl) (zby_at (j := 10) zbX12_takes__0 rfl) (zby_at (j := 11) zbX12_takes__0 rfl)
theorem dX12_takes__12 : decode cX12_takes_ 12 = .ok (.ifCond .ne 6, 3) := dq_154 (zby_at (j := 12) zbX12_takes__0 rfl) (zby_at (j := 13) zbX12_takes__0 rfl) (zby_at (j := 14) zbX12_takes__0 rfl) rfl
theorem dX12_takes__15 : decode cX12_takes_ 15 = .ok (.bipush (-2), 2) := dq_16 (zby_at (j := 15) zbX12_takes__0 rfl) (zby_at (j := 16) zbX12_takes__0 rfl) rfl
theorem zbX12_takes__1 : zby cX12_takes_ 16 20 = [254, 172, 42, 180, 0, 76, 28, 46, 2, 160, 0, 6, 16, 250, 172, 3, 62, 29, 42, 180] := by decide +kernel
theorem dX12_takes__17 : decode cX12_takes_ 17 = .ok (.ireturn, 1) := dq_172 (zby_at (j := 1) zbX12_takes__1 rfl)
theorem dX12_takes__18 : decode cX12_takes_ 18 = .ok (.aload_n 0, 1) := dq_42 (zby_at (j := 2) zbX12_takes__1 rfl)
theorem dX12_takes__19 : decode cX12_takes_ 19 = .ok (.getfield 76, 3) := dq_180 (zby_at (j := 3) zbX12_takes__1 rfl) (zby_at (j := 4) zbX12_takes__1 rfl) (zby_at (j := 5) zbX12_takes__1 rfl)
theorem dX12_takes__22 : decode cX12_takes_ 22 = .ok (.iload_n 2, 1) := dq_28 (zby_at (j := 6) zbX12_takes__1 rfl)
theorem dX12_takes__23 : decode cX12_takes_ 23 = .ok (.iaload, 1) := dq_46 (zby_at (j := 7) zbX12_takes__1 rfl)
theorem dX12_takes__24 : decode cX12_takes_ 24 = .ok (.iconst (-1), 1) := dq_2 (zby_at (j := 8) zbX12_takes__1 rfl)
theorem dX12_takes__25 : decode cX12_takes_ 25 = .ok (.if_icmp .ne 6, 3) := dq_160 (zby_at (j := 9) zbX12_takes__1 rfl) (zby_at (j := 10) zbX12_takes__1 rfl) (zby_at (j := 11) zbX12_takes__1 rfl) rfl
theorem dX12_takes__28 : decode cX12_takes_ 28 = .ok (.bipush (-6), 2) := dq_16 (zby_at (j := 12) zbX12_takes__1 rfl) (zby_at (j := 13) zbX12_takes__1 rfl) rfl
theorem dX12_takes__30 : decode cX12_takes_ 30 = .ok (.ireturn, 1) := dq_172 (zby_at (j := 14) zbX12_takes__1 rfl)
theorem dX12_takes__31 : decode cX12_takes_ 31 = .ok (.iconst 0, 1) := dq_3 (zby_at (j := 15) zbX12_takes__1 rfl)
theorem zbX12_takes__2 : zby cX12_takes_ 32 20 = [62, 29, 42, 180, 0, 76, 28, 46, 162, 0, 37, 42, 180, 0, 82, 16, 60, 28, 104, 29] := by decide +kernel
theorem dX12_takes__32 : decode cX12_takes_ 32 = .ok (.istore_n 3, 1) := dq_62 (zby_at (j := 0) zbX12_takes__2 rfl)
theorem dX12_takes__33 : decode cX12_takes_ 33 = .ok (.iload_n 3, 1) := dq_29 (zby_at (j := 1) zbX12_takes__2 rfl)
theorem dX12_takes__34 : decode cX12_takes_ 34 = .ok (.aload_n 0, 1) := dq_42 (zby_at (j := 2) zbX12_takes__2 rfl)
theorem dX12_takes__35 : decode cX12_takes_ 35 = .ok (.getfield 76, 3) := dq_180 (zby_at (j := 3) zbX12_takes__2 rfl) (zby_at (j := 4) zbX12_takes__2 rfl) (zby_at (j := 5) zbX12_takes__2 rfl)
theorem dX12_takes__38 : decode cX12_takes_ 38 = .ok (.iload_n 2, 1) := dq_28 (zby_at (j := 6) zbX12_takes__2 rfl)
theorem dX12_takes__39 : decode cX12_takes_ 39 = .ok (.iaload, 1) := dq_46 (zby_at (j := 7) zbX12_takes__2 rfl)
theorem dX12_takes__40 : decode cX12_takes_ 40 = .ok (.if_icmp .ge 37, 3) := dq_162 (zby_at (j := 8) zbX12_takes__2 rfl) (zby_at (j := 9) zbX12_takes__2 rfl) (zby_at (j := 10) zbX12_takes__2 rfl) rfl
theorem dX12_takes__43 : decode cX12_takes_ 43 = .ok (.aload_n 0, 1) := dq_42 (zby_at (j := 11) zbX12_takes__2 rfl)
theorem dX12_takes__44 : decode cX12_takes_ 44 = .ok (.getfield 82, 3) := dq_180 (zby_at (j := 12) zbX12_takes__2 rfl) (zby_at (j := 13) zbX12_takes__2 rfl) (zby_at (j := 14) zbX12_takes__2 rfl)
theorem dX12_takes__47 : decode cX12_takes_ 47 = .ok (.bipush 60, 2) := dq_16 (zby_at (j := 15) zbX12_takes__2 rfl) (zby_at (j := 16) zbX12_takes__2 rfl) rfl
theorem zbX12_takes__3 : zby cX12_takes_ 48 20 = [60, 28, 104, 29, 96, 47, 9, 42, 182, 0, 104, 4, 100, 133, 184, 0, 94, 154, 0, 6] := by decide +kernel
theorem dX12_takes__49 : decode cX12_takes_ 49 = .ok (.iload_n 2, 1) := dq_28 (zby_at (j := 1) zbX12_takes__3 rfl)
theorem dX12_takes__50 : decode cX12_takes_ 50 = .ok (.imul, 1) := dq_104 (zby_at (j := 2) zbX12_takes__3 rfl)
theorem dX12_takes__51 : decode cX12_takes_ 51 = .ok (.iload_n 3, 1) := dq_29 (zby_at (j := 3) zbX12_takes__3 rfl)
theorem dX12_takes__52 : decode cX12_takes_ 52 = .ok (.iadd, 1) := dq_96 (zby_at (j := 4) zbX12_takes__3 rfl)
theorem dX12_takes__53 : decode cX12_takes_ 53 = .ok (.laload, 1) := dq_47 (zby_at (j := 5) zbX12_takes__3 rfl)
theorem dX12_takes__54 : decode cX12_takes_ 54 = .ok (.lconst 0, 1) := dq_9 (zby_at (j := 6) zbX12_takes__3 rfl)
theorem dX12_takes__55 : decode cX12_takes_ 55 = .ok (.aload_n 0, 1) := dq_42 (zby_at (j := 7) zbX12_takes__3 rfl)
theorem dX12_takes__56 : decode cX12_takes_ 56 = .ok (.invokevirtual 104, 3) := dq_182 (zby_at (j := 8) zbX12_takes__3 rfl) (zby_at (j := 9) zbX12_takes__3 rfl) (zby_at (j := 10) zbX12_takes__3 rfl)
theorem dX12_takes__59 : decode cX12_takes_ 59 = .ok (.iconst 1, 1) := dq_4 (zby_at (j := 11) zbX12_takes__3 rfl)
theorem dX12_takes__60 : decode cX12_takes_ 60 = .ok (.isub, 1) := dq_100 (zby_at (j := 12) zbX12_takes__3 rfl)
theorem dX12_takes__61 : decode cX12_takes_ 61 = .ok (.i2l, 1) := dq_133 (zby_at (j := 13) zbX12_takes__3 rfl)
theorem dX12_takes__62 : decode cX12_takes_ 62 = .ok (.invokestatic 94, 3) := dq_184 (zby_at (j := 14) zbX12_takes__3 rfl) (zby_at (j := 15) zbX12_takes__3 rfl) (zby_at (j := 16) zbX12_takes__3 rfl)
theorem zbX12_takes__4 : zby cX12_takes_ 64 20 = [94, 154, 0, 6, 16, 254, 172, 132, 3, 1, 167, 255, 215, 3, 62, 29, 17, 4, 0, 162] := by decide +kernel
theorem dX12_takes__65 : decode cX12_takes_ 65 = .ok (.ifCond .ne 6, 3) := dq_154 (zby_at (j := 1) zbX12_takes__4 rfl) (zby_at (j := 2) zbX12_takes__4 rfl) (zby_at (j := 3) zbX12_takes__4 rfl) rfl
theorem dX12_takes__68 : decode cX12_takes_ 68 = .ok (.bipush (-2), 2) := dq_16 (zby_at (j := 4) zbX12_takes__4 rfl) (zby_at (j := 5) zbX12_takes__4 rfl) rfl
theorem dX12_takes__70 : decode cX12_takes_ 70 = .ok (.ireturn, 1) := dq_172 (zby_at (j := 6) zbX12_takes__4 rfl)
theorem dX12_takes__71 : decode cX12_takes_ 71 = .ok (.iinc 3 1, 3) := dq_132 (zby_at (j := 7) zbX12_takes__4 rfl) (zby_at (j := 8) zbX12_takes__4 rfl) (zby_at (j := 9) zbX12_takes__4 rfl) rfl
theorem dX12_takes__74 : decode cX12_takes_ 74 = .ok (.goto (-41), 3) := dq_167 (zby_at (j := 10) zbX12_takes__4 rfl) (zby_at (j := 11) zbX12_takes__4 rfl) (zby_at (j := 12) zbX12_takes__4 rfl) rfl
theorem dX12_takes__77 : decode cX12_takes_ 77 = .ok (.iconst 0, 1) := dq_3 (zby_at (j := 13) zbX12_takes__4 rfl)
theorem dX12_takes__78 : decode cX12_takes_ 78 = .ok (.istore_n 3, 1) := dq_62 (zby_at (j := 14) zbX12_takes__4 rfl)
theorem dX12_takes__79 : decode cX12_takes_ 79 = .ok (.iload_n 3, 1) := dq_29 (zby_at (j := 15) zbX12_takes__4 rfl)
theorem zbX12_takes__5 : zby cX12_takes_ 80 20 = [17, 4, 0, 162, 0, 16, 42, 180, 0, 40, 29, 3, 84, 132, 3, 1, 167, 255, 239, 3] := by decide +kernel
theorem dX12_takes__80 : decode cX12_takes_ 80 = .ok (.sipush 1024, 3) := dq_17 (zby_at (j := 0) zbX12_takes__5 rfl) (zby_at (j := 1) zbX12_takes__5 rfl) (zby_at (j := 2) zbX12_takes__5 rfl) rfl
theorem dX12_takes__83 : decode cX12_takes_ 83 = .ok (.if_icmp .ge 16, 3) := dq_162 (zby_at (j := 3) zbX12_takes__5 rfl) (zby_at (j := 4) zbX12_takes__5 rfl) (zby_at (j := 5) zbX12_takes__5 rfl) rfl
theorem dX12_takes__86 : decode cX12_takes_ 86 = .ok (.aload_n 0, 1) := dq_42 (zby_at (j := 6) zbX12_takes__5 rfl)
theorem dX12_takes__87 : decode cX12_takes_ 87 = .ok (.getfield 40, 3) := dq_180 (zby_at (j := 7) zbX12_takes__5 rfl) (zby_at (j := 8) zbX12_takes__5 rfl) (zby_at (j := 9) zbX12_takes__5 rfl)
theorem dX12_takes__90 : decode cX12_takes_ 90 = .ok (.iload_n 3, 1) := dq_29 (zby_at (j := 10) zbX12_takes__5 rfl)
theorem dX12_takes__91 : decode cX12_takes_ 91 = .ok (.iconst 0, 1) := dq_3 (zby_at (j := 11) zbX12_takes__5 rfl)
theorem dX12_takes__92 : decode cX12_takes_ 92 = .ok (.bastore, 1) := dq_84 (zby_at (j := 12) zbX12_takes__5 rfl)
theorem dX12_takes__93 : decode cX12_takes_ 93 = .ok (.iinc 3 1, 3) := dq_132 (zby_at (j := 13) zbX12_takes__5 rfl) (zby_at (j := 14) zbX12_takes__5 rfl) (zby_at (j := 15) zbX12_takes__5 rfl) rfl
theorem zbX12_takes__6 : zby cX12_takes_ 96 20 = [167, 255, 239, 3, 62, 29, 42, 180, 0, 76, 28, 46, 162, 0, 27, 42, 180, 0, 40, 42] := by decide +kernel
theorem dX12_takes__96 : decode cX12_takes_ 96 = .ok (.goto (-17), 3) := dq_167 (zby_at (j := 0) zbX12_takes__6 rfl) (zby_at (j := 1) zbX12_takes__6 rfl) (zby_at (j := 2) zbX12_takes__6 rfl) rfl
theorem dX12_takes__99 : decode cX12_takes_ 99 = .ok (.iconst 0, 1) := dq_3 (zby_at (j := 3) zbX12_takes__6 rfl)
theorem dX12_takes__100 : decode cX12_takes_ 100 = .ok (.istore_n 3, 1) := dq_62 (zby_at (j := 4) zbX12_takes__6 rfl)
theorem dX12_takes__101 : decode cX12_takes_ 101 = .ok (.iload_n 3, 1) := dq_29 (zby_at (j := 5) zbX12_takes__6 rfl)
theorem dX12_takes__102 : decode cX12_takes_ 102 = .ok (.aload_n 0, 1) := dq_42 (zby_at (j := 6) zbX12_takes__6 rfl)
theorem dX12_takes__103 : decode cX12_takes_ 103 = .ok (.getfield 76, 3) := dq_180 (zby_at (j := 7) zbX12_takes__6 rfl) (zby_at (j := 8) zbX12_takes__6 rfl) (zby_at (j := 9) zbX12_takes__6 rfl)
theorem dX12_takes__106 : decode cX12_takes_ 106 = .ok (.iload_n 2, 1) := dq_28 (zby_at (j := 10) zbX12_takes__6 rfl)
theorem dX12_takes__107 : decode cX12_takes_ 107 = .ok (.iaload, 1) := dq_46 (zby_at (j := 11) zbX12_takes__6 rfl)
theorem dX12_takes__108 : decode cX12_takes_ 108 = .ok (.if_icmp .ge 27, 3) := dq_162 (zby_at (j := 12) zbX12_takes__6 rfl) (zby_at (j := 13) zbX12_takes__6 rfl) (zby_at (j := 14) zbX12_takes__6 rfl) rfl
theorem dX12_takes__111 : decode cX12_takes_ 111 = .ok (.aload_n 0, 1) := dq_42 (zby_at (j := 15) zbX12_takes__6 rfl)
theorem zbX12_takes__7 : zby cX12_takes_ 112 20 = [180, 0, 40, 42, 180, 0, 82, 16, 60, 28, 104, 29, 96, 47, 136, 4, 84, 132, 3, 1] := by decide +kernel
theorem dX12_takes__112 : decode cX12_takes_ 112 = .ok (.getfield 40, 3) := dq_180 (zby_at (j := 0) zbX12_takes__7 rfl) (zby_at (j := 1) zbX12_takes__7 rfl) (zby_at (j := 2) zbX12_takes__7 rfl)
theorem dX12_takes__115 : decode cX12_takes_ 115 = .ok (.aload_n 0, 1) := dq_42 (zby_at (j := 3) zbX12_takes__7 rfl)
theorem dX12_takes__116 : decode cX12_takes_ 116 = .ok (.getfield 82, 3) := dq_180 (zby_at (j := 4) zbX12_takes__7 rfl) (zby_at (j := 5) zbX12_takes__7 rfl) (zby_at (j := 6) zbX12_takes__7 rfl)
theorem dX12_takes__119 : decode cX12_takes_ 119 = .ok (.bipush 60, 2) := dq_16 (zby_at (j := 7) zbX12_takes__7 rfl) (zby_at (j := 8) zbX12_takes__7 rfl) rfl
theorem dX12_takes__121 : decode cX12_takes_ 121 = .ok (.iload_n 2, 1) := dq_28 (zby_at (j := 9) zbX12_takes__7 rfl)
theorem dX12_takes__122 : decode cX12_takes_ 122 = .ok (.imul, 1) := dq_104 (zby_at (j := 10) zbX12_takes__7 rfl)
theorem dX12_takes__123 : decode cX12_takes_ 123 = .ok (.iload_n 3, 1) := dq_29 (zby_at (j := 11) zbX12_takes__7 rfl)
theorem dX12_takes__124 : decode cX12_takes_ 124 = .ok (.iadd, 1) := dq_96 (zby_at (j := 12) zbX12_takes__7 rfl)
theorem dX12_takes__125 : decode cX12_takes_ 125 = .ok (.laload, 1) := dq_47 (zby_at (j := 13) zbX12_takes__7 rfl)
theorem dX12_takes__126 : decode cX12_takes_ 126 = .ok (.l2i, 1) := dq_136 (zby_at (j := 14) zbX12_takes__7 rfl)
theorem dX12_takes__127 : decode cX12_takes_ 127 = .ok (.iconst 1, 1) := dq_4 (zby_at (j := 15) zbX12_takes__7 rfl)
theorem zbX12_takes__8 : zby cX12_takes_ 128 20 = [84, 132, 3, 1, 167, 255, 225, 42, 27, 182, 1, 68, 172] := by decide +kernel
theorem dX12_takes__128 : decode cX12_takes_ 128 = .ok (.bastore, 1) := dq_84 (zby_at (j := 0) zbX12_takes__8 rfl)
theorem dX12_takes__129 : decode cX12_takes_ 129 = .ok (.iinc 3 1, 3) := dq_132 (zby_at (j := 1) zbX12_takes__8 rfl) (zby_at (j := 2) zbX12_takes__8 rfl) (zby_at (j := 3) zbX12_takes__8 rfl) rfl
theorem dX12_takes__132 : decode cX12_takes_ 132 = .ok (.goto (-31), 3) := dq_167 (zby_at (j := 4) zbX12_takes__8 rfl) (zby_at (j := 5) zbX12_takes__8 rfl) (zby_at (j := 6) zbX12_takes__8 rfl) rfl
theorem dX12_takes__135 : decode cX12_takes_ 135 = .ok (.aload_n 0, 1) := dq_42 (zby_at (j := 7) zbX12_takes__8 rfl)
theorem dX12_takes__136 : decode cX12_takes_ 136 = .ok (.iload_n 1, 1) := dq_27 (zby_at (j := 8) zbX12_takes__8 rfl)
theorem dX12_takes__137 : decode cX12_takes_ 137 = .ok (.invokevirtual 324, 3) := dq_182 (zby_at (j := 9) zbX12_takes__8 rfl) (zby_at (j := 10) zbX12_takes__8 rfl) (zby_at (j := 11) zbX12_takes__8 rfl)
theorem dX12_takes__140 : decode cX12_takes_ 140 = .ok (.ireturn, 1) := dq_172 (zby_at (j := 12) zbX12_takes__8 rfl)
theorem zbX12_unlikeRegisters_0 : zby cX12_unlikeRegisters 0 20 = [3, 60, 3, 61, 28, 16, 10, 162, 0, 66, 42, 182, 0, 98, 153, 0, 59, 4, 62, 3] := by decide +kernel
theorem dX12_unlikeRegisters_0 : decode cX12_unlikeRegisters 0 = .ok (.iconst 0, 1) := dq_3 (zby_at (j := 0) zbX12_unlikeRegisters_0 rfl)
theorem dX12_unlikeRegisters_1 : decode cX12_unlikeRegisters 1 = .ok (.istore_n 1, 1) := dq_60 (zby_at (j := 1) zbX12_unlikeRegisters_0 rfl)
theorem dX12_unlikeRegisters_2 : decode cX12_unlikeRegisters 2 = .ok (.iconst 0, 1) := dq_3 (zby_at (j := 2) zbX12_unlikeRegisters_0 rfl)
theorem dX12_unlikeRegisters_3 : decode cX12_unlikeRegisters 3 = .ok (.istore_n 2, 1) := dq_61 (zby_at (j := 3) zbX12_unlikeRegisters_0 rfl)
theorem dX12_unlikeRegisters_4 : decode cX12_unlikeRegisters 4 = .ok (.iload_n 2, 1) := dq_28 (zby_at (j := 4) zbX12_unlikeRegisters_0 rfl)
theorem dX12_unlikeRegisters_5 : decode cX12_unlikeRegisters 5 = .ok (.bipush 10, 2) := dq_16 (zby_at (j := 5) zbX12_unlikeRegisters_0 rfl) (zby_at (j := 6) zbX12_unlikeRegisters_0 rfl) rfl
theorem dX12_unlikeRegisters_7 : decode cX12_unlikeRegisters 7 = .ok (.if_icmp .ge 66, 3) := dq_162 (zby_at (j := 7) zbX12_unlikeRegisters_0 rfl) (zby_at (j := 8) zbX12_unlikeRegisters_0 rfl) (zby_at (j := 9) zbX12_unlikeRegisters_0 rfl) rfl
theorem dX12_unlikeRegisters_10 : decode cX12_unlikeRegisters 10 = .ok (.aload_n 0, 1) := dq_42 (zby_at (j := 10) zbX12_unlikeRegisters_0 rfl)
theorem dX12_unlikeRegisters_11 : decode cX12_unlikeRegisters 11 = .ok (.invokevirtual 98, 3) := dq_182 (zby_at (j := 11) zbX12_unlikeRegisters_0 rfl) (zby_at (j := 12) zbX12_unlikeRegisters_0 rfl) (zby_at (j := 13) zbX12_unlikeRegisters_0 rfl)
theorem dX12_unlikeRegisters_14 : decode cX12_unlikeRegisters 14 = .ok (.ifCond .eq 59, 3) := dq_153 (zby_at (j := 14) zbX12_unlikeRegisters_0 rfl) (zby_at (j := 15) zbX12_unlikeRegisters_0 rfl) (zby_at (j := 16) zbX12_unlikeRegisters_0 rfl) rfl
theorem zbX12_unlikeRegisters_1 : zby cX12_unlikeRegisters 16 20 = [59, 4, 62, 3, 54, 4, 21, 4, 28, 162, 0, 30, 29, 153, 0, 18, 42, 28, 21, 4] := by decide +kernel
theorem dX12_unlikeRegisters_17 : decode cX12_unlikeRegisters 17 = .ok (.iconst 1, 1) := dq_4 (zby_at (j := 1) zbX12_unlikeRegisters_1 rfl)
theorem dX12_unlikeRegisters_18 : decode cX12_unlikeRegisters 18 = .ok (.istore_n 3, 1) := dq_62 (zby_at (j := 2) zbX12_unlikeRegisters_1 rfl)
theorem dX12_unlikeRegisters_19 : decode cX12_unlikeRegisters 19 = .ok (.iconst 0, 1) := dq_3 (zby_at (j := 3) zbX12_unlikeRegisters_1 rfl)
theorem dX12_unlikeRegisters_20 : decode cX12_unlikeRegisters 20 = .ok (.istore 4, 2) := dq_54 (zby_at (j := 4) zbX12_unlikeRegisters_1 rfl) (zby_at (j := 5) zbX12_unlikeRegisters_1 rfl)
theorem dX12_unlikeRegisters_22 : decode cX12_unlikeRegisters 22 = .ok (.iload 4, 2) := dq_21 (zby_at (j := 6) zbX12_unlikeRegisters_1 rfl) (zby_at (j := 7) zbX12_unlikeRegisters_1 rfl)
theorem dX12_unlikeRegisters_24 : decode cX12_unlikeRegisters 24 = .ok (.iload_n 2, 1) := dq_28 (zby_at (j := 8) zbX12_unlikeRegisters_1 rfl)
theorem dX12_unlikeRegisters_25 : decode cX12_unlikeRegisters 25 = .ok (.if_icmp .ge 30, 3) := dq_162 (zby_at (j := 9) zbX12_unlikeRegisters_1 rfl) (zby_at (j := 10) zbX12_unlikeRegisters_1 rfl) (zby_at (j := 11) zbX12_unlikeRegisters_1 rfl) rfl
theorem dX12_unlikeRegisters_28 : decode cX12_unlikeRegisters 28 = .ok (.iload_n 3, 1) := dq_29 (zby_at (j := 12) zbX12_unlikeRegisters_1 rfl)
theorem dX12_unlikeRegisters_29 : decode cX12_unlikeRegisters 29 = .ok (.ifCond .eq 18, 3) := dq_153 (zby_at (j := 13) zbX12_unlikeRegisters_1 rfl) (zby_at (j := 14) zbX12_unlikeRegisters_1 rfl) (zby_at (j := 15) zbX12_unlikeRegisters_1 rfl) rfl
theorem zbX12_unlikeRegisters_2 : zby cX12_unlikeRegisters 32 20 = [42, 28, 21, 4, 182, 1, 107, 2, 159, 0, 7, 4, 167, 0, 4, 3, 62, 132, 4, 1] := by decide +kernel
theorem dX12_unlikeRegisters_32 : decode cX12_unlikeRegisters 32 = .ok (.aload_n 0, 1) := dq_42 (zby_at (j := 0) zbX12_unlikeRegisters_2 rfl)
theorem dX12_unlikeRegisters_33 : decode cX12_unlikeRegisters 33 = .ok (.iload_n 2, 1) := dq_28 (zby_at (j := 1) zbX12_unlikeRegisters_2 rfl)
theorem dX12_unlikeRegisters_34 : decode cX12_unlikeRegisters 34 = .ok (.iload 4, 2) := dq_21 (zby_at (j := 2) zbX12_unlikeRegisters_2 rfl) (zby_at (j := 3) zbX12_unlikeRegisters_2 rfl)
theorem dX12_unlikeRegisters_36 : decode cX12_unlikeRegisters 36 = .ok (.invokevirtual 363, 3) := dq_182 (zby_at (j := 4) zbX12_unlikeRegisters_2 rfl) (zby_at (j := 5) zbX12_unlikeRegisters_2 rfl) (zby_at (j := 6) zbX12_unlikeRegisters_2 rfl)
theorem dX12_unlikeRegisters_39 : decode cX12_unlikeRegisters 39 = .ok (.iconst (-1), 1) := dq_2 (zby_at (j := 7) zbX12_unlikeRegisters_2 rfl)
theorem dX12_unlikeRegisters_40 : decode cX12_unlikeRegisters 40 = .ok (.if_icmp .eq 7, 3) := dq_159 (zby_at (j := 8) zbX12_unlikeRegisters_2 rfl) (zby_at (j := 9) zbX12_unlikeRegisters_2 rfl) (zby_at (j := 10) zbX12_unlikeRegisters_2 rfl) rfl
theorem dX12_unlikeRegisters_43 : decode cX12_unlikeRegisters 43 = .ok (.iconst 1, 1) := dq_4 (zby_at (j := 11) zbX12_unlikeRegisters_2 rfl)
theorem dX12_unlikeRegisters_44 : decode cX12_unlikeRegisters 44 = .ok (.goto 4, 3) := dq_167 (zby_at (j := 12) zbX12_unlikeRegisters_2 rfl) (zby_at (j := 13) zbX12_unlikeRegisters_2 rfl) (zby_at (j := 14) zbX12_unlikeRegisters_2 rfl) rfl
theorem dX12_unlikeRegisters_47 : decode cX12_unlikeRegisters 47 = .ok (.iconst 0, 1) := dq_3 (zby_at (j := 15) zbX12_unlikeRegisters_2 rfl)
theorem zbX12_unlikeRegisters_3 : zby cX12_unlikeRegisters 48 20 = [62, 132, 4, 1, 167, 255, 226, 27, 29, 153, 0, 7, 4, 167, 0, 4, 3, 96, 60, 132] := by decide +kernel
theorem dX12_unlikeRegisters_48 : decode cX12_unlikeRegisters 48 = .ok (.istore_n 3, 1) := dq_62 (zby_at (j := 0) zbX12_unlikeRegisters_3 rfl)
theorem dX12_unlikeRegisters_49 : decode cX12_unlikeRegisters 49 = .ok (.iinc 4 1, 3) := dq_132 (zby_at (j := 1) zbX12_unlikeRegisters_3 rfl) (zby_at (j := 2) zbX12_unlikeRegisters_3 rfl) (zby_at (j := 3) zbX12_unlikeRegisters_3 rfl) rfl
theorem dX12_unlikeRegisters_52 : decode cX12_unlikeRegisters 52 = .ok (.goto (-30), 3) := dq_167 (zby_at (j := 4) zbX12_unlikeRegisters_3 rfl) (zby_at (j := 5) zbX12_unlikeRegisters_3 rfl) (zby_at (j := 6) zbX12_unlikeRegisters_3 rfl) rfl
theorem dX12_unlikeRegisters_55 : decode cX12_unlikeRegisters 55 = .ok (.iload_n 1, 1) := dq_27 (zby_at (j := 7) zbX12_unlikeRegisters_3 rfl)
theorem dX12_unlikeRegisters_56 : decode cX12_unlikeRegisters 56 = .ok (.iload_n 3, 1) := dq_29 (zby_at (j := 8) zbX12_unlikeRegisters_3 rfl)
theorem dX12_unlikeRegisters_57 : decode cX12_unlikeRegisters 57 = .ok (.ifCond .eq 7, 3) := dq_153 (zby_at (j := 9) zbX12_unlikeRegisters_3 rfl) (zby_at (j := 10) zbX12_unlikeRegisters_3 rfl) (zby_at (j := 11) zbX12_unlikeRegisters_3 rfl) rfl
theorem dX12_unlikeRegisters_60 : decode cX12_unlikeRegisters 60 = .ok (.iconst 1, 1) := dq_4 (zby_at (j := 12) zbX12_unlikeRegisters_3 rfl)
theorem dX12_unlikeRegisters_61 : decode cX12_unlikeRegisters 61 = .ok (.goto 4, 3) := dq_167 (zby_at (j := 13) zbX12_unlikeRegisters_3 rfl) (zby_at (j := 14) zbX12_unlikeRegisters_3 rfl) (zby_at (j := 15) zbX12_unlikeRegisters_3 rfl) rfl
theorem zbX12_unlikeRegisters_4 : zby cX12_unlikeRegisters 64 20 = [3, 96, 60, 132, 2, 1, 167, 255, 190, 27, 172] := by decide +kernel
theorem dX12_unlikeRegisters_64 : decode cX12_unlikeRegisters 64 = .ok (.iconst 0, 1) := dq_3 (zby_at (j := 0) zbX12_unlikeRegisters_4 rfl)
theorem dX12_unlikeRegisters_65 : decode cX12_unlikeRegisters 65 = .ok (.iadd, 1) := dq_96 (zby_at (j := 1) zbX12_unlikeRegisters_4 rfl)
theorem dX12_unlikeRegisters_66 : decode cX12_unlikeRegisters 66 = .ok (.istore_n 1, 1) := dq_60 (zby_at (j := 2) zbX12_unlikeRegisters_4 rfl)
theorem dX12_unlikeRegisters_67 : decode cX12_unlikeRegisters 67 = .ok (.iinc 2 1, 3) := dq_132 (zby_at (j := 3) zbX12_unlikeRegisters_4 rfl) (zby_at (j := 4) zbX12_unlikeRegisters_4 rfl) (zby_at (j := 5) zbX12_unlikeRegisters_4 rfl) rfl
theorem dX12_unlikeRegisters_70 : decode cX12_unlikeRegisters 70 = .ok (.goto (-66), 3) := dq_167 (zby_at (j := 6) zbX12_unlikeRegisters_4 rfl) (zby_at (j := 7) zbX12_unlikeRegisters_4 rfl) (zby_at (j := 8) zbX12_unlikeRegisters_4 rfl) rfl
theorem dX12_unlikeRegisters_73 : decode cX12_unlikeRegisters 73 = .ok (.iload_n 1, 1) := dq_27 (zby_at (j := 9) zbX12_unlikeRegisters_4 rfl)
theorem dX12_unlikeRegisters_74 : decode cX12_unlikeRegisters 74 = .ok (.ireturn, 1) := dq_172 (zby_at (j := 10) zbX12_unlikeRegisters_4 rfl)
theorem zbX12_count_0 : zby cX12_count 0 20 = [3, 61, 27, 170, 0, 0, 0, 139, 0, 0, 0, 0, 0, 0, 0, 6, 0, 0, 0, 41] := by decide +kernel
theorem dX12_count_0 : decode cX12_count 0 = .ok (.iconst 0, 1) := dq_3 (zby_at (j := 0) zbX12_count_0 rfl)
theorem dX12_count_1 : decode cX12_count 1 = .ok (.istore_n 2, 1) := dq_61 (zby_at (j := 1) zbX12_count_0 rfl)
theorem dX12_count_2 : decode cX12_count 2 = .ok (.iload_n 1, 1) := dq_27 (zby_at (j := 2) zbX12_count_0 rfl)
theorem dX12_count_3 : decode cX12_count 3 = .ok (.tableswitch 139 0 6 #[41, 48, 55, 62, 67, 101, 106], 41) := by decide +kernel
theorem zbX12_count_2 : zby cX12_count 32 20 = [0, 0, 0, 67, 0, 0, 0, 101, 0, 0, 0, 106, 42, 180, 0, 9, 3, 46, 172, 42] := by decide +kernel
theorem dX12_count_44 : decode cX12_count 44 = .ok (.aload_n 0, 1) := dq_42 (zby_at (j := 12) zbX12_count_2 rfl)
theorem dX12_count_45 : decode cX12_count 45 = .ok (.getfield 9, 3) := dq_180 (zby_at (j := 13) zbX12_count_2 rfl) (zby_at (j := 14) zbX12_count_2 rfl) (zby_at (j := 15) zbX12_count_2 rfl)
theorem zbX12_count_3 : zby cX12_count 48 20 = [3, 46, 172, 42, 180, 0, 9, 4, 46, 172, 42, 180, 0, 9, 5, 46, 172, 42, 180, 0] := by decide +kernel
theorem dX12_count_48 : decode cX12_count 48 = .ok (.iconst 0, 1) := dq_3 (zby_at (j := 0) zbX12_count_3 rfl)
theorem dX12_count_49 : decode cX12_count 49 = .ok (.iaload, 1) := dq_46 (zby_at (j := 1) zbX12_count_3 rfl)
theorem dX12_count_50 : decode cX12_count 50 = .ok (.ireturn, 1) := dq_172 (zby_at (j := 2) zbX12_count_3 rfl)
theorem dX12_count_51 : decode cX12_count 51 = .ok (.aload_n 0, 1) := dq_42 (zby_at (j := 3) zbX12_count_3 rfl)
theorem dX12_count_52 : decode cX12_count 52 = .ok (.getfield 9, 3) := dq_180 (zby_at (j := 4) zbX12_count_3 rfl) (zby_at (j := 5) zbX12_count_3 rfl) (zby_at (j := 6) zbX12_count_3 rfl)
theorem dX12_count_55 : decode cX12_count 55 = .ok (.iconst 1, 1) := dq_4 (zby_at (j := 7) zbX12_count_3 rfl)
theorem dX12_count_56 : decode cX12_count 56 = .ok (.iaload, 1) := dq_46 (zby_at (j := 8) zbX12_count_3 rfl)
theorem dX12_count_57 : decode cX12_count 57 = .ok (.ireturn, 1) := dq_172 (zby_at (j := 9) zbX12_count_3 rfl)
theorem dX12_count_58 : decode cX12_count 58 = .ok (.aload_n 0, 1) := dq_42 (zby_at (j := 10) zbX12_count_3 rfl)
theorem dX12_count_59 : decode cX12_count 59 = .ok (.getfield 9, 3) := dq_180 (zby_at (j := 11) zbX12_count_3 rfl) (zby_at (j := 12) zbX12_count_3 rfl) (zby_at (j := 13) zbX12_count_3 rfl)
theorem dX12_count_62 : decode cX12_count 62 = .ok (.iconst 2, 1) := dq_5 (zby_at (j := 14) zbX12_count_3 rfl)
theorem dX12_count_63 : decode cX12_count 63 = .ok (.iaload, 1) := dq_46 (zby_at (j := 15) zbX12_count_3 rfl)
theorem zbX12_count_4 : zby cX12_count 64 20 = [172, 42, 180, 0, 107, 172, 3, 62, 29, 16, 10, 162, 0, 27, 28, 42, 29, 182, 1, 62] := by decide +kernel
theorem dX12_count_64 : decode cX12_count 64 = .ok (.ireturn, 1) := dq_172 (zby_at (j := 0) zbX12_count_4 rfl)
theorem dX12_count_65 : decode cX12_count 65 = .ok (.aload_n 0, 1) := dq_42 (zby_at (j := 1) zbX12_count_4 rfl)
theorem dX12_count_66 : decode cX12_count 66 = .ok (.getfield 107, 3) := dq_180 (zby_at (j := 2) zbX12_count_4 rfl) (zby_at (j := 3) zbX12_count_4 rfl) (zby_at (j := 4) zbX12_count_4 rfl)
theorem dX12_count_69 : decode cX12_count 69 = .ok (.ireturn, 1) := dq_172 (zby_at (j := 5) zbX12_count_4 rfl)
theorem dX12_count_70 : decode cX12_count 70 = .ok (.iconst 0, 1) := dq_3 (zby_at (j := 6) zbX12_count_4 rfl)
theorem dX12_count_71 : decode cX12_count 71 = .ok (.istore_n 3, 1) := dq_62 (zby_at (j := 7) zbX12_count_4 rfl)
theorem dX12_count_72 : decode cX12_count 72 = .ok (.iload_n 3, 1) := dq_29 (zby_at (j := 8) zbX12_count_4 rfl)
theorem dX12_count_73 : decode cX12_count 73 = .ok (.bipush 10, 2) := dq_16 (zby_at (j := 9) zbX12_count_4 rfl) (zby_at (j := 10) zbX12_count_4 rfl) rfl
theorem dX12_count_75 : decode cX12_count 75 = .ok (.if_icmp .ge 27, 3) := dq_162 (zby_at (j := 11) zbX12_count_4 rfl) (zby_at (j := 12) zbX12_count_4 rfl) (zby_at (j := 13) zbX12_count_4 rfl) rfl
theorem dX12_count_78 : decode cX12_count 78 = .ok (.iload_n 2, 1) := dq_28 (zby_at (j := 14) zbX12_count_4 rfl)
theorem dX12_count_79 : decode cX12_count 79 = .ok (.aload_n 0, 1) := dq_42 (zby_at (j := 15) zbX12_count_4 rfl)
theorem zbX12_count_5 : zby cX12_count 80 20 = [29, 182, 1, 62, 158, 0, 9, 4, 29, 120, 167, 0, 4, 3, 128, 61, 132, 3, 1, 167] := by decide +kernel
theorem dX12_count_80 : decode cX12_count 80 = .ok (.iload_n 3, 1) := dq_29 (zby_at (j := 0) zbX12_count_5 rfl)
theorem dX12_count_81 : decode cX12_count 81 = .ok (.invokevirtual 318, 3) := dq_182 (zby_at (j := 1) zbX12_count_5 rfl) (zby_at (j := 2) zbX12_count_5 rfl) (zby_at (j := 3) zbX12_count_5 rfl)
theorem dX12_count_84 : decode cX12_count 84 = .ok (.ifCond .le 9, 3) := dq_158 (zby_at (j := 4) zbX12_count_5 rfl) (zby_at (j := 5) zbX12_count_5 rfl) (zby_at (j := 6) zbX12_count_5 rfl) rfl
theorem dX12_count_87 : decode cX12_count 87 = .ok (.iconst 1, 1) := dq_4 (zby_at (j := 7) zbX12_count_5 rfl)
theorem dX12_count_88 : decode cX12_count 88 = .ok (.iload_n 3, 1) := dq_29 (zby_at (j := 8) zbX12_count_5 rfl)
theorem dX12_count_89 : decode cX12_count 89 = .ok (.ishl, 1) := dq_120 (zby_at (j := 9) zbX12_count_5 rfl)
theorem dX12_count_90 : decode cX12_count 90 = .ok (.goto 4, 3) := dq_167 (zby_at (j := 10) zbX12_count_5 rfl) (zby_at (j := 11) zbX12_count_5 rfl) (zby_at (j := 12) zbX12_count_5 rfl) rfl
theorem dX12_count_93 : decode cX12_count 93 = .ok (.iconst 0, 1) := dq_3 (zby_at (j := 13) zbX12_count_5 rfl)
theorem dX12_count_94 : decode cX12_count 94 = .ok (.ior, 1) := dq_128 (zby_at (j := 14) zbX12_count_5 rfl)
theorem dX12_count_95 : decode cX12_count 95 = .ok (.istore_n 2, 1) := dq_61 (zby_at (j := 15) zbX12_count_5 rfl)
theorem zbX12_count_6 : zby cX12_count 96 20 = [132, 3, 1, 167, 255, 229, 28, 172, 42, 182, 1, 195, 172, 3, 62, 29, 7, 162, 0, 27] := by decide +kernel
theorem dX12_count_96 : decode cX12_count 96 = .ok (.iinc 3 1, 3) := dq_132 (zby_at (j := 0) zbX12_count_6 rfl) (zby_at (j := 1) zbX12_count_6 rfl) (zby_at (j := 2) zbX12_count_6 rfl) rfl
theorem dX12_count_99 : decode cX12_count 99 = .ok (.goto (-27), 3) := dq_167 (zby_at (j := 3) zbX12_count_6 rfl) (zby_at (j := 4) zbX12_count_6 rfl) (zby_at (j := 5) zbX12_count_6 rfl) rfl
theorem dX12_count_102 : decode cX12_count 102 = .ok (.iload_n 2, 1) := dq_28 (zby_at (j := 6) zbX12_count_6 rfl)
theorem dX12_count_103 : decode cX12_count 103 = .ok (.ireturn, 1) := dq_172 (zby_at (j := 7) zbX12_count_6 rfl)
theorem dX12_count_104 : decode cX12_count 104 = .ok (.aload_n 0, 1) := dq_42 (zby_at (j := 8) zbX12_count_6 rfl)
theorem dX12_count_105 : decode cX12_count 105 = .ok (.invokevirtual 451, 3) := dq_182 (zby_at (j := 9) zbX12_count_6 rfl) (zby_at (j := 10) zbX12_count_6 rfl) (zby_at (j := 11) zbX12_count_6 rfl)
theorem dX12_count_108 : decode cX12_count 108 = .ok (.ireturn, 1) := dq_172 (zby_at (j := 12) zbX12_count_6 rfl)
theorem dX12_count_109 : decode cX12_count 109 = .ok (.iconst 0, 1) := dq_3 (zby_at (j := 13) zbX12_count_6 rfl)
theorem dX12_count_110 : decode cX12_count 110 = .ok (.istore_n 3, 1) := dq_62 (zby_at (j := 14) zbX12_count_6 rfl)
theorem dX12_count_111 : decode cX12_count 111 = .ok (.iload_n 3, 1) := dq_29 (zby_at (j := 15) zbX12_count_6 rfl)
theorem zbX12_count_7 : zby cX12_count 112 20 = [7, 162, 0, 27, 28, 42, 180, 0, 76, 29, 46, 2, 160, 0, 7, 3, 167, 0, 4, 4] := by decide +kernel
theorem dX12_count_112 : decode cX12_count 112 = .ok (.iconst 4, 1) := dq_7 (zby_at (j := 0) zbX12_count_7 rfl)
theorem dX12_count_113 : decode cX12_count 113 = .ok (.if_icmp .ge 27, 3) := dq_162 (zby_at (j := 1) zbX12_count_7 rfl) (zby_at (j := 2) zbX12_count_7 rfl) (zby_at (j := 3) zbX12_count_7 rfl) rfl
theorem dX12_count_116 : decode cX12_count 116 = .ok (.iload_n 2, 1) := dq_28 (zby_at (j := 4) zbX12_count_7 rfl)
theorem dX12_count_117 : decode cX12_count 117 = .ok (.aload_n 0, 1) := dq_42 (zby_at (j := 5) zbX12_count_7 rfl)
theorem dX12_count_118 : decode cX12_count 118 = .ok (.getfield 76, 3) := dq_180 (zby_at (j := 6) zbX12_count_7 rfl) (zby_at (j := 7) zbX12_count_7 rfl) (zby_at (j := 8) zbX12_count_7 rfl)
theorem dX12_count_121 : decode cX12_count 121 = .ok (.iload_n 3, 1) := dq_29 (zby_at (j := 9) zbX12_count_7 rfl)
theorem dX12_count_122 : decode cX12_count 122 = .ok (.iaload, 1) := dq_46 (zby_at (j := 10) zbX12_count_7 rfl)
theorem dX12_count_123 : decode cX12_count 123 = .ok (.iconst (-1), 1) := dq_2 (zby_at (j := 11) zbX12_count_7 rfl)
theorem dX12_count_124 : decode cX12_count 124 = .ok (.if_icmp .ne 7, 3) := dq_160 (zby_at (j := 12) zbX12_count_7 rfl) (zby_at (j := 13) zbX12_count_7 rfl) (zby_at (j := 14) zbX12_count_7 rfl) rfl
theorem dX12_count_127 : decode cX12_count 127 = .ok (.iconst 0, 1) := dq_3 (zby_at (j := 15) zbX12_count_7 rfl)
theorem zbX12_count_8 : zby cX12_count 128 20 = [167, 0, 4, 4, 96, 61, 132, 3, 1, 167, 255, 230, 28, 172, 2, 172] := by decide +kernel
theorem dX12_count_128 : decode cX12_count 128 = .ok (.goto 4, 3) := dq_167 (zby_at (j := 0) zbX12_count_8 rfl) (zby_at (j := 1) zbX12_count_8 rfl) (zby_at (j := 2) zbX12_count_8 rfl) rfl
theorem dX12_count_131 : decode cX12_count 131 = .ok (.iconst 1, 1) := dq_4 (zby_at (j := 3) zbX12_count_8 rfl)
theorem dX12_count_132 : decode cX12_count 132 = .ok (.iadd, 1) := dq_96 (zby_at (j := 4) zbX12_count_8 rfl)
theorem dX12_count_133 : decode cX12_count 133 = .ok (.istore_n 2, 1) := dq_61 (zby_at (j := 5) zbX12_count_8 rfl)
theorem dX12_count_134 : decode cX12_count 134 = .ok (.iinc 3 1, 3) := dq_132 (zby_at (j := 6) zbX12_count_8 rfl) (zby_at (j := 7) zbX12_count_8 rfl) (zby_at (j := 8) zbX12_count_8 rfl) rfl
theorem dX12_count_137 : decode cX12_count 137 = .ok (.goto (-26), 3) := dq_167 (zby_at (j := 9) zbX12_count_8 rfl) (zby_at (j := 10) zbX12_count_8 rfl) (zby_at (j := 11) zbX12_count_8 rfl) rfl
theorem dX12_count_140 : decode cX12_count 140 = .ok (.iload_n 2, 1) := dq_28 (zby_at (j := 12) zbX12_count_8 rfl)
theorem dX12_count_141 : decode cX12_count 141 = .ok (.ireturn, 1) := dq_172 (zby_at (j := 13) zbX12_count_8 rfl)
theorem dX12_count_142 : decode cX12_count 142 = .ok (.iconst (-1), 1) := dq_2 (zby_at (j := 14) zbX12_count_8 rfl)
theorem dX12_count_143 : decode cX12_count 143 = .ok (.ireturn, 1) := dq_172 (zby_at (j := 15) zbX12_count_8 rfl)
theorem zbX12_isSlot_0 : zby cX12_isSlot 0 20 = [26, 133, 9, 20, 1, 198, 184, 0, 94, 172] := by decide +kernel
theorem dX12_isSlot_0 : decode cX12_isSlot 0 = .ok (.iload_n 0, 1) := dq_26 (zby_at (j := 0) zbX12_isSlot_0 rfl)
theorem dX12_isSlot_1 : decode cX12_isSlot 1 = .ok (.i2l, 1) := dq_133 (zby_at (j := 1) zbX12_isSlot_0 rfl)
theorem dX12_isSlot_2 : decode cX12_isSlot 2 = .ok (.lconst 0, 1) := dq_9 (zby_at (j := 2) zbX12_isSlot_0 rfl)
theorem dX12_isSlot_3 : decode cX12_isSlot 3 = .ok (.ldc2_w 454, 3) := dq_20 (zby_at (j := 3) zbX12_isSlot_0 rfl) (zby_at (j := 4) zbX12_isSlot_0 rfl) (zby_at (j := 5) zbX12_isSlot_0 rfl)
theorem dX12_isSlot_6 : decode cX12_isSlot 6 = .ok (.invokestatic 94, 3) := dq_184 (zby_at (j := 6) zbX12_isSlot_0 rfl) (zby_at (j := 7) zbX12_isSlot_0 rfl) (zby_at (j := 8) zbX12_isSlot_0 rfl)
theorem dX12_isSlot_9 : decode cX12_isSlot 9 = .ok (.ireturn, 1) := dq_172 (zby_at (j := 9) zbX12_isSlot_0 rfl)
theorem zbX12_cut_0 : zby cX12_cut 0 20 = [16, 64, 16, 8, 28, 120, 100, 62, 30, 29, 121, 29, 123, 173] := by decide +kernel
theorem dX12_cut_0 : decode cX12_cut 0 = .ok (.bipush 64, 2) := dq_16 (zby_at (j := 0) zbX12_cut_0 rfl) (zby_at (j := 1) zbX12_cut_0 rfl) rfl
theorem dX12_cut_2 : decode cX12_cut 2 = .ok (.bipush 8, 2) := dq_16 (zby_at (j := 2) zbX12_cut_0 rfl) (zby_at (j := 3) zbX12_cut_0 rfl) rfl
theorem dX12_cut_4 : decode cX12_cut 4 = .ok (.iload_n 2, 1) := dq_28 (zby_at (j := 4) zbX12_cut_0 rfl)
theorem dX12_cut_5 : decode cX12_cut 5 = .ok (.ishl, 1) := dq_120 (zby_at (j := 5) zbX12_cut_0 rfl)
theorem dX12_cut_6 : decode cX12_cut 6 = .ok (.isub, 1) := dq_100 (zby_at (j := 6) zbX12_cut_0 rfl)
theorem dX12_cut_7 : decode cX12_cut 7 = .ok (.istore_n 3, 1) := dq_62 (zby_at (j := 7) zbX12_cut_0 rfl)
theorem dX12_cut_8 : decode cX12_cut 8 = .ok (.lload_n 0, 1) := dq_30 (zby_at (j := 8) zbX12_cut_0 rfl)
theorem dX12_cut_9 : decode cX12_cut 9 = .ok (.iload_n 3, 1) := dq_29 (zby_at (j := 9) zbX12_cut_0 rfl)
theorem dX12_cut_10 : decode cX12_cut 10 = .ok (.lshl, 1) := dq_121 (zby_at (j := 10) zbX12_cut_0 rfl)
theorem dX12_cut_11 : decode cX12_cut 11 = .ok (.iload_n 3, 1) := dq_29 (zby_at (j := 11) zbX12_cut_0 rfl)
theorem dX12_cut_12 : decode cX12_cut 12 = .ok (.lshr, 1) := dq_123 (zby_at (j := 12) zbX12_cut_0 rfl)
theorem dX12_cut_13 : decode cX12_cut 13 = .ok (.lreturn, 1) := dq_173 (zby_at (j := 13) zbX12_cut_0 rfl)
theorem zbX12_row_0 : zby cX12_row 0 20 = [27, 184, 1, 192, 153, 0, 21, 28, 133, 9, 20, 1, 198, 184, 0, 94, 153, 0, 9, 29] := by decide +kernel
theorem dX12_row_0 : decode cX12_row 0 = .ok (.iload_n 1, 1) := dq_27 (zby_at (j := 0) zbX12_row_0 rfl)
theorem dX12_row_1 : decode cX12_row 1 = .ok (.invokestatic 448, 3) := dq_184 (zby_at (j := 1) zbX12_row_0 rfl) (zby_at (j := 2) zbX12_row_0 rfl) (zby_at (j := 3) zbX12_row_0 rfl)
theorem dX12_row_4 : decode cX12_row 4 = .ok (.ifCond .eq 21, 3) := dq_153 (zby_at (j := 4) zbX12_row_0 rfl) (zby_at (j := 5) zbX12_row_0 rfl) (zby_at (j := 6) zbX12_row_0 rfl) rfl
theorem dX12_row_7 : decode cX12_row 7 = .ok (.iload_n 2, 1) := dq_28 (zby_at (j := 7) zbX12_row_0 rfl)
theorem dX12_row_8 : decode cX12_row 8 = .ok (.i2l, 1) := dq_133 (zby_at (j := 8) zbX12_row_0 rfl)
theorem dX12_row_9 : decode cX12_row 9 = .ok (.lconst 0, 1) := dq_9 (zby_at (j := 9) zbX12_row_0 rfl)
theorem dX12_row_10 : decode cX12_row 10 = .ok (.ldc2_w 454, 3) := dq_20 (zby_at (j := 10) zbX12_row_0 rfl) (zby_at (j := 11) zbX12_row_0 rfl) (zby_at (j := 12) zbX12_row_0 rfl)
theorem dX12_row_13 : decode cX12_row 13 = .ok (.invokestatic 94, 3) := dq_184 (zby_at (j := 13) zbX12_row_0 rfl) (zby_at (j := 14) zbX12_row_0 rfl) (zby_at (j := 15) zbX12_row_0 rfl)
theorem zbX12_row_1 : zby cX12_row 16 20 = [153, 0, 9, 29, 16, 60, 164, 0, 6, 16, 254, 172, 29, 156, 0, 6, 16, 253, 172, 42] := by decide +kernel
theorem dX12_row_16 : decode cX12_row 16 = .ok (.ifCond .eq 9, 3) := dq_153 (zby_at (j := 0) zbX12_row_1 rfl) (zby_at (j := 1) zbX12_row_1 rfl) (zby_at (j := 2) zbX12_row_1 rfl) rfl
theorem dX12_row_19 : decode cX12_row 19 = .ok (.iload_n 3, 1) := dq_29 (zby_at (j := 3) zbX12_row_1 rfl)
theorem dX12_row_20 : decode cX12_row 20 = .ok (.bipush 60, 2) := dq_16 (zby_at (j := 4) zbX12_row_1 rfl) (zby_at (j := 5) zbX12_row_1 rfl) rfl
theorem dX12_row_22 : decode cX12_row 22 = .ok (.if_icmp .le 6, 3) := dq_164 (zby_at (j := 6) zbX12_row_1 rfl) (zby_at (j := 7) zbX12_row_1 rfl) (zby_at (j := 8) zbX12_row_1 rfl) rfl
theorem dX12_row_25 : decode cX12_row 25 = .ok (.bipush (-2), 2) := dq_16 (zby_at (j := 9) zbX12_row_1 rfl) (zby_at (j := 10) zbX12_row_1 rfl) rfl
theorem dX12_row_27 : decode cX12_row 27 = .ok (.ireturn, 1) := dq_172 (zby_at (j := 11) zbX12_row_1 rfl)
theorem dX12_row_28 : decode cX12_row 28 = .ok (.iload_n 3, 1) := dq_29 (zby_at (j := 12) zbX12_row_1 rfl)
theorem dX12_row_29 : decode cX12_row 29 = .ok (.ifCond .ge 6, 3) := dq_156 (zby_at (j := 13) zbX12_row_1 rfl) (zby_at (j := 14) zbX12_row_1 rfl) (zby_at (j := 15) zbX12_row_1 rfl) rfl
theorem zbX12_row_2 : zby cX12_row 32 20 = [16, 253, 172, 42, 180, 0, 76, 27, 29, 79, 42, 180, 0, 79, 27, 28, 79, 3, 54, 4] := by decide +kernel
theorem dX12_row_32 : decode cX12_row 32 = .ok (.bipush (-3), 2) := dq_16 (zby_at (j := 0) zbX12_row_2 rfl) (zby_at (j := 1) zbX12_row_2 rfl) rfl
theorem dX12_row_34 : decode cX12_row 34 = .ok (.ireturn, 1) := dq_172 (zby_at (j := 2) zbX12_row_2 rfl)
theorem dX12_row_35 : decode cX12_row 35 = .ok (.aload_n 0, 1) := dq_42 (zby_at (j := 3) zbX12_row_2 rfl)
theorem dX12_row_36 : decode cX12_row 36 = .ok (.getfield 76, 3) := dq_180 (zby_at (j := 4) zbX12_row_2 rfl) (zby_at (j := 5) zbX12_row_2 rfl) (zby_at (j := 6) zbX12_row_2 rfl)
theorem dX12_row_39 : decode cX12_row 39 = .ok (.iload_n 1, 1) := dq_27 (zby_at (j := 7) zbX12_row_2 rfl)
theorem dX12_row_40 : decode cX12_row 40 = .ok (.iload_n 3, 1) := dq_29 (zby_at (j := 8) zbX12_row_2 rfl)
theorem dX12_row_41 : decode cX12_row 41 = .ok (.iastore, 1) := dq_79 (zby_at (j := 9) zbX12_row_2 rfl)
theorem dX12_row_42 : decode cX12_row 42 = .ok (.aload_n 0, 1) := dq_42 (zby_at (j := 10) zbX12_row_2 rfl)
theorem dX12_row_43 : decode cX12_row 43 = .ok (.getfield 79, 3) := dq_180 (zby_at (j := 11) zbX12_row_2 rfl) (zby_at (j := 12) zbX12_row_2 rfl) (zby_at (j := 13) zbX12_row_2 rfl)
theorem dX12_row_46 : decode cX12_row 46 = .ok (.iload_n 1, 1) := dq_27 (zby_at (j := 14) zbX12_row_2 rfl)
theorem dX12_row_47 : decode cX12_row 47 = .ok (.iload_n 2, 1) := dq_28 (zby_at (j := 15) zbX12_row_2 rfl)
theorem zbX12_row_3 : zby cX12_row 48 20 = [79, 3, 54, 4, 21, 4, 16, 60, 162, 0, 22, 42, 180, 0, 82, 16, 60, 27, 104, 21] := by decide +kernel
theorem dX12_row_48 : decode cX12_row 48 = .ok (.iastore, 1) := dq_79 (zby_at (j := 0) zbX12_row_3 rfl)
theorem dX12_row_49 : decode cX12_row 49 = .ok (.iconst 0, 1) := dq_3 (zby_at (j := 1) zbX12_row_3 rfl)
theorem dX12_row_50 : decode cX12_row 50 = .ok (.istore 4, 2) := dq_54 (zby_at (j := 2) zbX12_row_3 rfl) (zby_at (j := 3) zbX12_row_3 rfl)
theorem dX12_row_52 : decode cX12_row 52 = .ok (.iload 4, 2) := dq_21 (zby_at (j := 4) zbX12_row_3 rfl) (zby_at (j := 5) zbX12_row_3 rfl)
theorem dX12_row_54 : decode cX12_row 54 = .ok (.bipush 60, 2) := dq_16 (zby_at (j := 6) zbX12_row_3 rfl) (zby_at (j := 7) zbX12_row_3 rfl) rfl
theorem dX12_row_56 : decode cX12_row 56 = .ok (.if_icmp .ge 22, 3) := dq_162 (zby_at (j := 8) zbX12_row_3 rfl) (zby_at (j := 9) zbX12_row_3 rfl) (zby_at (j := 10) zbX12_row_3 rfl) rfl
theorem dX12_row_59 : decode cX12_row 59 = .ok (.aload_n 0, 1) := dq_42 (zby_at (j := 11) zbX12_row_3 rfl)
theorem dX12_row_60 : decode cX12_row 60 = .ok (.getfield 82, 3) := dq_180 (zby_at (j := 12) zbX12_row_3 rfl) (zby_at (j := 13) zbX12_row_3 rfl) (zby_at (j := 14) zbX12_row_3 rfl)
theorem dX12_row_63 : decode cX12_row 63 = .ok (.bipush 60, 2) := dq_16 (zby_at (j := 15) zbX12_row_3 rfl) (zby_at (j := 16) zbX12_row_3 rfl) rfl
theorem zbX12_row_4 : zby cX12_row 64 20 = [60, 27, 104, 21, 4, 96, 9, 80, 132, 4, 1, 167, 255, 233, 3, 172] := by decide +kernel
theorem dX12_row_65 : decode cX12_row 65 = .ok (.iload_n 1, 1) := dq_27 (zby_at (j := 1) zbX12_row_4 rfl)
theorem dX12_row_66 : decode cX12_row 66 = .ok (.imul, 1) := dq_104 (zby_at (j := 2) zbX12_row_4 rfl)
theorem dX12_row_67 : decode cX12_row 67 = .ok (.iload 4, 2) := dq_21 (zby_at (j := 3) zbX12_row_4 rfl) (zby_at (j := 4) zbX12_row_4 rfl)
theorem dX12_row_69 : decode cX12_row 69 = .ok (.iadd, 1) := dq_96 (zby_at (j := 5) zbX12_row_4 rfl)
theorem dX12_row_70 : decode cX12_row 70 = .ok (.lconst 0, 1) := dq_9 (zby_at (j := 6) zbX12_row_4 rfl)
theorem dX12_row_71 : decode cX12_row 71 = .ok (.lastore, 1) := dq_80 (zby_at (j := 7) zbX12_row_4 rfl)
theorem dX12_row_72 : decode cX12_row 72 = .ok (.iinc 4 1, 3) := dq_132 (zby_at (j := 8) zbX12_row_4 rfl) (zby_at (j := 9) zbX12_row_4 rfl) (zby_at (j := 10) zbX12_row_4 rfl) rfl
theorem dX12_row_75 : decode cX12_row 75 = .ok (.goto (-23), 3) := dq_167 (zby_at (j := 11) zbX12_row_4 rfl) (zby_at (j := 12) zbX12_row_4 rfl) (zby_at (j := 13) zbX12_row_4 rfl) rfl
theorem dX12_row_78 : decode cX12_row 78 = .ok (.iconst 0, 1) := dq_3 (zby_at (j := 14) zbX12_row_4 rfl)
theorem dX12_row_79 : decode cX12_row 79 = .ok (.ireturn, 1) := dq_172 (zby_at (j := 15) zbX12_row_4 rfl)
theorem zbX12_write_0 : zby cX12_write 0 20 = [27, 184, 1, 192, 154, 0, 6, 16, 254, 172, 42, 180, 0, 76, 27, 46, 2, 160, 0, 6] := by decide +kernel
theorem dX12_write_0 : decode cX12_write 0 = .ok (.iload_n 1, 1) := dq_27 (zby_at (j := 0) zbX12_write_0 rfl)
theorem dX12_write_1 : decode cX12_write 1 = .ok (.invokestatic 448, 3) := dq_184 (zby_at (j := 1) zbX12_write_0 rfl) (zby_at (j := 2) zbX12_write_0 rfl) (zby_at (j := 3) zbX12_write_0 rfl)
theorem dX12_write_4 : decode cX12_write 4 = .ok (.ifCond .ne 6, 3) := dq_154 (zby_at (j := 4) zbX12_write_0 rfl) (zby_at (j := 5) zbX12_write_0 rfl) (zby_at (j := 6) zbX12_write_0 rfl) rfl
theorem dX12_write_7 : decode cX12_write 7 = .ok (.bipush (-2), 2) := dq_16 (zby_at (j := 7) zbX12_write_0 rfl) (zby_at (j := 8) zbX12_write_0 rfl) rfl
theorem dX12_write_9 : decode cX12_write 9 = .ok (.ireturn, 1) := dq_172 (zby_at (j := 9) zbX12_write_0 rfl)
theorem dX12_write_10 : decode cX12_write 10 = .ok (.aload_n 0, 1) := dq_42 (zby_at (j := 10) zbX12_write_0 rfl)
theorem dX12_write_11 : decode cX12_write 11 = .ok (.getfield 76, 3) := dq_180 (zby_at (j := 11) zbX12_write_0 rfl) (zby_at (j := 12) zbX12_write_0 rfl) (zby_at (j := 13) zbX12_write_0 rfl)
theorem dX12_write_14 : decode cX12_write 14 = .ok (.iload_n 1, 1) := dq_27 (zby_at (j := 14) zbX12_write_0 rfl)
theorem dX12_write_15 : decode cX12_write 15 = .ok (.iaload, 1) := dq_46 (zby_at (j := 15) zbX12_write_0 rfl)
theorem zbX12_write_1 : zby cX12_write 16 20 = [2, 160, 0, 6, 16, 250, 172, 28, 133, 9, 42, 180, 0, 76, 27, 46, 4, 100, 133, 184] := by decide +kernel
theorem dX12_write_16 : decode cX12_write 16 = .ok (.iconst (-1), 1) := dq_2 (zby_at (j := 0) zbX12_write_1 rfl)
theorem dX12_write_17 : decode cX12_write 17 = .ok (.if_icmp .ne 6, 3) := dq_160 (zby_at (j := 1) zbX12_write_1 rfl) (zby_at (j := 2) zbX12_write_1 rfl) (zby_at (j := 3) zbX12_write_1 rfl) rfl
theorem dX12_write_20 : decode cX12_write 20 = .ok (.bipush (-6), 2) := dq_16 (zby_at (j := 4) zbX12_write_1 rfl) (zby_at (j := 5) zbX12_write_1 rfl) rfl
theorem dX12_write_22 : decode cX12_write 22 = .ok (.ireturn, 1) := dq_172 (zby_at (j := 6) zbX12_write_1 rfl)
theorem dX12_write_23 : decode cX12_write 23 = .ok (.iload_n 2, 1) := dq_28 (zby_at (j := 7) zbX12_write_1 rfl)
theorem dX12_write_24 : decode cX12_write 24 = .ok (.i2l, 1) := dq_133 (zby_at (j := 8) zbX12_write_1 rfl)
theorem dX12_write_25 : decode cX12_write 25 = .ok (.lconst 0, 1) := dq_9 (zby_at (j := 9) zbX12_write_1 rfl)
theorem dX12_write_26 : decode cX12_write 26 = .ok (.aload_n 0, 1) := dq_42 (zby_at (j := 10) zbX12_write_1 rfl)
theorem dX12_write_27 : decode cX12_write 27 = .ok (.getfield 76, 3) := dq_180 (zby_at (j := 11) zbX12_write_1 rfl) (zby_at (j := 12) zbX12_write_1 rfl) (zby_at (j := 13) zbX12_write_1 rfl)
theorem dX12_write_30 : decode cX12_write 30 = .ok (.iload_n 1, 1) := dq_27 (zby_at (j := 14) zbX12_write_1 rfl)
theorem dX12_write_31 : decode cX12_write 31 = .ok (.iaload, 1) := dq_46 (zby_at (j := 15) zbX12_write_1 rfl)
theorem zbX12_write_2 : zby cX12_write 32 20 = [4, 100, 133, 184, 0, 94, 154, 0, 6, 16, 249, 172, 42, 180, 0, 82, 16, 60, 27, 104] := by decide +kernel
theorem dX12_write_32 : decode cX12_write 32 = .ok (.iconst 1, 1) := dq_4 (zby_at (j := 0) zbX12_write_2 rfl)
theorem dX12_write_33 : decode cX12_write 33 = .ok (.isub, 1) := dq_100 (zby_at (j := 1) zbX12_write_2 rfl)
theorem dX12_write_34 : decode cX12_write 34 = .ok (.i2l, 1) := dq_133 (zby_at (j := 2) zbX12_write_2 rfl)
theorem dX12_write_35 : decode cX12_write 35 = .ok (.invokestatic 94, 3) := dq_184 (zby_at (j := 3) zbX12_write_2 rfl) (zby_at (j := 4) zbX12_write_2 rfl) (zby_at (j := 5) zbX12_write_2 rfl)
theorem dX12_write_38 : decode cX12_write 38 = .ok (.ifCond .ne 6, 3) := dq_154 (zby_at (j := 6) zbX12_write_2 rfl) (zby_at (j := 7) zbX12_write_2 rfl) (zby_at (j := 8) zbX12_write_2 rfl) rfl
theorem dX12_write_41 : decode cX12_write 41 = .ok (.bipush (-7), 2) := dq_16 (zby_at (j := 9) zbX12_write_2 rfl) (zby_at (j := 10) zbX12_write_2 rfl) rfl
theorem dX12_write_43 : decode cX12_write 43 = .ok (.ireturn, 1) := dq_172 (zby_at (j := 11) zbX12_write_2 rfl)
theorem dX12_write_44 : decode cX12_write 44 = .ok (.aload_n 0, 1) := dq_42 (zby_at (j := 12) zbX12_write_2 rfl)
theorem dX12_write_45 : decode cX12_write 45 = .ok (.getfield 82, 3) := dq_180 (zby_at (j := 13) zbX12_write_2 rfl) (zby_at (j := 14) zbX12_write_2 rfl) (zby_at (j := 15) zbX12_write_2 rfl)
theorem zbX12_write_3 : zby cX12_write 48 20 = [16, 60, 27, 104, 28, 96, 33, 42, 180, 0, 79, 27, 46, 184, 1, 200, 80, 3, 172] := by decide +kernel
theorem dX12_write_48 : decode cX12_write 48 = .ok (.bipush 60, 2) := dq_16 (zby_at (j := 0) zbX12_write_3 rfl) (zby_at (j := 1) zbX12_write_3 rfl) rfl
theorem dX12_write_50 : decode cX12_write 50 = .ok (.iload_n 1, 1) := dq_27 (zby_at (j := 2) zbX12_write_3 rfl)
theorem dX12_write_51 : decode cX12_write 51 = .ok (.imul, 1) := dq_104 (zby_at (j := 3) zbX12_write_3 rfl)
theorem dX12_write_52 : decode cX12_write 52 = .ok (.iload_n 2, 1) := dq_28 (zby_at (j := 4) zbX12_write_3 rfl)
theorem dX12_write_53 : decode cX12_write 53 = .ok (.iadd, 1) := dq_96 (zby_at (j := 5) zbX12_write_3 rfl)
theorem dX12_write_54 : decode cX12_write 54 = .ok (.lload_n 3, 1) := dq_33 (zby_at (j := 6) zbX12_write_3 rfl)
theorem dX12_write_55 : decode cX12_write 55 = .ok (.aload_n 0, 1) := dq_42 (zby_at (j := 7) zbX12_write_3 rfl)
theorem dX12_write_56 : decode cX12_write 56 = .ok (.getfield 79, 3) := dq_180 (zby_at (j := 8) zbX12_write_3 rfl) (zby_at (j := 9) zbX12_write_3 rfl) (zby_at (j := 10) zbX12_write_3 rfl)
theorem dX12_write_59 : decode cX12_write 59 = .ok (.iload_n 1, 1) := dq_27 (zby_at (j := 11) zbX12_write_3 rfl)
theorem dX12_write_60 : decode cX12_write 60 = .ok (.iaload, 1) := dq_46 (zby_at (j := 12) zbX12_write_3 rfl)
theorem dX12_write_61 : decode cX12_write 61 = .ok (.invokestatic 456, 3) := dq_184 (zby_at (j := 13) zbX12_write_3 rfl) (zby_at (j := 14) zbX12_write_3 rfl) (zby_at (j := 15) zbX12_write_3 rfl)
theorem zbX12_write_4 : zby cX12_write 64 20 = [80, 3, 172] := by decide +kernel
theorem dX12_write_64 : decode cX12_write 64 = .ok (.lastore, 1) := dq_80 (zby_at (j := 0) zbX12_write_4 rfl)
theorem dX12_write_65 : decode cX12_write 65 = .ok (.iconst 0, 1) := dq_3 (zby_at (j := 1) zbX12_write_4 rfl)
theorem dX12_write_66 : decode cX12_write 66 = .ok (.ireturn, 1) := dq_172 (zby_at (j := 2) zbX12_write_4 rfl)
theorem zbX12_paste_0 : zby cX12_paste 0 20 = [27, 184, 1, 192, 153, 0, 10, 29, 184, 1, 192, 154, 0, 6, 16, 254, 172, 42, 180, 0] := by decide +kernel
theorem dX12_paste_0 : decode cX12_paste 0 = .ok (.iload_n 1, 1) := dq_27 (zby_at (j := 0) zbX12_paste_0 rfl)
theorem dX12_paste_1 : decode cX12_paste 1 = .ok (.invokestatic 448, 3) := dq_184 (zby_at (j := 1) zbX12_paste_0 rfl) (zby_at (j := 2) zbX12_paste_0 rfl) (zby_at (j := 3) zbX12_paste_0 rfl)
theorem dX12_paste_4 : decode cX12_paste 4 = .ok (.ifCond .eq 10, 3) := dq_153 (zby_at (j := 4) zbX12_paste_0 rfl) (zby_at (j := 5) zbX12_paste_0 rfl) (zby_at (j := 6) zbX12_paste_0 rfl) rfl
theorem dX12_paste_7 : decode cX12_paste 7 = .ok (.iload_n 3, 1) := dq_29 (zby_at (j := 7) zbX12_paste_0 rfl)
theorem dX12_paste_8 : decode cX12_paste 8 = .ok (.invokestatic 448, 3) := dq_184 (zby_at (j := 8) zbX12_paste_0 rfl) (zby_at (j := 9) zbX12_paste_0 rfl) (zby_at (j := 10) zbX12_paste_0 rfl)
theorem dX12_paste_11 : decode cX12_paste 11 = .ok (.ifCond .ne 6, 3) := dq_154 (zby_at (j := 11) zbX12_paste_0 rfl) (zby_at (j := 12) zbX12_paste_0 rfl) (zby_at (j := 13) zbX12_paste_0 rfl) rfl
theorem dX12_paste_14 : decode cX12_paste 14 = .ok (.bipush (-2), 2) := dq_16 (zby_at (j := 14) zbX12_paste_0 rfl) (zby_at (j := 15) zbX12_paste_0 rfl) rfl
theorem zbX12_paste_1 : zby cX12_paste 16 20 = [172, 42, 180, 0, 76, 27, 46, 2, 159, 0, 13, 42, 180, 0, 76, 29, 46, 2, 160, 0] := by decide +kernel
theorem dX12_paste_16 : decode cX12_paste 16 = .ok (.ireturn, 1) := dq_172 (zby_at (j := 0) zbX12_paste_1 rfl)
theorem dX12_paste_17 : decode cX12_paste 17 = .ok (.aload_n 0, 1) := dq_42 (zby_at (j := 1) zbX12_paste_1 rfl)
theorem dX12_paste_18 : decode cX12_paste 18 = .ok (.getfield 76, 3) := dq_180 (zby_at (j := 2) zbX12_paste_1 rfl) (zby_at (j := 3) zbX12_paste_1 rfl) (zby_at (j := 4) zbX12_paste_1 rfl)
theorem dX12_paste_21 : decode cX12_paste 21 = .ok (.iload_n 1, 1) := dq_27 (zby_at (j := 5) zbX12_paste_1 rfl)
theorem dX12_paste_22 : decode cX12_paste 22 = .ok (.iaload, 1) := dq_46 (zby_at (j := 6) zbX12_paste_1 rfl)
theorem dX12_paste_23 : decode cX12_paste 23 = .ok (.iconst (-1), 1) := dq_2 (zby_at (j := 7) zbX12_paste_1 rfl)
theorem dX12_paste_24 : decode cX12_paste 24 = .ok (.if_icmp .eq 13, 3) := dq_159 (zby_at (j := 8) zbX12_paste_1 rfl) (zby_at (j := 9) zbX12_paste_1 rfl) (zby_at (j := 10) zbX12_paste_1 rfl) rfl
theorem dX12_paste_27 : decode cX12_paste 27 = .ok (.aload_n 0, 1) := dq_42 (zby_at (j := 11) zbX12_paste_1 rfl)
theorem dX12_paste_28 : decode cX12_paste 28 = .ok (.getfield 76, 3) := dq_180 (zby_at (j := 12) zbX12_paste_1 rfl) (zby_at (j := 13) zbX12_paste_1 rfl) (zby_at (j := 14) zbX12_paste_1 rfl)
theorem dX12_paste_31 : decode cX12_paste 31 = .ok (.iload_n 3, 1) := dq_29 (zby_at (j := 15) zbX12_paste_1 rfl)
theorem zbX12_paste_2 : zby cX12_paste 32 20 = [46, 2, 160, 0, 6, 16, 250, 172, 42, 180, 0, 79, 27, 46, 42, 180, 0, 79, 29, 46] := by decide +kernel
theorem dX12_paste_32 : decode cX12_paste 32 = .ok (.iaload, 1) := dq_46 (zby_at (j := 0) zbX12_paste_2 rfl)
theorem dX12_paste_33 : decode cX12_paste 33 = .ok (.iconst (-1), 1) := dq_2 (zby_at (j := 1) zbX12_paste_2 rfl)
theorem dX12_paste_34 : decode cX12_paste 34 = .ok (.if_icmp .ne 6, 3) := dq_160 (zby_at (j := 2) zbX12_paste_2 rfl) (zby_at (j := 3) zbX12_paste_2 rfl) (zby_at (j := 4) zbX12_paste_2 rfl) rfl
theorem dX12_paste_37 : decode cX12_paste 37 = .ok (.bipush (-6), 2) := dq_16 (zby_at (j := 5) zbX12_paste_2 rfl) (zby_at (j := 6) zbX12_paste_2 rfl) rfl
theorem dX12_paste_39 : decode cX12_paste 39 = .ok (.ireturn, 1) := dq_172 (zby_at (j := 7) zbX12_paste_2 rfl)
theorem dX12_paste_40 : decode cX12_paste 40 = .ok (.aload_n 0, 1) := dq_42 (zby_at (j := 8) zbX12_paste_2 rfl)
theorem dX12_paste_41 : decode cX12_paste 41 = .ok (.getfield 79, 3) := dq_180 (zby_at (j := 9) zbX12_paste_2 rfl) (zby_at (j := 10) zbX12_paste_2 rfl) (zby_at (j := 11) zbX12_paste_2 rfl)
theorem dX12_paste_44 : decode cX12_paste 44 = .ok (.iload_n 1, 1) := dq_27 (zby_at (j := 12) zbX12_paste_2 rfl)
theorem dX12_paste_45 : decode cX12_paste 45 = .ok (.iaload, 1) := dq_46 (zby_at (j := 13) zbX12_paste_2 rfl)
theorem dX12_paste_46 : decode cX12_paste 46 = .ok (.aload_n 0, 1) := dq_42 (zby_at (j := 14) zbX12_paste_2 rfl)
theorem dX12_paste_47 : decode cX12_paste 47 = .ok (.getfield 79, 3) := dq_180 (zby_at (j := 15) zbX12_paste_2 rfl) (zby_at (j := 16) zbX12_paste_2 rfl) (zby_at (j := 17) zbX12_paste_2 rfl)
theorem zbX12_paste_3 : zby cX12_paste 48 20 = [0, 79, 29, 46, 159, 0, 6, 16, 248, 172, 28, 155, 0, 48, 21, 4, 155, 0, 43, 21] := by decide +kernel
theorem dX12_paste_50 : decode cX12_paste 50 = .ok (.iload_n 3, 1) := dq_29 (zby_at (j := 2) zbX12_paste_3 rfl)
theorem dX12_paste_51 : decode cX12_paste 51 = .ok (.iaload, 1) := dq_46 (zby_at (j := 3) zbX12_paste_3 rfl)
theorem dX12_paste_52 : decode cX12_paste 52 = .ok (.if_icmp .eq 6, 3) := dq_159 (zby_at (j := 4) zbX12_paste_3 rfl) (zby_at (j := 5) zbX12_paste_3 rfl) (zby_at (j := 6) zbX12_paste_3 rfl) rfl
theorem dX12_paste_55 : decode cX12_paste 55 = .ok (.bipush (-8), 2) := dq_16 (zby_at (j := 7) zbX12_paste_3 rfl) (zby_at (j := 8) zbX12_paste_3 rfl) rfl
theorem dX12_paste_57 : decode cX12_paste 57 = .ok (.ireturn, 1) := dq_172 (zby_at (j := 9) zbX12_paste_3 rfl)
theorem dX12_paste_58 : decode cX12_paste 58 = .ok (.iload_n 2, 1) := dq_28 (zby_at (j := 10) zbX12_paste_3 rfl)
theorem dX12_paste_59 : decode cX12_paste 59 = .ok (.ifCond .lt 48, 3) := dq_155 (zby_at (j := 11) zbX12_paste_3 rfl) (zby_at (j := 12) zbX12_paste_3 rfl) (zby_at (j := 13) zbX12_paste_3 rfl) rfl
theorem dX12_paste_62 : decode cX12_paste 62 = .ok (.iload 4, 2) := dq_21 (zby_at (j := 14) zbX12_paste_3 rfl) (zby_at (j := 15) zbX12_paste_3 rfl)
theorem zbX12_paste_4 : zby cX12_paste 64 20 = [155, 0, 43, 21, 5, 155, 0, 38, 28, 133, 21, 5, 133, 97, 42, 180, 0, 76, 27, 46] := by decide +kernel
theorem dX12_paste_64 : decode cX12_paste 64 = .ok (.ifCond .lt 43, 3) := dq_155 (zby_at (j := 0) zbX12_paste_4 rfl) (zby_at (j := 1) zbX12_paste_4 rfl) (zby_at (j := 2) zbX12_paste_4 rfl) rfl
theorem dX12_paste_67 : decode cX12_paste 67 = .ok (.iload 5, 2) := dq_21 (zby_at (j := 3) zbX12_paste_4 rfl) (zby_at (j := 4) zbX12_paste_4 rfl)
theorem dX12_paste_69 : decode cX12_paste 69 = .ok (.ifCond .lt 38, 3) := dq_155 (zby_at (j := 5) zbX12_paste_4 rfl) (zby_at (j := 6) zbX12_paste_4 rfl) (zby_at (j := 7) zbX12_paste_4 rfl) rfl
theorem dX12_paste_72 : decode cX12_paste 72 = .ok (.iload_n 2, 1) := dq_28 (zby_at (j := 8) zbX12_paste_4 rfl)
theorem dX12_paste_73 : decode cX12_paste 73 = .ok (.i2l, 1) := dq_133 (zby_at (j := 9) zbX12_paste_4 rfl)
theorem dX12_paste_74 : decode cX12_paste 74 = .ok (.iload 5, 2) := dq_21 (zby_at (j := 10) zbX12_paste_4 rfl) (zby_at (j := 11) zbX12_paste_4 rfl)
theorem dX12_paste_76 : decode cX12_paste 76 = .ok (.i2l, 1) := dq_133 (zby_at (j := 12) zbX12_paste_4 rfl)
theorem dX12_paste_77 : decode cX12_paste 77 = .ok (.ladd, 1) := dq_97 (zby_at (j := 13) zbX12_paste_4 rfl)
theorem dX12_paste_78 : decode cX12_paste 78 = .ok (.aload_n 0, 1) := dq_42 (zby_at (j := 14) zbX12_paste_4 rfl)
theorem dX12_paste_79 : decode cX12_paste 79 = .ok (.getfield 76, 3) := dq_180 (zby_at (j := 15) zbX12_paste_4 rfl) (zby_at (j := 16) zbX12_paste_4 rfl) (zby_at (j := 17) zbX12_paste_4 rfl)
theorem zbX12_paste_5 : zby cX12_paste 80 20 = [0, 76, 27, 46, 133, 148, 157, 0, 21, 21, 4, 133, 21, 5, 133, 97, 42, 180, 0, 76] := by decide +kernel
theorem dX12_paste_82 : decode cX12_paste 82 = .ok (.iload_n 1, 1) := dq_27 (zby_at (j := 2) zbX12_paste_5 rfl)
theorem dX12_paste_83 : decode cX12_paste 83 = .ok (.iaload, 1) := dq_46 (zby_at (j := 3) zbX12_paste_5 rfl)
theorem dX12_paste_84 : decode cX12_paste 84 = .ok (.i2l, 1) := dq_133 (zby_at (j := 4) zbX12_paste_5 rfl)
theorem dX12_paste_85 : decode cX12_paste 85 = .ok (.lcmp, 1) := dq_148 (zby_at (j := 5) zbX12_paste_5 rfl)
theorem dX12_paste_86 : decode cX12_paste 86 = .ok (.ifCond .gt 21, 3) := dq_157 (zby_at (j := 6) zbX12_paste_5 rfl) (zby_at (j := 7) zbX12_paste_5 rfl) (zby_at (j := 8) zbX12_paste_5 rfl) rfl
theorem dX12_paste_89 : decode cX12_paste 89 = .ok (.iload 4, 2) := dq_21 (zby_at (j := 9) zbX12_paste_5 rfl) (zby_at (j := 10) zbX12_paste_5 rfl)
theorem dX12_paste_91 : decode cX12_paste 91 = .ok (.i2l, 1) := dq_133 (zby_at (j := 11) zbX12_paste_5 rfl)
theorem dX12_paste_92 : decode cX12_paste 92 = .ok (.iload 5, 2) := dq_21 (zby_at (j := 12) zbX12_paste_5 rfl) (zby_at (j := 13) zbX12_paste_5 rfl)
theorem dX12_paste_94 : decode cX12_paste 94 = .ok (.i2l, 1) := dq_133 (zby_at (j := 14) zbX12_paste_5 rfl)
theorem dX12_paste_95 : decode cX12_paste 95 = .ok (.ladd, 1) := dq_97 (zby_at (j := 15) zbX12_paste_5 rfl)
theorem zbX12_paste_6 : zby cX12_paste 96 20 = [42, 180, 0, 76, 29, 46, 133, 148, 158, 0, 6, 16, 249, 172, 3, 54, 6, 21, 6, 21] := by decide +kernel
theorem dX12_paste_96 : decode cX12_paste 96 = .ok (.aload_n 0, 1) := dq_42 (zby_at (j := 0) zbX12_paste_6 rfl)
theorem dX12_paste_97 : decode cX12_paste 97 = .ok (.getfield 76, 3) := dq_180 (zby_at (j := 1) zbX12_paste_6 rfl) (zby_at (j := 2) zbX12_paste_6 rfl) (zby_at (j := 3) zbX12_paste_6 rfl)
theorem dX12_paste_100 : decode cX12_paste 100 = .ok (.iload_n 3, 1) := dq_29 (zby_at (j := 4) zbX12_paste_6 rfl)
theorem dX12_paste_101 : decode cX12_paste 101 = .ok (.iaload, 1) := dq_46 (zby_at (j := 5) zbX12_paste_6 rfl)
theorem dX12_paste_102 : decode cX12_paste 102 = .ok (.i2l, 1) := dq_133 (zby_at (j := 6) zbX12_paste_6 rfl)
theorem dX12_paste_103 : decode cX12_paste 103 = .ok (.lcmp, 1) := dq_148 (zby_at (j := 7) zbX12_paste_6 rfl)
theorem dX12_paste_104 : decode cX12_paste 104 = .ok (.ifCond .le 6, 3) := dq_158 (zby_at (j := 8) zbX12_paste_6 rfl) (zby_at (j := 9) zbX12_paste_6 rfl) (zby_at (j := 10) zbX12_paste_6 rfl) rfl
theorem dX12_paste_107 : decode cX12_paste 107 = .ok (.bipush (-7), 2) := dq_16 (zby_at (j := 11) zbX12_paste_6 rfl) (zby_at (j := 12) zbX12_paste_6 rfl) rfl
theorem dX12_paste_109 : decode cX12_paste 109 = .ok (.ireturn, 1) := dq_172 (zby_at (j := 13) zbX12_paste_6 rfl)
theorem dX12_paste_110 : decode cX12_paste 110 = .ok (.iconst 0, 1) := dq_3 (zby_at (j := 14) zbX12_paste_6 rfl)
theorem dX12_paste_111 : decode cX12_paste 111 = .ok (.istore 6, 2) := dq_54 (zby_at (j := 15) zbX12_paste_6 rfl) (zby_at (j := 16) zbX12_paste_6 rfl)
theorem zbX12_paste_7 : zby cX12_paste 112 20 = [6, 21, 6, 21, 5, 162, 0, 30, 42, 180, 0, 86, 21, 6, 42, 180, 0, 82, 16, 60] := by decide +kernel
theorem dX12_paste_113 : decode cX12_paste 113 = .ok (.iload 6, 2) := dq_21 (zby_at (j := 1) zbX12_paste_7 rfl) (zby_at (j := 2) zbX12_paste_7 rfl)
theorem dX12_paste_115 : decode cX12_paste 115 = .ok (.iload 5, 2) := dq_21 (zby_at (j := 3) zbX12_paste_7 rfl) (zby_at (j := 4) zbX12_paste_7 rfl)
theorem dX12_paste_117 : decode cX12_paste 117 = .ok (.if_icmp .ge 30, 3) := dq_162 (zby_at (j := 5) zbX12_paste_7 rfl) (zby_at (j := 6) zbX12_paste_7 rfl) (zby_at (j := 7) zbX12_paste_7 rfl) rfl
theorem dX12_paste_120 : decode cX12_paste 120 = .ok (.aload_n 0, 1) := dq_42 (zby_at (j := 8) zbX12_paste_7 rfl)
theorem dX12_paste_121 : decode cX12_paste 121 = .ok (.getfield 86, 3) := dq_180 (zby_at (j := 9) zbX12_paste_7 rfl) (zby_at (j := 10) zbX12_paste_7 rfl) (zby_at (j := 11) zbX12_paste_7 rfl)
theorem dX12_paste_124 : decode cX12_paste 124 = .ok (.iload 6, 2) := dq_21 (zby_at (j := 12) zbX12_paste_7 rfl) (zby_at (j := 13) zbX12_paste_7 rfl)
theorem dX12_paste_126 : decode cX12_paste 126 = .ok (.aload_n 0, 1) := dq_42 (zby_at (j := 14) zbX12_paste_7 rfl)
theorem dX12_paste_127 : decode cX12_paste 127 = .ok (.getfield 82, 3) := dq_180 (zby_at (j := 15) zbX12_paste_7 rfl) (zby_at (j := 16) zbX12_paste_7 rfl) (zby_at (j := 17) zbX12_paste_7 rfl)
theorem zbX12_paste_8 : zby cX12_paste 128 20 = [0, 82, 16, 60, 27, 104, 28, 96, 21, 6, 96, 47, 80, 132, 6, 1, 167, 255, 225, 3] := by decide +kernel
theorem dX12_paste_130 : decode cX12_paste 130 = .ok (.bipush 60, 2) := dq_16 (zby_at (j := 2) zbX12_paste_8 rfl) (zby_at (j := 3) zbX12_paste_8 rfl) rfl
theorem dX12_paste_132 : decode cX12_paste 132 = .ok (.iload_n 1, 1) := dq_27 (zby_at (j := 4) zbX12_paste_8 rfl)
theorem dX12_paste_133 : decode cX12_paste 133 = .ok (.imul, 1) := dq_104 (zby_at (j := 5) zbX12_paste_8 rfl)
theorem dX12_paste_134 : decode cX12_paste 134 = .ok (.iload_n 2, 1) := dq_28 (zby_at (j := 6) zbX12_paste_8 rfl)
theorem dX12_paste_135 : decode cX12_paste 135 = .ok (.iadd, 1) := dq_96 (zby_at (j := 7) zbX12_paste_8 rfl)
theorem dX12_paste_136 : decode cX12_paste 136 = .ok (.iload 6, 2) := dq_21 (zby_at (j := 8) zbX12_paste_8 rfl) (zby_at (j := 9) zbX12_paste_8 rfl)
theorem dX12_paste_138 : decode cX12_paste 138 = .ok (.iadd, 1) := dq_96 (zby_at (j := 10) zbX12_paste_8 rfl)
theorem dX12_paste_139 : decode cX12_paste 139 = .ok (.laload, 1) := dq_47 (zby_at (j := 11) zbX12_paste_8 rfl)
theorem dX12_paste_140 : decode cX12_paste 140 = .ok (.lastore, 1) := dq_80 (zby_at (j := 12) zbX12_paste_8 rfl)
theorem dX12_paste_141 : decode cX12_paste 141 = .ok (.iinc 6 1, 3) := dq_132 (zby_at (j := 13) zbX12_paste_8 rfl) (zby_at (j := 14) zbX12_paste_8 rfl) (zby_at (j := 15) zbX12_paste_8 rfl) rfl
theorem zbX12_paste_9 : zby cX12_paste 144 20 = [167, 255, 225, 3, 54, 6, 21, 6, 21, 5, 162, 0, 31, 42, 180, 0, 82, 16, 60, 29] := by decide +kernel
theorem dX12_paste_144 : decode cX12_paste 144 = .ok (.goto (-31), 3) := dq_167 (zby_at (j := 0) zbX12_paste_9 rfl) (zby_at (j := 1) zbX12_paste_9 rfl) (zby_at (j := 2) zbX12_paste_9 rfl) rfl
theorem dX12_paste_147 : decode cX12_paste 147 = .ok (.iconst 0, 1) := dq_3 (zby_at (j := 3) zbX12_paste_9 rfl)
theorem dX12_paste_148 : decode cX12_paste 148 = .ok (.istore 6, 2) := dq_54 (zby_at (j := 4) zbX12_paste_9 rfl) (zby_at (j := 5) zbX12_paste_9 rfl)
theorem dX12_paste_150 : decode cX12_paste 150 = .ok (.iload 6, 2) := dq_21 (zby_at (j := 6) zbX12_paste_9 rfl) (zby_at (j := 7) zbX12_paste_9 rfl)
theorem dX12_paste_152 : decode cX12_paste 152 = .ok (.iload 5, 2) := dq_21 (zby_at (j := 8) zbX12_paste_9 rfl) (zby_at (j := 9) zbX12_paste_9 rfl)
theorem dX12_paste_154 : decode cX12_paste 154 = .ok (.if_icmp .ge 31, 3) := dq_162 (zby_at (j := 10) zbX12_paste_9 rfl) (zby_at (j := 11) zbX12_paste_9 rfl) (zby_at (j := 12) zbX12_paste_9 rfl) rfl
theorem dX12_paste_157 : decode cX12_paste 157 = .ok (.aload_n 0, 1) := dq_42 (zby_at (j := 13) zbX12_paste_9 rfl)
theorem dX12_paste_158 : decode cX12_paste 158 = .ok (.getfield 82, 3) := dq_180 (zby_at (j := 14) zbX12_paste_9 rfl) (zby_at (j := 15) zbX12_paste_9 rfl) (zby_at (j := 16) zbX12_paste_9 rfl)
theorem zbX12_paste_10 : zby cX12_paste 160 20 = [82, 16, 60, 29, 104, 21, 4, 96, 21, 6, 96, 42, 180, 0, 86, 21, 6, 47, 80, 132] := by decide +kernel
theorem dX12_paste_161 : decode cX12_paste 161 = .ok (.bipush 60, 2) := dq_16 (zby_at (j := 1) zbX12_paste_10 rfl) (zby_at (j := 2) zbX12_paste_10 rfl) rfl
theorem dX12_paste_163 : decode cX12_paste 163 = .ok (.iload_n 3, 1) := dq_29 (zby_at (j := 3) zbX12_paste_10 rfl)
theorem dX12_paste_164 : decode cX12_paste 164 = .ok (.imul, 1) := dq_104 (zby_at (j := 4) zbX12_paste_10 rfl)
theorem dX12_paste_165 : decode cX12_paste 165 = .ok (.iload 4, 2) := dq_21 (zby_at (j := 5) zbX12_paste_10 rfl) (zby_at (j := 6) zbX12_paste_10 rfl)
theorem dX12_paste_167 : decode cX12_paste 167 = .ok (.iadd, 1) := dq_96 (zby_at (j := 7) zbX12_paste_10 rfl)
theorem dX12_paste_168 : decode cX12_paste 168 = .ok (.iload 6, 2) := dq_21 (zby_at (j := 8) zbX12_paste_10 rfl) (zby_at (j := 9) zbX12_paste_10 rfl)
theorem dX12_paste_170 : decode cX12_paste 170 = .ok (.iadd, 1) := dq_96 (zby_at (j := 10) zbX12_paste_10 rfl)
theorem dX12_paste_171 : decode cX12_paste 171 = .ok (.aload_n 0, 1) := dq_42 (zby_at (j := 11) zbX12_paste_10 rfl)
theorem dX12_paste_172 : decode cX12_paste 172 = .ok (.getfield 86, 3) := dq_180 (zby_at (j := 12) zbX12_paste_10 rfl) (zby_at (j := 13) zbX12_paste_10 rfl) (zby_at (j := 14) zbX12_paste_10 rfl)
theorem dX12_paste_175 : decode cX12_paste 175 = .ok (.iload 6, 2) := dq_21 (zby_at (j := 15) zbX12_paste_10 rfl) (zby_at (j := 16) zbX12_paste_10 rfl)
theorem zbX12_paste_11 : zby cX12_paste 176 20 = [6, 47, 80, 132, 6, 1, 167, 255, 224, 3, 172] := by decide +kernel
theorem dX12_paste_177 : decode cX12_paste 177 = .ok (.laload, 1) := dq_47 (zby_at (j := 1) zbX12_paste_11 rfl)
theorem dX12_paste_178 : decode cX12_paste 178 = .ok (.lastore, 1) := dq_80 (zby_at (j := 2) zbX12_paste_11 rfl)
theorem dX12_paste_179 : decode cX12_paste 179 = .ok (.iinc 6 1, 3) := dq_132 (zby_at (j := 3) zbX12_paste_11 rfl) (zby_at (j := 4) zbX12_paste_11 rfl) (zby_at (j := 5) zbX12_paste_11 rfl) rfl
theorem dX12_paste_182 : decode cX12_paste 182 = .ok (.goto (-32), 3) := dq_167 (zby_at (j := 6) zbX12_paste_11 rfl) (zby_at (j := 7) zbX12_paste_11 rfl) (zby_at (j := 8) zbX12_paste_11 rfl) rfl
theorem dX12_paste_185 : decode cX12_paste 185 = .ok (.iconst 0, 1) := dq_3 (zby_at (j := 9) zbX12_paste_11 rfl)
theorem dX12_paste_186 : decode cX12_paste 186 = .ok (.ireturn, 1) := dq_172 (zby_at (j := 10) zbX12_paste_11 rfl)
theorem zbJ6_numberOfTrailingZeros_0f7a4_0 : zby cJ6_numberOfTrailingZeros_0f7a4 0 20 = [26, 2, 130, 26, 4, 100, 126, 59, 26, 157, 0, 8, 26, 16, 32, 126, 172, 4, 60, 26] := by decide +kernel
theorem dJ6_numberOfTrailingZeros_0f7a4_0 : decode cJ6_numberOfTrailingZeros_0f7a4 0 = .ok (.iload_n 0, 1) := dq_26 (zby_at (j := 0) zbJ6_numberOfTrailingZeros_0f7a4_0 rfl)
theorem dJ6_numberOfTrailingZeros_0f7a4_1 : decode cJ6_numberOfTrailingZeros_0f7a4 1 = .ok (.iconst (-1), 1) := dq_2 (zby_at (j := 1) zbJ6_numberOfTrailingZeros_0f7a4_0 rfl)
theorem dJ6_numberOfTrailingZeros_0f7a4_2 : decode cJ6_numberOfTrailingZeros_0f7a4 2 = .ok (.ixor, 1) := dq_130 (zby_at (j := 2) zbJ6_numberOfTrailingZeros_0f7a4_0 rfl)
theorem dJ6_numberOfTrailingZeros_0f7a4_3 : decode cJ6_numberOfTrailingZeros_0f7a4 3 = .ok (.iload_n 0, 1) := dq_26 (zby_at (j := 3) zbJ6_numberOfTrailingZeros_0f7a4_0 rfl)
theorem dJ6_numberOfTrailingZeros_0f7a4_4 : decode cJ6_numberOfTrailingZeros_0f7a4 4 = .ok (.iconst 1, 1) := dq_4 (zby_at (j := 4) zbJ6_numberOfTrailingZeros_0f7a4_0 rfl)
theorem dJ6_numberOfTrailingZeros_0f7a4_5 : decode cJ6_numberOfTrailingZeros_0f7a4 5 = .ok (.isub, 1) := dq_100 (zby_at (j := 5) zbJ6_numberOfTrailingZeros_0f7a4_0 rfl)
theorem dJ6_numberOfTrailingZeros_0f7a4_6 : decode cJ6_numberOfTrailingZeros_0f7a4 6 = .ok (.iand, 1) := dq_126 (zby_at (j := 6) zbJ6_numberOfTrailingZeros_0f7a4_0 rfl)
theorem dJ6_numberOfTrailingZeros_0f7a4_7 : decode cJ6_numberOfTrailingZeros_0f7a4 7 = .ok (.istore_n 0, 1) := dq_59 (zby_at (j := 7) zbJ6_numberOfTrailingZeros_0f7a4_0 rfl)
theorem dJ6_numberOfTrailingZeros_0f7a4_8 : decode cJ6_numberOfTrailingZeros_0f7a4 8 = .ok (.iload_n 0, 1) := dq_26 (zby_at (j := 8) zbJ6_numberOfTrailingZeros_0f7a4_0 rfl)
theorem dJ6_numberOfTrailingZeros_0f7a4_9 : decode cJ6_numberOfTrailingZeros_0f7a4 9 = .ok (.ifCond .gt 8, 3) := dq_157 (zby_at (j := 9) zbJ6_numberOfTrailingZeros_0f7a4_0 rfl) (zby_at (j := 10) zbJ6_numberOfTrailingZeros_0f7a4_0 rfl) (zby_at (j := 11) zbJ6_numberOfTrailingZeros_0f7a4_0 rfl) rfl
theorem dJ6_numberOfTrailingZeros_0f7a4_12 : decode cJ6_numberOfTrailingZeros_0f7a4 12 = .ok (.iload_n 0, 1) := dq_26 (zby_at (j := 12) zbJ6_numberOfTrailingZeros_0f7a4_0 rfl)
theorem dJ6_numberOfTrailingZeros_0f7a4_13 : decode cJ6_numberOfTrailingZeros_0f7a4 13 = .ok (.bipush 32, 2) := dq_16 (zby_at (j := 13) zbJ6_numberOfTrailingZeros_0f7a4_0 rfl) (zby_at (j := 14) zbJ6_numberOfTrailingZeros_0f7a4_0 rfl) rfl
theorem dJ6_numberOfTrailingZeros_0f7a4_15 : decode cJ6_numberOfTrailingZeros_0f7a4 15 = .ok (.iand, 1) := dq_126 (zby_at (j := 15) zbJ6_numberOfTrailingZeros_0f7a4_0 rfl)
theorem zbJ6_numberOfTrailingZeros_0f7a4_1 : zby cJ6_numberOfTrailingZeros_0f7a4 16 20 = [172, 4, 60, 26, 19, 1, 8, 164, 0, 11, 132, 1, 16, 26, 16, 16, 124, 59, 26, 17] := by decide +kernel
theorem dJ6_numberOfTrailingZeros_0f7a4_16 : decode cJ6_numberOfTrailingZeros_0f7a4 16 = .ok (.ireturn, 1) := dq_172 (zby_at (j := 0) zbJ6_numberOfTrailingZeros_0f7a4_1 rfl)
theorem dJ6_numberOfTrailingZeros_0f7a4_17 : decode cJ6_numberOfTrailingZeros_0f7a4 17 = .ok (.iconst 1, 1) := dq_4 (zby_at (j := 1) zbJ6_numberOfTrailingZeros_0f7a4_1 rfl)
theorem dJ6_numberOfTrailingZeros_0f7a4_18 : decode cJ6_numberOfTrailingZeros_0f7a4 18 = .ok (.istore_n 1, 1) := dq_60 (zby_at (j := 2) zbJ6_numberOfTrailingZeros_0f7a4_1 rfl)
theorem dJ6_numberOfTrailingZeros_0f7a4_19 : decode cJ6_numberOfTrailingZeros_0f7a4 19 = .ok (.iload_n 0, 1) := dq_26 (zby_at (j := 3) zbJ6_numberOfTrailingZeros_0f7a4_1 rfl)
theorem dJ6_numberOfTrailingZeros_0f7a4_20 : decode cJ6_numberOfTrailingZeros_0f7a4 20 = .ok (.ldc_w 264, 3) := dq_19 (zby_at (j := 4) zbJ6_numberOfTrailingZeros_0f7a4_1 rfl) (zby_at (j := 5) zbJ6_numberOfTrailingZeros_0f7a4_1 rfl) (zby_at (j := 6) zbJ6_numberOfTrailingZeros_0f7a4_1 rfl)
theorem dJ6_numberOfTrailingZeros_0f7a4_23 : decode cJ6_numberOfTrailingZeros_0f7a4 23 = .ok (.if_icmp .le 11, 3) := dq_164 (zby_at (j := 7) zbJ6_numberOfTrailingZeros_0f7a4_1 rfl) (zby_at (j := 8) zbJ6_numberOfTrailingZeros_0f7a4_1 rfl) (zby_at (j := 9) zbJ6_numberOfTrailingZeros_0f7a4_1 rfl) rfl
theorem dJ6_numberOfTrailingZeros_0f7a4_26 : decode cJ6_numberOfTrailingZeros_0f7a4 26 = .ok (.iinc 1 16, 3) := dq_132 (zby_at (j := 10) zbJ6_numberOfTrailingZeros_0f7a4_1 rfl) (zby_at (j := 11) zbJ6_numberOfTrailingZeros_0f7a4_1 rfl) (zby_at (j := 12) zbJ6_numberOfTrailingZeros_0f7a4_1 rfl) rfl
theorem dJ6_numberOfTrailingZeros_0f7a4_29 : decode cJ6_numberOfTrailingZeros_0f7a4 29 = .ok (.iload_n 0, 1) := dq_26 (zby_at (j := 13) zbJ6_numberOfTrailingZeros_0f7a4_1 rfl)
theorem dJ6_numberOfTrailingZeros_0f7a4_30 : decode cJ6_numberOfTrailingZeros_0f7a4 30 = .ok (.bipush 16, 2) := dq_16 (zby_at (j := 14) zbJ6_numberOfTrailingZeros_0f7a4_1 rfl) (zby_at (j := 15) zbJ6_numberOfTrailingZeros_0f7a4_1 rfl) rfl
theorem zbJ6_numberOfTrailingZeros_0f7a4_2 : zby cJ6_numberOfTrailingZeros_0f7a4 32 20 = [124, 59, 26, 17, 1, 0, 164, 0, 11, 132, 1, 8, 26, 16, 8, 124, 59, 26, 16, 16] := by decide +kernel
theorem dJ6_numberOfTrailingZeros_0f7a4_32 : decode cJ6_numberOfTrailingZeros_0f7a4 32 = .ok (.iushr, 1) := dq_124 (zby_at (j := 0) zbJ6_numberOfTrailingZeros_0f7a4_2 rfl)
theorem dJ6_numberOfTrailingZeros_0f7a4_33 : decode cJ6_numberOfTrailingZeros_0f7a4 33 = .ok (.istore_n 0, 1) := dq_59 (zby_at (j := 1) zbJ6_numberOfTrailingZeros_0f7a4_2 rfl)
theorem dJ6_numberOfTrailingZeros_0f7a4_34 : decode cJ6_numberOfTrailingZeros_0f7a4 34 = .ok (.iload_n 0, 1) := dq_26 (zby_at (j := 2) zbJ6_numberOfTrailingZeros_0f7a4_2 rfl)
theorem dJ6_numberOfTrailingZeros_0f7a4_35 : decode cJ6_numberOfTrailingZeros_0f7a4 35 = .ok (.sipush 256, 3) := dq_17 (zby_at (j := 3) zbJ6_numberOfTrailingZeros_0f7a4_2 rfl) (zby_at (j := 4) zbJ6_numberOfTrailingZeros_0f7a4_2 rfl) (zby_at (j := 5) zbJ6_numberOfTrailingZeros_0f7a4_2 rfl) rfl
theorem dJ6_numberOfTrailingZeros_0f7a4_38 : decode cJ6_numberOfTrailingZeros_0f7a4 38 = .ok (.if_icmp .le 11, 3) := dq_164 (zby_at (j := 6) zbJ6_numberOfTrailingZeros_0f7a4_2 rfl) (zby_at (j := 7) zbJ6_numberOfTrailingZeros_0f7a4_2 rfl) (zby_at (j := 8) zbJ6_numberOfTrailingZeros_0f7a4_2 rfl) rfl
theorem dJ6_numberOfTrailingZeros_0f7a4_41 : decode cJ6_numberOfTrailingZeros_0f7a4 41 = .ok (.iinc 1 8, 3) := dq_132 (zby_at (j := 9) zbJ6_numberOfTrailingZeros_0f7a4_2 rfl) (zby_at (j := 10) zbJ6_numberOfTrailingZeros_0f7a4_2 rfl) (zby_at (j := 11) zbJ6_numberOfTrailingZeros_0f7a4_2 rfl) rfl
theorem dJ6_numberOfTrailingZeros_0f7a4_44 : decode cJ6_numberOfTrailingZeros_0f7a4 44 = .ok (.iload_n 0, 1) := dq_26 (zby_at (j := 12) zbJ6_numberOfTrailingZeros_0f7a4_2 rfl)
theorem dJ6_numberOfTrailingZeros_0f7a4_45 : decode cJ6_numberOfTrailingZeros_0f7a4 45 = .ok (.bipush 8, 2) := dq_16 (zby_at (j := 13) zbJ6_numberOfTrailingZeros_0f7a4_2 rfl) (zby_at (j := 14) zbJ6_numberOfTrailingZeros_0f7a4_2 rfl) rfl
theorem dJ6_numberOfTrailingZeros_0f7a4_47 : decode cJ6_numberOfTrailingZeros_0f7a4 47 = .ok (.iushr, 1) := dq_124 (zby_at (j := 15) zbJ6_numberOfTrailingZeros_0f7a4_2 rfl)
theorem zbJ6_numberOfTrailingZeros_0f7a4_3 : zby cJ6_numberOfTrailingZeros_0f7a4 48 20 = [59, 26, 16, 16, 164, 0, 10, 132, 1, 4, 26, 7, 124, 59, 26, 7, 164, 0, 10, 132] := by decide +kernel
theorem dJ6_numberOfTrailingZeros_0f7a4_48 : decode cJ6_numberOfTrailingZeros_0f7a4 48 = .ok (.istore_n 0, 1) := dq_59 (zby_at (j := 0) zbJ6_numberOfTrailingZeros_0f7a4_3 rfl)
theorem dJ6_numberOfTrailingZeros_0f7a4_49 : decode cJ6_numberOfTrailingZeros_0f7a4 49 = .ok (.iload_n 0, 1) := dq_26 (zby_at (j := 1) zbJ6_numberOfTrailingZeros_0f7a4_3 rfl)
theorem dJ6_numberOfTrailingZeros_0f7a4_50 : decode cJ6_numberOfTrailingZeros_0f7a4 50 = .ok (.bipush 16, 2) := dq_16 (zby_at (j := 2) zbJ6_numberOfTrailingZeros_0f7a4_3 rfl) (zby_at (j := 3) zbJ6_numberOfTrailingZeros_0f7a4_3 rfl) rfl
theorem dJ6_numberOfTrailingZeros_0f7a4_52 : decode cJ6_numberOfTrailingZeros_0f7a4 52 = .ok (.if_icmp .le 10, 3) := dq_164 (zby_at (j := 4) zbJ6_numberOfTrailingZeros_0f7a4_3 rfl) (zby_at (j := 5) zbJ6_numberOfTrailingZeros_0f7a4_3 rfl) (zby_at (j := 6) zbJ6_numberOfTrailingZeros_0f7a4_3 rfl) rfl
theorem dJ6_numberOfTrailingZeros_0f7a4_55 : decode cJ6_numberOfTrailingZeros_0f7a4 55 = .ok (.iinc 1 4, 3) := dq_132 (zby_at (j := 7) zbJ6_numberOfTrailingZeros_0f7a4_3 rfl) (zby_at (j := 8) zbJ6_numberOfTrailingZeros_0f7a4_3 rfl) (zby_at (j := 9) zbJ6_numberOfTrailingZeros_0f7a4_3 rfl) rfl
theorem dJ6_numberOfTrailingZeros_0f7a4_58 : decode cJ6_numberOfTrailingZeros_0f7a4 58 = .ok (.iload_n 0, 1) := dq_26 (zby_at (j := 10) zbJ6_numberOfTrailingZeros_0f7a4_3 rfl)
theorem dJ6_numberOfTrailingZeros_0f7a4_59 : decode cJ6_numberOfTrailingZeros_0f7a4 59 = .ok (.iconst 4, 1) := dq_7 (zby_at (j := 11) zbJ6_numberOfTrailingZeros_0f7a4_3 rfl)
theorem dJ6_numberOfTrailingZeros_0f7a4_60 : decode cJ6_numberOfTrailingZeros_0f7a4 60 = .ok (.iushr, 1) := dq_124 (zby_at (j := 12) zbJ6_numberOfTrailingZeros_0f7a4_3 rfl)
theorem dJ6_numberOfTrailingZeros_0f7a4_61 : decode cJ6_numberOfTrailingZeros_0f7a4 61 = .ok (.istore_n 0, 1) := dq_59 (zby_at (j := 13) zbJ6_numberOfTrailingZeros_0f7a4_3 rfl)
theorem dJ6_numberOfTrailingZeros_0f7a4_62 : decode cJ6_numberOfTrailingZeros_0f7a4 62 = .ok (.iload_n 0, 1) := dq_26 (zby_at (j := 14) zbJ6_numberOfTrailingZeros_0f7a4_3 rfl)
theorem dJ6_numberOfTrailingZeros_0f7a4_63 : decode cJ6_numberOfTrailingZeros_0f7a4 63 = .ok (.iconst 4, 1) := dq_7 (zby_at (j := 15) zbJ6_numberOfTrailingZeros_0f7a4_3 rfl)
theorem zbJ6_numberOfTrailingZeros_0f7a4_4 : zby cJ6_numberOfTrailingZeros_0f7a4 64 20 = [164, 0, 10, 132, 1, 2, 26, 5, 124, 59, 27, 26, 4, 124, 96, 172] := by decide +kernel
theorem dJ6_numberOfTrailingZeros_0f7a4_64 : decode cJ6_numberOfTrailingZeros_0f7a4 64 = .ok (.if_icmp .le 10, 3) := dq_164 (zby_at (j := 0) zbJ6_numberOfTrailingZeros_0f7a4_4 rfl) (zby_at (j := 1) zbJ6_numberOfTrailingZeros_0f7a4_4 rfl) (zby_at (j := 2) zbJ6_numberOfTrailingZeros_0f7a4_4 rfl) rfl
theorem dJ6_numberOfTrailingZeros_0f7a4_67 : decode cJ6_numberOfTrailingZeros_0f7a4 67 = .ok (.iinc 1 2, 3) := dq_132 (zby_at (j := 3) zbJ6_numberOfTrailingZeros_0f7a4_4 rfl) (zby_at (j := 4) zbJ6_numberOfTrailingZeros_0f7a4_4 rfl) (zby_at (j := 5) zbJ6_numberOfTrailingZeros_0f7a4_4 rfl) rfl
theorem dJ6_numberOfTrailingZeros_0f7a4_70 : decode cJ6_numberOfTrailingZeros_0f7a4 70 = .ok (.iload_n 0, 1) := dq_26 (zby_at (j := 6) zbJ6_numberOfTrailingZeros_0f7a4_4 rfl)
theorem dJ6_numberOfTrailingZeros_0f7a4_71 : decode cJ6_numberOfTrailingZeros_0f7a4 71 = .ok (.iconst 2, 1) := dq_5 (zby_at (j := 7) zbJ6_numberOfTrailingZeros_0f7a4_4 rfl)
theorem dJ6_numberOfTrailingZeros_0f7a4_72 : decode cJ6_numberOfTrailingZeros_0f7a4 72 = .ok (.iushr, 1) := dq_124 (zby_at (j := 8) zbJ6_numberOfTrailingZeros_0f7a4_4 rfl)
theorem dJ6_numberOfTrailingZeros_0f7a4_73 : decode cJ6_numberOfTrailingZeros_0f7a4 73 = .ok (.istore_n 0, 1) := dq_59 (zby_at (j := 9) zbJ6_numberOfTrailingZeros_0f7a4_4 rfl)
theorem dJ6_numberOfTrailingZeros_0f7a4_74 : decode cJ6_numberOfTrailingZeros_0f7a4 74 = .ok (.iload_n 1, 1) := dq_27 (zby_at (j := 10) zbJ6_numberOfTrailingZeros_0f7a4_4 rfl)
theorem dJ6_numberOfTrailingZeros_0f7a4_75 : decode cJ6_numberOfTrailingZeros_0f7a4 75 = .ok (.iload_n 0, 1) := dq_26 (zby_at (j := 11) zbJ6_numberOfTrailingZeros_0f7a4_4 rfl)
theorem dJ6_numberOfTrailingZeros_0f7a4_76 : decode cJ6_numberOfTrailingZeros_0f7a4 76 = .ok (.iconst 1, 1) := dq_4 (zby_at (j := 12) zbJ6_numberOfTrailingZeros_0f7a4_4 rfl)
theorem dJ6_numberOfTrailingZeros_0f7a4_77 : decode cJ6_numberOfTrailingZeros_0f7a4 77 = .ok (.iushr, 1) := dq_124 (zby_at (j := 13) zbJ6_numberOfTrailingZeros_0f7a4_4 rfl)
theorem dJ6_numberOfTrailingZeros_0f7a4_78 : decode cJ6_numberOfTrailingZeros_0f7a4 78 = .ok (.iadd, 1) := dq_96 (zby_at (j := 14) zbJ6_numberOfTrailingZeros_0f7a4_4 rfl)
theorem dJ6_numberOfTrailingZeros_0f7a4_79 : decode cJ6_numberOfTrailingZeros_0f7a4 79 = .ok (.ireturn, 1) := dq_172 (zby_at (j := 15) zbJ6_numberOfTrailingZeros_0f7a4_4 rfl)
theorem zbJ6_bitCount_0f7a4_0 : zby cJ6_bitCount_0f7a4 0 20 = [26, 26, 4, 124, 19, 1, 9, 126, 100, 59, 26, 19, 1, 10, 126, 26, 5, 124, 19, 1] := by decide +kernel
theorem dJ6_bitCount_0f7a4_0 : decode cJ6_bitCount_0f7a4 0 = .ok (.iload_n 0, 1) := dq_26 (zby_at (j := 0) zbJ6_bitCount_0f7a4_0 rfl)
theorem dJ6_bitCount_0f7a4_1 : decode cJ6_bitCount_0f7a4 1 = .ok (.iload_n 0, 1) := dq_26 (zby_at (j := 1) zbJ6_bitCount_0f7a4_0 rfl)
theorem dJ6_bitCount_0f7a4_2 : decode cJ6_bitCount_0f7a4 2 = .ok (.iconst 1, 1) := dq_4 (zby_at (j := 2) zbJ6_bitCount_0f7a4_0 rfl)
theorem dJ6_bitCount_0f7a4_3 : decode cJ6_bitCount_0f7a4 3 = .ok (.iushr, 1) := dq_124 (zby_at (j := 3) zbJ6_bitCount_0f7a4_0 rfl)
theorem dJ6_bitCount_0f7a4_4 : decode cJ6_bitCount_0f7a4 4 = .ok (.ldc_w 265, 3) := dq_19 (zby_at (j := 4) zbJ6_bitCount_0f7a4_0 rfl) (zby_at (j := 5) zbJ6_bitCount_0f7a4_0 rfl) (zby_at (j := 6) zbJ6_bitCount_0f7a4_0 rfl)
theorem dJ6_bitCount_0f7a4_7 : decode cJ6_bitCount_0f7a4 7 = .ok (.iand, 1) := dq_126 (zby_at (j := 7) zbJ6_bitCount_0f7a4_0 rfl)
theorem dJ6_bitCount_0f7a4_8 : decode cJ6_bitCount_0f7a4 8 = .ok (.isub, 1) := dq_100 (zby_at (j := 8) zbJ6_bitCount_0f7a4_0 rfl)
theorem dJ6_bitCount_0f7a4_9 : decode cJ6_bitCount_0f7a4 9 = .ok (.istore_n 0, 1) := dq_59 (zby_at (j := 9) zbJ6_bitCount_0f7a4_0 rfl)
theorem dJ6_bitCount_0f7a4_10 : decode cJ6_bitCount_0f7a4 10 = .ok (.iload_n 0, 1) := dq_26 (zby_at (j := 10) zbJ6_bitCount_0f7a4_0 rfl)
theorem dJ6_bitCount_0f7a4_11 : decode cJ6_bitCount_0f7a4 11 = .ok (.ldc_w 266, 3) := dq_19 (zby_at (j := 11) zbJ6_bitCount_0f7a4_0 rfl) (zby_at (j := 12) zbJ6_bitCount_0f7a4_0 rfl) (zby_at (j := 13) zbJ6_bitCount_0f7a4_0 rfl)
theorem dJ6_bitCount_0f7a4_14 : decode cJ6_bitCount_0f7a4 14 = .ok (.iand, 1) := dq_126 (zby_at (j := 14) zbJ6_bitCount_0f7a4_0 rfl)
theorem dJ6_bitCount_0f7a4_15 : decode cJ6_bitCount_0f7a4 15 = .ok (.iload_n 0, 1) := dq_26 (zby_at (j := 15) zbJ6_bitCount_0f7a4_0 rfl)
theorem zbJ6_bitCount_0f7a4_1 : zby cJ6_bitCount_0f7a4 16 20 = [5, 124, 19, 1, 10, 126, 96, 59, 26, 26, 7, 124, 96, 19, 1, 11, 126, 59, 26, 26] := by decide +kernel
theorem dJ6_bitCount_0f7a4_16 : decode cJ6_bitCount_0f7a4 16 = .ok (.iconst 2, 1) := dq_5 (zby_at (j := 0) zbJ6_bitCount_0f7a4_1 rfl)
theorem dJ6_bitCount_0f7a4_17 : decode cJ6_bitCount_0f7a4 17 = .ok (.iushr, 1) := dq_124 (zby_at (j := 1) zbJ6_bitCount_0f7a4_1 rfl)
theorem dJ6_bitCount_0f7a4_18 : decode cJ6_bitCount_0f7a4 18 = .ok (.ldc_w 266, 3) := dq_19 (zby_at (j := 2) zbJ6_bitCount_0f7a4_1 rfl) (zby_at (j := 3) zbJ6_bitCount_0f7a4_1 rfl) (zby_at (j := 4) zbJ6_bitCount_0f7a4_1 rfl)
theorem dJ6_bitCount_0f7a4_21 : decode cJ6_bitCount_0f7a4 21 = .ok (.iand, 1) := dq_126 (zby_at (j := 5) zbJ6_bitCount_0f7a4_1 rfl)
theorem dJ6_bitCount_0f7a4_22 : decode cJ6_bitCount_0f7a4 22 = .ok (.iadd, 1) := dq_96 (zby_at (j := 6) zbJ6_bitCount_0f7a4_1 rfl)
theorem dJ6_bitCount_0f7a4_23 : decode cJ6_bitCount_0f7a4 23 = .ok (.istore_n 0, 1) := dq_59 (zby_at (j := 7) zbJ6_bitCount_0f7a4_1 rfl)
theorem dJ6_bitCount_0f7a4_24 : decode cJ6_bitCount_0f7a4 24 = .ok (.iload_n 0, 1) := dq_26 (zby_at (j := 8) zbJ6_bitCount_0f7a4_1 rfl)
theorem dJ6_bitCount_0f7a4_25 : decode cJ6_bitCount_0f7a4 25 = .ok (.iload_n 0, 1) := dq_26 (zby_at (j := 9) zbJ6_bitCount_0f7a4_1 rfl)
theorem dJ6_bitCount_0f7a4_26 : decode cJ6_bitCount_0f7a4 26 = .ok (.iconst 4, 1) := dq_7 (zby_at (j := 10) zbJ6_bitCount_0f7a4_1 rfl)
theorem dJ6_bitCount_0f7a4_27 : decode cJ6_bitCount_0f7a4 27 = .ok (.iushr, 1) := dq_124 (zby_at (j := 11) zbJ6_bitCount_0f7a4_1 rfl)
theorem dJ6_bitCount_0f7a4_28 : decode cJ6_bitCount_0f7a4 28 = .ok (.iadd, 1) := dq_96 (zby_at (j := 12) zbJ6_bitCount_0f7a4_1 rfl)
theorem dJ6_bitCount_0f7a4_29 : decode cJ6_bitCount_0f7a4 29 = .ok (.ldc_w 267, 3) := dq_19 (zby_at (j := 13) zbJ6_bitCount_0f7a4_1 rfl) (zby_at (j := 14) zbJ6_bitCount_0f7a4_1 rfl) (zby_at (j := 15) zbJ6_bitCount_0f7a4_1 rfl)
theorem zbJ6_bitCount_0f7a4_2 : zby cJ6_bitCount_0f7a4 32 20 = [126, 59, 26, 26, 16, 8, 124, 96, 59, 26, 26, 16, 16, 124, 96, 59, 26, 16, 63, 126] := by decide +kernel
theorem dJ6_bitCount_0f7a4_32 : decode cJ6_bitCount_0f7a4 32 = .ok (.iand, 1) := dq_126 (zby_at (j := 0) zbJ6_bitCount_0f7a4_2 rfl)
theorem dJ6_bitCount_0f7a4_33 : decode cJ6_bitCount_0f7a4 33 = .ok (.istore_n 0, 1) := dq_59 (zby_at (j := 1) zbJ6_bitCount_0f7a4_2 rfl)
theorem dJ6_bitCount_0f7a4_34 : decode cJ6_bitCount_0f7a4 34 = .ok (.iload_n 0, 1) := dq_26 (zby_at (j := 2) zbJ6_bitCount_0f7a4_2 rfl)
theorem dJ6_bitCount_0f7a4_35 : decode cJ6_bitCount_0f7a4 35 = .ok (.iload_n 0, 1) := dq_26 (zby_at (j := 3) zbJ6_bitCount_0f7a4_2 rfl)
theorem dJ6_bitCount_0f7a4_36 : decode cJ6_bitCount_0f7a4 36 = .ok (.bipush 8, 2) := dq_16 (zby_at (j := 4) zbJ6_bitCount_0f7a4_2 rfl) (zby_at (j := 5) zbJ6_bitCount_0f7a4_2 rfl) rfl
theorem dJ6_bitCount_0f7a4_38 : decode cJ6_bitCount_0f7a4 38 = .ok (.iushr, 1) := dq_124 (zby_at (j := 6) zbJ6_bitCount_0f7a4_2 rfl)
theorem dJ6_bitCount_0f7a4_39 : decode cJ6_bitCount_0f7a4 39 = .ok (.iadd, 1) := dq_96 (zby_at (j := 7) zbJ6_bitCount_0f7a4_2 rfl)
theorem dJ6_bitCount_0f7a4_40 : decode cJ6_bitCount_0f7a4 40 = .ok (.istore_n 0, 1) := dq_59 (zby_at (j := 8) zbJ6_bitCount_0f7a4_2 rfl)
theorem dJ6_bitCount_0f7a4_41 : decode cJ6_bitCount_0f7a4 41 = .ok (.iload_n 0, 1) := dq_26 (zby_at (j := 9) zbJ6_bitCount_0f7a4_2 rfl)
theorem dJ6_bitCount_0f7a4_42 : decode cJ6_bitCount_0f7a4 42 = .ok (.iload_n 0, 1) := dq_26 (zby_at (j := 10) zbJ6_bitCount_0f7a4_2 rfl)
theorem dJ6_bitCount_0f7a4_43 : decode cJ6_bitCount_0f7a4 43 = .ok (.bipush 16, 2) := dq_16 (zby_at (j := 11) zbJ6_bitCount_0f7a4_2 rfl) (zby_at (j := 12) zbJ6_bitCount_0f7a4_2 rfl) rfl
theorem dJ6_bitCount_0f7a4_45 : decode cJ6_bitCount_0f7a4 45 = .ok (.iushr, 1) := dq_124 (zby_at (j := 13) zbJ6_bitCount_0f7a4_2 rfl)
theorem dJ6_bitCount_0f7a4_46 : decode cJ6_bitCount_0f7a4 46 = .ok (.iadd, 1) := dq_96 (zby_at (j := 14) zbJ6_bitCount_0f7a4_2 rfl)
theorem dJ6_bitCount_0f7a4_47 : decode cJ6_bitCount_0f7a4 47 = .ok (.istore_n 0, 1) := dq_59 (zby_at (j := 15) zbJ6_bitCount_0f7a4_2 rfl)
theorem zbJ6_bitCount_0f7a4_3 : zby cJ6_bitCount_0f7a4 48 20 = [26, 16, 63, 126, 172] := by decide +kernel
theorem dJ6_bitCount_0f7a4_48 : decode cJ6_bitCount_0f7a4 48 = .ok (.iload_n 0, 1) := dq_26 (zby_at (j := 0) zbJ6_bitCount_0f7a4_3 rfl)
theorem dJ6_bitCount_0f7a4_49 : decode cJ6_bitCount_0f7a4 49 = .ok (.bipush 63, 2) := dq_16 (zby_at (j := 1) zbJ6_bitCount_0f7a4_3 rfl) (zby_at (j := 2) zbJ6_bitCount_0f7a4_3 rfl) rfl
theorem dJ6_bitCount_0f7a4_51 : decode cJ6_bitCount_0f7a4 51 = .ok (.iand, 1) := dq_126 (zby_at (j := 3) zbJ6_bitCount_0f7a4_3 rfl)
theorem dJ6_bitCount_0f7a4_52 : decode cJ6_bitCount_0f7a4 52 = .ok (.ireturn, 1) := dq_172 (zby_at (j := 4) zbJ6_bitCount_0f7a4_3 rfl)
theorem zbJ13_numberOfTrailingZeros_95d88_0 : zby cJ13_numberOfTrailingZeros_95d88 0 20 = [30, 136, 61, 28, 154, 0, 17, 16, 32, 30, 16, 32, 125, 136, 184, 1, 55, 96, 167, 0] := by decide +kernel
theorem dJ13_numberOfTrailingZeros_95d88_0 : decode cJ13_numberOfTrailingZeros_95d88 0 = .ok (.lload_n 0, 1) := dq_30 (zby_at (j := 0) zbJ13_numberOfTrailingZeros_95d88_0 rfl)
theorem dJ13_numberOfTrailingZeros_95d88_1 : decode cJ13_numberOfTrailingZeros_95d88 1 = .ok (.l2i, 1) := dq_136 (zby_at (j := 1) zbJ13_numberOfTrailingZeros_95d88_0 rfl)
theorem dJ13_numberOfTrailingZeros_95d88_2 : decode cJ13_numberOfTrailingZeros_95d88 2 = .ok (.istore_n 2, 1) := dq_61 (zby_at (j := 2) zbJ13_numberOfTrailingZeros_95d88_0 rfl)
theorem dJ13_numberOfTrailingZeros_95d88_3 : decode cJ13_numberOfTrailingZeros_95d88 3 = .ok (.iload_n 2, 1) := dq_28 (zby_at (j := 3) zbJ13_numberOfTrailingZeros_95d88_0 rfl)
theorem dJ13_numberOfTrailingZeros_95d88_4 : decode cJ13_numberOfTrailingZeros_95d88 4 = .ok (.ifCond .ne 17, 3) := dq_154 (zby_at (j := 4) zbJ13_numberOfTrailingZeros_95d88_0 rfl) (zby_at (j := 5) zbJ13_numberOfTrailingZeros_95d88_0 rfl) (zby_at (j := 6) zbJ13_numberOfTrailingZeros_95d88_0 rfl) rfl
theorem dJ13_numberOfTrailingZeros_95d88_7 : decode cJ13_numberOfTrailingZeros_95d88 7 = .ok (.bipush 32, 2) := dq_16 (zby_at (j := 7) zbJ13_numberOfTrailingZeros_95d88_0 rfl) (zby_at (j := 8) zbJ13_numberOfTrailingZeros_95d88_0 rfl) rfl
theorem dJ13_numberOfTrailingZeros_95d88_9 : decode cJ13_numberOfTrailingZeros_95d88 9 = .ok (.lload_n 0, 1) := dq_30 (zby_at (j := 9) zbJ13_numberOfTrailingZeros_95d88_0 rfl)
theorem dJ13_numberOfTrailingZeros_95d88_10 : decode cJ13_numberOfTrailingZeros_95d88 10 = .ok (.bipush 32, 2) := dq_16 (zby_at (j := 10) zbJ13_numberOfTrailingZeros_95d88_0 rfl) (zby_at (j := 11) zbJ13_numberOfTrailingZeros_95d88_0 rfl) rfl
theorem dJ13_numberOfTrailingZeros_95d88_12 : decode cJ13_numberOfTrailingZeros_95d88 12 = .ok (.lushr, 1) := dq_125 (zby_at (j := 12) zbJ13_numberOfTrailingZeros_95d88_0 rfl)
theorem dJ13_numberOfTrailingZeros_95d88_13 : decode cJ13_numberOfTrailingZeros_95d88 13 = .ok (.l2i, 1) := dq_136 (zby_at (j := 13) zbJ13_numberOfTrailingZeros_95d88_0 rfl)
theorem dJ13_numberOfTrailingZeros_95d88_14 : decode cJ13_numberOfTrailingZeros_95d88 14 = .ok (.invokestatic 311, 3) := dq_184 (zby_at (j := 14) zbJ13_numberOfTrailingZeros_95d88_0 rfl) (zby_at (j := 15) zbJ13_numberOfTrailingZeros_95d88_0 rfl) (zby_at (j := 16) zbJ13_numberOfTrailingZeros_95d88_0 rfl)
theorem zbJ13_numberOfTrailingZeros_95d88_1 : zby cJ13_numberOfTrailingZeros_95d88 16 20 = [55, 96, 167, 0, 7, 28, 184, 1, 55, 172] := by decide +kernel
theorem dJ13_numberOfTrailingZeros_95d88_17 : decode cJ13_numberOfTrailingZeros_95d88 17 = .ok (.iadd, 1) := dq_96 (zby_at (j := 1) zbJ13_numberOfTrailingZeros_95d88_1 rfl)
theorem dJ13_numberOfTrailingZeros_95d88_18 : decode cJ13_numberOfTrailingZeros_95d88 18 = .ok (.goto 7, 3) := dq_167 (zby_at (j := 2) zbJ13_numberOfTrailingZeros_95d88_1 rfl) (zby_at (j := 3) zbJ13_numberOfTrailingZeros_95d88_1 rfl) (zby_at (j := 4) zbJ13_numberOfTrailingZeros_95d88_1 rfl) rfl
theorem dJ13_numberOfTrailingZeros_95d88_21 : decode cJ13_numberOfTrailingZeros_95d88 21 = .ok (.iload_n 2, 1) := dq_28 (zby_at (j := 5) zbJ13_numberOfTrailingZeros_95d88_1 rfl)
theorem dJ13_numberOfTrailingZeros_95d88_22 : decode cJ13_numberOfTrailingZeros_95d88 22 = .ok (.invokestatic 311, 3) := dq_184 (zby_at (j := 6) zbJ13_numberOfTrailingZeros_95d88_1 rfl) (zby_at (j := 7) zbJ13_numberOfTrailingZeros_95d88_1 rfl) (zby_at (j := 8) zbJ13_numberOfTrailingZeros_95d88_1 rfl)
theorem dJ13_numberOfTrailingZeros_95d88_25 : decode cJ13_numberOfTrailingZeros_95d88 25 = .ok (.ireturn, 1) := dq_172 (zby_at (j := 9) zbJ13_numberOfTrailingZeros_95d88_1 rfl)
theorem zbJ13_bitCount_95d88_0 : zby cJ13_bitCount_95d88 0 20 = [30, 30, 4, 125, 20, 1, 58, 127, 101, 63, 30, 20, 1, 60, 127, 30, 5, 125, 20, 1] := by decide +kernel
theorem dJ13_bitCount_95d88_0 : decode cJ13_bitCount_95d88 0 = .ok (.lload_n 0, 1) := dq_30 (zby_at (j := 0) zbJ13_bitCount_95d88_0 rfl)
theorem dJ13_bitCount_95d88_1 : decode cJ13_bitCount_95d88 1 = .ok (.lload_n 0, 1) := dq_30 (zby_at (j := 1) zbJ13_bitCount_95d88_0 rfl)
theorem dJ13_bitCount_95d88_2 : decode cJ13_bitCount_95d88 2 = .ok (.iconst 1, 1) := dq_4 (zby_at (j := 2) zbJ13_bitCount_95d88_0 rfl)
theorem dJ13_bitCount_95d88_3 : decode cJ13_bitCount_95d88 3 = .ok (.lushr, 1) := dq_125 (zby_at (j := 3) zbJ13_bitCount_95d88_0 rfl)
theorem dJ13_bitCount_95d88_4 : decode cJ13_bitCount_95d88 4 = .ok (.ldc2_w 314, 3) := dq_20 (zby_at (j := 4) zbJ13_bitCount_95d88_0 rfl) (zby_at (j := 5) zbJ13_bitCount_95d88_0 rfl) (zby_at (j := 6) zbJ13_bitCount_95d88_0 rfl)
theorem dJ13_bitCount_95d88_7 : decode cJ13_bitCount_95d88 7 = .ok (.land, 1) := dq_127 (zby_at (j := 7) zbJ13_bitCount_95d88_0 rfl)
theorem dJ13_bitCount_95d88_8 : decode cJ13_bitCount_95d88 8 = .ok (.lsub, 1) := dq_101 (zby_at (j := 8) zbJ13_bitCount_95d88_0 rfl)
theorem dJ13_bitCount_95d88_9 : decode cJ13_bitCount_95d88 9 = .ok (.lstore_n 0, 1) := dq_63 (zby_at (j := 9) zbJ13_bitCount_95d88_0 rfl)
theorem dJ13_bitCount_95d88_10 : decode cJ13_bitCount_95d88 10 = .ok (.lload_n 0, 1) := dq_30 (zby_at (j := 10) zbJ13_bitCount_95d88_0 rfl)
theorem dJ13_bitCount_95d88_11 : decode cJ13_bitCount_95d88 11 = .ok (.ldc2_w 316, 3) := dq_20 (zby_at (j := 11) zbJ13_bitCount_95d88_0 rfl) (zby_at (j := 12) zbJ13_bitCount_95d88_0 rfl) (zby_at (j := 13) zbJ13_bitCount_95d88_0 rfl)
theorem dJ13_bitCount_95d88_14 : decode cJ13_bitCount_95d88 14 = .ok (.land, 1) := dq_127 (zby_at (j := 14) zbJ13_bitCount_95d88_0 rfl)
theorem dJ13_bitCount_95d88_15 : decode cJ13_bitCount_95d88 15 = .ok (.lload_n 0, 1) := dq_30 (zby_at (j := 15) zbJ13_bitCount_95d88_0 rfl)
theorem zbJ13_bitCount_95d88_1 : zby cJ13_bitCount_95d88 16 20 = [5, 125, 20, 1, 60, 127, 97, 63, 30, 30, 7, 125, 97, 20, 1, 62, 127, 63, 30, 30] := by decide +kernel
theorem dJ13_bitCount_95d88_16 : decode cJ13_bitCount_95d88 16 = .ok (.iconst 2, 1) := dq_5 (zby_at (j := 0) zbJ13_bitCount_95d88_1 rfl)
theorem dJ13_bitCount_95d88_17 : decode cJ13_bitCount_95d88 17 = .ok (.lushr, 1) := dq_125 (zby_at (j := 1) zbJ13_bitCount_95d88_1 rfl)
theorem dJ13_bitCount_95d88_18 : decode cJ13_bitCount_95d88 18 = .ok (.ldc2_w 316, 3) := dq_20 (zby_at (j := 2) zbJ13_bitCount_95d88_1 rfl) (zby_at (j := 3) zbJ13_bitCount_95d88_1 rfl) (zby_at (j := 4) zbJ13_bitCount_95d88_1 rfl)
theorem dJ13_bitCount_95d88_21 : decode cJ13_bitCount_95d88 21 = .ok (.land, 1) := dq_127 (zby_at (j := 5) zbJ13_bitCount_95d88_1 rfl)
theorem dJ13_bitCount_95d88_22 : decode cJ13_bitCount_95d88 22 = .ok (.ladd, 1) := dq_97 (zby_at (j := 6) zbJ13_bitCount_95d88_1 rfl)
theorem dJ13_bitCount_95d88_23 : decode cJ13_bitCount_95d88 23 = .ok (.lstore_n 0, 1) := dq_63 (zby_at (j := 7) zbJ13_bitCount_95d88_1 rfl)
theorem dJ13_bitCount_95d88_24 : decode cJ13_bitCount_95d88 24 = .ok (.lload_n 0, 1) := dq_30 (zby_at (j := 8) zbJ13_bitCount_95d88_1 rfl)
theorem dJ13_bitCount_95d88_25 : decode cJ13_bitCount_95d88 25 = .ok (.lload_n 0, 1) := dq_30 (zby_at (j := 9) zbJ13_bitCount_95d88_1 rfl)
theorem dJ13_bitCount_95d88_26 : decode cJ13_bitCount_95d88 26 = .ok (.iconst 4, 1) := dq_7 (zby_at (j := 10) zbJ13_bitCount_95d88_1 rfl)
theorem dJ13_bitCount_95d88_27 : decode cJ13_bitCount_95d88 27 = .ok (.lushr, 1) := dq_125 (zby_at (j := 11) zbJ13_bitCount_95d88_1 rfl)
theorem dJ13_bitCount_95d88_28 : decode cJ13_bitCount_95d88 28 = .ok (.ladd, 1) := dq_97 (zby_at (j := 12) zbJ13_bitCount_95d88_1 rfl)
theorem dJ13_bitCount_95d88_29 : decode cJ13_bitCount_95d88 29 = .ok (.ldc2_w 318, 3) := dq_20 (zby_at (j := 13) zbJ13_bitCount_95d88_1 rfl) (zby_at (j := 14) zbJ13_bitCount_95d88_1 rfl) (zby_at (j := 15) zbJ13_bitCount_95d88_1 rfl)
theorem zbJ13_bitCount_95d88_2 : zby cJ13_bitCount_95d88 32 20 = [127, 63, 30, 30, 16, 8, 125, 97, 63, 30, 30, 16, 16, 125, 97, 63, 30, 30, 16, 32] := by decide +kernel
theorem dJ13_bitCount_95d88_32 : decode cJ13_bitCount_95d88 32 = .ok (.land, 1) := dq_127 (zby_at (j := 0) zbJ13_bitCount_95d88_2 rfl)
theorem dJ13_bitCount_95d88_33 : decode cJ13_bitCount_95d88 33 = .ok (.lstore_n 0, 1) := dq_63 (zby_at (j := 1) zbJ13_bitCount_95d88_2 rfl)
theorem dJ13_bitCount_95d88_34 : decode cJ13_bitCount_95d88 34 = .ok (.lload_n 0, 1) := dq_30 (zby_at (j := 2) zbJ13_bitCount_95d88_2 rfl)
theorem dJ13_bitCount_95d88_35 : decode cJ13_bitCount_95d88 35 = .ok (.lload_n 0, 1) := dq_30 (zby_at (j := 3) zbJ13_bitCount_95d88_2 rfl)
theorem dJ13_bitCount_95d88_36 : decode cJ13_bitCount_95d88 36 = .ok (.bipush 8, 2) := dq_16 (zby_at (j := 4) zbJ13_bitCount_95d88_2 rfl) (zby_at (j := 5) zbJ13_bitCount_95d88_2 rfl) rfl
theorem dJ13_bitCount_95d88_38 : decode cJ13_bitCount_95d88 38 = .ok (.lushr, 1) := dq_125 (zby_at (j := 6) zbJ13_bitCount_95d88_2 rfl)
theorem dJ13_bitCount_95d88_39 : decode cJ13_bitCount_95d88 39 = .ok (.ladd, 1) := dq_97 (zby_at (j := 7) zbJ13_bitCount_95d88_2 rfl)
theorem dJ13_bitCount_95d88_40 : decode cJ13_bitCount_95d88 40 = .ok (.lstore_n 0, 1) := dq_63 (zby_at (j := 8) zbJ13_bitCount_95d88_2 rfl)
theorem dJ13_bitCount_95d88_41 : decode cJ13_bitCount_95d88 41 = .ok (.lload_n 0, 1) := dq_30 (zby_at (j := 9) zbJ13_bitCount_95d88_2 rfl)
theorem dJ13_bitCount_95d88_42 : decode cJ13_bitCount_95d88 42 = .ok (.lload_n 0, 1) := dq_30 (zby_at (j := 10) zbJ13_bitCount_95d88_2 rfl)
theorem dJ13_bitCount_95d88_43 : decode cJ13_bitCount_95d88 43 = .ok (.bipush 16, 2) := dq_16 (zby_at (j := 11) zbJ13_bitCount_95d88_2 rfl) (zby_at (j := 12) zbJ13_bitCount_95d88_2 rfl) rfl
theorem dJ13_bitCount_95d88_45 : decode cJ13_bitCount_95d88 45 = .ok (.lushr, 1) := dq_125 (zby_at (j := 13) zbJ13_bitCount_95d88_2 rfl)
theorem dJ13_bitCount_95d88_46 : decode cJ13_bitCount_95d88 46 = .ok (.ladd, 1) := dq_97 (zby_at (j := 14) zbJ13_bitCount_95d88_2 rfl)
theorem dJ13_bitCount_95d88_47 : decode cJ13_bitCount_95d88 47 = .ok (.lstore_n 0, 1) := dq_63 (zby_at (j := 15) zbJ13_bitCount_95d88_2 rfl)
theorem zbJ13_bitCount_95d88_3 : zby cJ13_bitCount_95d88 48 20 = [30, 30, 16, 32, 125, 97, 63, 30, 136, 16, 127, 126, 172] := by decide +kernel
theorem dJ13_bitCount_95d88_48 : decode cJ13_bitCount_95d88 48 = .ok (.lload_n 0, 1) := dq_30 (zby_at (j := 0) zbJ13_bitCount_95d88_3 rfl)
theorem dJ13_bitCount_95d88_49 : decode cJ13_bitCount_95d88 49 = .ok (.lload_n 0, 1) := dq_30 (zby_at (j := 1) zbJ13_bitCount_95d88_3 rfl)
theorem dJ13_bitCount_95d88_50 : decode cJ13_bitCount_95d88 50 = .ok (.bipush 32, 2) := dq_16 (zby_at (j := 2) zbJ13_bitCount_95d88_3 rfl) (zby_at (j := 3) zbJ13_bitCount_95d88_3 rfl) rfl
theorem dJ13_bitCount_95d88_52 : decode cJ13_bitCount_95d88 52 = .ok (.lushr, 1) := dq_125 (zby_at (j := 4) zbJ13_bitCount_95d88_3 rfl)
theorem dJ13_bitCount_95d88_53 : decode cJ13_bitCount_95d88 53 = .ok (.ladd, 1) := dq_97 (zby_at (j := 5) zbJ13_bitCount_95d88_3 rfl)
theorem dJ13_bitCount_95d88_54 : decode cJ13_bitCount_95d88 54 = .ok (.lstore_n 0, 1) := dq_63 (zby_at (j := 6) zbJ13_bitCount_95d88_3 rfl)
theorem dJ13_bitCount_95d88_55 : decode cJ13_bitCount_95d88 55 = .ok (.lload_n 0, 1) := dq_30 (zby_at (j := 7) zbJ13_bitCount_95d88_3 rfl)
theorem dJ13_bitCount_95d88_56 : decode cJ13_bitCount_95d88 56 = .ok (.l2i, 1) := dq_136 (zby_at (j := 8) zbJ13_bitCount_95d88_3 rfl)
theorem dJ13_bitCount_95d88_57 : decode cJ13_bitCount_95d88 57 = .ok (.bipush 127, 2) := dq_16 (zby_at (j := 9) zbJ13_bitCount_95d88_3 rfl) (zby_at (j := 10) zbJ13_bitCount_95d88_3 rfl) rfl
theorem dJ13_bitCount_95d88_59 : decode cJ13_bitCount_95d88 59 = .ok (.iand, 1) := dq_126 (zby_at (j := 11) zbJ13_bitCount_95d88_3 rfl)
theorem dJ13_bitCount_95d88_60 : decode cJ13_bitCount_95d88 60 = .ok (.ireturn, 1) := dq_172 (zby_at (j := 12) zbJ13_bitCount_95d88_3 rfl)
theorem zbJ9_max_7cf53_0 : zby cJ9_max_7cf53 0 20 = [26, 27, 161, 0, 7, 26, 167, 0, 4, 27, 172] := by decide +kernel
theorem dJ9_max_7cf53_0 : decode cJ9_max_7cf53 0 = .ok (.iload_n 0, 1) := dq_26 (zby_at (j := 0) zbJ9_max_7cf53_0 rfl)
theorem dJ9_max_7cf53_1 : decode cJ9_max_7cf53 1 = .ok (.iload_n 1, 1) := dq_27 (zby_at (j := 1) zbJ9_max_7cf53_0 rfl)
theorem dJ9_max_7cf53_2 : decode cJ9_max_7cf53 2 = .ok (.if_icmp .lt 7, 3) := dq_161 (zby_at (j := 2) zbJ9_max_7cf53_0 rfl) (zby_at (j := 3) zbJ9_max_7cf53_0 rfl) (zby_at (j := 4) zbJ9_max_7cf53_0 rfl) rfl
theorem dJ9_max_7cf53_5 : decode cJ9_max_7cf53 5 = .ok (.iload_n 0, 1) := dq_26 (zby_at (j := 5) zbJ9_max_7cf53_0 rfl)
theorem dJ9_max_7cf53_6 : decode cJ9_max_7cf53 6 = .ok (.goto 4, 3) := dq_167 (zby_at (j := 6) zbJ9_max_7cf53_0 rfl) (zby_at (j := 7) zbJ9_max_7cf53_0 rfl) (zby_at (j := 8) zbJ9_max_7cf53_0 rfl) rfl
theorem dJ9_max_7cf53_9 : decode cJ9_max_7cf53 9 = .ok (.iload_n 1, 1) := dq_27 (zby_at (j := 9) zbJ9_max_7cf53_0 rfl)
theorem dJ9_max_7cf53_10 : decode cJ9_max_7cf53 10 = .ok (.ireturn, 1) := dq_172 (zby_at (j := 10) zbJ9_max_7cf53_0 rfl)
theorem zbJ9_min_7cf53_0 : zby cJ9_min_7cf53 0 20 = [26, 27, 163, 0, 7, 26, 167, 0, 4, 27, 172] := by decide +kernel
theorem dJ9_min_7cf53_0 : decode cJ9_min_7cf53 0 = .ok (.iload_n 0, 1) := dq_26 (zby_at (j := 0) zbJ9_min_7cf53_0 rfl)
theorem dJ9_min_7cf53_1 : decode cJ9_min_7cf53 1 = .ok (.iload_n 1, 1) := dq_27 (zby_at (j := 1) zbJ9_min_7cf53_0 rfl)
theorem dJ9_min_7cf53_2 : decode cJ9_min_7cf53 2 = .ok (.if_icmp .gt 7, 3) := dq_163 (zby_at (j := 2) zbJ9_min_7cf53_0 rfl) (zby_at (j := 3) zbJ9_min_7cf53_0 rfl) (zby_at (j := 4) zbJ9_min_7cf53_0 rfl) rfl
theorem dJ9_min_7cf53_5 : decode cJ9_min_7cf53 5 = .ok (.iload_n 0, 1) := dq_26 (zby_at (j := 5) zbJ9_min_7cf53_0 rfl)
theorem dJ9_min_7cf53_6 : decode cJ9_min_7cf53 6 = .ok (.goto 4, 3) := dq_167 (zby_at (j := 6) zbJ9_min_7cf53_0 rfl) (zby_at (j := 7) zbJ9_min_7cf53_0 rfl) (zby_at (j := 8) zbJ9_min_7cf53_0 rfl) rfl
theorem dJ9_min_7cf53_9 : decode cJ9_min_7cf53 9 = .ok (.iload_n 1, 1) := dq_27 (zby_at (j := 9) zbJ9_min_7cf53_0 rfl)
theorem dJ9_min_7cf53_10 : decode cJ9_min_7cf53 10 = .ok (.ireturn, 1) := dq_172 (zby_at (j := 10) zbJ9_min_7cf53_0 rfl)
theorem zbJ0_length_8abf5_0 : zby cJ0_length_8abf5 0 20 = [42, 180, 0, 9, 190, 42, 182, 1, 79, 122, 172] := by decide +kernel
theorem dJ0_length_8abf5_0 : decode cJ0_length_8abf5 0 = .ok (.aload_n 0, 1) := dq_42 (zby_at (j := 0) zbJ0_length_8abf5_0 rfl)
theorem dJ0_length_8abf5_1 : decode cJ0_length_8abf5 1 = .ok (.getfield 9, 3) := dq_180 (zby_at (j := 1) zbJ0_length_8abf5_0 rfl) (zby_at (j := 2) zbJ0_length_8abf5_0 rfl) (zby_at (j := 3) zbJ0_length_8abf5_0 rfl)
theorem dJ0_length_8abf5_4 : decode cJ0_length_8abf5 4 = .ok (.arraylength, 1) := dq_190 (zby_at (j := 4) zbJ0_length_8abf5_0 rfl)
theorem dJ0_length_8abf5_5 : decode cJ0_length_8abf5 5 = .ok (.aload_n 0, 1) := dq_42 (zby_at (j := 5) zbJ0_length_8abf5_0 rfl)
theorem dJ0_length_8abf5_6 : decode cJ0_length_8abf5 6 = .ok (.invokevirtual 335, 3) := dq_182 (zby_at (j := 6) zbJ0_length_8abf5_0 rfl) (zby_at (j := 7) zbJ0_length_8abf5_0 rfl) (zby_at (j := 8) zbJ0_length_8abf5_0 rfl)
theorem dJ0_length_8abf5_9 : decode cJ0_length_8abf5 9 = .ok (.ishr, 1) := dq_122 (zby_at (j := 9) zbJ0_length_8abf5_0 rfl)
theorem dJ0_length_8abf5_10 : decode cJ0_length_8abf5 10 = .ok (.ireturn, 1) := dq_172 (zby_at (j := 10) zbJ0_length_8abf5_0 rfl)
theorem zbJ0_charAt_5068e_0 : zby cJ0_charAt_5068e 0 20 = [42, 182, 1, 236, 153, 0, 12, 42, 180, 0, 9, 27, 184, 1, 239, 172, 42, 180, 0, 9] := by decide +kernel
theorem dJ0_charAt_5068e_0 : decode cJ0_charAt_5068e 0 = .ok (.aload_n 0, 1) := dq_42 (zby_at (j := 0) zbJ0_charAt_5068e_0 rfl)
theorem dJ0_charAt_5068e_1 : decode cJ0_charAt_5068e 1 = .ok (.invokevirtual 492, 3) := dq_182 (zby_at (j := 1) zbJ0_charAt_5068e_0 rfl) (zby_at (j := 2) zbJ0_charAt_5068e_0 rfl) (zby_at (j := 3) zbJ0_charAt_5068e_0 rfl)
theorem dJ0_charAt_5068e_4 : decode cJ0_charAt_5068e 4 = .ok (.ifCond .eq 12, 3) := dq_153 (zby_at (j := 4) zbJ0_charAt_5068e_0 rfl) (zby_at (j := 5) zbJ0_charAt_5068e_0 rfl) (zby_at (j := 6) zbJ0_charAt_5068e_0 rfl) rfl
theorem dJ0_charAt_5068e_7 : decode cJ0_charAt_5068e 7 = .ok (.aload_n 0, 1) := dq_42 (zby_at (j := 7) zbJ0_charAt_5068e_0 rfl)
theorem dJ0_charAt_5068e_8 : decode cJ0_charAt_5068e 8 = .ok (.getfield 9, 3) := dq_180 (zby_at (j := 8) zbJ0_charAt_5068e_0 rfl) (zby_at (j := 9) zbJ0_charAt_5068e_0 rfl) (zby_at (j := 10) zbJ0_charAt_5068e_0 rfl)
theorem dJ0_charAt_5068e_11 : decode cJ0_charAt_5068e 11 = .ok (.iload_n 1, 1) := dq_27 (zby_at (j := 11) zbJ0_charAt_5068e_0 rfl)
theorem dJ0_charAt_5068e_12 : decode cJ0_charAt_5068e 12 = .ok (.invokestatic 495, 3) := dq_184 (zby_at (j := 12) zbJ0_charAt_5068e_0 rfl) (zby_at (j := 13) zbJ0_charAt_5068e_0 rfl) (zby_at (j := 14) zbJ0_charAt_5068e_0 rfl)
theorem dJ0_charAt_5068e_15 : decode cJ0_charAt_5068e 15 = .ok (.ireturn, 1) := dq_172 (zby_at (j := 15) zbJ0_charAt_5068e_0 rfl)
theorem zbJ0_charAt_5068e_1 : zby cJ0_charAt_5068e 16 20 = [42, 180, 0, 9, 27, 184, 1, 242, 172] := by decide +kernel
theorem dJ0_charAt_5068e_16 : decode cJ0_charAt_5068e 16 = .ok (.aload_n 0, 1) := dq_42 (zby_at (j := 0) zbJ0_charAt_5068e_1 rfl)
theorem dJ0_charAt_5068e_17 : decode cJ0_charAt_5068e 17 = .ok (.getfield 9, 3) := dq_180 (zby_at (j := 1) zbJ0_charAt_5068e_1 rfl) (zby_at (j := 2) zbJ0_charAt_5068e_1 rfl) (zby_at (j := 3) zbJ0_charAt_5068e_1 rfl)
theorem dJ0_charAt_5068e_20 : decode cJ0_charAt_5068e 20 = .ok (.iload_n 1, 1) := dq_27 (zby_at (j := 4) zbJ0_charAt_5068e_1 rfl)
theorem dJ0_charAt_5068e_21 : decode cJ0_charAt_5068e 21 = .ok (.invokestatic 498, 3) := dq_184 (zby_at (j := 5) zbJ0_charAt_5068e_1 rfl) (zby_at (j := 6) zbJ0_charAt_5068e_1 rfl) (zby_at (j := 7) zbJ0_charAt_5068e_1 rfl)
theorem dJ0_charAt_5068e_24 : decode cJ0_charAt_5068e 24 = .ok (.ireturn, 1) := dq_172 (zby_at (j := 8) zbJ0_charAt_5068e_1 rfl)
theorem zbJ0_coder_7d493_0 : zby cJ0_coder_7d493 0 20 = [178, 0, 38, 153, 0, 10, 42, 180, 0, 15, 167, 0, 4, 4, 172] := by decide +kernel
theorem dJ0_coder_7d493_0 : decode cJ0_coder_7d493 0 = .ok (.getstatic 38, 3) := dq_178 (zby_at (j := 0) zbJ0_coder_7d493_0 rfl) (zby_at (j := 1) zbJ0_coder_7d493_0 rfl) (zby_at (j := 2) zbJ0_coder_7d493_0 rfl)
theorem dJ0_coder_7d493_3 : decode cJ0_coder_7d493 3 = .ok (.ifCond .eq 10, 3) := dq_153 (zby_at (j := 3) zbJ0_coder_7d493_0 rfl) (zby_at (j := 4) zbJ0_coder_7d493_0 rfl) (zby_at (j := 5) zbJ0_coder_7d493_0 rfl) rfl
theorem dJ0_coder_7d493_6 : decode cJ0_coder_7d493 6 = .ok (.aload_n 0, 1) := dq_42 (zby_at (j := 6) zbJ0_coder_7d493_0 rfl)
theorem dJ0_coder_7d493_7 : decode cJ0_coder_7d493 7 = .ok (.getfield 15, 3) := dq_180 (zby_at (j := 7) zbJ0_coder_7d493_0 rfl) (zby_at (j := 8) zbJ0_coder_7d493_0 rfl) (zby_at (j := 9) zbJ0_coder_7d493_0 rfl)
theorem dJ0_coder_7d493_10 : decode cJ0_coder_7d493 10 = .ok (.goto 4, 3) := dq_167 (zby_at (j := 10) zbJ0_coder_7d493_0 rfl) (zby_at (j := 11) zbJ0_coder_7d493_0 rfl) (zby_at (j := 12) zbJ0_coder_7d493_0 rfl) rfl
theorem dJ0_coder_7d493_13 : decode cJ0_coder_7d493 13 = .ok (.iconst 1, 1) := dq_4 (zby_at (j := 13) zbJ0_coder_7d493_0 rfl)
theorem dJ0_coder_7d493_14 : decode cJ0_coder_7d493 14 = .ok (.ireturn, 1) := dq_172 (zby_at (j := 14) zbJ0_coder_7d493_0 rfl)
theorem zbJ0_isLatin1_aae02_0 : zby cJ0_isLatin1_aae02 0 20 = [178, 0, 38, 153, 0, 14, 42, 180, 0, 15, 154, 0, 7, 4, 167, 0, 4, 3, 172] := by decide +kernel
theorem dJ0_isLatin1_aae02_0 : decode cJ0_isLatin1_aae02 0 = .ok (.getstatic 38, 3) := dq_178 (zby_at (j := 0) zbJ0_isLatin1_aae02_0 rfl) (zby_at (j := 1) zbJ0_isLatin1_aae02_0 rfl) (zby_at (j := 2) zbJ0_isLatin1_aae02_0 rfl)
theorem dJ0_isLatin1_aae02_3 : decode cJ0_isLatin1_aae02 3 = .ok (.ifCond .eq 14, 3) := dq_153 (zby_at (j := 3) zbJ0_isLatin1_aae02_0 rfl) (zby_at (j := 4) zbJ0_isLatin1_aae02_0 rfl) (zby_at (j := 5) zbJ0_isLatin1_aae02_0 rfl) rfl
theorem dJ0_isLatin1_aae02_6 : decode cJ0_isLatin1_aae02 6 = .ok (.aload_n 0, 1) := dq_42 (zby_at (j := 6) zbJ0_isLatin1_aae02_0 rfl)
theorem dJ0_isLatin1_aae02_7 : decode cJ0_isLatin1_aae02 7 = .ok (.getfield 15, 3) := dq_180 (zby_at (j := 7) zbJ0_isLatin1_aae02_0 rfl) (zby_at (j := 8) zbJ0_isLatin1_aae02_0 rfl) (zby_at (j := 9) zbJ0_isLatin1_aae02_0 rfl)
theorem dJ0_isLatin1_aae02_10 : decode cJ0_isLatin1_aae02 10 = .ok (.ifCond .ne 7, 3) := dq_154 (zby_at (j := 10) zbJ0_isLatin1_aae02_0 rfl) (zby_at (j := 11) zbJ0_isLatin1_aae02_0 rfl) (zby_at (j := 12) zbJ0_isLatin1_aae02_0 rfl) rfl
theorem dJ0_isLatin1_aae02_13 : decode cJ0_isLatin1_aae02 13 = .ok (.iconst 1, 1) := dq_4 (zby_at (j := 13) zbJ0_isLatin1_aae02_0 rfl)
theorem dJ0_isLatin1_aae02_14 : decode cJ0_isLatin1_aae02 14 = .ok (.goto 4, 3) := dq_167 (zby_at (j := 14) zbJ0_isLatin1_aae02_0 rfl) (zby_at (j := 15) zbJ0_isLatin1_aae02_0 rfl) (zby_at (j := 16) zbJ0_isLatin1_aae02_0 rfl) rfl
theorem zbJ0_isLatin1_aae02_1 : zby cJ0_isLatin1_aae02 16 20 = [4, 3, 172] := by decide +kernel
theorem dJ0_isLatin1_aae02_17 : decode cJ0_isLatin1_aae02 17 = .ok (.iconst 0, 1) := dq_3 (zby_at (j := 1) zbJ0_isLatin1_aae02_1 rfl)
theorem dJ0_isLatin1_aae02_18 : decode cJ0_isLatin1_aae02 18 = .ok (.ireturn, 1) := dq_172 (zby_at (j := 2) zbJ0_isLatin1_aae02_1 rfl)
theorem zbJ0_checkIndex_df160_0 : zby cJ0_checkIndex_df160 0 20 = [26, 27, 178, 4, 29, 184, 4, 35, 87, 177] := by decide +kernel
theorem dJ0_checkIndex_df160_0 : decode cJ0_checkIndex_df160 0 = .ok (.iload_n 0, 1) := dq_26 (zby_at (j := 0) zbJ0_checkIndex_df160_0 rfl)
theorem dJ0_checkIndex_df160_1 : decode cJ0_checkIndex_df160 1 = .ok (.iload_n 1, 1) := dq_27 (zby_at (j := 1) zbJ0_checkIndex_df160_0 rfl)
theorem dJ0_checkIndex_df160_2 : decode cJ0_checkIndex_df160 2 = .ok (.getstatic 1053, 3) := dq_178 (zby_at (j := 2) zbJ0_checkIndex_df160_0 rfl) (zby_at (j := 3) zbJ0_checkIndex_df160_0 rfl) (zby_at (j := 4) zbJ0_checkIndex_df160_0 rfl)
theorem dJ0_checkIndex_df160_5 : decode cJ0_checkIndex_df160 5 = .ok (.invokestatic 1059, 3) := dq_184 (zby_at (j := 5) zbJ0_checkIndex_df160_0 rfl) (zby_at (j := 6) zbJ0_checkIndex_df160_0 rfl) (zby_at (j := 7) zbJ0_checkIndex_df160_0 rfl)
theorem dJ0_checkIndex_df160_8 : decode cJ0_checkIndex_df160 8 = .ok (.pop, 1) := dq_87 (zby_at (j := 8) zbJ0_checkIndex_df160_0 rfl)
theorem dJ0_checkIndex_df160_9 : decode cJ0_checkIndex_df160 9 = .ok (.return_, 1) := dq_177 (zby_at (j := 9) zbJ0_checkIndex_df160_0 rfl)
theorem zbJ1_charAt_3b067_0 : zby cJ1_charAt_3b067 0 20 = [27, 42, 190, 184, 0, 9, 42, 27, 51, 17, 0, 255, 126, 146, 172] := by decide +kernel
theorem dJ1_charAt_3b067_0 : decode cJ1_charAt_3b067 0 = .ok (.iload_n 1, 1) := dq_27 (zby_at (j := 0) zbJ1_charAt_3b067_0 rfl)
theorem dJ1_charAt_3b067_1 : decode cJ1_charAt_3b067 1 = .ok (.aload_n 0, 1) := dq_42 (zby_at (j := 1) zbJ1_charAt_3b067_0 rfl)
theorem dJ1_charAt_3b067_2 : decode cJ1_charAt_3b067 2 = .ok (.arraylength, 1) := dq_190 (zby_at (j := 2) zbJ1_charAt_3b067_0 rfl)
theorem dJ1_charAt_3b067_3 : decode cJ1_charAt_3b067 3 = .ok (.invokestatic 9, 3) := dq_184 (zby_at (j := 3) zbJ1_charAt_3b067_0 rfl) (zby_at (j := 4) zbJ1_charAt_3b067_0 rfl) (zby_at (j := 5) zbJ1_charAt_3b067_0 rfl)
theorem dJ1_charAt_3b067_6 : decode cJ1_charAt_3b067 6 = .ok (.aload_n 0, 1) := dq_42 (zby_at (j := 6) zbJ1_charAt_3b067_0 rfl)
theorem dJ1_charAt_3b067_7 : decode cJ1_charAt_3b067 7 = .ok (.iload_n 1, 1) := dq_27 (zby_at (j := 7) zbJ1_charAt_3b067_0 rfl)
theorem dJ1_charAt_3b067_8 : decode cJ1_charAt_3b067 8 = .ok (.baload, 1) := dq_51 (zby_at (j := 8) zbJ1_charAt_3b067_0 rfl)
theorem dJ1_charAt_3b067_9 : decode cJ1_charAt_3b067 9 = .ok (.sipush 255, 3) := dq_17 (zby_at (j := 9) zbJ1_charAt_3b067_0 rfl) (zby_at (j := 10) zbJ1_charAt_3b067_0 rfl) (zby_at (j := 11) zbJ1_charAt_3b067_0 rfl) rfl
theorem dJ1_charAt_3b067_12 : decode cJ1_charAt_3b067 12 = .ok (.iand, 1) := dq_126 (zby_at (j := 12) zbJ1_charAt_3b067_0 rfl)
theorem dJ1_charAt_3b067_13 : decode cJ1_charAt_3b067 13 = .ok (.i2c, 1) := dq_146 (zby_at (j := 13) zbJ1_charAt_3b067_0 rfl)
theorem dJ1_charAt_3b067_14 : decode cJ1_charAt_3b067 14 = .ok (.ireturn, 1) := dq_172 (zby_at (j := 14) zbJ1_charAt_3b067_0 rfl)
theorem zbJ2_getChar_3b067_0 : zby cJ2_getChar_3b067 0 20 = [178, 0, 44, 154, 0, 25, 27, 155, 0, 11, 27, 42, 184, 0, 48, 161, 0, 13, 187, 0] := by decide +kernel
theorem dJ2_getChar_3b067_0 : decode cJ2_getChar_3b067 0 = .ok (.getstatic 44, 3) := dq_178 (zby_at (j := 0) zbJ2_getChar_3b067_0 rfl) (zby_at (j := 1) zbJ2_getChar_3b067_0 rfl) (zby_at (j := 2) zbJ2_getChar_3b067_0 rfl)
theorem dJ2_getChar_3b067_3 : decode cJ2_getChar_3b067 3 = .ok (.ifCond .ne 25, 3) := dq_154 (zby_at (j := 3) zbJ2_getChar_3b067_0 rfl) (zby_at (j := 4) zbJ2_getChar_3b067_0 rfl) (zby_at (j := 5) zbJ2_getChar_3b067_0 rfl) rfl
theorem dJ2_getChar_3b067_6 : decode cJ2_getChar_3b067 6 = .ok (.iload_n 1, 1) := dq_27 (zby_at (j := 6) zbJ2_getChar_3b067_0 rfl)
theorem dJ2_getChar_3b067_7 : decode cJ2_getChar_3b067 7 = .ok (.ifCond .lt 11, 3) := dq_155 (zby_at (j := 7) zbJ2_getChar_3b067_0 rfl) (zby_at (j := 8) zbJ2_getChar_3b067_0 rfl) (zby_at (j := 9) zbJ2_getChar_3b067_0 rfl) rfl
theorem dJ2_getChar_3b067_10 : decode cJ2_getChar_3b067 10 = .ok (.iload_n 1, 1) := dq_27 (zby_at (j := 10) zbJ2_getChar_3b067_0 rfl)
theorem dJ2_getChar_3b067_11 : decode cJ2_getChar_3b067 11 = .ok (.aload_n 0, 1) := dq_42 (zby_at (j := 11) zbJ2_getChar_3b067_0 rfl)
theorem dJ2_getChar_3b067_12 : decode cJ2_getChar_3b067 12 = .ok (.invokestatic 48, 3) := dq_184 (zby_at (j := 12) zbJ2_getChar_3b067_0 rfl) (zby_at (j := 13) zbJ2_getChar_3b067_0 rfl) (zby_at (j := 14) zbJ2_getChar_3b067_0 rfl)
theorem dJ2_getChar_3b067_15 : decode cJ2_getChar_3b067 15 = .ok (.if_icmp .lt 13, 3) := dq_161 (zby_at (j := 15) zbJ2_getChar_3b067_0 rfl) (zby_at (j := 16) zbJ2_getChar_3b067_0 rfl) (zby_at (j := 17) zbJ2_getChar_3b067_0 rfl) rfl
theorem zbJ2_getChar_3b067_1 : zby cJ2_getChar_3b067 16 20 = [0, 13, 187, 0, 52, 89, 18, 54, 183, 0, 56, 191, 27, 4, 120, 60, 42, 27, 132, 1] := by decide +kernel
theorem dJ2_getChar_3b067_18 : decode cJ2_getChar_3b067 18 = .ok (.new 52, 3) := dq_187 (zby_at (j := 2) zbJ2_getChar_3b067_1 rfl) (zby_at (j := 3) zbJ2_getChar_3b067_1 rfl) (zby_at (j := 4) zbJ2_getChar_3b067_1 rfl)
theorem dJ2_getChar_3b067_21 : decode cJ2_getChar_3b067 21 = .ok (.dup, 1) := dq_89 (zby_at (j := 5) zbJ2_getChar_3b067_1 rfl)
theorem dJ2_getChar_3b067_22 : decode cJ2_getChar_3b067 22 = .ok (.ldc 54, 2) := dq_18 (zby_at (j := 6) zbJ2_getChar_3b067_1 rfl) (zby_at (j := 7) zbJ2_getChar_3b067_1 rfl)
theorem dJ2_getChar_3b067_24 : decode cJ2_getChar_3b067 24 = .ok (.invokespecial 56, 3) := dq_183 (zby_at (j := 8) zbJ2_getChar_3b067_1 rfl) (zby_at (j := 9) zbJ2_getChar_3b067_1 rfl) (zby_at (j := 10) zbJ2_getChar_3b067_1 rfl)
theorem dJ2_getChar_3b067_27 : decode cJ2_getChar_3b067 27 = .ok (.athrow, 1) := dq_191 (zby_at (j := 11) zbJ2_getChar_3b067_1 rfl)
theorem dJ2_getChar_3b067_28 : decode cJ2_getChar_3b067 28 = .ok (.iload_n 1, 1) := dq_27 (zby_at (j := 12) zbJ2_getChar_3b067_1 rfl)
theorem dJ2_getChar_3b067_29 : decode cJ2_getChar_3b067 29 = .ok (.iconst 1, 1) := dq_4 (zby_at (j := 13) zbJ2_getChar_3b067_1 rfl)
theorem dJ2_getChar_3b067_30 : decode cJ2_getChar_3b067 30 = .ok (.ishl, 1) := dq_120 (zby_at (j := 14) zbJ2_getChar_3b067_1 rfl)
theorem dJ2_getChar_3b067_31 : decode cJ2_getChar_3b067 31 = .ok (.istore_n 1, 1) := dq_60 (zby_at (j := 15) zbJ2_getChar_3b067_1 rfl)
theorem zbJ2_getChar_3b067_2 : zby cJ2_getChar_3b067 32 20 = [42, 27, 132, 1, 1, 51, 17, 0, 255, 126, 178, 0, 59, 120, 42, 27, 51, 17, 0, 255] := by decide +kernel
theorem dJ2_getChar_3b067_32 : decode cJ2_getChar_3b067 32 = .ok (.aload_n 0, 1) := dq_42 (zby_at (j := 0) zbJ2_getChar_3b067_2 rfl)
theorem dJ2_getChar_3b067_33 : decode cJ2_getChar_3b067 33 = .ok (.iload_n 1, 1) := dq_27 (zby_at (j := 1) zbJ2_getChar_3b067_2 rfl)
theorem dJ2_getChar_3b067_34 : decode cJ2_getChar_3b067 34 = .ok (.iinc 1 1, 3) := dq_132 (zby_at (j := 2) zbJ2_getChar_3b067_2 rfl) (zby_at (j := 3) zbJ2_getChar_3b067_2 rfl) (zby_at (j := 4) zbJ2_getChar_3b067_2 rfl) rfl
theorem dJ2_getChar_3b067_37 : decode cJ2_getChar_3b067 37 = .ok (.baload, 1) := dq_51 (zby_at (j := 5) zbJ2_getChar_3b067_2 rfl)
theorem dJ2_getChar_3b067_38 : decode cJ2_getChar_3b067 38 = .ok (.sipush 255, 3) := dq_17 (zby_at (j := 6) zbJ2_getChar_3b067_2 rfl) (zby_at (j := 7) zbJ2_getChar_3b067_2 rfl) (zby_at (j := 8) zbJ2_getChar_3b067_2 rfl) rfl
theorem dJ2_getChar_3b067_41 : decode cJ2_getChar_3b067 41 = .ok (.iand, 1) := dq_126 (zby_at (j := 9) zbJ2_getChar_3b067_2 rfl)
theorem dJ2_getChar_3b067_42 : decode cJ2_getChar_3b067 42 = .ok (.getstatic 59, 3) := dq_178 (zby_at (j := 10) zbJ2_getChar_3b067_2 rfl) (zby_at (j := 11) zbJ2_getChar_3b067_2 rfl) (zby_at (j := 12) zbJ2_getChar_3b067_2 rfl)
theorem dJ2_getChar_3b067_45 : decode cJ2_getChar_3b067 45 = .ok (.ishl, 1) := dq_120 (zby_at (j := 13) zbJ2_getChar_3b067_2 rfl)
theorem dJ2_getChar_3b067_46 : decode cJ2_getChar_3b067 46 = .ok (.aload_n 0, 1) := dq_42 (zby_at (j := 14) zbJ2_getChar_3b067_2 rfl)
theorem dJ2_getChar_3b067_47 : decode cJ2_getChar_3b067 47 = .ok (.iload_n 1, 1) := dq_27 (zby_at (j := 15) zbJ2_getChar_3b067_2 rfl)
theorem zbJ2_getChar_3b067_3 : zby cJ2_getChar_3b067 48 20 = [51, 17, 0, 255, 126, 178, 0, 63, 120, 128, 146, 172] := by decide +kernel
theorem dJ2_getChar_3b067_48 : decode cJ2_getChar_3b067 48 = .ok (.baload, 1) := dq_51 (zby_at (j := 0) zbJ2_getChar_3b067_3 rfl)
theorem dJ2_getChar_3b067_49 : decode cJ2_getChar_3b067 49 = .ok (.sipush 255, 3) := dq_17 (zby_at (j := 1) zbJ2_getChar_3b067_3 rfl) (zby_at (j := 2) zbJ2_getChar_3b067_3 rfl) (zby_at (j := 3) zbJ2_getChar_3b067_3 rfl) rfl
theorem dJ2_getChar_3b067_52 : decode cJ2_getChar_3b067 52 = .ok (.iand, 1) := dq_126 (zby_at (j := 4) zbJ2_getChar_3b067_3 rfl)
theorem dJ2_getChar_3b067_53 : decode cJ2_getChar_3b067 53 = .ok (.getstatic 63, 3) := dq_178 (zby_at (j := 5) zbJ2_getChar_3b067_3 rfl) (zby_at (j := 6) zbJ2_getChar_3b067_3 rfl) (zby_at (j := 7) zbJ2_getChar_3b067_3 rfl)
theorem dJ2_getChar_3b067_56 : decode cJ2_getChar_3b067 56 = .ok (.ishl, 1) := dq_120 (zby_at (j := 8) zbJ2_getChar_3b067_3 rfl)
theorem dJ2_getChar_3b067_57 : decode cJ2_getChar_3b067 57 = .ok (.ior, 1) := dq_128 (zby_at (j := 9) zbJ2_getChar_3b067_3 rfl)
theorem dJ2_getChar_3b067_58 : decode cJ2_getChar_3b067 58 = .ok (.i2c, 1) := dq_146 (zby_at (j := 10) zbJ2_getChar_3b067_3 rfl)
theorem dJ2_getChar_3b067_59 : decode cJ2_getChar_3b067 59 = .ok (.ireturn, 1) := dq_172 (zby_at (j := 11) zbJ2_getChar_3b067_3 rfl)
theorem zbJ2_length_9d52b_0 : zby cJ2_length_9d52b 0 20 = [42, 190, 4, 122, 172] := by decide +kernel
theorem dJ2_length_9d52b_0 : decode cJ2_length_9d52b 0 = .ok (.aload_n 0, 1) := dq_42 (zby_at (j := 0) zbJ2_length_9d52b_0 rfl)
theorem dJ2_length_9d52b_1 : decode cJ2_length_9d52b 1 = .ok (.arraylength, 1) := dq_190 (zby_at (j := 1) zbJ2_length_9d52b_0 rfl)
theorem dJ2_length_9d52b_2 : decode cJ2_length_9d52b 2 = .ok (.iconst 1, 1) := dq_4 (zby_at (j := 2) zbJ2_length_9d52b_0 rfl)
theorem dJ2_length_9d52b_3 : decode cJ2_length_9d52b 3 = .ok (.ishr, 1) := dq_122 (zby_at (j := 3) zbJ2_length_9d52b_0 rfl)
theorem dJ2_length_9d52b_4 : decode cJ2_length_9d52b 4 = .ok (.ireturn, 1) := dq_172 (zby_at (j := 4) zbJ2_length_9d52b_0 rfl)
theorem zbJ2_charAt_3b067_0 : zby cJ2_charAt_3b067 0 20 = [27, 42, 184, 0, 67, 42, 27, 184, 0, 71, 172] := by decide +kernel
theorem dJ2_charAt_3b067_0 : decode cJ2_charAt_3b067 0 = .ok (.iload_n 1, 1) := dq_27 (zby_at (j := 0) zbJ2_charAt_3b067_0 rfl)
theorem dJ2_charAt_3b067_1 : decode cJ2_charAt_3b067 1 = .ok (.aload_n 0, 1) := dq_42 (zby_at (j := 1) zbJ2_charAt_3b067_0 rfl)
theorem dJ2_charAt_3b067_2 : decode cJ2_charAt_3b067 2 = .ok (.invokestatic 67, 3) := dq_184 (zby_at (j := 2) zbJ2_charAt_3b067_0 rfl) (zby_at (j := 3) zbJ2_charAt_3b067_0 rfl) (zby_at (j := 4) zbJ2_charAt_3b067_0 rfl)
theorem dJ2_charAt_3b067_5 : decode cJ2_charAt_3b067 5 = .ok (.aload_n 0, 1) := dq_42 (zby_at (j := 5) zbJ2_charAt_3b067_0 rfl)
theorem dJ2_charAt_3b067_6 : decode cJ2_charAt_3b067 6 = .ok (.iload_n 1, 1) := dq_27 (zby_at (j := 6) zbJ2_charAt_3b067_0 rfl)
theorem dJ2_charAt_3b067_7 : decode cJ2_charAt_3b067 7 = .ok (.invokestatic 71, 3) := dq_184 (zby_at (j := 7) zbJ2_charAt_3b067_0 rfl) (zby_at (j := 8) zbJ2_charAt_3b067_0 rfl) (zby_at (j := 9) zbJ2_charAt_3b067_0 rfl)
theorem dJ2_charAt_3b067_10 : decode cJ2_charAt_3b067 10 = .ok (.ireturn, 1) := dq_172 (zby_at (j := 10) zbJ2_charAt_3b067_0 rfl)
theorem zbJ2_checkIndex_2214a_0 : zby cJ2_checkIndex_2214a 0 20 = [26, 43, 184, 0, 48, 184, 1, 158, 177] := by decide +kernel
theorem dJ2_checkIndex_2214a_0 : decode cJ2_checkIndex_2214a 0 = .ok (.iload_n 0, 1) := dq_26 (zby_at (j := 0) zbJ2_checkIndex_2214a_0 rfl)
theorem dJ2_checkIndex_2214a_1 : decode cJ2_checkIndex_2214a 1 = .ok (.aload_n 1, 1) := dq_43 (zby_at (j := 1) zbJ2_checkIndex_2214a_0 rfl)
theorem dJ2_checkIndex_2214a_2 : decode cJ2_checkIndex_2214a 2 = .ok (.invokestatic 48, 3) := dq_184 (zby_at (j := 2) zbJ2_checkIndex_2214a_0 rfl) (zby_at (j := 3) zbJ2_checkIndex_2214a_0 rfl) (zby_at (j := 4) zbJ2_checkIndex_2214a_0 rfl)
theorem dJ2_checkIndex_2214a_5 : decode cJ2_checkIndex_2214a 5 = .ok (.invokestatic 414, 3) := dq_184 (zby_at (j := 5) zbJ2_checkIndex_2214a_0 rfl) (zby_at (j := 6) zbJ2_checkIndex_2214a_0 rfl) (zby_at (j := 7) zbJ2_checkIndex_2214a_0 rfl)
theorem dJ2_checkIndex_2214a_8 : decode cJ2_checkIndex_2214a 8 = .ok (.return_, 1) := dq_177 (zby_at (j := 8) zbJ2_checkIndex_2214a_0 rfl)
theorem zbJ7_fill_d0a16_0 : zby cJ7_fill_d0a16 0 20 = [3, 62, 42, 190, 54, 4, 29, 21, 4, 162, 0, 13, 42, 29, 31, 80, 132, 3, 1, 167] := by decide +kernel
theorem dJ7_fill_d0a16_0 : decode cJ7_fill_d0a16 0 = .ok (.iconst 0, 1) := dq_3 (zby_at (j := 0) zbJ7_fill_d0a16_0 rfl)
theorem dJ7_fill_d0a16_1 : decode cJ7_fill_d0a16 1 = .ok (.istore_n 3, 1) := dq_62 (zby_at (j := 1) zbJ7_fill_d0a16_0 rfl)
theorem dJ7_fill_d0a16_2 : decode cJ7_fill_d0a16 2 = .ok (.aload_n 0, 1) := dq_42 (zby_at (j := 2) zbJ7_fill_d0a16_0 rfl)
theorem dJ7_fill_d0a16_3 : decode cJ7_fill_d0a16 3 = .ok (.arraylength, 1) := dq_190 (zby_at (j := 3) zbJ7_fill_d0a16_0 rfl)
theorem dJ7_fill_d0a16_4 : decode cJ7_fill_d0a16 4 = .ok (.istore 4, 2) := dq_54 (zby_at (j := 4) zbJ7_fill_d0a16_0 rfl) (zby_at (j := 5) zbJ7_fill_d0a16_0 rfl)
theorem dJ7_fill_d0a16_6 : decode cJ7_fill_d0a16 6 = .ok (.iload_n 3, 1) := dq_29 (zby_at (j := 6) zbJ7_fill_d0a16_0 rfl)
theorem dJ7_fill_d0a16_7 : decode cJ7_fill_d0a16 7 = .ok (.iload 4, 2) := dq_21 (zby_at (j := 7) zbJ7_fill_d0a16_0 rfl) (zby_at (j := 8) zbJ7_fill_d0a16_0 rfl)
theorem dJ7_fill_d0a16_9 : decode cJ7_fill_d0a16 9 = .ok (.if_icmp .ge 13, 3) := dq_162 (zby_at (j := 9) zbJ7_fill_d0a16_0 rfl) (zby_at (j := 10) zbJ7_fill_d0a16_0 rfl) (zby_at (j := 11) zbJ7_fill_d0a16_0 rfl) rfl
theorem dJ7_fill_d0a16_12 : decode cJ7_fill_d0a16 12 = .ok (.aload_n 0, 1) := dq_42 (zby_at (j := 12) zbJ7_fill_d0a16_0 rfl)
theorem dJ7_fill_d0a16_13 : decode cJ7_fill_d0a16 13 = .ok (.iload_n 3, 1) := dq_29 (zby_at (j := 13) zbJ7_fill_d0a16_0 rfl)
theorem dJ7_fill_d0a16_14 : decode cJ7_fill_d0a16 14 = .ok (.lload_n 1, 1) := dq_31 (zby_at (j := 14) zbJ7_fill_d0a16_0 rfl)
theorem dJ7_fill_d0a16_15 : decode cJ7_fill_d0a16 15 = .ok (.lastore, 1) := dq_80 (zby_at (j := 15) zbJ7_fill_d0a16_0 rfl)
theorem zbJ7_fill_d0a16_1 : zby cJ7_fill_d0a16 16 20 = [132, 3, 1, 167, 255, 243, 177] := by decide +kernel
theorem dJ7_fill_d0a16_16 : decode cJ7_fill_d0a16 16 = .ok (.iinc 3 1, 3) := dq_132 (zby_at (j := 0) zbJ7_fill_d0a16_1 rfl) (zby_at (j := 1) zbJ7_fill_d0a16_1 rfl) (zby_at (j := 2) zbJ7_fill_d0a16_1 rfl) rfl
theorem dJ7_fill_d0a16_19 : decode cJ7_fill_d0a16 19 = .ok (.goto (-13), 3) := dq_167 (zby_at (j := 3) zbJ7_fill_d0a16_1 rfl) (zby_at (j := 4) zbJ7_fill_d0a16_1 rfl) (zby_at (j := 5) zbJ7_fill_d0a16_1 rfl) rfl
theorem dJ7_fill_d0a16_22 : decode cJ7_fill_d0a16 22 = .ok (.return_, 1) := dq_177 (zby_at (j := 6) zbJ7_fill_d0a16_1 rfl)
theorem zbJ7_fill_53178_0 : zby cJ7_fill_53178 0 20 = [3, 61, 42, 190, 62, 28, 29, 162, 0, 13, 42, 28, 27, 79, 132, 2, 1, 167, 255, 244] := by decide +kernel
theorem dJ7_fill_53178_0 : decode cJ7_fill_53178 0 = .ok (.iconst 0, 1) := dq_3 (zby_at (j := 0) zbJ7_fill_53178_0 rfl)
theorem dJ7_fill_53178_1 : decode cJ7_fill_53178 1 = .ok (.istore_n 2, 1) := dq_61 (zby_at (j := 1) zbJ7_fill_53178_0 rfl)
theorem dJ7_fill_53178_2 : decode cJ7_fill_53178 2 = .ok (.aload_n 0, 1) := dq_42 (zby_at (j := 2) zbJ7_fill_53178_0 rfl)
theorem dJ7_fill_53178_3 : decode cJ7_fill_53178 3 = .ok (.arraylength, 1) := dq_190 (zby_at (j := 3) zbJ7_fill_53178_0 rfl)
theorem dJ7_fill_53178_4 : decode cJ7_fill_53178 4 = .ok (.istore_n 3, 1) := dq_62 (zby_at (j := 4) zbJ7_fill_53178_0 rfl)
theorem dJ7_fill_53178_5 : decode cJ7_fill_53178 5 = .ok (.iload_n 2, 1) := dq_28 (zby_at (j := 5) zbJ7_fill_53178_0 rfl)
theorem dJ7_fill_53178_6 : decode cJ7_fill_53178 6 = .ok (.iload_n 3, 1) := dq_29 (zby_at (j := 6) zbJ7_fill_53178_0 rfl)
theorem dJ7_fill_53178_7 : decode cJ7_fill_53178 7 = .ok (.if_icmp .ge 13, 3) := dq_162 (zby_at (j := 7) zbJ7_fill_53178_0 rfl) (zby_at (j := 8) zbJ7_fill_53178_0 rfl) (zby_at (j := 9) zbJ7_fill_53178_0 rfl) rfl
theorem dJ7_fill_53178_10 : decode cJ7_fill_53178 10 = .ok (.aload_n 0, 1) := dq_42 (zby_at (j := 10) zbJ7_fill_53178_0 rfl)
theorem dJ7_fill_53178_11 : decode cJ7_fill_53178 11 = .ok (.iload_n 2, 1) := dq_28 (zby_at (j := 11) zbJ7_fill_53178_0 rfl)
theorem dJ7_fill_53178_12 : decode cJ7_fill_53178 12 = .ok (.iload_n 1, 1) := dq_27 (zby_at (j := 12) zbJ7_fill_53178_0 rfl)
theorem dJ7_fill_53178_13 : decode cJ7_fill_53178 13 = .ok (.iastore, 1) := dq_79 (zby_at (j := 13) zbJ7_fill_53178_0 rfl)
theorem dJ7_fill_53178_14 : decode cJ7_fill_53178 14 = .ok (.iinc 2 1, 3) := dq_132 (zby_at (j := 14) zbJ7_fill_53178_0 rfl) (zby_at (j := 15) zbJ7_fill_53178_0 rfl) (zby_at (j := 16) zbJ7_fill_53178_0 rfl) rfl
theorem zbJ7_fill_53178_1 : zby cJ7_fill_53178 16 20 = [1, 167, 255, 244, 177] := by decide +kernel
theorem dJ7_fill_53178_17 : decode cJ7_fill_53178 17 = .ok (.goto (-12), 3) := dq_167 (zby_at (j := 1) zbJ7_fill_53178_1 rfl) (zby_at (j := 2) zbJ7_fill_53178_1 rfl) (zby_at (j := 3) zbJ7_fill_53178_1 rfl) rfl
theorem dJ7_fill_53178_20 : decode cJ7_fill_53178 20 = .ok (.return_, 1) := dq_177 (zby_at (j := 4) zbJ7_fill_53178_1 rfl)
theorem zbJ3_checkIndex_8e157_0 : zby cJ3_checkIndex_8e157 0 20 = [26, 155, 0, 8, 26, 27, 161, 0, 10, 44, 26, 27, 184, 0, 95, 191, 26, 172] := by decide +kernel
theorem dJ3_checkIndex_8e157_0 : decode cJ3_checkIndex_8e157 0 = .ok (.iload_n 0, 1) := dq_26 (zby_at (j := 0) zbJ3_checkIndex_8e157_0 rfl)
theorem dJ3_checkIndex_8e157_1 : decode cJ3_checkIndex_8e157 1 = .ok (.ifCond .lt 8, 3) := dq_155 (zby_at (j := 1) zbJ3_checkIndex_8e157_0 rfl) (zby_at (j := 2) zbJ3_checkIndex_8e157_0 rfl) (zby_at (j := 3) zbJ3_checkIndex_8e157_0 rfl) rfl
theorem dJ3_checkIndex_8e157_4 : decode cJ3_checkIndex_8e157 4 = .ok (.iload_n 0, 1) := dq_26 (zby_at (j := 4) zbJ3_checkIndex_8e157_0 rfl)
theorem dJ3_checkIndex_8e157_5 : decode cJ3_checkIndex_8e157 5 = .ok (.iload_n 1, 1) := dq_27 (zby_at (j := 5) zbJ3_checkIndex_8e157_0 rfl)
theorem dJ3_checkIndex_8e157_6 : decode cJ3_checkIndex_8e157 6 = .ok (.if_icmp .lt 10, 3) := dq_161 (zby_at (j := 6) zbJ3_checkIndex_8e157_0 rfl) (zby_at (j := 7) zbJ3_checkIndex_8e157_0 rfl) (zby_at (j := 8) zbJ3_checkIndex_8e157_0 rfl) rfl
theorem dJ3_checkIndex_8e157_9 : decode cJ3_checkIndex_8e157 9 = .ok (.aload_n 2, 1) := dq_44 (zby_at (j := 9) zbJ3_checkIndex_8e157_0 rfl)
theorem dJ3_checkIndex_8e157_10 : decode cJ3_checkIndex_8e157 10 = .ok (.iload_n 0, 1) := dq_26 (zby_at (j := 10) zbJ3_checkIndex_8e157_0 rfl)
theorem dJ3_checkIndex_8e157_11 : decode cJ3_checkIndex_8e157 11 = .ok (.iload_n 1, 1) := dq_27 (zby_at (j := 11) zbJ3_checkIndex_8e157_0 rfl)
theorem dJ3_checkIndex_8e157_12 : decode cJ3_checkIndex_8e157 12 = .ok (.invokestatic 95, 3) := dq_184 (zby_at (j := 12) zbJ3_checkIndex_8e157_0 rfl) (zby_at (j := 13) zbJ3_checkIndex_8e157_0 rfl) (zby_at (j := 14) zbJ3_checkIndex_8e157_0 rfl)
theorem dJ3_checkIndex_8e157_15 : decode cJ3_checkIndex_8e157 15 = .ok (.athrow, 1) := dq_191 (zby_at (j := 15) zbJ3_checkIndex_8e157_0 rfl)
theorem zbJ3_checkIndex_8e157_1 : zby cJ3_checkIndex_8e157 16 20 = [26, 172] := by decide +kernel
theorem dJ3_checkIndex_8e157_16 : decode cJ3_checkIndex_8e157 16 = .ok (.iload_n 0, 1) := dq_26 (zby_at (j := 0) zbJ3_checkIndex_8e157_1 rfl)
theorem dJ3_checkIndex_8e157_17 : decode cJ3_checkIndex_8e157 17 = .ok (.ireturn, 1) := dq_172 (zby_at (j := 1) zbJ3_checkIndex_8e157_1 rfl)
theorem zbL_law_0 : zby cL_law 0 20 = [187, 0, 7, 89, 183, 0, 9, 76, 187, 0, 10, 89, 183, 0, 12, 77, 3, 62, 29, 42] := by decide +kernel
theorem dL_law_0 : decode cL_law 0 = .ok (.new 7, 3) := dq_187 (zby_at (j := 0) zbL_law_0 rfl) (zby_at (j := 1) zbL_law_0 rfl) (zby_at (j := 2) zbL_law_0 rfl)
theorem dL_law_3 : decode cL_law 3 = .ok (.dup, 1) := dq_89 (zby_at (j := 3) zbL_law_0 rfl)
theorem dL_law_4 : decode cL_law 4 = .ok (.invokespecial 9, 3) := dq_183 (zby_at (j := 4) zbL_law_0 rfl) (zby_at (j := 5) zbL_law_0 rfl) (zby_at (j := 6) zbL_law_0 rfl)
theorem dL_law_7 : decode cL_law 7 = .ok (.astore_n 1, 1) := dq_76 (zby_at (j := 7) zbL_law_0 rfl)
theorem dL_law_8 : decode cL_law 8 = .ok (.new 10, 3) := dq_187 (zby_at (j := 8) zbL_law_0 rfl) (zby_at (j := 9) zbL_law_0 rfl) (zby_at (j := 10) zbL_law_0 rfl)
theorem dL_law_11 : decode cL_law 11 = .ok (.dup, 1) := dq_89 (zby_at (j := 11) zbL_law_0 rfl)
theorem dL_law_12 : decode cL_law 12 = .ok (.invokespecial 12, 3) := dq_183 (zby_at (j := 12) zbL_law_0 rfl) (zby_at (j := 13) zbL_law_0 rfl) (zby_at (j := 14) zbL_law_0 rfl)
theorem dL_law_15 : decode cL_law 15 = .ok (.astore_n 2, 1) := dq_77 (zby_at (j := 15) zbL_law_0 rfl)
theorem zbL_law_1 : zby cL_law 16 20 = [3, 62, 29, 42, 190, 16, 6, 100, 163, 7, 59, 42, 29, 46, 16, 63, 126, 170, 0, 0] := by decide +kernel
theorem dL_law_16 : decode cL_law 16 = .ok (.iconst 0, 1) := dq_3 (zby_at (j := 0) zbL_law_1 rfl)
theorem dL_law_17 : decode cL_law 17 = .ok (.istore_n 3, 1) := dq_62 (zby_at (j := 1) zbL_law_1 rfl)
theorem dL_law_18 : decode cL_law 18 = .ok (.iload_n 3, 1) := dq_29 (zby_at (j := 2) zbL_law_1 rfl)
theorem dL_law_19 : decode cL_law 19 = .ok (.aload_n 0, 1) := dq_42 (zby_at (j := 3) zbL_law_1 rfl)
theorem dL_law_20 : decode cL_law 20 = .ok (.arraylength, 1) := dq_190 (zby_at (j := 4) zbL_law_1 rfl)
theorem dL_law_21 : decode cL_law 21 = .ok (.bipush 6, 2) := dq_16 (zby_at (j := 5) zbL_law_1 rfl) (zby_at (j := 6) zbL_law_1 rfl) rfl
theorem dL_law_23 : decode cL_law 23 = .ok (.isub, 1) := dq_100 (zby_at (j := 7) zbL_law_1 rfl)
theorem dL_law_24 : decode cL_law 24 = .ok (.if_icmp .gt 1851, 3) := dq_163 (zby_at (j := 8) zbL_law_1 rfl) (zby_at (j := 9) zbL_law_1 rfl) (zby_at (j := 10) zbL_law_1 rfl) rfl
theorem dL_law_27 : decode cL_law 27 = .ok (.aload_n 0, 1) := dq_42 (zby_at (j := 11) zbL_law_1 rfl)
theorem dL_law_28 : decode cL_law 28 = .ok (.iload_n 3, 1) := dq_29 (zby_at (j := 12) zbL_law_1 rfl)
theorem dL_law_29 : decode cL_law 29 = .ok (.iaload, 1) := dq_46 (zby_at (j := 13) zbL_law_1 rfl)
theorem dL_law_30 : decode cL_law 30 = .ok (.bipush 63, 2) := dq_16 (zby_at (j := 14) zbL_law_1 rfl) (zby_at (j := 15) zbL_law_1 rfl) rfl
theorem zbL_law_2 : zby cL_law 32 20 = [126, 170, 0, 0, 0, 0, 7, 44, 0, 0, 0, 0, 0, 0, 0, 46, 0, 0, 0, 203] := by decide +kernel
theorem dL_law_32 : decode cL_law 32 = .ok (.iand, 1) := dq_126 (zby_at (j := 0) zbL_law_2 rfl)
theorem dL_law_33 : decode cL_law 33 = .ok (.tableswitch 1836 0 46 #[203, 266, 289, 302, 325, 348, 371, 404, 457, 500, 559, 602, 671, 714, 747, 780, 813, 836, 869, 902, 935, 968, 1001, 1034, 1067, 1100, 1133, 1166, 1199, 1222, 1235, 1268, 1291, 1314, 1347, 1380, 1403, 1446, 1479, 1522, 1555, 1588, 1611, 1634, 1657, 1700, 1773], 203) := by decide +kernel
theorem zbL_law_14 : zby cL_law 224 20 = [0, 0, 6, 121, 0, 0, 6, 164, 0, 0, 6, 237, 43, 42, 29, 4, 96, 46, 42, 29] := by decide +kernel
theorem dL_law_236 : decode cL_law 236 = .ok (.aload_n 1, 1) := dq_43 (zby_at (j := 12) zbL_law_14 rfl)
theorem dL_law_237 : decode cL_law 237 = .ok (.aload_n 0, 1) := dq_42 (zby_at (j := 13) zbL_law_14 rfl)
theorem dL_law_238 : decode cL_law 238 = .ok (.iload_n 3, 1) := dq_29 (zby_at (j := 14) zbL_law_14 rfl)
theorem dL_law_239 : decode cL_law 239 = .ok (.iconst 1, 1) := dq_4 (zby_at (j := 15) zbL_law_14 rfl)
theorem zbL_law_15 : zby cL_law 240 20 = [96, 46, 42, 29, 5, 96, 46, 42, 29, 6, 96, 46, 42, 29, 7, 96, 46, 42, 29, 8] := by decide +kernel
theorem dL_law_240 : decode cL_law 240 = .ok (.iadd, 1) := dq_96 (zby_at (j := 0) zbL_law_15 rfl)
theorem dL_law_241 : decode cL_law 241 = .ok (.iaload, 1) := dq_46 (zby_at (j := 1) zbL_law_15 rfl)
theorem dL_law_242 : decode cL_law 242 = .ok (.aload_n 0, 1) := dq_42 (zby_at (j := 2) zbL_law_15 rfl)
theorem dL_law_243 : decode cL_law 243 = .ok (.iload_n 3, 1) := dq_29 (zby_at (j := 3) zbL_law_15 rfl)
theorem dL_law_244 : decode cL_law 244 = .ok (.iconst 2, 1) := dq_5 (zby_at (j := 4) zbL_law_15 rfl)
theorem dL_law_245 : decode cL_law 245 = .ok (.iadd, 1) := dq_96 (zby_at (j := 5) zbL_law_15 rfl)
theorem dL_law_246 : decode cL_law 246 = .ok (.iaload, 1) := dq_46 (zby_at (j := 6) zbL_law_15 rfl)
theorem dL_law_247 : decode cL_law 247 = .ok (.aload_n 0, 1) := dq_42 (zby_at (j := 7) zbL_law_15 rfl)
theorem dL_law_248 : decode cL_law 248 = .ok (.iload_n 3, 1) := dq_29 (zby_at (j := 8) zbL_law_15 rfl)
theorem dL_law_249 : decode cL_law 249 = .ok (.iconst 3, 1) := dq_6 (zby_at (j := 9) zbL_law_15 rfl)
theorem dL_law_250 : decode cL_law 250 = .ok (.iadd, 1) := dq_96 (zby_at (j := 10) zbL_law_15 rfl)
theorem dL_law_251 : decode cL_law 251 = .ok (.iaload, 1) := dq_46 (zby_at (j := 11) zbL_law_15 rfl)
theorem dL_law_252 : decode cL_law 252 = .ok (.aload_n 0, 1) := dq_42 (zby_at (j := 12) zbL_law_15 rfl)
theorem dL_law_253 : decode cL_law 253 = .ok (.iload_n 3, 1) := dq_29 (zby_at (j := 13) zbL_law_15 rfl)
theorem dL_law_254 : decode cL_law 254 = .ok (.iconst 4, 1) := dq_7 (zby_at (j := 14) zbL_law_15 rfl)
theorem dL_law_255 : decode cL_law 255 = .ok (.iadd, 1) := dq_96 (zby_at (j := 15) zbL_law_15 rfl)
theorem zbL_law_16 : zby cL_law 256 20 = [46, 42, 29, 8, 96, 46, 182, 0, 13, 87, 44, 42, 29, 4, 96, 46, 42, 29, 5, 96] := by decide +kernel
theorem dL_law_256 : decode cL_law 256 = .ok (.iaload, 1) := dq_46 (zby_at (j := 0) zbL_law_16 rfl)
theorem dL_law_257 : decode cL_law 257 = .ok (.aload_n 0, 1) := dq_42 (zby_at (j := 1) zbL_law_16 rfl)
theorem dL_law_258 : decode cL_law 258 = .ok (.iload_n 3, 1) := dq_29 (zby_at (j := 2) zbL_law_16 rfl)
theorem dL_law_259 : decode cL_law 259 = .ok (.iconst 5, 1) := dq_8 (zby_at (j := 3) zbL_law_16 rfl)
theorem dL_law_260 : decode cL_law 260 = .ok (.iadd, 1) := dq_96 (zby_at (j := 4) zbL_law_16 rfl)
theorem dL_law_261 : decode cL_law 261 = .ok (.iaload, 1) := dq_46 (zby_at (j := 5) zbL_law_16 rfl)
theorem dL_law_262 : decode cL_law 262 = .ok (.invokevirtual 13, 3) := dq_182 (zby_at (j := 6) zbL_law_16 rfl) (zby_at (j := 7) zbL_law_16 rfl) (zby_at (j := 8) zbL_law_16 rfl)
theorem dL_law_265 : decode cL_law 265 = .ok (.pop, 1) := dq_87 (zby_at (j := 9) zbL_law_16 rfl)
theorem dL_law_266 : decode cL_law 266 = .ok (.aload_n 2, 1) := dq_44 (zby_at (j := 10) zbL_law_16 rfl)
theorem dL_law_267 : decode cL_law 267 = .ok (.aload_n 0, 1) := dq_42 (zby_at (j := 11) zbL_law_16 rfl)
theorem dL_law_268 : decode cL_law 268 = .ok (.iload_n 3, 1) := dq_29 (zby_at (j := 12) zbL_law_16 rfl)
theorem dL_law_269 : decode cL_law 269 = .ok (.iconst 1, 1) := dq_4 (zby_at (j := 13) zbL_law_16 rfl)
theorem dL_law_270 : decode cL_law 270 = .ok (.iadd, 1) := dq_96 (zby_at (j := 14) zbL_law_16 rfl)
theorem dL_law_271 : decode cL_law 271 = .ok (.iaload, 1) := dq_46 (zby_at (j := 15) zbL_law_16 rfl)
theorem zbL_law_17 : zby cL_law 272 20 = [42, 29, 5, 96, 46, 42, 29, 6, 96, 46, 42, 29, 7, 96, 46, 42, 29, 8, 96, 46] := by decide +kernel
theorem dL_law_272 : decode cL_law 272 = .ok (.aload_n 0, 1) := dq_42 (zby_at (j := 0) zbL_law_17 rfl)
theorem dL_law_273 : decode cL_law 273 = .ok (.iload_n 3, 1) := dq_29 (zby_at (j := 1) zbL_law_17 rfl)
theorem dL_law_274 : decode cL_law 274 = .ok (.iconst 2, 1) := dq_5 (zby_at (j := 2) zbL_law_17 rfl)
theorem dL_law_275 : decode cL_law 275 = .ok (.iadd, 1) := dq_96 (zby_at (j := 3) zbL_law_17 rfl)
theorem dL_law_276 : decode cL_law 276 = .ok (.iaload, 1) := dq_46 (zby_at (j := 4) zbL_law_17 rfl)
theorem dL_law_277 : decode cL_law 277 = .ok (.aload_n 0, 1) := dq_42 (zby_at (j := 5) zbL_law_17 rfl)
theorem dL_law_278 : decode cL_law 278 = .ok (.iload_n 3, 1) := dq_29 (zby_at (j := 6) zbL_law_17 rfl)
theorem dL_law_279 : decode cL_law 279 = .ok (.iconst 3, 1) := dq_6 (zby_at (j := 7) zbL_law_17 rfl)
theorem dL_law_280 : decode cL_law 280 = .ok (.iadd, 1) := dq_96 (zby_at (j := 8) zbL_law_17 rfl)
theorem dL_law_281 : decode cL_law 281 = .ok (.iaload, 1) := dq_46 (zby_at (j := 9) zbL_law_17 rfl)
theorem dL_law_282 : decode cL_law 282 = .ok (.aload_n 0, 1) := dq_42 (zby_at (j := 10) zbL_law_17 rfl)
theorem dL_law_283 : decode cL_law 283 = .ok (.iload_n 3, 1) := dq_29 (zby_at (j := 11) zbL_law_17 rfl)
theorem dL_law_284 : decode cL_law 284 = .ok (.iconst 4, 1) := dq_7 (zby_at (j := 12) zbL_law_17 rfl)
theorem dL_law_285 : decode cL_law 285 = .ok (.iadd, 1) := dq_96 (zby_at (j := 13) zbL_law_17 rfl)
theorem dL_law_286 : decode cL_law 286 = .ok (.iaload, 1) := dq_46 (zby_at (j := 14) zbL_law_17 rfl)
theorem dL_law_287 : decode cL_law 287 = .ok (.aload_n 0, 1) := dq_42 (zby_at (j := 15) zbL_law_17 rfl)
theorem zbL_law_18 : zby cL_law 288 20 = [29, 8, 96, 46, 182, 0, 17, 87, 167, 6, 37, 43, 42, 29, 4, 96, 46, 182, 0, 18] := by decide +kernel
theorem dL_law_288 : decode cL_law 288 = .ok (.iload_n 3, 1) := dq_29 (zby_at (j := 0) zbL_law_18 rfl)
theorem dL_law_289 : decode cL_law 289 = .ok (.iconst 5, 1) := dq_8 (zby_at (j := 1) zbL_law_18 rfl)
theorem dL_law_290 : decode cL_law 290 = .ok (.iadd, 1) := dq_96 (zby_at (j := 2) zbL_law_18 rfl)
theorem dL_law_291 : decode cL_law 291 = .ok (.iaload, 1) := dq_46 (zby_at (j := 3) zbL_law_18 rfl)
theorem dL_law_292 : decode cL_law 292 = .ok (.invokevirtual 17, 3) := dq_182 (zby_at (j := 4) zbL_law_18 rfl) (zby_at (j := 5) zbL_law_18 rfl) (zby_at (j := 6) zbL_law_18 rfl)
theorem dL_law_295 : decode cL_law 295 = .ok (.pop, 1) := dq_87 (zby_at (j := 7) zbL_law_18 rfl)
theorem dL_law_296 : decode cL_law 296 = .ok (.goto 1573, 3) := dq_167 (zby_at (j := 8) zbL_law_18 rfl) (zby_at (j := 9) zbL_law_18 rfl) (zby_at (j := 10) zbL_law_18 rfl) rfl
theorem dL_law_299 : decode cL_law 299 = .ok (.aload_n 1, 1) := dq_43 (zby_at (j := 11) zbL_law_18 rfl)
theorem dL_law_300 : decode cL_law 300 = .ok (.aload_n 0, 1) := dq_42 (zby_at (j := 12) zbL_law_18 rfl)
theorem dL_law_301 : decode cL_law 301 = .ok (.iload_n 3, 1) := dq_29 (zby_at (j := 13) zbL_law_18 rfl)
theorem dL_law_302 : decode cL_law 302 = .ok (.iconst 1, 1) := dq_4 (zby_at (j := 14) zbL_law_18 rfl)
theorem dL_law_303 : decode cL_law 303 = .ok (.iadd, 1) := dq_96 (zby_at (j := 15) zbL_law_18 rfl)
theorem zbL_law_19 : zby cL_law 304 20 = [46, 182, 0, 18, 87, 44, 42, 29, 4, 96, 46, 182, 0, 22, 87, 167, 6, 14, 43, 182] := by decide +kernel
theorem dL_law_304 : decode cL_law 304 = .ok (.iaload, 1) := dq_46 (zby_at (j := 0) zbL_law_19 rfl)
theorem dL_law_305 : decode cL_law 305 = .ok (.invokevirtual 18, 3) := dq_182 (zby_at (j := 1) zbL_law_19 rfl) (zby_at (j := 2) zbL_law_19 rfl) (zby_at (j := 3) zbL_law_19 rfl)
theorem dL_law_308 : decode cL_law 308 = .ok (.pop, 1) := dq_87 (zby_at (j := 4) zbL_law_19 rfl)
theorem dL_law_309 : decode cL_law 309 = .ok (.aload_n 2, 1) := dq_44 (zby_at (j := 5) zbL_law_19 rfl)
theorem dL_law_310 : decode cL_law 310 = .ok (.aload_n 0, 1) := dq_42 (zby_at (j := 6) zbL_law_19 rfl)
theorem dL_law_311 : decode cL_law 311 = .ok (.iload_n 3, 1) := dq_29 (zby_at (j := 7) zbL_law_19 rfl)
theorem dL_law_312 : decode cL_law 312 = .ok (.iconst 1, 1) := dq_4 (zby_at (j := 8) zbL_law_19 rfl)
theorem dL_law_313 : decode cL_law 313 = .ok (.iadd, 1) := dq_96 (zby_at (j := 9) zbL_law_19 rfl)
theorem dL_law_314 : decode cL_law 314 = .ok (.iaload, 1) := dq_46 (zby_at (j := 10) zbL_law_19 rfl)
theorem dL_law_315 : decode cL_law 315 = .ok (.invokevirtual 22, 3) := dq_182 (zby_at (j := 11) zbL_law_19 rfl) (zby_at (j := 12) zbL_law_19 rfl) (zby_at (j := 13) zbL_law_19 rfl)
theorem dL_law_318 : decode cL_law 318 = .ok (.pop, 1) := dq_87 (zby_at (j := 14) zbL_law_19 rfl)
theorem dL_law_319 : decode cL_law 319 = .ok (.goto 1550, 3) := dq_167 (zby_at (j := 15) zbL_law_19 rfl) (zby_at (j := 16) zbL_law_19 rfl) (zby_at (j := 17) zbL_law_19 rfl) rfl
theorem zbL_law_20 : zby cL_law 320 20 = [6, 14, 43, 182, 0, 23, 87, 44, 182, 0, 27, 87, 167, 6, 1, 43, 42, 29, 4, 96] := by decide +kernel
theorem dL_law_322 : decode cL_law 322 = .ok (.aload_n 1, 1) := dq_43 (zby_at (j := 2) zbL_law_20 rfl)
theorem dL_law_323 : decode cL_law 323 = .ok (.invokevirtual 23, 3) := dq_182 (zby_at (j := 3) zbL_law_20 rfl) (zby_at (j := 4) zbL_law_20 rfl) (zby_at (j := 5) zbL_law_20 rfl)
theorem dL_law_326 : decode cL_law 326 = .ok (.pop, 1) := dq_87 (zby_at (j := 6) zbL_law_20 rfl)
theorem dL_law_327 : decode cL_law 327 = .ok (.aload_n 2, 1) := dq_44 (zby_at (j := 7) zbL_law_20 rfl)
theorem dL_law_328 : decode cL_law 328 = .ok (.invokevirtual 27, 3) := dq_182 (zby_at (j := 8) zbL_law_20 rfl) (zby_at (j := 9) zbL_law_20 rfl) (zby_at (j := 10) zbL_law_20 rfl)
theorem dL_law_331 : decode cL_law 331 = .ok (.pop, 1) := dq_87 (zby_at (j := 11) zbL_law_20 rfl)
theorem dL_law_332 : decode cL_law 332 = .ok (.goto 1537, 3) := dq_167 (zby_at (j := 12) zbL_law_20 rfl) (zby_at (j := 13) zbL_law_20 rfl) (zby_at (j := 14) zbL_law_20 rfl) rfl
theorem dL_law_335 : decode cL_law 335 = .ok (.aload_n 1, 1) := dq_43 (zby_at (j := 15) zbL_law_20 rfl)
theorem zbL_law_21 : zby cL_law 336 20 = [42, 29, 4, 96, 46, 182, 0, 28, 87, 44, 42, 29, 4, 96, 46, 182, 0, 31, 87, 167] := by decide +kernel
theorem dL_law_336 : decode cL_law 336 = .ok (.aload_n 0, 1) := dq_42 (zby_at (j := 0) zbL_law_21 rfl)
theorem dL_law_337 : decode cL_law 337 = .ok (.iload_n 3, 1) := dq_29 (zby_at (j := 1) zbL_law_21 rfl)
theorem dL_law_338 : decode cL_law 338 = .ok (.iconst 1, 1) := dq_4 (zby_at (j := 2) zbL_law_21 rfl)
theorem dL_law_339 : decode cL_law 339 = .ok (.iadd, 1) := dq_96 (zby_at (j := 3) zbL_law_21 rfl)
theorem dL_law_340 : decode cL_law 340 = .ok (.iaload, 1) := dq_46 (zby_at (j := 4) zbL_law_21 rfl)
theorem dL_law_341 : decode cL_law 341 = .ok (.invokevirtual 28, 3) := dq_182 (zby_at (j := 5) zbL_law_21 rfl) (zby_at (j := 6) zbL_law_21 rfl) (zby_at (j := 7) zbL_law_21 rfl)
theorem dL_law_344 : decode cL_law 344 = .ok (.pop, 1) := dq_87 (zby_at (j := 8) zbL_law_21 rfl)
theorem dL_law_345 : decode cL_law 345 = .ok (.aload_n 2, 1) := dq_44 (zby_at (j := 9) zbL_law_21 rfl)
theorem dL_law_346 : decode cL_law 346 = .ok (.aload_n 0, 1) := dq_42 (zby_at (j := 10) zbL_law_21 rfl)
theorem dL_law_347 : decode cL_law 347 = .ok (.iload_n 3, 1) := dq_29 (zby_at (j := 11) zbL_law_21 rfl)
theorem dL_law_348 : decode cL_law 348 = .ok (.iconst 1, 1) := dq_4 (zby_at (j := 12) zbL_law_21 rfl)
theorem dL_law_349 : decode cL_law 349 = .ok (.iadd, 1) := dq_96 (zby_at (j := 13) zbL_law_21 rfl)
theorem dL_law_350 : decode cL_law 350 = .ok (.iaload, 1) := dq_46 (zby_at (j := 14) zbL_law_21 rfl)
theorem dL_law_351 : decode cL_law 351 = .ok (.invokevirtual 31, 3) := dq_182 (zby_at (j := 15) zbL_law_21 rfl) (zby_at (j := 16) zbL_law_21 rfl) (zby_at (j := 17) zbL_law_21 rfl)
theorem zbL_law_22 : zby cL_law 352 20 = [0, 31, 87, 167, 5, 234, 43, 42, 29, 4, 96, 46, 182, 0, 32, 87, 44, 42, 29, 4] := by decide +kernel
theorem dL_law_354 : decode cL_law 354 = .ok (.pop, 1) := dq_87 (zby_at (j := 2) zbL_law_22 rfl)
theorem dL_law_355 : decode cL_law 355 = .ok (.goto 1514, 3) := dq_167 (zby_at (j := 3) zbL_law_22 rfl) (zby_at (j := 4) zbL_law_22 rfl) (zby_at (j := 5) zbL_law_22 rfl) rfl
theorem dL_law_358 : decode cL_law 358 = .ok (.aload_n 1, 1) := dq_43 (zby_at (j := 6) zbL_law_22 rfl)
theorem dL_law_359 : decode cL_law 359 = .ok (.aload_n 0, 1) := dq_42 (zby_at (j := 7) zbL_law_22 rfl)
theorem dL_law_360 : decode cL_law 360 = .ok (.iload_n 3, 1) := dq_29 (zby_at (j := 8) zbL_law_22 rfl)
theorem dL_law_361 : decode cL_law 361 = .ok (.iconst 1, 1) := dq_4 (zby_at (j := 9) zbL_law_22 rfl)
theorem dL_law_362 : decode cL_law 362 = .ok (.iadd, 1) := dq_96 (zby_at (j := 10) zbL_law_22 rfl)
theorem dL_law_363 : decode cL_law 363 = .ok (.iaload, 1) := dq_46 (zby_at (j := 11) zbL_law_22 rfl)
theorem dL_law_364 : decode cL_law 364 = .ok (.invokevirtual 32, 3) := dq_182 (zby_at (j := 12) zbL_law_22 rfl) (zby_at (j := 13) zbL_law_22 rfl) (zby_at (j := 14) zbL_law_22 rfl)
theorem dL_law_367 : decode cL_law 367 = .ok (.pop, 1) := dq_87 (zby_at (j := 15) zbL_law_22 rfl)
theorem zbL_law_23 : zby cL_law 368 20 = [44, 42, 29, 4, 96, 46, 182, 0, 35, 87, 167, 5, 211, 43, 42, 29, 4, 96, 46, 182] := by decide +kernel
theorem dL_law_368 : decode cL_law 368 = .ok (.aload_n 2, 1) := dq_44 (zby_at (j := 0) zbL_law_23 rfl)
theorem dL_law_369 : decode cL_law 369 = .ok (.aload_n 0, 1) := dq_42 (zby_at (j := 1) zbL_law_23 rfl)
theorem dL_law_370 : decode cL_law 370 = .ok (.iload_n 3, 1) := dq_29 (zby_at (j := 2) zbL_law_23 rfl)
theorem dL_law_371 : decode cL_law 371 = .ok (.iconst 1, 1) := dq_4 (zby_at (j := 3) zbL_law_23 rfl)
theorem dL_law_372 : decode cL_law 372 = .ok (.iadd, 1) := dq_96 (zby_at (j := 4) zbL_law_23 rfl)
theorem dL_law_373 : decode cL_law 373 = .ok (.iaload, 1) := dq_46 (zby_at (j := 5) zbL_law_23 rfl)
theorem dL_law_374 : decode cL_law 374 = .ok (.invokevirtual 35, 3) := dq_182 (zby_at (j := 6) zbL_law_23 rfl) (zby_at (j := 7) zbL_law_23 rfl) (zby_at (j := 8) zbL_law_23 rfl)
theorem dL_law_377 : decode cL_law 377 = .ok (.pop, 1) := dq_87 (zby_at (j := 9) zbL_law_23 rfl)
theorem dL_law_378 : decode cL_law 378 = .ok (.goto 1491, 3) := dq_167 (zby_at (j := 10) zbL_law_23 rfl) (zby_at (j := 11) zbL_law_23 rfl) (zby_at (j := 12) zbL_law_23 rfl) rfl
theorem dL_law_381 : decode cL_law 381 = .ok (.aload_n 1, 1) := dq_43 (zby_at (j := 13) zbL_law_23 rfl)
theorem dL_law_382 : decode cL_law 382 = .ok (.aload_n 0, 1) := dq_42 (zby_at (j := 14) zbL_law_23 rfl)
theorem dL_law_383 : decode cL_law 383 = .ok (.iload_n 3, 1) := dq_29 (zby_at (j := 15) zbL_law_23 rfl)
theorem zbL_law_24 : zby cL_law 384 20 = [4, 96, 46, 182, 0, 36, 87, 44, 42, 29, 4, 96, 46, 182, 0, 39, 87, 167, 5, 188] := by decide +kernel
theorem dL_law_384 : decode cL_law 384 = .ok (.iconst 1, 1) := dq_4 (zby_at (j := 0) zbL_law_24 rfl)
theorem dL_law_385 : decode cL_law 385 = .ok (.iadd, 1) := dq_96 (zby_at (j := 1) zbL_law_24 rfl)
theorem dL_law_386 : decode cL_law 386 = .ok (.iaload, 1) := dq_46 (zby_at (j := 2) zbL_law_24 rfl)
theorem dL_law_387 : decode cL_law 387 = .ok (.invokevirtual 36, 3) := dq_182 (zby_at (j := 3) zbL_law_24 rfl) (zby_at (j := 4) zbL_law_24 rfl) (zby_at (j := 5) zbL_law_24 rfl)
theorem dL_law_390 : decode cL_law 390 = .ok (.pop, 1) := dq_87 (zby_at (j := 6) zbL_law_24 rfl)
theorem dL_law_391 : decode cL_law 391 = .ok (.aload_n 2, 1) := dq_44 (zby_at (j := 7) zbL_law_24 rfl)
theorem dL_law_392 : decode cL_law 392 = .ok (.aload_n 0, 1) := dq_42 (zby_at (j := 8) zbL_law_24 rfl)
theorem dL_law_393 : decode cL_law 393 = .ok (.iload_n 3, 1) := dq_29 (zby_at (j := 9) zbL_law_24 rfl)
theorem dL_law_394 : decode cL_law 394 = .ok (.iconst 1, 1) := dq_4 (zby_at (j := 10) zbL_law_24 rfl)
theorem dL_law_395 : decode cL_law 395 = .ok (.iadd, 1) := dq_96 (zby_at (j := 11) zbL_law_24 rfl)
theorem dL_law_396 : decode cL_law 396 = .ok (.iaload, 1) := dq_46 (zby_at (j := 12) zbL_law_24 rfl)
theorem dL_law_397 : decode cL_law 397 = .ok (.invokevirtual 39, 3) := dq_182 (zby_at (j := 13) zbL_law_24 rfl) (zby_at (j := 14) zbL_law_24 rfl) (zby_at (j := 15) zbL_law_24 rfl)
theorem zbL_law_25 : zby cL_law 400 20 = [87, 167, 5, 188, 43, 42, 29, 4, 96, 46, 42, 29, 5, 96, 46, 182, 0, 40, 87, 44] := by decide +kernel
theorem dL_law_400 : decode cL_law 400 = .ok (.pop, 1) := dq_87 (zby_at (j := 0) zbL_law_25 rfl)
theorem dL_law_401 : decode cL_law 401 = .ok (.goto 1468, 3) := dq_167 (zby_at (j := 1) zbL_law_25 rfl) (zby_at (j := 2) zbL_law_25 rfl) (zby_at (j := 3) zbL_law_25 rfl) rfl
theorem dL_law_404 : decode cL_law 404 = .ok (.aload_n 1, 1) := dq_43 (zby_at (j := 4) zbL_law_25 rfl)
theorem dL_law_405 : decode cL_law 405 = .ok (.aload_n 0, 1) := dq_42 (zby_at (j := 5) zbL_law_25 rfl)
theorem dL_law_406 : decode cL_law 406 = .ok (.iload_n 3, 1) := dq_29 (zby_at (j := 6) zbL_law_25 rfl)
theorem dL_law_407 : decode cL_law 407 = .ok (.iconst 1, 1) := dq_4 (zby_at (j := 7) zbL_law_25 rfl)
theorem dL_law_408 : decode cL_law 408 = .ok (.iadd, 1) := dq_96 (zby_at (j := 8) zbL_law_25 rfl)
theorem dL_law_409 : decode cL_law 409 = .ok (.iaload, 1) := dq_46 (zby_at (j := 9) zbL_law_25 rfl)
theorem dL_law_410 : decode cL_law 410 = .ok (.aload_n 0, 1) := dq_42 (zby_at (j := 10) zbL_law_25 rfl)
theorem dL_law_411 : decode cL_law 411 = .ok (.iload_n 3, 1) := dq_29 (zby_at (j := 11) zbL_law_25 rfl)
theorem dL_law_412 : decode cL_law 412 = .ok (.iconst 2, 1) := dq_5 (zby_at (j := 12) zbL_law_25 rfl)
theorem dL_law_413 : decode cL_law 413 = .ok (.iadd, 1) := dq_96 (zby_at (j := 13) zbL_law_25 rfl)
theorem dL_law_414 : decode cL_law 414 = .ok (.iaload, 1) := dq_46 (zby_at (j := 14) zbL_law_25 rfl)
theorem dL_law_415 : decode cL_law 415 = .ok (.invokevirtual 40, 3) := dq_182 (zby_at (j := 15) zbL_law_25 rfl) (zby_at (j := 16) zbL_law_25 rfl) (zby_at (j := 17) zbL_law_25 rfl)
theorem zbL_law_26 : zby cL_law 416 20 = [0, 40, 87, 44, 42, 29, 4, 96, 46, 42, 29, 5, 96, 46, 182, 0, 44, 87, 167, 5] := by decide +kernel
theorem dL_law_418 : decode cL_law 418 = .ok (.pop, 1) := dq_87 (zby_at (j := 2) zbL_law_26 rfl)
theorem dL_law_419 : decode cL_law 419 = .ok (.aload_n 2, 1) := dq_44 (zby_at (j := 3) zbL_law_26 rfl)
theorem dL_law_420 : decode cL_law 420 = .ok (.aload_n 0, 1) := dq_42 (zby_at (j := 4) zbL_law_26 rfl)
theorem dL_law_421 : decode cL_law 421 = .ok (.iload_n 3, 1) := dq_29 (zby_at (j := 5) zbL_law_26 rfl)
theorem dL_law_422 : decode cL_law 422 = .ok (.iconst 1, 1) := dq_4 (zby_at (j := 6) zbL_law_26 rfl)
theorem dL_law_423 : decode cL_law 423 = .ok (.iadd, 1) := dq_96 (zby_at (j := 7) zbL_law_26 rfl)
theorem dL_law_424 : decode cL_law 424 = .ok (.iaload, 1) := dq_46 (zby_at (j := 8) zbL_law_26 rfl)
theorem dL_law_425 : decode cL_law 425 = .ok (.aload_n 0, 1) := dq_42 (zby_at (j := 9) zbL_law_26 rfl)
theorem dL_law_426 : decode cL_law 426 = .ok (.iload_n 3, 1) := dq_29 (zby_at (j := 10) zbL_law_26 rfl)
theorem dL_law_427 : decode cL_law 427 = .ok (.iconst 2, 1) := dq_5 (zby_at (j := 11) zbL_law_26 rfl)
theorem dL_law_428 : decode cL_law 428 = .ok (.iadd, 1) := dq_96 (zby_at (j := 12) zbL_law_26 rfl)
theorem dL_law_429 : decode cL_law 429 = .ok (.iaload, 1) := dq_46 (zby_at (j := 13) zbL_law_26 rfl)
theorem dL_law_430 : decode cL_law 430 = .ok (.invokevirtual 44, 3) := dq_182 (zby_at (j := 14) zbL_law_26 rfl) (zby_at (j := 15) zbL_law_26 rfl) (zby_at (j := 16) zbL_law_26 rfl)
theorem zbL_law_27 : zby cL_law 432 20 = [44, 87, 167, 5, 155, 43, 42, 29, 4, 96, 46, 42, 29, 5, 96, 46, 42, 29, 6, 96] := by decide +kernel
theorem dL_law_433 : decode cL_law 433 = .ok (.pop, 1) := dq_87 (zby_at (j := 1) zbL_law_27 rfl)
theorem dL_law_434 : decode cL_law 434 = .ok (.goto 1435, 3) := dq_167 (zby_at (j := 2) zbL_law_27 rfl) (zby_at (j := 3) zbL_law_27 rfl) (zby_at (j := 4) zbL_law_27 rfl) rfl
theorem dL_law_437 : decode cL_law 437 = .ok (.aload_n 1, 1) := dq_43 (zby_at (j := 5) zbL_law_27 rfl)
theorem dL_law_438 : decode cL_law 438 = .ok (.aload_n 0, 1) := dq_42 (zby_at (j := 6) zbL_law_27 rfl)
theorem dL_law_439 : decode cL_law 439 = .ok (.iload_n 3, 1) := dq_29 (zby_at (j := 7) zbL_law_27 rfl)
theorem dL_law_440 : decode cL_law 440 = .ok (.iconst 1, 1) := dq_4 (zby_at (j := 8) zbL_law_27 rfl)
theorem dL_law_441 : decode cL_law 441 = .ok (.iadd, 1) := dq_96 (zby_at (j := 9) zbL_law_27 rfl)
theorem dL_law_442 : decode cL_law 442 = .ok (.iaload, 1) := dq_46 (zby_at (j := 10) zbL_law_27 rfl)
theorem dL_law_443 : decode cL_law 443 = .ok (.aload_n 0, 1) := dq_42 (zby_at (j := 11) zbL_law_27 rfl)
theorem dL_law_444 : decode cL_law 444 = .ok (.iload_n 3, 1) := dq_29 (zby_at (j := 12) zbL_law_27 rfl)
theorem dL_law_445 : decode cL_law 445 = .ok (.iconst 2, 1) := dq_5 (zby_at (j := 13) zbL_law_27 rfl)
theorem dL_law_446 : decode cL_law 446 = .ok (.iadd, 1) := dq_96 (zby_at (j := 14) zbL_law_27 rfl)
theorem dL_law_447 : decode cL_law 447 = .ok (.iaload, 1) := dq_46 (zby_at (j := 15) zbL_law_27 rfl)
theorem zbL_law_28 : zby cL_law 448 20 = [42, 29, 6, 96, 46, 42, 29, 7, 96, 46, 182, 0, 45, 87, 44, 42, 29, 4, 96, 46] := by decide +kernel
theorem dL_law_448 : decode cL_law 448 = .ok (.aload_n 0, 1) := dq_42 (zby_at (j := 0) zbL_law_28 rfl)
theorem dL_law_449 : decode cL_law 449 = .ok (.iload_n 3, 1) := dq_29 (zby_at (j := 1) zbL_law_28 rfl)
theorem dL_law_450 : decode cL_law 450 = .ok (.iconst 3, 1) := dq_6 (zby_at (j := 2) zbL_law_28 rfl)
theorem dL_law_451 : decode cL_law 451 = .ok (.iadd, 1) := dq_96 (zby_at (j := 3) zbL_law_28 rfl)
theorem dL_law_452 : decode cL_law 452 = .ok (.iaload, 1) := dq_46 (zby_at (j := 4) zbL_law_28 rfl)
theorem dL_law_453 : decode cL_law 453 = .ok (.aload_n 0, 1) := dq_42 (zby_at (j := 5) zbL_law_28 rfl)
theorem dL_law_454 : decode cL_law 454 = .ok (.iload_n 3, 1) := dq_29 (zby_at (j := 6) zbL_law_28 rfl)
theorem dL_law_455 : decode cL_law 455 = .ok (.iconst 4, 1) := dq_7 (zby_at (j := 7) zbL_law_28 rfl)
theorem dL_law_456 : decode cL_law 456 = .ok (.iadd, 1) := dq_96 (zby_at (j := 8) zbL_law_28 rfl)
theorem dL_law_457 : decode cL_law 457 = .ok (.iaload, 1) := dq_46 (zby_at (j := 9) zbL_law_28 rfl)
theorem dL_law_458 : decode cL_law 458 = .ok (.invokevirtual 45, 3) := dq_182 (zby_at (j := 10) zbL_law_28 rfl) (zby_at (j := 11) zbL_law_28 rfl) (zby_at (j := 12) zbL_law_28 rfl)
theorem dL_law_461 : decode cL_law 461 = .ok (.pop, 1) := dq_87 (zby_at (j := 13) zbL_law_28 rfl)
theorem dL_law_462 : decode cL_law 462 = .ok (.aload_n 2, 1) := dq_44 (zby_at (j := 14) zbL_law_28 rfl)
theorem dL_law_463 : decode cL_law 463 = .ok (.aload_n 0, 1) := dq_42 (zby_at (j := 15) zbL_law_28 rfl)
theorem zbL_law_29 : zby cL_law 464 20 = [29, 4, 96, 46, 42, 29, 5, 96, 46, 42, 29, 6, 96, 46, 42, 29, 7, 96, 46, 182] := by decide +kernel
theorem dL_law_464 : decode cL_law 464 = .ok (.iload_n 3, 1) := dq_29 (zby_at (j := 0) zbL_law_29 rfl)
theorem dL_law_465 : decode cL_law 465 = .ok (.iconst 1, 1) := dq_4 (zby_at (j := 1) zbL_law_29 rfl)
theorem dL_law_466 : decode cL_law 466 = .ok (.iadd, 1) := dq_96 (zby_at (j := 2) zbL_law_29 rfl)
theorem dL_law_467 : decode cL_law 467 = .ok (.iaload, 1) := dq_46 (zby_at (j := 3) zbL_law_29 rfl)
theorem dL_law_468 : decode cL_law 468 = .ok (.aload_n 0, 1) := dq_42 (zby_at (j := 4) zbL_law_29 rfl)
theorem dL_law_469 : decode cL_law 469 = .ok (.iload_n 3, 1) := dq_29 (zby_at (j := 5) zbL_law_29 rfl)
theorem dL_law_470 : decode cL_law 470 = .ok (.iconst 2, 1) := dq_5 (zby_at (j := 6) zbL_law_29 rfl)
theorem dL_law_471 : decode cL_law 471 = .ok (.iadd, 1) := dq_96 (zby_at (j := 7) zbL_law_29 rfl)
theorem dL_law_472 : decode cL_law 472 = .ok (.iaload, 1) := dq_46 (zby_at (j := 8) zbL_law_29 rfl)
theorem dL_law_473 : decode cL_law 473 = .ok (.aload_n 0, 1) := dq_42 (zby_at (j := 9) zbL_law_29 rfl)
theorem dL_law_474 : decode cL_law 474 = .ok (.iload_n 3, 1) := dq_29 (zby_at (j := 10) zbL_law_29 rfl)
theorem dL_law_475 : decode cL_law 475 = .ok (.iconst 3, 1) := dq_6 (zby_at (j := 11) zbL_law_29 rfl)
theorem dL_law_476 : decode cL_law 476 = .ok (.iadd, 1) := dq_96 (zby_at (j := 12) zbL_law_29 rfl)
theorem dL_law_477 : decode cL_law 477 = .ok (.iaload, 1) := dq_46 (zby_at (j := 13) zbL_law_29 rfl)
theorem dL_law_478 : decode cL_law 478 = .ok (.aload_n 0, 1) := dq_42 (zby_at (j := 14) zbL_law_29 rfl)
theorem dL_law_479 : decode cL_law 479 = .ok (.iload_n 3, 1) := dq_29 (zby_at (j := 15) zbL_law_29 rfl)
theorem zbL_law_30 : zby cL_law 480 20 = [7, 96, 46, 182, 0, 49, 87, 167, 5, 102, 43, 42, 29, 4, 96, 46, 42, 29, 5, 96] := by decide +kernel
theorem dL_law_480 : decode cL_law 480 = .ok (.iconst 4, 1) := dq_7 (zby_at (j := 0) zbL_law_30 rfl)
theorem dL_law_481 : decode cL_law 481 = .ok (.iadd, 1) := dq_96 (zby_at (j := 1) zbL_law_30 rfl)
theorem dL_law_482 : decode cL_law 482 = .ok (.iaload, 1) := dq_46 (zby_at (j := 2) zbL_law_30 rfl)
theorem dL_law_483 : decode cL_law 483 = .ok (.invokevirtual 49, 3) := dq_182 (zby_at (j := 3) zbL_law_30 rfl) (zby_at (j := 4) zbL_law_30 rfl) (zby_at (j := 5) zbL_law_30 rfl)
theorem dL_law_486 : decode cL_law 486 = .ok (.pop, 1) := dq_87 (zby_at (j := 6) zbL_law_30 rfl)
theorem dL_law_487 : decode cL_law 487 = .ok (.goto 1382, 3) := dq_167 (zby_at (j := 7) zbL_law_30 rfl) (zby_at (j := 8) zbL_law_30 rfl) (zby_at (j := 9) zbL_law_30 rfl) rfl
theorem dL_law_490 : decode cL_law 490 = .ok (.aload_n 1, 1) := dq_43 (zby_at (j := 10) zbL_law_30 rfl)
theorem dL_law_491 : decode cL_law 491 = .ok (.aload_n 0, 1) := dq_42 (zby_at (j := 11) zbL_law_30 rfl)
theorem dL_law_492 : decode cL_law 492 = .ok (.iload_n 3, 1) := dq_29 (zby_at (j := 12) zbL_law_30 rfl)
theorem dL_law_493 : decode cL_law 493 = .ok (.iconst 1, 1) := dq_4 (zby_at (j := 13) zbL_law_30 rfl)
theorem dL_law_494 : decode cL_law 494 = .ok (.iadd, 1) := dq_96 (zby_at (j := 14) zbL_law_30 rfl)
theorem dL_law_495 : decode cL_law 495 = .ok (.iaload, 1) := dq_46 (zby_at (j := 15) zbL_law_30 rfl)
theorem zbL_law_31 : zby cL_law 496 20 = [42, 29, 5, 96, 46, 42, 29, 6, 96, 46, 182, 0, 50, 87, 44, 42, 29, 4, 96, 46] := by decide +kernel
theorem dL_law_496 : decode cL_law 496 = .ok (.aload_n 0, 1) := dq_42 (zby_at (j := 0) zbL_law_31 rfl)
theorem dL_law_497 : decode cL_law 497 = .ok (.iload_n 3, 1) := dq_29 (zby_at (j := 1) zbL_law_31 rfl)
theorem dL_law_498 : decode cL_law 498 = .ok (.iconst 2, 1) := dq_5 (zby_at (j := 2) zbL_law_31 rfl)
theorem dL_law_499 : decode cL_law 499 = .ok (.iadd, 1) := dq_96 (zby_at (j := 3) zbL_law_31 rfl)
theorem dL_law_500 : decode cL_law 500 = .ok (.iaload, 1) := dq_46 (zby_at (j := 4) zbL_law_31 rfl)
theorem dL_law_501 : decode cL_law 501 = .ok (.aload_n 0, 1) := dq_42 (zby_at (j := 5) zbL_law_31 rfl)
theorem dL_law_502 : decode cL_law 502 = .ok (.iload_n 3, 1) := dq_29 (zby_at (j := 6) zbL_law_31 rfl)
theorem dL_law_503 : decode cL_law 503 = .ok (.iconst 3, 1) := dq_6 (zby_at (j := 7) zbL_law_31 rfl)
theorem dL_law_504 : decode cL_law 504 = .ok (.iadd, 1) := dq_96 (zby_at (j := 8) zbL_law_31 rfl)
theorem dL_law_505 : decode cL_law 505 = .ok (.iaload, 1) := dq_46 (zby_at (j := 9) zbL_law_31 rfl)
theorem dL_law_506 : decode cL_law 506 = .ok (.invokevirtual 50, 3) := dq_182 (zby_at (j := 10) zbL_law_31 rfl) (zby_at (j := 11) zbL_law_31 rfl) (zby_at (j := 12) zbL_law_31 rfl)
theorem dL_law_509 : decode cL_law 509 = .ok (.pop, 1) := dq_87 (zby_at (j := 13) zbL_law_31 rfl)
theorem dL_law_510 : decode cL_law 510 = .ok (.aload_n 2, 1) := dq_44 (zby_at (j := 14) zbL_law_31 rfl)
theorem dL_law_511 : decode cL_law 511 = .ok (.aload_n 0, 1) := dq_42 (zby_at (j := 15) zbL_law_31 rfl)
theorem zbL_law_32 : zby cL_law 512 20 = [29, 4, 96, 46, 42, 29, 5, 96, 46, 42, 29, 6, 96, 46, 182, 0, 54, 87, 167, 5] := by decide +kernel
theorem dL_law_512 : decode cL_law 512 = .ok (.iload_n 3, 1) := dq_29 (zby_at (j := 0) zbL_law_32 rfl)
theorem dL_law_513 : decode cL_law 513 = .ok (.iconst 1, 1) := dq_4 (zby_at (j := 1) zbL_law_32 rfl)
theorem dL_law_514 : decode cL_law 514 = .ok (.iadd, 1) := dq_96 (zby_at (j := 2) zbL_law_32 rfl)
theorem dL_law_515 : decode cL_law 515 = .ok (.iaload, 1) := dq_46 (zby_at (j := 3) zbL_law_32 rfl)
theorem dL_law_516 : decode cL_law 516 = .ok (.aload_n 0, 1) := dq_42 (zby_at (j := 4) zbL_law_32 rfl)
theorem dL_law_517 : decode cL_law 517 = .ok (.iload_n 3, 1) := dq_29 (zby_at (j := 5) zbL_law_32 rfl)
theorem dL_law_518 : decode cL_law 518 = .ok (.iconst 2, 1) := dq_5 (zby_at (j := 6) zbL_law_32 rfl)
theorem dL_law_519 : decode cL_law 519 = .ok (.iadd, 1) := dq_96 (zby_at (j := 7) zbL_law_32 rfl)
theorem dL_law_520 : decode cL_law 520 = .ok (.iaload, 1) := dq_46 (zby_at (j := 8) zbL_law_32 rfl)
theorem dL_law_521 : decode cL_law 521 = .ok (.aload_n 0, 1) := dq_42 (zby_at (j := 9) zbL_law_32 rfl)
theorem dL_law_522 : decode cL_law 522 = .ok (.iload_n 3, 1) := dq_29 (zby_at (j := 10) zbL_law_32 rfl)
theorem dL_law_523 : decode cL_law 523 = .ok (.iconst 3, 1) := dq_6 (zby_at (j := 11) zbL_law_32 rfl)
theorem dL_law_524 : decode cL_law 524 = .ok (.iadd, 1) := dq_96 (zby_at (j := 12) zbL_law_32 rfl)
theorem dL_law_525 : decode cL_law 525 = .ok (.iaload, 1) := dq_46 (zby_at (j := 13) zbL_law_32 rfl)
theorem dL_law_526 : decode cL_law 526 = .ok (.invokevirtual 54, 3) := dq_182 (zby_at (j := 14) zbL_law_32 rfl) (zby_at (j := 15) zbL_law_32 rfl) (zby_at (j := 16) zbL_law_32 rfl)
theorem zbL_law_33 : zby cL_law 528 20 = [54, 87, 167, 5, 59, 43, 42, 29, 4, 96, 46, 42, 29, 5, 96, 46, 42, 29, 6, 96] := by decide +kernel
theorem dL_law_529 : decode cL_law 529 = .ok (.pop, 1) := dq_87 (zby_at (j := 1) zbL_law_33 rfl)
theorem dL_law_530 : decode cL_law 530 = .ok (.goto 1339, 3) := dq_167 (zby_at (j := 2) zbL_law_33 rfl) (zby_at (j := 3) zbL_law_33 rfl) (zby_at (j := 4) zbL_law_33 rfl) rfl
theorem dL_law_533 : decode cL_law 533 = .ok (.aload_n 1, 1) := dq_43 (zby_at (j := 5) zbL_law_33 rfl)
theorem dL_law_534 : decode cL_law 534 = .ok (.aload_n 0, 1) := dq_42 (zby_at (j := 6) zbL_law_33 rfl)
theorem dL_law_535 : decode cL_law 535 = .ok (.iload_n 3, 1) := dq_29 (zby_at (j := 7) zbL_law_33 rfl)
theorem dL_law_536 : decode cL_law 536 = .ok (.iconst 1, 1) := dq_4 (zby_at (j := 8) zbL_law_33 rfl)
theorem dL_law_537 : decode cL_law 537 = .ok (.iadd, 1) := dq_96 (zby_at (j := 9) zbL_law_33 rfl)
theorem dL_law_538 : decode cL_law 538 = .ok (.iaload, 1) := dq_46 (zby_at (j := 10) zbL_law_33 rfl)
theorem dL_law_539 : decode cL_law 539 = .ok (.aload_n 0, 1) := dq_42 (zby_at (j := 11) zbL_law_33 rfl)
theorem dL_law_540 : decode cL_law 540 = .ok (.iload_n 3, 1) := dq_29 (zby_at (j := 12) zbL_law_33 rfl)
theorem dL_law_541 : decode cL_law 541 = .ok (.iconst 2, 1) := dq_5 (zby_at (j := 13) zbL_law_33 rfl)
theorem dL_law_542 : decode cL_law 542 = .ok (.iadd, 1) := dq_96 (zby_at (j := 14) zbL_law_33 rfl)
theorem dL_law_543 : decode cL_law 543 = .ok (.iaload, 1) := dq_46 (zby_at (j := 15) zbL_law_33 rfl)
theorem zbL_law_34 : zby cL_law 544 20 = [42, 29, 6, 96, 46, 153, 0, 7, 4, 167, 0, 4, 3, 182, 0, 55, 87, 44, 42, 29] := by decide +kernel
theorem dL_law_544 : decode cL_law 544 = .ok (.aload_n 0, 1) := dq_42 (zby_at (j := 0) zbL_law_34 rfl)
theorem dL_law_545 : decode cL_law 545 = .ok (.iload_n 3, 1) := dq_29 (zby_at (j := 1) zbL_law_34 rfl)
theorem dL_law_546 : decode cL_law 546 = .ok (.iconst 3, 1) := dq_6 (zby_at (j := 2) zbL_law_34 rfl)
theorem dL_law_547 : decode cL_law 547 = .ok (.iadd, 1) := dq_96 (zby_at (j := 3) zbL_law_34 rfl)
theorem dL_law_548 : decode cL_law 548 = .ok (.iaload, 1) := dq_46 (zby_at (j := 4) zbL_law_34 rfl)
theorem dL_law_549 : decode cL_law 549 = .ok (.ifCond .eq 7, 3) := dq_153 (zby_at (j := 5) zbL_law_34 rfl) (zby_at (j := 6) zbL_law_34 rfl) (zby_at (j := 7) zbL_law_34 rfl) rfl
theorem dL_law_552 : decode cL_law 552 = .ok (.iconst 1, 1) := dq_4 (zby_at (j := 8) zbL_law_34 rfl)
theorem dL_law_553 : decode cL_law 553 = .ok (.goto 4, 3) := dq_167 (zby_at (j := 9) zbL_law_34 rfl) (zby_at (j := 10) zbL_law_34 rfl) (zby_at (j := 11) zbL_law_34 rfl) rfl
theorem dL_law_556 : decode cL_law 556 = .ok (.iconst 0, 1) := dq_3 (zby_at (j := 12) zbL_law_34 rfl)
theorem dL_law_557 : decode cL_law 557 = .ok (.invokevirtual 55, 3) := dq_182 (zby_at (j := 13) zbL_law_34 rfl) (zby_at (j := 14) zbL_law_34 rfl) (zby_at (j := 15) zbL_law_34 rfl)
theorem zbL_law_35 : zby cL_law 560 20 = [87, 44, 42, 29, 4, 96, 46, 42, 29, 5, 96, 46, 42, 29, 6, 96, 46, 153, 0, 7] := by decide +kernel
theorem dL_law_560 : decode cL_law 560 = .ok (.pop, 1) := dq_87 (zby_at (j := 0) zbL_law_35 rfl)
theorem dL_law_561 : decode cL_law 561 = .ok (.aload_n 2, 1) := dq_44 (zby_at (j := 1) zbL_law_35 rfl)
theorem dL_law_562 : decode cL_law 562 = .ok (.aload_n 0, 1) := dq_42 (zby_at (j := 2) zbL_law_35 rfl)
theorem dL_law_563 : decode cL_law 563 = .ok (.iload_n 3, 1) := dq_29 (zby_at (j := 3) zbL_law_35 rfl)
theorem dL_law_564 : decode cL_law 564 = .ok (.iconst 1, 1) := dq_4 (zby_at (j := 4) zbL_law_35 rfl)
theorem dL_law_565 : decode cL_law 565 = .ok (.iadd, 1) := dq_96 (zby_at (j := 5) zbL_law_35 rfl)
theorem dL_law_566 : decode cL_law 566 = .ok (.iaload, 1) := dq_46 (zby_at (j := 6) zbL_law_35 rfl)
theorem dL_law_567 : decode cL_law 567 = .ok (.aload_n 0, 1) := dq_42 (zby_at (j := 7) zbL_law_35 rfl)
theorem dL_law_568 : decode cL_law 568 = .ok (.iload_n 3, 1) := dq_29 (zby_at (j := 8) zbL_law_35 rfl)
theorem dL_law_569 : decode cL_law 569 = .ok (.iconst 2, 1) := dq_5 (zby_at (j := 9) zbL_law_35 rfl)
theorem dL_law_570 : decode cL_law 570 = .ok (.iadd, 1) := dq_96 (zby_at (j := 10) zbL_law_35 rfl)
theorem dL_law_571 : decode cL_law 571 = .ok (.iaload, 1) := dq_46 (zby_at (j := 11) zbL_law_35 rfl)
theorem dL_law_572 : decode cL_law 572 = .ok (.aload_n 0, 1) := dq_42 (zby_at (j := 12) zbL_law_35 rfl)
theorem dL_law_573 : decode cL_law 573 = .ok (.iload_n 3, 1) := dq_29 (zby_at (j := 13) zbL_law_35 rfl)
theorem dL_law_574 : decode cL_law 574 = .ok (.iconst 3, 1) := dq_6 (zby_at (j := 14) zbL_law_35 rfl)
theorem dL_law_575 : decode cL_law 575 = .ok (.iadd, 1) := dq_96 (zby_at (j := 15) zbL_law_35 rfl)
theorem zbL_law_36 : zby cL_law 576 20 = [46, 153, 0, 7, 4, 167, 0, 4, 3, 182, 0, 59, 87, 167, 5, 0, 43, 42, 29, 4] := by decide +kernel
theorem dL_law_576 : decode cL_law 576 = .ok (.iaload, 1) := dq_46 (zby_at (j := 0) zbL_law_36 rfl)
theorem dL_law_577 : decode cL_law 577 = .ok (.ifCond .eq 7, 3) := dq_153 (zby_at (j := 1) zbL_law_36 rfl) (zby_at (j := 2) zbL_law_36 rfl) (zby_at (j := 3) zbL_law_36 rfl) rfl
theorem dL_law_580 : decode cL_law 580 = .ok (.iconst 1, 1) := dq_4 (zby_at (j := 4) zbL_law_36 rfl)
theorem dL_law_581 : decode cL_law 581 = .ok (.goto 4, 3) := dq_167 (zby_at (j := 5) zbL_law_36 rfl) (zby_at (j := 6) zbL_law_36 rfl) (zby_at (j := 7) zbL_law_36 rfl) rfl
theorem dL_law_584 : decode cL_law 584 = .ok (.iconst 0, 1) := dq_3 (zby_at (j := 8) zbL_law_36 rfl)
theorem dL_law_585 : decode cL_law 585 = .ok (.invokevirtual 59, 3) := dq_182 (zby_at (j := 9) zbL_law_36 rfl) (zby_at (j := 10) zbL_law_36 rfl) (zby_at (j := 11) zbL_law_36 rfl)
theorem dL_law_588 : decode cL_law 588 = .ok (.pop, 1) := dq_87 (zby_at (j := 12) zbL_law_36 rfl)
theorem dL_law_589 : decode cL_law 589 = .ok (.goto 1280, 3) := dq_167 (zby_at (j := 13) zbL_law_36 rfl) (zby_at (j := 14) zbL_law_36 rfl) (zby_at (j := 15) zbL_law_36 rfl) rfl
theorem zbL_law_37 : zby cL_law 592 20 = [43, 42, 29, 4, 96, 46, 42, 29, 5, 96, 46, 42, 29, 6, 96, 46, 182, 0, 60, 87] := by decide +kernel
theorem dL_law_592 : decode cL_law 592 = .ok (.aload_n 1, 1) := dq_43 (zby_at (j := 0) zbL_law_37 rfl)
theorem dL_law_593 : decode cL_law 593 = .ok (.aload_n 0, 1) := dq_42 (zby_at (j := 1) zbL_law_37 rfl)
theorem dL_law_594 : decode cL_law 594 = .ok (.iload_n 3, 1) := dq_29 (zby_at (j := 2) zbL_law_37 rfl)
theorem dL_law_595 : decode cL_law 595 = .ok (.iconst 1, 1) := dq_4 (zby_at (j := 3) zbL_law_37 rfl)
theorem dL_law_596 : decode cL_law 596 = .ok (.iadd, 1) := dq_96 (zby_at (j := 4) zbL_law_37 rfl)
theorem dL_law_597 : decode cL_law 597 = .ok (.iaload, 1) := dq_46 (zby_at (j := 5) zbL_law_37 rfl)
theorem dL_law_598 : decode cL_law 598 = .ok (.aload_n 0, 1) := dq_42 (zby_at (j := 6) zbL_law_37 rfl)
theorem dL_law_599 : decode cL_law 599 = .ok (.iload_n 3, 1) := dq_29 (zby_at (j := 7) zbL_law_37 rfl)
theorem dL_law_600 : decode cL_law 600 = .ok (.iconst 2, 1) := dq_5 (zby_at (j := 8) zbL_law_37 rfl)
theorem dL_law_601 : decode cL_law 601 = .ok (.iadd, 1) := dq_96 (zby_at (j := 9) zbL_law_37 rfl)
theorem dL_law_602 : decode cL_law 602 = .ok (.iaload, 1) := dq_46 (zby_at (j := 10) zbL_law_37 rfl)
theorem dL_law_603 : decode cL_law 603 = .ok (.aload_n 0, 1) := dq_42 (zby_at (j := 11) zbL_law_37 rfl)
theorem dL_law_604 : decode cL_law 604 = .ok (.iload_n 3, 1) := dq_29 (zby_at (j := 12) zbL_law_37 rfl)
theorem dL_law_605 : decode cL_law 605 = .ok (.iconst 3, 1) := dq_6 (zby_at (j := 13) zbL_law_37 rfl)
theorem dL_law_606 : decode cL_law 606 = .ok (.iadd, 1) := dq_96 (zby_at (j := 14) zbL_law_37 rfl)
theorem dL_law_607 : decode cL_law 607 = .ok (.iaload, 1) := dq_46 (zby_at (j := 15) zbL_law_37 rfl)
theorem zbL_law_38 : zby cL_law 608 20 = [182, 0, 60, 87, 44, 42, 29, 4, 96, 46, 42, 29, 5, 96, 46, 42, 29, 6, 96, 46] := by decide +kernel
theorem dL_law_608 : decode cL_law 608 = .ok (.invokevirtual 60, 3) := dq_182 (zby_at (j := 0) zbL_law_38 rfl) (zby_at (j := 1) zbL_law_38 rfl) (zby_at (j := 2) zbL_law_38 rfl)
theorem dL_law_611 : decode cL_law 611 = .ok (.pop, 1) := dq_87 (zby_at (j := 3) zbL_law_38 rfl)
theorem dL_law_612 : decode cL_law 612 = .ok (.aload_n 2, 1) := dq_44 (zby_at (j := 4) zbL_law_38 rfl)
theorem dL_law_613 : decode cL_law 613 = .ok (.aload_n 0, 1) := dq_42 (zby_at (j := 5) zbL_law_38 rfl)
theorem dL_law_614 : decode cL_law 614 = .ok (.iload_n 3, 1) := dq_29 (zby_at (j := 6) zbL_law_38 rfl)
theorem dL_law_615 : decode cL_law 615 = .ok (.iconst 1, 1) := dq_4 (zby_at (j := 7) zbL_law_38 rfl)
theorem dL_law_616 : decode cL_law 616 = .ok (.iadd, 1) := dq_96 (zby_at (j := 8) zbL_law_38 rfl)
theorem dL_law_617 : decode cL_law 617 = .ok (.iaload, 1) := dq_46 (zby_at (j := 9) zbL_law_38 rfl)
theorem dL_law_618 : decode cL_law 618 = .ok (.aload_n 0, 1) := dq_42 (zby_at (j := 10) zbL_law_38 rfl)
theorem dL_law_619 : decode cL_law 619 = .ok (.iload_n 3, 1) := dq_29 (zby_at (j := 11) zbL_law_38 rfl)
theorem dL_law_620 : decode cL_law 620 = .ok (.iconst 2, 1) := dq_5 (zby_at (j := 12) zbL_law_38 rfl)
theorem dL_law_621 : decode cL_law 621 = .ok (.iadd, 1) := dq_96 (zby_at (j := 13) zbL_law_38 rfl)
theorem dL_law_622 : decode cL_law 622 = .ok (.iaload, 1) := dq_46 (zby_at (j := 14) zbL_law_38 rfl)
theorem dL_law_623 : decode cL_law 623 = .ok (.aload_n 0, 1) := dq_42 (zby_at (j := 15) zbL_law_38 rfl)
theorem zbL_law_39 : zby cL_law 624 20 = [29, 6, 96, 46, 182, 0, 63, 87, 167, 4, 213, 43, 42, 29, 4, 96, 46, 42, 29, 5] := by decide +kernel
theorem dL_law_624 : decode cL_law 624 = .ok (.iload_n 3, 1) := dq_29 (zby_at (j := 0) zbL_law_39 rfl)
theorem dL_law_625 : decode cL_law 625 = .ok (.iconst 3, 1) := dq_6 (zby_at (j := 1) zbL_law_39 rfl)
theorem dL_law_626 : decode cL_law 626 = .ok (.iadd, 1) := dq_96 (zby_at (j := 2) zbL_law_39 rfl)
theorem dL_law_627 : decode cL_law 627 = .ok (.iaload, 1) := dq_46 (zby_at (j := 3) zbL_law_39 rfl)
theorem dL_law_628 : decode cL_law 628 = .ok (.invokevirtual 63, 3) := dq_182 (zby_at (j := 4) zbL_law_39 rfl) (zby_at (j := 5) zbL_law_39 rfl) (zby_at (j := 6) zbL_law_39 rfl)
theorem dL_law_631 : decode cL_law 631 = .ok (.pop, 1) := dq_87 (zby_at (j := 7) zbL_law_39 rfl)
theorem dL_law_632 : decode cL_law 632 = .ok (.goto 1237, 3) := dq_167 (zby_at (j := 8) zbL_law_39 rfl) (zby_at (j := 9) zbL_law_39 rfl) (zby_at (j := 10) zbL_law_39 rfl) rfl
theorem dL_law_635 : decode cL_law 635 = .ok (.aload_n 1, 1) := dq_43 (zby_at (j := 11) zbL_law_39 rfl)
theorem dL_law_636 : decode cL_law 636 = .ok (.aload_n 0, 1) := dq_42 (zby_at (j := 12) zbL_law_39 rfl)
theorem dL_law_637 : decode cL_law 637 = .ok (.iload_n 3, 1) := dq_29 (zby_at (j := 13) zbL_law_39 rfl)
theorem dL_law_638 : decode cL_law 638 = .ok (.iconst 1, 1) := dq_4 (zby_at (j := 14) zbL_law_39 rfl)
theorem dL_law_639 : decode cL_law 639 = .ok (.iadd, 1) := dq_96 (zby_at (j := 15) zbL_law_39 rfl)
theorem zbL_law_40 : zby cL_law 640 20 = [46, 42, 29, 5, 96, 46, 42, 29, 6, 96, 46, 42, 29, 7, 96, 46, 153, 0, 7, 4] := by decide +kernel
theorem dL_law_640 : decode cL_law 640 = .ok (.iaload, 1) := dq_46 (zby_at (j := 0) zbL_law_40 rfl)
theorem dL_law_641 : decode cL_law 641 = .ok (.aload_n 0, 1) := dq_42 (zby_at (j := 1) zbL_law_40 rfl)
theorem dL_law_642 : decode cL_law 642 = .ok (.iload_n 3, 1) := dq_29 (zby_at (j := 2) zbL_law_40 rfl)
theorem dL_law_643 : decode cL_law 643 = .ok (.iconst 2, 1) := dq_5 (zby_at (j := 3) zbL_law_40 rfl)
theorem dL_law_644 : decode cL_law 644 = .ok (.iadd, 1) := dq_96 (zby_at (j := 4) zbL_law_40 rfl)
theorem dL_law_645 : decode cL_law 645 = .ok (.iaload, 1) := dq_46 (zby_at (j := 5) zbL_law_40 rfl)
theorem dL_law_646 : decode cL_law 646 = .ok (.aload_n 0, 1) := dq_42 (zby_at (j := 6) zbL_law_40 rfl)
theorem dL_law_647 : decode cL_law 647 = .ok (.iload_n 3, 1) := dq_29 (zby_at (j := 7) zbL_law_40 rfl)
theorem dL_law_648 : decode cL_law 648 = .ok (.iconst 3, 1) := dq_6 (zby_at (j := 8) zbL_law_40 rfl)
theorem dL_law_649 : decode cL_law 649 = .ok (.iadd, 1) := dq_96 (zby_at (j := 9) zbL_law_40 rfl)
theorem dL_law_650 : decode cL_law 650 = .ok (.iaload, 1) := dq_46 (zby_at (j := 10) zbL_law_40 rfl)
theorem dL_law_651 : decode cL_law 651 = .ok (.aload_n 0, 1) := dq_42 (zby_at (j := 11) zbL_law_40 rfl)
theorem dL_law_652 : decode cL_law 652 = .ok (.iload_n 3, 1) := dq_29 (zby_at (j := 12) zbL_law_40 rfl)
theorem dL_law_653 : decode cL_law 653 = .ok (.iconst 4, 1) := dq_7 (zby_at (j := 13) zbL_law_40 rfl)
theorem dL_law_654 : decode cL_law 654 = .ok (.iadd, 1) := dq_96 (zby_at (j := 14) zbL_law_40 rfl)
theorem dL_law_655 : decode cL_law 655 = .ok (.iaload, 1) := dq_46 (zby_at (j := 15) zbL_law_40 rfl)
theorem zbL_law_41 : zby cL_law 656 20 = [153, 0, 7, 4, 167, 0, 4, 3, 182, 0, 64, 87, 44, 42, 29, 4, 96, 46, 42, 29] := by decide +kernel
theorem dL_law_656 : decode cL_law 656 = .ok (.ifCond .eq 7, 3) := dq_153 (zby_at (j := 0) zbL_law_41 rfl) (zby_at (j := 1) zbL_law_41 rfl) (zby_at (j := 2) zbL_law_41 rfl) rfl
theorem dL_law_659 : decode cL_law 659 = .ok (.iconst 1, 1) := dq_4 (zby_at (j := 3) zbL_law_41 rfl)
theorem dL_law_660 : decode cL_law 660 = .ok (.goto 4, 3) := dq_167 (zby_at (j := 4) zbL_law_41 rfl) (zby_at (j := 5) zbL_law_41 rfl) (zby_at (j := 6) zbL_law_41 rfl) rfl
theorem dL_law_663 : decode cL_law 663 = .ok (.iconst 0, 1) := dq_3 (zby_at (j := 7) zbL_law_41 rfl)
theorem dL_law_664 : decode cL_law 664 = .ok (.invokevirtual 64, 3) := dq_182 (zby_at (j := 8) zbL_law_41 rfl) (zby_at (j := 9) zbL_law_41 rfl) (zby_at (j := 10) zbL_law_41 rfl)
theorem dL_law_667 : decode cL_law 667 = .ok (.pop, 1) := dq_87 (zby_at (j := 11) zbL_law_41 rfl)
theorem dL_law_668 : decode cL_law 668 = .ok (.aload_n 2, 1) := dq_44 (zby_at (j := 12) zbL_law_41 rfl)
theorem dL_law_669 : decode cL_law 669 = .ok (.aload_n 0, 1) := dq_42 (zby_at (j := 13) zbL_law_41 rfl)
theorem dL_law_670 : decode cL_law 670 = .ok (.iload_n 3, 1) := dq_29 (zby_at (j := 14) zbL_law_41 rfl)
theorem dL_law_671 : decode cL_law 671 = .ok (.iconst 1, 1) := dq_4 (zby_at (j := 15) zbL_law_41 rfl)
theorem zbL_law_42 : zby cL_law 672 20 = [96, 46, 42, 29, 5, 96, 46, 42, 29, 6, 96, 46, 42, 29, 7, 96, 46, 153, 0, 7] := by decide +kernel
theorem dL_law_672 : decode cL_law 672 = .ok (.iadd, 1) := dq_96 (zby_at (j := 0) zbL_law_42 rfl)
theorem dL_law_673 : decode cL_law 673 = .ok (.iaload, 1) := dq_46 (zby_at (j := 1) zbL_law_42 rfl)
theorem dL_law_674 : decode cL_law 674 = .ok (.aload_n 0, 1) := dq_42 (zby_at (j := 2) zbL_law_42 rfl)
theorem dL_law_675 : decode cL_law 675 = .ok (.iload_n 3, 1) := dq_29 (zby_at (j := 3) zbL_law_42 rfl)
theorem dL_law_676 : decode cL_law 676 = .ok (.iconst 2, 1) := dq_5 (zby_at (j := 4) zbL_law_42 rfl)
theorem dL_law_677 : decode cL_law 677 = .ok (.iadd, 1) := dq_96 (zby_at (j := 5) zbL_law_42 rfl)
theorem dL_law_678 : decode cL_law 678 = .ok (.iaload, 1) := dq_46 (zby_at (j := 6) zbL_law_42 rfl)
theorem dL_law_679 : decode cL_law 679 = .ok (.aload_n 0, 1) := dq_42 (zby_at (j := 7) zbL_law_42 rfl)
theorem dL_law_680 : decode cL_law 680 = .ok (.iload_n 3, 1) := dq_29 (zby_at (j := 8) zbL_law_42 rfl)
theorem dL_law_681 : decode cL_law 681 = .ok (.iconst 3, 1) := dq_6 (zby_at (j := 9) zbL_law_42 rfl)
theorem dL_law_682 : decode cL_law 682 = .ok (.iadd, 1) := dq_96 (zby_at (j := 10) zbL_law_42 rfl)
theorem dL_law_683 : decode cL_law 683 = .ok (.iaload, 1) := dq_46 (zby_at (j := 11) zbL_law_42 rfl)
theorem dL_law_684 : decode cL_law 684 = .ok (.aload_n 0, 1) := dq_42 (zby_at (j := 12) zbL_law_42 rfl)
theorem dL_law_685 : decode cL_law 685 = .ok (.iload_n 3, 1) := dq_29 (zby_at (j := 13) zbL_law_42 rfl)
theorem dL_law_686 : decode cL_law 686 = .ok (.iconst 4, 1) := dq_7 (zby_at (j := 14) zbL_law_42 rfl)
theorem dL_law_687 : decode cL_law 687 = .ok (.iadd, 1) := dq_96 (zby_at (j := 15) zbL_law_42 rfl)
theorem zbL_law_43 : zby cL_law 688 20 = [46, 153, 0, 7, 4, 167, 0, 4, 3, 182, 0, 68, 87, 167, 4, 144, 43, 42, 29, 4] := by decide +kernel
theorem dL_law_688 : decode cL_law 688 = .ok (.iaload, 1) := dq_46 (zby_at (j := 0) zbL_law_43 rfl)
theorem dL_law_689 : decode cL_law 689 = .ok (.ifCond .eq 7, 3) := dq_153 (zby_at (j := 1) zbL_law_43 rfl) (zby_at (j := 2) zbL_law_43 rfl) (zby_at (j := 3) zbL_law_43 rfl) rfl
theorem dL_law_692 : decode cL_law 692 = .ok (.iconst 1, 1) := dq_4 (zby_at (j := 4) zbL_law_43 rfl)
theorem dL_law_693 : decode cL_law 693 = .ok (.goto 4, 3) := dq_167 (zby_at (j := 5) zbL_law_43 rfl) (zby_at (j := 6) zbL_law_43 rfl) (zby_at (j := 7) zbL_law_43 rfl) rfl
theorem dL_law_696 : decode cL_law 696 = .ok (.iconst 0, 1) := dq_3 (zby_at (j := 8) zbL_law_43 rfl)
theorem dL_law_697 : decode cL_law 697 = .ok (.invokevirtual 68, 3) := dq_182 (zby_at (j := 9) zbL_law_43 rfl) (zby_at (j := 10) zbL_law_43 rfl) (zby_at (j := 11) zbL_law_43 rfl)
theorem dL_law_700 : decode cL_law 700 = .ok (.pop, 1) := dq_87 (zby_at (j := 12) zbL_law_43 rfl)
theorem dL_law_701 : decode cL_law 701 = .ok (.goto 1168, 3) := dq_167 (zby_at (j := 13) zbL_law_43 rfl) (zby_at (j := 14) zbL_law_43 rfl) (zby_at (j := 15) zbL_law_43 rfl) rfl
theorem zbL_law_44 : zby cL_law 704 20 = [43, 42, 29, 4, 96, 46, 42, 29, 5, 96, 46, 42, 29, 6, 96, 46, 182, 0, 69, 87] := by decide +kernel
theorem dL_law_704 : decode cL_law 704 = .ok (.aload_n 1, 1) := dq_43 (zby_at (j := 0) zbL_law_44 rfl)
theorem dL_law_705 : decode cL_law 705 = .ok (.aload_n 0, 1) := dq_42 (zby_at (j := 1) zbL_law_44 rfl)
theorem dL_law_706 : decode cL_law 706 = .ok (.iload_n 3, 1) := dq_29 (zby_at (j := 2) zbL_law_44 rfl)
theorem dL_law_707 : decode cL_law 707 = .ok (.iconst 1, 1) := dq_4 (zby_at (j := 3) zbL_law_44 rfl)
theorem dL_law_708 : decode cL_law 708 = .ok (.iadd, 1) := dq_96 (zby_at (j := 4) zbL_law_44 rfl)
theorem dL_law_709 : decode cL_law 709 = .ok (.iaload, 1) := dq_46 (zby_at (j := 5) zbL_law_44 rfl)
theorem dL_law_710 : decode cL_law 710 = .ok (.aload_n 0, 1) := dq_42 (zby_at (j := 6) zbL_law_44 rfl)
theorem dL_law_711 : decode cL_law 711 = .ok (.iload_n 3, 1) := dq_29 (zby_at (j := 7) zbL_law_44 rfl)
theorem dL_law_712 : decode cL_law 712 = .ok (.iconst 2, 1) := dq_5 (zby_at (j := 8) zbL_law_44 rfl)
theorem dL_law_713 : decode cL_law 713 = .ok (.iadd, 1) := dq_96 (zby_at (j := 9) zbL_law_44 rfl)
theorem dL_law_714 : decode cL_law 714 = .ok (.iaload, 1) := dq_46 (zby_at (j := 10) zbL_law_44 rfl)
theorem dL_law_715 : decode cL_law 715 = .ok (.aload_n 0, 1) := dq_42 (zby_at (j := 11) zbL_law_44 rfl)
theorem dL_law_716 : decode cL_law 716 = .ok (.iload_n 3, 1) := dq_29 (zby_at (j := 12) zbL_law_44 rfl)
theorem dL_law_717 : decode cL_law 717 = .ok (.iconst 3, 1) := dq_6 (zby_at (j := 13) zbL_law_44 rfl)
theorem dL_law_718 : decode cL_law 718 = .ok (.iadd, 1) := dq_96 (zby_at (j := 14) zbL_law_44 rfl)
theorem dL_law_719 : decode cL_law 719 = .ok (.iaload, 1) := dq_46 (zby_at (j := 15) zbL_law_44 rfl)
theorem zbL_law_45 : zby cL_law 720 20 = [182, 0, 69, 87, 44, 42, 29, 4, 96, 46, 42, 29, 5, 96, 46, 42, 29, 6, 96, 46] := by decide +kernel
theorem dL_law_720 : decode cL_law 720 = .ok (.invokevirtual 69, 3) := dq_182 (zby_at (j := 0) zbL_law_45 rfl) (zby_at (j := 1) zbL_law_45 rfl) (zby_at (j := 2) zbL_law_45 rfl)
theorem dL_law_723 : decode cL_law 723 = .ok (.pop, 1) := dq_87 (zby_at (j := 3) zbL_law_45 rfl)
theorem dL_law_724 : decode cL_law 724 = .ok (.aload_n 2, 1) := dq_44 (zby_at (j := 4) zbL_law_45 rfl)
theorem dL_law_725 : decode cL_law 725 = .ok (.aload_n 0, 1) := dq_42 (zby_at (j := 5) zbL_law_45 rfl)
theorem dL_law_726 : decode cL_law 726 = .ok (.iload_n 3, 1) := dq_29 (zby_at (j := 6) zbL_law_45 rfl)
theorem dL_law_727 : decode cL_law 727 = .ok (.iconst 1, 1) := dq_4 (zby_at (j := 7) zbL_law_45 rfl)
theorem dL_law_728 : decode cL_law 728 = .ok (.iadd, 1) := dq_96 (zby_at (j := 8) zbL_law_45 rfl)
theorem dL_law_729 : decode cL_law 729 = .ok (.iaload, 1) := dq_46 (zby_at (j := 9) zbL_law_45 rfl)
theorem dL_law_730 : decode cL_law 730 = .ok (.aload_n 0, 1) := dq_42 (zby_at (j := 10) zbL_law_45 rfl)
theorem dL_law_731 : decode cL_law 731 = .ok (.iload_n 3, 1) := dq_29 (zby_at (j := 11) zbL_law_45 rfl)
theorem dL_law_732 : decode cL_law 732 = .ok (.iconst 2, 1) := dq_5 (zby_at (j := 12) zbL_law_45 rfl)
theorem dL_law_733 : decode cL_law 733 = .ok (.iadd, 1) := dq_96 (zby_at (j := 13) zbL_law_45 rfl)
theorem dL_law_734 : decode cL_law 734 = .ok (.iaload, 1) := dq_46 (zby_at (j := 14) zbL_law_45 rfl)
theorem dL_law_735 : decode cL_law 735 = .ok (.aload_n 0, 1) := dq_42 (zby_at (j := 15) zbL_law_45 rfl)
theorem zbL_law_46 : zby cL_law 736 20 = [29, 6, 96, 46, 182, 0, 72, 87, 167, 4, 101, 43, 42, 29, 4, 96, 46, 42, 29, 5] := by decide +kernel
theorem dL_law_736 : decode cL_law 736 = .ok (.iload_n 3, 1) := dq_29 (zby_at (j := 0) zbL_law_46 rfl)
theorem dL_law_737 : decode cL_law 737 = .ok (.iconst 3, 1) := dq_6 (zby_at (j := 1) zbL_law_46 rfl)
theorem dL_law_738 : decode cL_law 738 = .ok (.iadd, 1) := dq_96 (zby_at (j := 2) zbL_law_46 rfl)
theorem dL_law_739 : decode cL_law 739 = .ok (.iaload, 1) := dq_46 (zby_at (j := 3) zbL_law_46 rfl)
theorem dL_law_740 : decode cL_law 740 = .ok (.invokevirtual 72, 3) := dq_182 (zby_at (j := 4) zbL_law_46 rfl) (zby_at (j := 5) zbL_law_46 rfl) (zby_at (j := 6) zbL_law_46 rfl)
theorem dL_law_743 : decode cL_law 743 = .ok (.pop, 1) := dq_87 (zby_at (j := 7) zbL_law_46 rfl)
theorem dL_law_744 : decode cL_law 744 = .ok (.goto 1125, 3) := dq_167 (zby_at (j := 8) zbL_law_46 rfl) (zby_at (j := 9) zbL_law_46 rfl) (zby_at (j := 10) zbL_law_46 rfl) rfl
theorem dL_law_747 : decode cL_law 747 = .ok (.aload_n 1, 1) := dq_43 (zby_at (j := 11) zbL_law_46 rfl)
theorem dL_law_748 : decode cL_law 748 = .ok (.aload_n 0, 1) := dq_42 (zby_at (j := 12) zbL_law_46 rfl)
theorem dL_law_749 : decode cL_law 749 = .ok (.iload_n 3, 1) := dq_29 (zby_at (j := 13) zbL_law_46 rfl)
theorem dL_law_750 : decode cL_law 750 = .ok (.iconst 1, 1) := dq_4 (zby_at (j := 14) zbL_law_46 rfl)
theorem dL_law_751 : decode cL_law 751 = .ok (.iadd, 1) := dq_96 (zby_at (j := 15) zbL_law_46 rfl)
theorem zbL_law_47 : zby cL_law 752 20 = [46, 42, 29, 5, 96, 46, 182, 0, 73, 87, 44, 42, 29, 4, 96, 46, 42, 29, 5, 96] := by decide +kernel
theorem dL_law_752 : decode cL_law 752 = .ok (.iaload, 1) := dq_46 (zby_at (j := 0) zbL_law_47 rfl)
theorem dL_law_753 : decode cL_law 753 = .ok (.aload_n 0, 1) := dq_42 (zby_at (j := 1) zbL_law_47 rfl)
theorem dL_law_754 : decode cL_law 754 = .ok (.iload_n 3, 1) := dq_29 (zby_at (j := 2) zbL_law_47 rfl)
theorem dL_law_755 : decode cL_law 755 = .ok (.iconst 2, 1) := dq_5 (zby_at (j := 3) zbL_law_47 rfl)
theorem dL_law_756 : decode cL_law 756 = .ok (.iadd, 1) := dq_96 (zby_at (j := 4) zbL_law_47 rfl)
theorem dL_law_757 : decode cL_law 757 = .ok (.iaload, 1) := dq_46 (zby_at (j := 5) zbL_law_47 rfl)
theorem dL_law_758 : decode cL_law 758 = .ok (.invokevirtual 73, 3) := dq_182 (zby_at (j := 6) zbL_law_47 rfl) (zby_at (j := 7) zbL_law_47 rfl) (zby_at (j := 8) zbL_law_47 rfl)
theorem dL_law_761 : decode cL_law 761 = .ok (.pop, 1) := dq_87 (zby_at (j := 9) zbL_law_47 rfl)
theorem dL_law_762 : decode cL_law 762 = .ok (.aload_n 2, 1) := dq_44 (zby_at (j := 10) zbL_law_47 rfl)
theorem dL_law_763 : decode cL_law 763 = .ok (.aload_n 0, 1) := dq_42 (zby_at (j := 11) zbL_law_47 rfl)
theorem dL_law_764 : decode cL_law 764 = .ok (.iload_n 3, 1) := dq_29 (zby_at (j := 12) zbL_law_47 rfl)
theorem dL_law_765 : decode cL_law 765 = .ok (.iconst 1, 1) := dq_4 (zby_at (j := 13) zbL_law_47 rfl)
theorem dL_law_766 : decode cL_law 766 = .ok (.iadd, 1) := dq_96 (zby_at (j := 14) zbL_law_47 rfl)
theorem dL_law_767 : decode cL_law 767 = .ok (.iaload, 1) := dq_46 (zby_at (j := 15) zbL_law_47 rfl)
theorem zbL_law_48 : zby cL_law 768 20 = [42, 29, 5, 96, 46, 182, 0, 76, 87, 167, 4, 68, 43, 42, 29, 4, 96, 46, 42, 29] := by decide +kernel
theorem dL_law_768 : decode cL_law 768 = .ok (.aload_n 0, 1) := dq_42 (zby_at (j := 0) zbL_law_48 rfl)
theorem dL_law_769 : decode cL_law 769 = .ok (.iload_n 3, 1) := dq_29 (zby_at (j := 1) zbL_law_48 rfl)
theorem dL_law_770 : decode cL_law 770 = .ok (.iconst 2, 1) := dq_5 (zby_at (j := 2) zbL_law_48 rfl)
theorem dL_law_771 : decode cL_law 771 = .ok (.iadd, 1) := dq_96 (zby_at (j := 3) zbL_law_48 rfl)
theorem dL_law_772 : decode cL_law 772 = .ok (.iaload, 1) := dq_46 (zby_at (j := 4) zbL_law_48 rfl)
theorem dL_law_773 : decode cL_law 773 = .ok (.invokevirtual 76, 3) := dq_182 (zby_at (j := 5) zbL_law_48 rfl) (zby_at (j := 6) zbL_law_48 rfl) (zby_at (j := 7) zbL_law_48 rfl)
theorem dL_law_776 : decode cL_law 776 = .ok (.pop, 1) := dq_87 (zby_at (j := 8) zbL_law_48 rfl)
theorem dL_law_777 : decode cL_law 777 = .ok (.goto 1092, 3) := dq_167 (zby_at (j := 9) zbL_law_48 rfl) (zby_at (j := 10) zbL_law_48 rfl) (zby_at (j := 11) zbL_law_48 rfl) rfl
theorem dL_law_780 : decode cL_law 780 = .ok (.aload_n 1, 1) := dq_43 (zby_at (j := 12) zbL_law_48 rfl)
theorem dL_law_781 : decode cL_law 781 = .ok (.aload_n 0, 1) := dq_42 (zby_at (j := 13) zbL_law_48 rfl)
theorem dL_law_782 : decode cL_law 782 = .ok (.iload_n 3, 1) := dq_29 (zby_at (j := 14) zbL_law_48 rfl)
theorem dL_law_783 : decode cL_law 783 = .ok (.iconst 1, 1) := dq_4 (zby_at (j := 15) zbL_law_48 rfl)
theorem zbL_law_49 : zby cL_law 784 20 = [96, 46, 42, 29, 5, 96, 46, 182, 0, 77, 87, 44, 42, 29, 4, 96, 46, 42, 29, 5] := by decide +kernel
theorem dL_law_784 : decode cL_law 784 = .ok (.iadd, 1) := dq_96 (zby_at (j := 0) zbL_law_49 rfl)
theorem dL_law_785 : decode cL_law 785 = .ok (.iaload, 1) := dq_46 (zby_at (j := 1) zbL_law_49 rfl)
theorem dL_law_786 : decode cL_law 786 = .ok (.aload_n 0, 1) := dq_42 (zby_at (j := 2) zbL_law_49 rfl)
theorem dL_law_787 : decode cL_law 787 = .ok (.iload_n 3, 1) := dq_29 (zby_at (j := 3) zbL_law_49 rfl)
theorem dL_law_788 : decode cL_law 788 = .ok (.iconst 2, 1) := dq_5 (zby_at (j := 4) zbL_law_49 rfl)
theorem dL_law_789 : decode cL_law 789 = .ok (.iadd, 1) := dq_96 (zby_at (j := 5) zbL_law_49 rfl)
theorem dL_law_790 : decode cL_law 790 = .ok (.iaload, 1) := dq_46 (zby_at (j := 6) zbL_law_49 rfl)
theorem dL_law_791 : decode cL_law 791 = .ok (.invokevirtual 77, 3) := dq_182 (zby_at (j := 7) zbL_law_49 rfl) (zby_at (j := 8) zbL_law_49 rfl) (zby_at (j := 9) zbL_law_49 rfl)
theorem dL_law_794 : decode cL_law 794 = .ok (.pop, 1) := dq_87 (zby_at (j := 10) zbL_law_49 rfl)
theorem dL_law_795 : decode cL_law 795 = .ok (.aload_n 2, 1) := dq_44 (zby_at (j := 11) zbL_law_49 rfl)
theorem dL_law_796 : decode cL_law 796 = .ok (.aload_n 0, 1) := dq_42 (zby_at (j := 12) zbL_law_49 rfl)
theorem dL_law_797 : decode cL_law 797 = .ok (.iload_n 3, 1) := dq_29 (zby_at (j := 13) zbL_law_49 rfl)
theorem dL_law_798 : decode cL_law 798 = .ok (.iconst 1, 1) := dq_4 (zby_at (j := 14) zbL_law_49 rfl)
theorem dL_law_799 : decode cL_law 799 = .ok (.iadd, 1) := dq_96 (zby_at (j := 15) zbL_law_49 rfl)
theorem zbL_law_50 : zby cL_law 800 20 = [46, 42, 29, 5, 96, 46, 182, 0, 80, 87, 167, 4, 35, 43, 42, 29, 4, 96, 46, 42] := by decide +kernel
theorem dL_law_800 : decode cL_law 800 = .ok (.iaload, 1) := dq_46 (zby_at (j := 0) zbL_law_50 rfl)
theorem dL_law_801 : decode cL_law 801 = .ok (.aload_n 0, 1) := dq_42 (zby_at (j := 1) zbL_law_50 rfl)
theorem dL_law_802 : decode cL_law 802 = .ok (.iload_n 3, 1) := dq_29 (zby_at (j := 2) zbL_law_50 rfl)
theorem dL_law_803 : decode cL_law 803 = .ok (.iconst 2, 1) := dq_5 (zby_at (j := 3) zbL_law_50 rfl)
theorem dL_law_804 : decode cL_law 804 = .ok (.iadd, 1) := dq_96 (zby_at (j := 4) zbL_law_50 rfl)
theorem dL_law_805 : decode cL_law 805 = .ok (.iaload, 1) := dq_46 (zby_at (j := 5) zbL_law_50 rfl)
theorem dL_law_806 : decode cL_law 806 = .ok (.invokevirtual 80, 3) := dq_182 (zby_at (j := 6) zbL_law_50 rfl) (zby_at (j := 7) zbL_law_50 rfl) (zby_at (j := 8) zbL_law_50 rfl)
theorem dL_law_809 : decode cL_law 809 = .ok (.pop, 1) := dq_87 (zby_at (j := 9) zbL_law_50 rfl)
theorem dL_law_810 : decode cL_law 810 = .ok (.goto 1059, 3) := dq_167 (zby_at (j := 10) zbL_law_50 rfl) (zby_at (j := 11) zbL_law_50 rfl) (zby_at (j := 12) zbL_law_50 rfl) rfl
theorem dL_law_813 : decode cL_law 813 = .ok (.aload_n 1, 1) := dq_43 (zby_at (j := 13) zbL_law_50 rfl)
theorem dL_law_814 : decode cL_law 814 = .ok (.aload_n 0, 1) := dq_42 (zby_at (j := 14) zbL_law_50 rfl)
theorem dL_law_815 : decode cL_law 815 = .ok (.iload_n 3, 1) := dq_29 (zby_at (j := 15) zbL_law_50 rfl)
theorem zbL_law_51 : zby cL_law 816 20 = [4, 96, 46, 42, 29, 5, 96, 46, 182, 0, 81, 87, 44, 42, 29, 4, 96, 46, 42, 29] := by decide +kernel
theorem dL_law_816 : decode cL_law 816 = .ok (.iconst 1, 1) := dq_4 (zby_at (j := 0) zbL_law_51 rfl)
theorem dL_law_817 : decode cL_law 817 = .ok (.iadd, 1) := dq_96 (zby_at (j := 1) zbL_law_51 rfl)
theorem dL_law_818 : decode cL_law 818 = .ok (.iaload, 1) := dq_46 (zby_at (j := 2) zbL_law_51 rfl)
theorem dL_law_819 : decode cL_law 819 = .ok (.aload_n 0, 1) := dq_42 (zby_at (j := 3) zbL_law_51 rfl)
theorem dL_law_820 : decode cL_law 820 = .ok (.iload_n 3, 1) := dq_29 (zby_at (j := 4) zbL_law_51 rfl)
theorem dL_law_821 : decode cL_law 821 = .ok (.iconst 2, 1) := dq_5 (zby_at (j := 5) zbL_law_51 rfl)
theorem dL_law_822 : decode cL_law 822 = .ok (.iadd, 1) := dq_96 (zby_at (j := 6) zbL_law_51 rfl)
theorem dL_law_823 : decode cL_law 823 = .ok (.iaload, 1) := dq_46 (zby_at (j := 7) zbL_law_51 rfl)
theorem dL_law_824 : decode cL_law 824 = .ok (.invokevirtual 81, 3) := dq_182 (zby_at (j := 8) zbL_law_51 rfl) (zby_at (j := 9) zbL_law_51 rfl) (zby_at (j := 10) zbL_law_51 rfl)
theorem dL_law_827 : decode cL_law 827 = .ok (.pop, 1) := dq_87 (zby_at (j := 11) zbL_law_51 rfl)
theorem dL_law_828 : decode cL_law 828 = .ok (.aload_n 2, 1) := dq_44 (zby_at (j := 12) zbL_law_51 rfl)
theorem dL_law_829 : decode cL_law 829 = .ok (.aload_n 0, 1) := dq_42 (zby_at (j := 13) zbL_law_51 rfl)
theorem dL_law_830 : decode cL_law 830 = .ok (.iload_n 3, 1) := dq_29 (zby_at (j := 14) zbL_law_51 rfl)
theorem dL_law_831 : decode cL_law 831 = .ok (.iconst 1, 1) := dq_4 (zby_at (j := 15) zbL_law_51 rfl)
theorem zbL_law_52 : zby cL_law 832 20 = [96, 46, 42, 29, 5, 96, 46, 182, 0, 84, 87, 167, 4, 2, 43, 42, 29, 4, 96, 46] := by decide +kernel
theorem dL_law_832 : decode cL_law 832 = .ok (.iadd, 1) := dq_96 (zby_at (j := 0) zbL_law_52 rfl)
theorem dL_law_833 : decode cL_law 833 = .ok (.iaload, 1) := dq_46 (zby_at (j := 1) zbL_law_52 rfl)
theorem dL_law_834 : decode cL_law 834 = .ok (.aload_n 0, 1) := dq_42 (zby_at (j := 2) zbL_law_52 rfl)
theorem dL_law_835 : decode cL_law 835 = .ok (.iload_n 3, 1) := dq_29 (zby_at (j := 3) zbL_law_52 rfl)
theorem dL_law_836 : decode cL_law 836 = .ok (.iconst 2, 1) := dq_5 (zby_at (j := 4) zbL_law_52 rfl)
theorem dL_law_837 : decode cL_law 837 = .ok (.iadd, 1) := dq_96 (zby_at (j := 5) zbL_law_52 rfl)
theorem dL_law_838 : decode cL_law 838 = .ok (.iaload, 1) := dq_46 (zby_at (j := 6) zbL_law_52 rfl)
theorem dL_law_839 : decode cL_law 839 = .ok (.invokevirtual 84, 3) := dq_182 (zby_at (j := 7) zbL_law_52 rfl) (zby_at (j := 8) zbL_law_52 rfl) (zby_at (j := 9) zbL_law_52 rfl)
theorem dL_law_842 : decode cL_law 842 = .ok (.pop, 1) := dq_87 (zby_at (j := 10) zbL_law_52 rfl)
theorem dL_law_843 : decode cL_law 843 = .ok (.goto 1026, 3) := dq_167 (zby_at (j := 11) zbL_law_52 rfl) (zby_at (j := 12) zbL_law_52 rfl) (zby_at (j := 13) zbL_law_52 rfl) rfl
theorem dL_law_846 : decode cL_law 846 = .ok (.aload_n 1, 1) := dq_43 (zby_at (j := 14) zbL_law_52 rfl)
theorem dL_law_847 : decode cL_law 847 = .ok (.aload_n 0, 1) := dq_42 (zby_at (j := 15) zbL_law_52 rfl)
theorem zbL_law_53 : zby cL_law 848 20 = [29, 4, 96, 46, 182, 0, 85, 87, 44, 42, 29, 4, 96, 46, 182, 0, 88, 87, 167, 3] := by decide +kernel
theorem dL_law_848 : decode cL_law 848 = .ok (.iload_n 3, 1) := dq_29 (zby_at (j := 0) zbL_law_53 rfl)
theorem dL_law_849 : decode cL_law 849 = .ok (.iconst 1, 1) := dq_4 (zby_at (j := 1) zbL_law_53 rfl)
theorem dL_law_850 : decode cL_law 850 = .ok (.iadd, 1) := dq_96 (zby_at (j := 2) zbL_law_53 rfl)
theorem dL_law_851 : decode cL_law 851 = .ok (.iaload, 1) := dq_46 (zby_at (j := 3) zbL_law_53 rfl)
theorem dL_law_852 : decode cL_law 852 = .ok (.invokevirtual 85, 3) := dq_182 (zby_at (j := 4) zbL_law_53 rfl) (zby_at (j := 5) zbL_law_53 rfl) (zby_at (j := 6) zbL_law_53 rfl)
theorem dL_law_855 : decode cL_law 855 = .ok (.pop, 1) := dq_87 (zby_at (j := 7) zbL_law_53 rfl)
theorem dL_law_856 : decode cL_law 856 = .ok (.aload_n 2, 1) := dq_44 (zby_at (j := 8) zbL_law_53 rfl)
theorem dL_law_857 : decode cL_law 857 = .ok (.aload_n 0, 1) := dq_42 (zby_at (j := 9) zbL_law_53 rfl)
theorem dL_law_858 : decode cL_law 858 = .ok (.iload_n 3, 1) := dq_29 (zby_at (j := 10) zbL_law_53 rfl)
theorem dL_law_859 : decode cL_law 859 = .ok (.iconst 1, 1) := dq_4 (zby_at (j := 11) zbL_law_53 rfl)
theorem dL_law_860 : decode cL_law 860 = .ok (.iadd, 1) := dq_96 (zby_at (j := 12) zbL_law_53 rfl)
theorem dL_law_861 : decode cL_law 861 = .ok (.iaload, 1) := dq_46 (zby_at (j := 13) zbL_law_53 rfl)
theorem dL_law_862 : decode cL_law 862 = .ok (.invokevirtual 88, 3) := dq_182 (zby_at (j := 14) zbL_law_53 rfl) (zby_at (j := 15) zbL_law_53 rfl) (zby_at (j := 16) zbL_law_53 rfl)
theorem zbL_law_54 : zby cL_law 864 20 = [88, 87, 167, 3, 235, 43, 42, 29, 4, 96, 46, 42, 29, 5, 96, 46, 182, 0, 89, 87] := by decide +kernel
theorem dL_law_865 : decode cL_law 865 = .ok (.pop, 1) := dq_87 (zby_at (j := 1) zbL_law_54 rfl)
theorem dL_law_866 : decode cL_law 866 = .ok (.goto 1003, 3) := dq_167 (zby_at (j := 2) zbL_law_54 rfl) (zby_at (j := 3) zbL_law_54 rfl) (zby_at (j := 4) zbL_law_54 rfl) rfl
theorem dL_law_869 : decode cL_law 869 = .ok (.aload_n 1, 1) := dq_43 (zby_at (j := 5) zbL_law_54 rfl)
theorem dL_law_870 : decode cL_law 870 = .ok (.aload_n 0, 1) := dq_42 (zby_at (j := 6) zbL_law_54 rfl)
theorem dL_law_871 : decode cL_law 871 = .ok (.iload_n 3, 1) := dq_29 (zby_at (j := 7) zbL_law_54 rfl)
theorem dL_law_872 : decode cL_law 872 = .ok (.iconst 1, 1) := dq_4 (zby_at (j := 8) zbL_law_54 rfl)
theorem dL_law_873 : decode cL_law 873 = .ok (.iadd, 1) := dq_96 (zby_at (j := 9) zbL_law_54 rfl)
theorem dL_law_874 : decode cL_law 874 = .ok (.iaload, 1) := dq_46 (zby_at (j := 10) zbL_law_54 rfl)
theorem dL_law_875 : decode cL_law 875 = .ok (.aload_n 0, 1) := dq_42 (zby_at (j := 11) zbL_law_54 rfl)
theorem dL_law_876 : decode cL_law 876 = .ok (.iload_n 3, 1) := dq_29 (zby_at (j := 12) zbL_law_54 rfl)
theorem dL_law_877 : decode cL_law 877 = .ok (.iconst 2, 1) := dq_5 (zby_at (j := 13) zbL_law_54 rfl)
theorem dL_law_878 : decode cL_law 878 = .ok (.iadd, 1) := dq_96 (zby_at (j := 14) zbL_law_54 rfl)
theorem dL_law_879 : decode cL_law 879 = .ok (.iaload, 1) := dq_46 (zby_at (j := 15) zbL_law_54 rfl)
theorem zbL_law_55 : zby cL_law 880 20 = [182, 0, 89, 87, 44, 42, 29, 4, 96, 46, 42, 29, 5, 96, 46, 182, 0, 92, 87, 167] := by decide +kernel
theorem dL_law_880 : decode cL_law 880 = .ok (.invokevirtual 89, 3) := dq_182 (zby_at (j := 0) zbL_law_55 rfl) (zby_at (j := 1) zbL_law_55 rfl) (zby_at (j := 2) zbL_law_55 rfl)
theorem dL_law_883 : decode cL_law 883 = .ok (.pop, 1) := dq_87 (zby_at (j := 3) zbL_law_55 rfl)
theorem dL_law_884 : decode cL_law 884 = .ok (.aload_n 2, 1) := dq_44 (zby_at (j := 4) zbL_law_55 rfl)
theorem dL_law_885 : decode cL_law 885 = .ok (.aload_n 0, 1) := dq_42 (zby_at (j := 5) zbL_law_55 rfl)
theorem dL_law_886 : decode cL_law 886 = .ok (.iload_n 3, 1) := dq_29 (zby_at (j := 6) zbL_law_55 rfl)
theorem dL_law_887 : decode cL_law 887 = .ok (.iconst 1, 1) := dq_4 (zby_at (j := 7) zbL_law_55 rfl)
theorem dL_law_888 : decode cL_law 888 = .ok (.iadd, 1) := dq_96 (zby_at (j := 8) zbL_law_55 rfl)
theorem dL_law_889 : decode cL_law 889 = .ok (.iaload, 1) := dq_46 (zby_at (j := 9) zbL_law_55 rfl)
theorem dL_law_890 : decode cL_law 890 = .ok (.aload_n 0, 1) := dq_42 (zby_at (j := 10) zbL_law_55 rfl)
theorem dL_law_891 : decode cL_law 891 = .ok (.iload_n 3, 1) := dq_29 (zby_at (j := 11) zbL_law_55 rfl)
theorem dL_law_892 : decode cL_law 892 = .ok (.iconst 2, 1) := dq_5 (zby_at (j := 12) zbL_law_55 rfl)
theorem dL_law_893 : decode cL_law 893 = .ok (.iadd, 1) := dq_96 (zby_at (j := 13) zbL_law_55 rfl)
theorem dL_law_894 : decode cL_law 894 = .ok (.iaload, 1) := dq_46 (zby_at (j := 14) zbL_law_55 rfl)
theorem dL_law_895 : decode cL_law 895 = .ok (.invokevirtual 92, 3) := dq_182 (zby_at (j := 15) zbL_law_55 rfl) (zby_at (j := 16) zbL_law_55 rfl) (zby_at (j := 17) zbL_law_55 rfl)
theorem zbL_law_56 : zby cL_law 896 20 = [0, 92, 87, 167, 3, 202, 43, 42, 29, 4, 96, 46, 42, 29, 5, 96, 46, 182, 0, 93] := by decide +kernel
theorem dL_law_898 : decode cL_law 898 = .ok (.pop, 1) := dq_87 (zby_at (j := 2) zbL_law_56 rfl)
theorem dL_law_899 : decode cL_law 899 = .ok (.goto 970, 3) := dq_167 (zby_at (j := 3) zbL_law_56 rfl) (zby_at (j := 4) zbL_law_56 rfl) (zby_at (j := 5) zbL_law_56 rfl) rfl
theorem dL_law_902 : decode cL_law 902 = .ok (.aload_n 1, 1) := dq_43 (zby_at (j := 6) zbL_law_56 rfl)
theorem dL_law_903 : decode cL_law 903 = .ok (.aload_n 0, 1) := dq_42 (zby_at (j := 7) zbL_law_56 rfl)
theorem dL_law_904 : decode cL_law 904 = .ok (.iload_n 3, 1) := dq_29 (zby_at (j := 8) zbL_law_56 rfl)
theorem dL_law_905 : decode cL_law 905 = .ok (.iconst 1, 1) := dq_4 (zby_at (j := 9) zbL_law_56 rfl)
theorem dL_law_906 : decode cL_law 906 = .ok (.iadd, 1) := dq_96 (zby_at (j := 10) zbL_law_56 rfl)
theorem dL_law_907 : decode cL_law 907 = .ok (.iaload, 1) := dq_46 (zby_at (j := 11) zbL_law_56 rfl)
theorem dL_law_908 : decode cL_law 908 = .ok (.aload_n 0, 1) := dq_42 (zby_at (j := 12) zbL_law_56 rfl)
theorem dL_law_909 : decode cL_law 909 = .ok (.iload_n 3, 1) := dq_29 (zby_at (j := 13) zbL_law_56 rfl)
theorem dL_law_910 : decode cL_law 910 = .ok (.iconst 2, 1) := dq_5 (zby_at (j := 14) zbL_law_56 rfl)
theorem dL_law_911 : decode cL_law 911 = .ok (.iadd, 1) := dq_96 (zby_at (j := 15) zbL_law_56 rfl)
theorem zbL_law_57 : zby cL_law 912 20 = [46, 182, 0, 93, 87, 44, 42, 29, 4, 96, 46, 42, 29, 5, 96, 46, 182, 0, 96, 87] := by decide +kernel
theorem dL_law_912 : decode cL_law 912 = .ok (.iaload, 1) := dq_46 (zby_at (j := 0) zbL_law_57 rfl)
theorem dL_law_913 : decode cL_law 913 = .ok (.invokevirtual 93, 3) := dq_182 (zby_at (j := 1) zbL_law_57 rfl) (zby_at (j := 2) zbL_law_57 rfl) (zby_at (j := 3) zbL_law_57 rfl)
theorem dL_law_916 : decode cL_law 916 = .ok (.pop, 1) := dq_87 (zby_at (j := 4) zbL_law_57 rfl)
theorem dL_law_917 : decode cL_law 917 = .ok (.aload_n 2, 1) := dq_44 (zby_at (j := 5) zbL_law_57 rfl)
theorem dL_law_918 : decode cL_law 918 = .ok (.aload_n 0, 1) := dq_42 (zby_at (j := 6) zbL_law_57 rfl)
theorem dL_law_919 : decode cL_law 919 = .ok (.iload_n 3, 1) := dq_29 (zby_at (j := 7) zbL_law_57 rfl)
theorem dL_law_920 : decode cL_law 920 = .ok (.iconst 1, 1) := dq_4 (zby_at (j := 8) zbL_law_57 rfl)
theorem dL_law_921 : decode cL_law 921 = .ok (.iadd, 1) := dq_96 (zby_at (j := 9) zbL_law_57 rfl)
theorem dL_law_922 : decode cL_law 922 = .ok (.iaload, 1) := dq_46 (zby_at (j := 10) zbL_law_57 rfl)
theorem dL_law_923 : decode cL_law 923 = .ok (.aload_n 0, 1) := dq_42 (zby_at (j := 11) zbL_law_57 rfl)
theorem dL_law_924 : decode cL_law 924 = .ok (.iload_n 3, 1) := dq_29 (zby_at (j := 12) zbL_law_57 rfl)
theorem dL_law_925 : decode cL_law 925 = .ok (.iconst 2, 1) := dq_5 (zby_at (j := 13) zbL_law_57 rfl)
theorem dL_law_926 : decode cL_law 926 = .ok (.iadd, 1) := dq_96 (zby_at (j := 14) zbL_law_57 rfl)
theorem dL_law_927 : decode cL_law 927 = .ok (.iaload, 1) := dq_46 (zby_at (j := 15) zbL_law_57 rfl)
theorem zbL_law_58 : zby cL_law 928 20 = [182, 0, 96, 87, 167, 3, 169, 43, 42, 29, 4, 96, 46, 42, 29, 5, 96, 46, 182, 0] := by decide +kernel
theorem dL_law_928 : decode cL_law 928 = .ok (.invokevirtual 96, 3) := dq_182 (zby_at (j := 0) zbL_law_58 rfl) (zby_at (j := 1) zbL_law_58 rfl) (zby_at (j := 2) zbL_law_58 rfl)
theorem dL_law_931 : decode cL_law 931 = .ok (.pop, 1) := dq_87 (zby_at (j := 3) zbL_law_58 rfl)
theorem dL_law_932 : decode cL_law 932 = .ok (.goto 937, 3) := dq_167 (zby_at (j := 4) zbL_law_58 rfl) (zby_at (j := 5) zbL_law_58 rfl) (zby_at (j := 6) zbL_law_58 rfl) rfl
theorem dL_law_935 : decode cL_law 935 = .ok (.aload_n 1, 1) := dq_43 (zby_at (j := 7) zbL_law_58 rfl)
theorem dL_law_936 : decode cL_law 936 = .ok (.aload_n 0, 1) := dq_42 (zby_at (j := 8) zbL_law_58 rfl)
theorem dL_law_937 : decode cL_law 937 = .ok (.iload_n 3, 1) := dq_29 (zby_at (j := 9) zbL_law_58 rfl)
theorem dL_law_938 : decode cL_law 938 = .ok (.iconst 1, 1) := dq_4 (zby_at (j := 10) zbL_law_58 rfl)
theorem dL_law_939 : decode cL_law 939 = .ok (.iadd, 1) := dq_96 (zby_at (j := 11) zbL_law_58 rfl)
theorem dL_law_940 : decode cL_law 940 = .ok (.iaload, 1) := dq_46 (zby_at (j := 12) zbL_law_58 rfl)
theorem dL_law_941 : decode cL_law 941 = .ok (.aload_n 0, 1) := dq_42 (zby_at (j := 13) zbL_law_58 rfl)
theorem dL_law_942 : decode cL_law 942 = .ok (.iload_n 3, 1) := dq_29 (zby_at (j := 14) zbL_law_58 rfl)
theorem dL_law_943 : decode cL_law 943 = .ok (.iconst 2, 1) := dq_5 (zby_at (j := 15) zbL_law_58 rfl)
theorem zbL_law_59 : zby cL_law 944 20 = [96, 46, 182, 0, 97, 87, 44, 42, 29, 4, 96, 46, 42, 29, 5, 96, 46, 182, 0, 100] := by decide +kernel
theorem dL_law_944 : decode cL_law 944 = .ok (.iadd, 1) := dq_96 (zby_at (j := 0) zbL_law_59 rfl)
theorem dL_law_945 : decode cL_law 945 = .ok (.iaload, 1) := dq_46 (zby_at (j := 1) zbL_law_59 rfl)
theorem dL_law_946 : decode cL_law 946 = .ok (.invokevirtual 97, 3) := dq_182 (zby_at (j := 2) zbL_law_59 rfl) (zby_at (j := 3) zbL_law_59 rfl) (zby_at (j := 4) zbL_law_59 rfl)
theorem dL_law_949 : decode cL_law 949 = .ok (.pop, 1) := dq_87 (zby_at (j := 5) zbL_law_59 rfl)
theorem dL_law_950 : decode cL_law 950 = .ok (.aload_n 2, 1) := dq_44 (zby_at (j := 6) zbL_law_59 rfl)
theorem dL_law_951 : decode cL_law 951 = .ok (.aload_n 0, 1) := dq_42 (zby_at (j := 7) zbL_law_59 rfl)
theorem dL_law_952 : decode cL_law 952 = .ok (.iload_n 3, 1) := dq_29 (zby_at (j := 8) zbL_law_59 rfl)
theorem dL_law_953 : decode cL_law 953 = .ok (.iconst 1, 1) := dq_4 (zby_at (j := 9) zbL_law_59 rfl)
theorem dL_law_954 : decode cL_law 954 = .ok (.iadd, 1) := dq_96 (zby_at (j := 10) zbL_law_59 rfl)
theorem dL_law_955 : decode cL_law 955 = .ok (.iaload, 1) := dq_46 (zby_at (j := 11) zbL_law_59 rfl)
theorem dL_law_956 : decode cL_law 956 = .ok (.aload_n 0, 1) := dq_42 (zby_at (j := 12) zbL_law_59 rfl)
theorem dL_law_957 : decode cL_law 957 = .ok (.iload_n 3, 1) := dq_29 (zby_at (j := 13) zbL_law_59 rfl)
theorem dL_law_958 : decode cL_law 958 = .ok (.iconst 2, 1) := dq_5 (zby_at (j := 14) zbL_law_59 rfl)
theorem dL_law_959 : decode cL_law 959 = .ok (.iadd, 1) := dq_96 (zby_at (j := 15) zbL_law_59 rfl)
theorem zbL_law_60 : zby cL_law 960 20 = [46, 182, 0, 100, 87, 167, 3, 136, 43, 42, 29, 4, 96, 46, 42, 29, 5, 96, 46, 182] := by decide +kernel
theorem dL_law_960 : decode cL_law 960 = .ok (.iaload, 1) := dq_46 (zby_at (j := 0) zbL_law_60 rfl)
theorem dL_law_961 : decode cL_law 961 = .ok (.invokevirtual 100, 3) := dq_182 (zby_at (j := 1) zbL_law_60 rfl) (zby_at (j := 2) zbL_law_60 rfl) (zby_at (j := 3) zbL_law_60 rfl)
theorem dL_law_964 : decode cL_law 964 = .ok (.pop, 1) := dq_87 (zby_at (j := 4) zbL_law_60 rfl)
theorem dL_law_965 : decode cL_law 965 = .ok (.goto 904, 3) := dq_167 (zby_at (j := 5) zbL_law_60 rfl) (zby_at (j := 6) zbL_law_60 rfl) (zby_at (j := 7) zbL_law_60 rfl) rfl
theorem dL_law_968 : decode cL_law 968 = .ok (.aload_n 1, 1) := dq_43 (zby_at (j := 8) zbL_law_60 rfl)
theorem dL_law_969 : decode cL_law 969 = .ok (.aload_n 0, 1) := dq_42 (zby_at (j := 9) zbL_law_60 rfl)
theorem dL_law_970 : decode cL_law 970 = .ok (.iload_n 3, 1) := dq_29 (zby_at (j := 10) zbL_law_60 rfl)
theorem dL_law_971 : decode cL_law 971 = .ok (.iconst 1, 1) := dq_4 (zby_at (j := 11) zbL_law_60 rfl)
theorem dL_law_972 : decode cL_law 972 = .ok (.iadd, 1) := dq_96 (zby_at (j := 12) zbL_law_60 rfl)
theorem dL_law_973 : decode cL_law 973 = .ok (.iaload, 1) := dq_46 (zby_at (j := 13) zbL_law_60 rfl)
theorem dL_law_974 : decode cL_law 974 = .ok (.aload_n 0, 1) := dq_42 (zby_at (j := 14) zbL_law_60 rfl)
theorem dL_law_975 : decode cL_law 975 = .ok (.iload_n 3, 1) := dq_29 (zby_at (j := 15) zbL_law_60 rfl)
theorem zbL_law_61 : zby cL_law 976 20 = [5, 96, 46, 182, 0, 101, 87, 44, 42, 29, 4, 96, 46, 42, 29, 5, 96, 46, 182, 0] := by decide +kernel
theorem dL_law_976 : decode cL_law 976 = .ok (.iconst 2, 1) := dq_5 (zby_at (j := 0) zbL_law_61 rfl)
theorem dL_law_977 : decode cL_law 977 = .ok (.iadd, 1) := dq_96 (zby_at (j := 1) zbL_law_61 rfl)
theorem dL_law_978 : decode cL_law 978 = .ok (.iaload, 1) := dq_46 (zby_at (j := 2) zbL_law_61 rfl)
theorem dL_law_979 : decode cL_law 979 = .ok (.invokevirtual 101, 3) := dq_182 (zby_at (j := 3) zbL_law_61 rfl) (zby_at (j := 4) zbL_law_61 rfl) (zby_at (j := 5) zbL_law_61 rfl)
theorem dL_law_982 : decode cL_law 982 = .ok (.pop, 1) := dq_87 (zby_at (j := 6) zbL_law_61 rfl)
theorem dL_law_983 : decode cL_law 983 = .ok (.aload_n 2, 1) := dq_44 (zby_at (j := 7) zbL_law_61 rfl)
theorem dL_law_984 : decode cL_law 984 = .ok (.aload_n 0, 1) := dq_42 (zby_at (j := 8) zbL_law_61 rfl)
theorem dL_law_985 : decode cL_law 985 = .ok (.iload_n 3, 1) := dq_29 (zby_at (j := 9) zbL_law_61 rfl)
theorem dL_law_986 : decode cL_law 986 = .ok (.iconst 1, 1) := dq_4 (zby_at (j := 10) zbL_law_61 rfl)
theorem dL_law_987 : decode cL_law 987 = .ok (.iadd, 1) := dq_96 (zby_at (j := 11) zbL_law_61 rfl)
theorem dL_law_988 : decode cL_law 988 = .ok (.iaload, 1) := dq_46 (zby_at (j := 12) zbL_law_61 rfl)
theorem dL_law_989 : decode cL_law 989 = .ok (.aload_n 0, 1) := dq_42 (zby_at (j := 13) zbL_law_61 rfl)
theorem dL_law_990 : decode cL_law 990 = .ok (.iload_n 3, 1) := dq_29 (zby_at (j := 14) zbL_law_61 rfl)
theorem dL_law_991 : decode cL_law 991 = .ok (.iconst 2, 1) := dq_5 (zby_at (j := 15) zbL_law_61 rfl)
theorem zbL_law_62 : zby cL_law 992 20 = [96, 46, 182, 0, 104, 87, 167, 3, 103, 43, 42, 29, 4, 96, 46, 42, 29, 5, 96, 46] := by decide +kernel
theorem dL_law_992 : decode cL_law 992 = .ok (.iadd, 1) := dq_96 (zby_at (j := 0) zbL_law_62 rfl)
theorem dL_law_993 : decode cL_law 993 = .ok (.iaload, 1) := dq_46 (zby_at (j := 1) zbL_law_62 rfl)
theorem dL_law_994 : decode cL_law 994 = .ok (.invokevirtual 104, 3) := dq_182 (zby_at (j := 2) zbL_law_62 rfl) (zby_at (j := 3) zbL_law_62 rfl) (zby_at (j := 4) zbL_law_62 rfl)
theorem dL_law_997 : decode cL_law 997 = .ok (.pop, 1) := dq_87 (zby_at (j := 5) zbL_law_62 rfl)
theorem dL_law_998 : decode cL_law 998 = .ok (.goto 871, 3) := dq_167 (zby_at (j := 6) zbL_law_62 rfl) (zby_at (j := 7) zbL_law_62 rfl) (zby_at (j := 8) zbL_law_62 rfl) rfl
theorem dL_law_1001 : decode cL_law 1001 = .ok (.aload_n 1, 1) := dq_43 (zby_at (j := 9) zbL_law_62 rfl)
theorem dL_law_1002 : decode cL_law 1002 = .ok (.aload_n 0, 1) := dq_42 (zby_at (j := 10) zbL_law_62 rfl)
theorem dL_law_1003 : decode cL_law 1003 = .ok (.iload_n 3, 1) := dq_29 (zby_at (j := 11) zbL_law_62 rfl)
theorem dL_law_1004 : decode cL_law 1004 = .ok (.iconst 1, 1) := dq_4 (zby_at (j := 12) zbL_law_62 rfl)
theorem dL_law_1005 : decode cL_law 1005 = .ok (.iadd, 1) := dq_96 (zby_at (j := 13) zbL_law_62 rfl)
theorem dL_law_1006 : decode cL_law 1006 = .ok (.iaload, 1) := dq_46 (zby_at (j := 14) zbL_law_62 rfl)
theorem dL_law_1007 : decode cL_law 1007 = .ok (.aload_n 0, 1) := dq_42 (zby_at (j := 15) zbL_law_62 rfl)
theorem zbL_law_63 : zby cL_law 1008 20 = [29, 5, 96, 46, 182, 0, 105, 87, 44, 42, 29, 4, 96, 46, 42, 29, 5, 96, 46, 182] := by decide +kernel
theorem dL_law_1008 : decode cL_law 1008 = .ok (.iload_n 3, 1) := dq_29 (zby_at (j := 0) zbL_law_63 rfl)
theorem dL_law_1009 : decode cL_law 1009 = .ok (.iconst 2, 1) := dq_5 (zby_at (j := 1) zbL_law_63 rfl)
theorem dL_law_1010 : decode cL_law 1010 = .ok (.iadd, 1) := dq_96 (zby_at (j := 2) zbL_law_63 rfl)
theorem dL_law_1011 : decode cL_law 1011 = .ok (.iaload, 1) := dq_46 (zby_at (j := 3) zbL_law_63 rfl)
theorem dL_law_1012 : decode cL_law 1012 = .ok (.invokevirtual 105, 3) := dq_182 (zby_at (j := 4) zbL_law_63 rfl) (zby_at (j := 5) zbL_law_63 rfl) (zby_at (j := 6) zbL_law_63 rfl)
theorem dL_law_1015 : decode cL_law 1015 = .ok (.pop, 1) := dq_87 (zby_at (j := 7) zbL_law_63 rfl)
theorem dL_law_1016 : decode cL_law 1016 = .ok (.aload_n 2, 1) := dq_44 (zby_at (j := 8) zbL_law_63 rfl)
theorem dL_law_1017 : decode cL_law 1017 = .ok (.aload_n 0, 1) := dq_42 (zby_at (j := 9) zbL_law_63 rfl)
theorem dL_law_1018 : decode cL_law 1018 = .ok (.iload_n 3, 1) := dq_29 (zby_at (j := 10) zbL_law_63 rfl)
theorem dL_law_1019 : decode cL_law 1019 = .ok (.iconst 1, 1) := dq_4 (zby_at (j := 11) zbL_law_63 rfl)
theorem dL_law_1020 : decode cL_law 1020 = .ok (.iadd, 1) := dq_96 (zby_at (j := 12) zbL_law_63 rfl)
theorem dL_law_1021 : decode cL_law 1021 = .ok (.iaload, 1) := dq_46 (zby_at (j := 13) zbL_law_63 rfl)
theorem dL_law_1022 : decode cL_law 1022 = .ok (.aload_n 0, 1) := dq_42 (zby_at (j := 14) zbL_law_63 rfl)
theorem dL_law_1023 : decode cL_law 1023 = .ok (.iload_n 3, 1) := dq_29 (zby_at (j := 15) zbL_law_63 rfl)
theorem zbL_law_64 : zby cL_law 1024 20 = [5, 96, 46, 182, 0, 108, 87, 167, 3, 70, 43, 42, 29, 4, 96, 46, 42, 29, 5, 96] := by decide +kernel
theorem dL_law_1024 : decode cL_law 1024 = .ok (.iconst 2, 1) := dq_5 (zby_at (j := 0) zbL_law_64 rfl)
theorem dL_law_1025 : decode cL_law 1025 = .ok (.iadd, 1) := dq_96 (zby_at (j := 1) zbL_law_64 rfl)
theorem dL_law_1026 : decode cL_law 1026 = .ok (.iaload, 1) := dq_46 (zby_at (j := 2) zbL_law_64 rfl)
theorem dL_law_1027 : decode cL_law 1027 = .ok (.invokevirtual 108, 3) := dq_182 (zby_at (j := 3) zbL_law_64 rfl) (zby_at (j := 4) zbL_law_64 rfl) (zby_at (j := 5) zbL_law_64 rfl)
theorem dL_law_1030 : decode cL_law 1030 = .ok (.pop, 1) := dq_87 (zby_at (j := 6) zbL_law_64 rfl)
theorem dL_law_1031 : decode cL_law 1031 = .ok (.goto 838, 3) := dq_167 (zby_at (j := 7) zbL_law_64 rfl) (zby_at (j := 8) zbL_law_64 rfl) (zby_at (j := 9) zbL_law_64 rfl) rfl
theorem dL_law_1034 : decode cL_law 1034 = .ok (.aload_n 1, 1) := dq_43 (zby_at (j := 10) zbL_law_64 rfl)
theorem dL_law_1035 : decode cL_law 1035 = .ok (.aload_n 0, 1) := dq_42 (zby_at (j := 11) zbL_law_64 rfl)
theorem dL_law_1036 : decode cL_law 1036 = .ok (.iload_n 3, 1) := dq_29 (zby_at (j := 12) zbL_law_64 rfl)
theorem dL_law_1037 : decode cL_law 1037 = .ok (.iconst 1, 1) := dq_4 (zby_at (j := 13) zbL_law_64 rfl)
theorem dL_law_1038 : decode cL_law 1038 = .ok (.iadd, 1) := dq_96 (zby_at (j := 14) zbL_law_64 rfl)
theorem dL_law_1039 : decode cL_law 1039 = .ok (.iaload, 1) := dq_46 (zby_at (j := 15) zbL_law_64 rfl)
theorem zbL_law_65 : zby cL_law 1040 20 = [42, 29, 5, 96, 46, 182, 0, 109, 87, 44, 42, 29, 4, 96, 46, 42, 29, 5, 96, 46] := by decide +kernel
theorem dL_law_1040 : decode cL_law 1040 = .ok (.aload_n 0, 1) := dq_42 (zby_at (j := 0) zbL_law_65 rfl)
theorem dL_law_1041 : decode cL_law 1041 = .ok (.iload_n 3, 1) := dq_29 (zby_at (j := 1) zbL_law_65 rfl)
theorem dL_law_1042 : decode cL_law 1042 = .ok (.iconst 2, 1) := dq_5 (zby_at (j := 2) zbL_law_65 rfl)
theorem dL_law_1043 : decode cL_law 1043 = .ok (.iadd, 1) := dq_96 (zby_at (j := 3) zbL_law_65 rfl)
theorem dL_law_1044 : decode cL_law 1044 = .ok (.iaload, 1) := dq_46 (zby_at (j := 4) zbL_law_65 rfl)
theorem dL_law_1045 : decode cL_law 1045 = .ok (.invokevirtual 109, 3) := dq_182 (zby_at (j := 5) zbL_law_65 rfl) (zby_at (j := 6) zbL_law_65 rfl) (zby_at (j := 7) zbL_law_65 rfl)
theorem dL_law_1048 : decode cL_law 1048 = .ok (.pop, 1) := dq_87 (zby_at (j := 8) zbL_law_65 rfl)
theorem dL_law_1049 : decode cL_law 1049 = .ok (.aload_n 2, 1) := dq_44 (zby_at (j := 9) zbL_law_65 rfl)
theorem dL_law_1050 : decode cL_law 1050 = .ok (.aload_n 0, 1) := dq_42 (zby_at (j := 10) zbL_law_65 rfl)
theorem dL_law_1051 : decode cL_law 1051 = .ok (.iload_n 3, 1) := dq_29 (zby_at (j := 11) zbL_law_65 rfl)
theorem dL_law_1052 : decode cL_law 1052 = .ok (.iconst 1, 1) := dq_4 (zby_at (j := 12) zbL_law_65 rfl)
theorem dL_law_1053 : decode cL_law 1053 = .ok (.iadd, 1) := dq_96 (zby_at (j := 13) zbL_law_65 rfl)
theorem dL_law_1054 : decode cL_law 1054 = .ok (.iaload, 1) := dq_46 (zby_at (j := 14) zbL_law_65 rfl)
theorem dL_law_1055 : decode cL_law 1055 = .ok (.aload_n 0, 1) := dq_42 (zby_at (j := 15) zbL_law_65 rfl)
theorem zbL_law_66 : zby cL_law 1056 20 = [29, 5, 96, 46, 182, 0, 112, 87, 167, 3, 37, 43, 42, 29, 4, 96, 46, 42, 29, 5] := by decide +kernel
theorem dL_law_1056 : decode cL_law 1056 = .ok (.iload_n 3, 1) := dq_29 (zby_at (j := 0) zbL_law_66 rfl)
theorem dL_law_1057 : decode cL_law 1057 = .ok (.iconst 2, 1) := dq_5 (zby_at (j := 1) zbL_law_66 rfl)
theorem dL_law_1058 : decode cL_law 1058 = .ok (.iadd, 1) := dq_96 (zby_at (j := 2) zbL_law_66 rfl)
theorem dL_law_1059 : decode cL_law 1059 = .ok (.iaload, 1) := dq_46 (zby_at (j := 3) zbL_law_66 rfl)
theorem dL_law_1060 : decode cL_law 1060 = .ok (.invokevirtual 112, 3) := dq_182 (zby_at (j := 4) zbL_law_66 rfl) (zby_at (j := 5) zbL_law_66 rfl) (zby_at (j := 6) zbL_law_66 rfl)
theorem dL_law_1063 : decode cL_law 1063 = .ok (.pop, 1) := dq_87 (zby_at (j := 7) zbL_law_66 rfl)
theorem dL_law_1064 : decode cL_law 1064 = .ok (.goto 805, 3) := dq_167 (zby_at (j := 8) zbL_law_66 rfl) (zby_at (j := 9) zbL_law_66 rfl) (zby_at (j := 10) zbL_law_66 rfl) rfl
theorem dL_law_1067 : decode cL_law 1067 = .ok (.aload_n 1, 1) := dq_43 (zby_at (j := 11) zbL_law_66 rfl)
theorem dL_law_1068 : decode cL_law 1068 = .ok (.aload_n 0, 1) := dq_42 (zby_at (j := 12) zbL_law_66 rfl)
theorem dL_law_1069 : decode cL_law 1069 = .ok (.iload_n 3, 1) := dq_29 (zby_at (j := 13) zbL_law_66 rfl)
theorem dL_law_1070 : decode cL_law 1070 = .ok (.iconst 1, 1) := dq_4 (zby_at (j := 14) zbL_law_66 rfl)
theorem dL_law_1071 : decode cL_law 1071 = .ok (.iadd, 1) := dq_96 (zby_at (j := 15) zbL_law_66 rfl)
theorem zbL_law_67 : zby cL_law 1072 20 = [46, 42, 29, 5, 96, 46, 182, 0, 113, 87, 44, 42, 29, 4, 96, 46, 42, 29, 5, 96] := by decide +kernel
theorem dL_law_1072 : decode cL_law 1072 = .ok (.iaload, 1) := dq_46 (zby_at (j := 0) zbL_law_67 rfl)
theorem dL_law_1073 : decode cL_law 1073 = .ok (.aload_n 0, 1) := dq_42 (zby_at (j := 1) zbL_law_67 rfl)
theorem dL_law_1074 : decode cL_law 1074 = .ok (.iload_n 3, 1) := dq_29 (zby_at (j := 2) zbL_law_67 rfl)
theorem dL_law_1075 : decode cL_law 1075 = .ok (.iconst 2, 1) := dq_5 (zby_at (j := 3) zbL_law_67 rfl)
theorem dL_law_1076 : decode cL_law 1076 = .ok (.iadd, 1) := dq_96 (zby_at (j := 4) zbL_law_67 rfl)
theorem dL_law_1077 : decode cL_law 1077 = .ok (.iaload, 1) := dq_46 (zby_at (j := 5) zbL_law_67 rfl)
theorem dL_law_1078 : decode cL_law 1078 = .ok (.invokevirtual 113, 3) := dq_182 (zby_at (j := 6) zbL_law_67 rfl) (zby_at (j := 7) zbL_law_67 rfl) (zby_at (j := 8) zbL_law_67 rfl)
theorem dL_law_1081 : decode cL_law 1081 = .ok (.pop, 1) := dq_87 (zby_at (j := 9) zbL_law_67 rfl)
theorem dL_law_1082 : decode cL_law 1082 = .ok (.aload_n 2, 1) := dq_44 (zby_at (j := 10) zbL_law_67 rfl)
theorem dL_law_1083 : decode cL_law 1083 = .ok (.aload_n 0, 1) := dq_42 (zby_at (j := 11) zbL_law_67 rfl)
theorem dL_law_1084 : decode cL_law 1084 = .ok (.iload_n 3, 1) := dq_29 (zby_at (j := 12) zbL_law_67 rfl)
theorem dL_law_1085 : decode cL_law 1085 = .ok (.iconst 1, 1) := dq_4 (zby_at (j := 13) zbL_law_67 rfl)
theorem dL_law_1086 : decode cL_law 1086 = .ok (.iadd, 1) := dq_96 (zby_at (j := 14) zbL_law_67 rfl)
theorem dL_law_1087 : decode cL_law 1087 = .ok (.iaload, 1) := dq_46 (zby_at (j := 15) zbL_law_67 rfl)
theorem zbL_law_68 : zby cL_law 1088 20 = [42, 29, 5, 96, 46, 182, 0, 116, 87, 167, 3, 4, 43, 42, 29, 4, 96, 46, 42, 29] := by decide +kernel
theorem dL_law_1088 : decode cL_law 1088 = .ok (.aload_n 0, 1) := dq_42 (zby_at (j := 0) zbL_law_68 rfl)
theorem dL_law_1089 : decode cL_law 1089 = .ok (.iload_n 3, 1) := dq_29 (zby_at (j := 1) zbL_law_68 rfl)
theorem dL_law_1090 : decode cL_law 1090 = .ok (.iconst 2, 1) := dq_5 (zby_at (j := 2) zbL_law_68 rfl)
theorem dL_law_1091 : decode cL_law 1091 = .ok (.iadd, 1) := dq_96 (zby_at (j := 3) zbL_law_68 rfl)
theorem dL_law_1092 : decode cL_law 1092 = .ok (.iaload, 1) := dq_46 (zby_at (j := 4) zbL_law_68 rfl)
theorem dL_law_1093 : decode cL_law 1093 = .ok (.invokevirtual 116, 3) := dq_182 (zby_at (j := 5) zbL_law_68 rfl) (zby_at (j := 6) zbL_law_68 rfl) (zby_at (j := 7) zbL_law_68 rfl)
theorem dL_law_1096 : decode cL_law 1096 = .ok (.pop, 1) := dq_87 (zby_at (j := 8) zbL_law_68 rfl)
theorem dL_law_1097 : decode cL_law 1097 = .ok (.goto 772, 3) := dq_167 (zby_at (j := 9) zbL_law_68 rfl) (zby_at (j := 10) zbL_law_68 rfl) (zby_at (j := 11) zbL_law_68 rfl) rfl
theorem dL_law_1100 : decode cL_law 1100 = .ok (.aload_n 1, 1) := dq_43 (zby_at (j := 12) zbL_law_68 rfl)
theorem dL_law_1101 : decode cL_law 1101 = .ok (.aload_n 0, 1) := dq_42 (zby_at (j := 13) zbL_law_68 rfl)
theorem dL_law_1102 : decode cL_law 1102 = .ok (.iload_n 3, 1) := dq_29 (zby_at (j := 14) zbL_law_68 rfl)
theorem dL_law_1103 : decode cL_law 1103 = .ok (.iconst 1, 1) := dq_4 (zby_at (j := 15) zbL_law_68 rfl)
theorem zbL_law_69 : zby cL_law 1104 20 = [96, 46, 42, 29, 5, 96, 46, 182, 0, 117, 87, 44, 42, 29, 4, 96, 46, 42, 29, 5] := by decide +kernel
theorem dL_law_1104 : decode cL_law 1104 = .ok (.iadd, 1) := dq_96 (zby_at (j := 0) zbL_law_69 rfl)
theorem dL_law_1105 : decode cL_law 1105 = .ok (.iaload, 1) := dq_46 (zby_at (j := 1) zbL_law_69 rfl)
theorem dL_law_1106 : decode cL_law 1106 = .ok (.aload_n 0, 1) := dq_42 (zby_at (j := 2) zbL_law_69 rfl)
theorem dL_law_1107 : decode cL_law 1107 = .ok (.iload_n 3, 1) := dq_29 (zby_at (j := 3) zbL_law_69 rfl)
theorem dL_law_1108 : decode cL_law 1108 = .ok (.iconst 2, 1) := dq_5 (zby_at (j := 4) zbL_law_69 rfl)
theorem dL_law_1109 : decode cL_law 1109 = .ok (.iadd, 1) := dq_96 (zby_at (j := 5) zbL_law_69 rfl)
theorem dL_law_1110 : decode cL_law 1110 = .ok (.iaload, 1) := dq_46 (zby_at (j := 6) zbL_law_69 rfl)
theorem dL_law_1111 : decode cL_law 1111 = .ok (.invokevirtual 117, 3) := dq_182 (zby_at (j := 7) zbL_law_69 rfl) (zby_at (j := 8) zbL_law_69 rfl) (zby_at (j := 9) zbL_law_69 rfl)
theorem dL_law_1114 : decode cL_law 1114 = .ok (.pop, 1) := dq_87 (zby_at (j := 10) zbL_law_69 rfl)
theorem dL_law_1115 : decode cL_law 1115 = .ok (.aload_n 2, 1) := dq_44 (zby_at (j := 11) zbL_law_69 rfl)
theorem dL_law_1116 : decode cL_law 1116 = .ok (.aload_n 0, 1) := dq_42 (zby_at (j := 12) zbL_law_69 rfl)
theorem dL_law_1117 : decode cL_law 1117 = .ok (.iload_n 3, 1) := dq_29 (zby_at (j := 13) zbL_law_69 rfl)
theorem dL_law_1118 : decode cL_law 1118 = .ok (.iconst 1, 1) := dq_4 (zby_at (j := 14) zbL_law_69 rfl)
theorem dL_law_1119 : decode cL_law 1119 = .ok (.iadd, 1) := dq_96 (zby_at (j := 15) zbL_law_69 rfl)
theorem zbL_law_70 : zby cL_law 1120 20 = [46, 42, 29, 5, 96, 46, 182, 0, 120, 87, 167, 2, 227, 43, 42, 29, 4, 96, 46, 42] := by decide +kernel
theorem dL_law_1120 : decode cL_law 1120 = .ok (.iaload, 1) := dq_46 (zby_at (j := 0) zbL_law_70 rfl)
theorem dL_law_1121 : decode cL_law 1121 = .ok (.aload_n 0, 1) := dq_42 (zby_at (j := 1) zbL_law_70 rfl)
theorem dL_law_1122 : decode cL_law 1122 = .ok (.iload_n 3, 1) := dq_29 (zby_at (j := 2) zbL_law_70 rfl)
theorem dL_law_1123 : decode cL_law 1123 = .ok (.iconst 2, 1) := dq_5 (zby_at (j := 3) zbL_law_70 rfl)
theorem dL_law_1124 : decode cL_law 1124 = .ok (.iadd, 1) := dq_96 (zby_at (j := 4) zbL_law_70 rfl)
theorem dL_law_1125 : decode cL_law 1125 = .ok (.iaload, 1) := dq_46 (zby_at (j := 5) zbL_law_70 rfl)
theorem dL_law_1126 : decode cL_law 1126 = .ok (.invokevirtual 120, 3) := dq_182 (zby_at (j := 6) zbL_law_70 rfl) (zby_at (j := 7) zbL_law_70 rfl) (zby_at (j := 8) zbL_law_70 rfl)
theorem dL_law_1129 : decode cL_law 1129 = .ok (.pop, 1) := dq_87 (zby_at (j := 9) zbL_law_70 rfl)
theorem dL_law_1130 : decode cL_law 1130 = .ok (.goto 739, 3) := dq_167 (zby_at (j := 10) zbL_law_70 rfl) (zby_at (j := 11) zbL_law_70 rfl) (zby_at (j := 12) zbL_law_70 rfl) rfl
theorem dL_law_1133 : decode cL_law 1133 = .ok (.aload_n 1, 1) := dq_43 (zby_at (j := 13) zbL_law_70 rfl)
theorem dL_law_1134 : decode cL_law 1134 = .ok (.aload_n 0, 1) := dq_42 (zby_at (j := 14) zbL_law_70 rfl)
theorem dL_law_1135 : decode cL_law 1135 = .ok (.iload_n 3, 1) := dq_29 (zby_at (j := 15) zbL_law_70 rfl)
theorem zbL_law_71 : zby cL_law 1136 20 = [4, 96, 46, 42, 29, 5, 96, 46, 182, 0, 121, 87, 44, 42, 29, 4, 96, 46, 42, 29] := by decide +kernel
theorem dL_law_1136 : decode cL_law 1136 = .ok (.iconst 1, 1) := dq_4 (zby_at (j := 0) zbL_law_71 rfl)
theorem dL_law_1137 : decode cL_law 1137 = .ok (.iadd, 1) := dq_96 (zby_at (j := 1) zbL_law_71 rfl)
theorem dL_law_1138 : decode cL_law 1138 = .ok (.iaload, 1) := dq_46 (zby_at (j := 2) zbL_law_71 rfl)
theorem dL_law_1139 : decode cL_law 1139 = .ok (.aload_n 0, 1) := dq_42 (zby_at (j := 3) zbL_law_71 rfl)
theorem dL_law_1140 : decode cL_law 1140 = .ok (.iload_n 3, 1) := dq_29 (zby_at (j := 4) zbL_law_71 rfl)
theorem dL_law_1141 : decode cL_law 1141 = .ok (.iconst 2, 1) := dq_5 (zby_at (j := 5) zbL_law_71 rfl)
theorem dL_law_1142 : decode cL_law 1142 = .ok (.iadd, 1) := dq_96 (zby_at (j := 6) zbL_law_71 rfl)
theorem dL_law_1143 : decode cL_law 1143 = .ok (.iaload, 1) := dq_46 (zby_at (j := 7) zbL_law_71 rfl)
theorem dL_law_1144 : decode cL_law 1144 = .ok (.invokevirtual 121, 3) := dq_182 (zby_at (j := 8) zbL_law_71 rfl) (zby_at (j := 9) zbL_law_71 rfl) (zby_at (j := 10) zbL_law_71 rfl)
theorem dL_law_1147 : decode cL_law 1147 = .ok (.pop, 1) := dq_87 (zby_at (j := 11) zbL_law_71 rfl)
theorem dL_law_1148 : decode cL_law 1148 = .ok (.aload_n 2, 1) := dq_44 (zby_at (j := 12) zbL_law_71 rfl)
theorem dL_law_1149 : decode cL_law 1149 = .ok (.aload_n 0, 1) := dq_42 (zby_at (j := 13) zbL_law_71 rfl)
theorem dL_law_1150 : decode cL_law 1150 = .ok (.iload_n 3, 1) := dq_29 (zby_at (j := 14) zbL_law_71 rfl)
theorem dL_law_1151 : decode cL_law 1151 = .ok (.iconst 1, 1) := dq_4 (zby_at (j := 15) zbL_law_71 rfl)
theorem zbL_law_72 : zby cL_law 1152 20 = [96, 46, 42, 29, 5, 96, 46, 182, 0, 124, 87, 167, 2, 194, 43, 42, 29, 4, 96, 46] := by decide +kernel
theorem dL_law_1152 : decode cL_law 1152 = .ok (.iadd, 1) := dq_96 (zby_at (j := 0) zbL_law_72 rfl)
theorem dL_law_1153 : decode cL_law 1153 = .ok (.iaload, 1) := dq_46 (zby_at (j := 1) zbL_law_72 rfl)
theorem dL_law_1154 : decode cL_law 1154 = .ok (.aload_n 0, 1) := dq_42 (zby_at (j := 2) zbL_law_72 rfl)
theorem dL_law_1155 : decode cL_law 1155 = .ok (.iload_n 3, 1) := dq_29 (zby_at (j := 3) zbL_law_72 rfl)
theorem dL_law_1156 : decode cL_law 1156 = .ok (.iconst 2, 1) := dq_5 (zby_at (j := 4) zbL_law_72 rfl)
theorem dL_law_1157 : decode cL_law 1157 = .ok (.iadd, 1) := dq_96 (zby_at (j := 5) zbL_law_72 rfl)
theorem dL_law_1158 : decode cL_law 1158 = .ok (.iaload, 1) := dq_46 (zby_at (j := 6) zbL_law_72 rfl)
theorem dL_law_1159 : decode cL_law 1159 = .ok (.invokevirtual 124, 3) := dq_182 (zby_at (j := 7) zbL_law_72 rfl) (zby_at (j := 8) zbL_law_72 rfl) (zby_at (j := 9) zbL_law_72 rfl)
theorem dL_law_1162 : decode cL_law 1162 = .ok (.pop, 1) := dq_87 (zby_at (j := 10) zbL_law_72 rfl)
theorem dL_law_1163 : decode cL_law 1163 = .ok (.goto 706, 3) := dq_167 (zby_at (j := 11) zbL_law_72 rfl) (zby_at (j := 12) zbL_law_72 rfl) (zby_at (j := 13) zbL_law_72 rfl) rfl
theorem dL_law_1166 : decode cL_law 1166 = .ok (.aload_n 1, 1) := dq_43 (zby_at (j := 14) zbL_law_72 rfl)
theorem dL_law_1167 : decode cL_law 1167 = .ok (.aload_n 0, 1) := dq_42 (zby_at (j := 15) zbL_law_72 rfl)
theorem zbL_law_73 : zby cL_law 1168 20 = [29, 4, 96, 46, 42, 29, 5, 96, 46, 182, 0, 125, 44, 42, 29, 4, 96, 46, 42, 29] := by decide +kernel
theorem dL_law_1168 : decode cL_law 1168 = .ok (.iload_n 3, 1) := dq_29 (zby_at (j := 0) zbL_law_73 rfl)
theorem dL_law_1169 : decode cL_law 1169 = .ok (.iconst 1, 1) := dq_4 (zby_at (j := 1) zbL_law_73 rfl)
theorem dL_law_1170 : decode cL_law 1170 = .ok (.iadd, 1) := dq_96 (zby_at (j := 2) zbL_law_73 rfl)
theorem dL_law_1171 : decode cL_law 1171 = .ok (.iaload, 1) := dq_46 (zby_at (j := 3) zbL_law_73 rfl)
theorem dL_law_1172 : decode cL_law 1172 = .ok (.aload_n 0, 1) := dq_42 (zby_at (j := 4) zbL_law_73 rfl)
theorem dL_law_1173 : decode cL_law 1173 = .ok (.iload_n 3, 1) := dq_29 (zby_at (j := 5) zbL_law_73 rfl)
theorem dL_law_1174 : decode cL_law 1174 = .ok (.iconst 2, 1) := dq_5 (zby_at (j := 6) zbL_law_73 rfl)
theorem dL_law_1175 : decode cL_law 1175 = .ok (.iadd, 1) := dq_96 (zby_at (j := 7) zbL_law_73 rfl)
theorem dL_law_1176 : decode cL_law 1176 = .ok (.iaload, 1) := dq_46 (zby_at (j := 8) zbL_law_73 rfl)
theorem dL_law_1177 : decode cL_law 1177 = .ok (.invokevirtual 125, 3) := dq_182 (zby_at (j := 9) zbL_law_73 rfl) (zby_at (j := 10) zbL_law_73 rfl) (zby_at (j := 11) zbL_law_73 rfl)
theorem dL_law_1180 : decode cL_law 1180 = .ok (.aload_n 2, 1) := dq_44 (zby_at (j := 12) zbL_law_73 rfl)
theorem dL_law_1181 : decode cL_law 1181 = .ok (.aload_n 0, 1) := dq_42 (zby_at (j := 13) zbL_law_73 rfl)
theorem dL_law_1182 : decode cL_law 1182 = .ok (.iload_n 3, 1) := dq_29 (zby_at (j := 14) zbL_law_73 rfl)
theorem dL_law_1183 : decode cL_law 1183 = .ok (.iconst 1, 1) := dq_4 (zby_at (j := 15) zbL_law_73 rfl)
theorem zbL_law_74 : zby cL_law 1184 20 = [96, 46, 42, 29, 5, 96, 46, 182, 0, 128, 159, 2, 163, 3, 172, 43, 42, 29, 4, 96] := by decide +kernel
theorem dL_law_1184 : decode cL_law 1184 = .ok (.iadd, 1) := dq_96 (zby_at (j := 0) zbL_law_74 rfl)
theorem dL_law_1185 : decode cL_law 1185 = .ok (.iaload, 1) := dq_46 (zby_at (j := 1) zbL_law_74 rfl)
theorem dL_law_1186 : decode cL_law 1186 = .ok (.aload_n 0, 1) := dq_42 (zby_at (j := 2) zbL_law_74 rfl)
theorem dL_law_1187 : decode cL_law 1187 = .ok (.iload_n 3, 1) := dq_29 (zby_at (j := 3) zbL_law_74 rfl)
theorem dL_law_1188 : decode cL_law 1188 = .ok (.iconst 2, 1) := dq_5 (zby_at (j := 4) zbL_law_74 rfl)
theorem dL_law_1189 : decode cL_law 1189 = .ok (.iadd, 1) := dq_96 (zby_at (j := 5) zbL_law_74 rfl)
theorem dL_law_1190 : decode cL_law 1190 = .ok (.iaload, 1) := dq_46 (zby_at (j := 6) zbL_law_74 rfl)
theorem dL_law_1191 : decode cL_law 1191 = .ok (.invokevirtual 128, 3) := dq_182 (zby_at (j := 7) zbL_law_74 rfl) (zby_at (j := 8) zbL_law_74 rfl) (zby_at (j := 9) zbL_law_74 rfl)
theorem dL_law_1194 : decode cL_law 1194 = .ok (.if_icmp .eq 675, 3) := dq_159 (zby_at (j := 10) zbL_law_74 rfl) (zby_at (j := 11) zbL_law_74 rfl) (zby_at (j := 12) zbL_law_74 rfl) rfl
theorem dL_law_1197 : decode cL_law 1197 = .ok (.iconst 0, 1) := dq_3 (zby_at (j := 13) zbL_law_74 rfl)
theorem dL_law_1198 : decode cL_law 1198 = .ok (.ireturn, 1) := dq_172 (zby_at (j := 14) zbL_law_74 rfl)
theorem dL_law_1199 : decode cL_law 1199 = .ok (.aload_n 1, 1) := dq_43 (zby_at (j := 15) zbL_law_74 rfl)
theorem zbL_law_75 : zby cL_law 1200 20 = [42, 29, 4, 96, 46, 42, 29, 5, 96, 46, 182, 0, 129, 87, 44, 42, 29, 4, 96, 46] := by decide +kernel
theorem dL_law_1200 : decode cL_law 1200 = .ok (.aload_n 0, 1) := dq_42 (zby_at (j := 0) zbL_law_75 rfl)
theorem dL_law_1201 : decode cL_law 1201 = .ok (.iload_n 3, 1) := dq_29 (zby_at (j := 1) zbL_law_75 rfl)
theorem dL_law_1202 : decode cL_law 1202 = .ok (.iconst 1, 1) := dq_4 (zby_at (j := 2) zbL_law_75 rfl)
theorem dL_law_1203 : decode cL_law 1203 = .ok (.iadd, 1) := dq_96 (zby_at (j := 3) zbL_law_75 rfl)
theorem dL_law_1204 : decode cL_law 1204 = .ok (.iaload, 1) := dq_46 (zby_at (j := 4) zbL_law_75 rfl)
theorem dL_law_1205 : decode cL_law 1205 = .ok (.aload_n 0, 1) := dq_42 (zby_at (j := 5) zbL_law_75 rfl)
theorem dL_law_1206 : decode cL_law 1206 = .ok (.iload_n 3, 1) := dq_29 (zby_at (j := 6) zbL_law_75 rfl)
theorem dL_law_1207 : decode cL_law 1207 = .ok (.iconst 2, 1) := dq_5 (zby_at (j := 7) zbL_law_75 rfl)
theorem dL_law_1208 : decode cL_law 1208 = .ok (.iadd, 1) := dq_96 (zby_at (j := 8) zbL_law_75 rfl)
theorem dL_law_1209 : decode cL_law 1209 = .ok (.iaload, 1) := dq_46 (zby_at (j := 9) zbL_law_75 rfl)
theorem dL_law_1210 : decode cL_law 1210 = .ok (.invokevirtual 129, 3) := dq_182 (zby_at (j := 10) zbL_law_75 rfl) (zby_at (j := 11) zbL_law_75 rfl) (zby_at (j := 12) zbL_law_75 rfl)
theorem dL_law_1213 : decode cL_law 1213 = .ok (.pop, 1) := dq_87 (zby_at (j := 13) zbL_law_75 rfl)
theorem dL_law_1214 : decode cL_law 1214 = .ok (.aload_n 2, 1) := dq_44 (zby_at (j := 14) zbL_law_75 rfl)
theorem dL_law_1215 : decode cL_law 1215 = .ok (.aload_n 0, 1) := dq_42 (zby_at (j := 15) zbL_law_75 rfl)
theorem zbL_law_76 : zby cL_law 1216 20 = [29, 4, 96, 46, 42, 29, 5, 96, 46, 182, 0, 132, 87, 167, 2, 128, 43, 42, 29, 4] := by decide +kernel
theorem dL_law_1216 : decode cL_law 1216 = .ok (.iload_n 3, 1) := dq_29 (zby_at (j := 0) zbL_law_76 rfl)
theorem dL_law_1217 : decode cL_law 1217 = .ok (.iconst 1, 1) := dq_4 (zby_at (j := 1) zbL_law_76 rfl)
theorem dL_law_1218 : decode cL_law 1218 = .ok (.iadd, 1) := dq_96 (zby_at (j := 2) zbL_law_76 rfl)
theorem dL_law_1219 : decode cL_law 1219 = .ok (.iaload, 1) := dq_46 (zby_at (j := 3) zbL_law_76 rfl)
theorem dL_law_1220 : decode cL_law 1220 = .ok (.aload_n 0, 1) := dq_42 (zby_at (j := 4) zbL_law_76 rfl)
theorem dL_law_1221 : decode cL_law 1221 = .ok (.iload_n 3, 1) := dq_29 (zby_at (j := 5) zbL_law_76 rfl)
theorem dL_law_1222 : decode cL_law 1222 = .ok (.iconst 2, 1) := dq_5 (zby_at (j := 6) zbL_law_76 rfl)
theorem dL_law_1223 : decode cL_law 1223 = .ok (.iadd, 1) := dq_96 (zby_at (j := 7) zbL_law_76 rfl)
theorem dL_law_1224 : decode cL_law 1224 = .ok (.iaload, 1) := dq_46 (zby_at (j := 8) zbL_law_76 rfl)
theorem dL_law_1225 : decode cL_law 1225 = .ok (.invokevirtual 132, 3) := dq_182 (zby_at (j := 9) zbL_law_76 rfl) (zby_at (j := 10) zbL_law_76 rfl) (zby_at (j := 11) zbL_law_76 rfl)
theorem dL_law_1228 : decode cL_law 1228 = .ok (.pop, 1) := dq_87 (zby_at (j := 12) zbL_law_76 rfl)
theorem dL_law_1229 : decode cL_law 1229 = .ok (.goto 640, 3) := dq_167 (zby_at (j := 13) zbL_law_76 rfl) (zby_at (j := 14) zbL_law_76 rfl) (zby_at (j := 15) zbL_law_76 rfl) rfl
theorem zbL_law_77 : zby cL_law 1232 20 = [43, 42, 29, 4, 96, 46, 182, 0, 133, 87, 44, 42, 29, 4, 96, 46, 182, 0, 136, 87] := by decide +kernel
theorem dL_law_1232 : decode cL_law 1232 = .ok (.aload_n 1, 1) := dq_43 (zby_at (j := 0) zbL_law_77 rfl)
theorem dL_law_1233 : decode cL_law 1233 = .ok (.aload_n 0, 1) := dq_42 (zby_at (j := 1) zbL_law_77 rfl)
theorem dL_law_1234 : decode cL_law 1234 = .ok (.iload_n 3, 1) := dq_29 (zby_at (j := 2) zbL_law_77 rfl)
theorem dL_law_1235 : decode cL_law 1235 = .ok (.iconst 1, 1) := dq_4 (zby_at (j := 3) zbL_law_77 rfl)
theorem dL_law_1236 : decode cL_law 1236 = .ok (.iadd, 1) := dq_96 (zby_at (j := 4) zbL_law_77 rfl)
theorem dL_law_1237 : decode cL_law 1237 = .ok (.iaload, 1) := dq_46 (zby_at (j := 5) zbL_law_77 rfl)
theorem dL_law_1238 : decode cL_law 1238 = .ok (.invokevirtual 133, 3) := dq_182 (zby_at (j := 6) zbL_law_77 rfl) (zby_at (j := 7) zbL_law_77 rfl) (zby_at (j := 8) zbL_law_77 rfl)
theorem dL_law_1241 : decode cL_law 1241 = .ok (.pop, 1) := dq_87 (zby_at (j := 9) zbL_law_77 rfl)
theorem dL_law_1242 : decode cL_law 1242 = .ok (.aload_n 2, 1) := dq_44 (zby_at (j := 10) zbL_law_77 rfl)
theorem dL_law_1243 : decode cL_law 1243 = .ok (.aload_n 0, 1) := dq_42 (zby_at (j := 11) zbL_law_77 rfl)
theorem dL_law_1244 : decode cL_law 1244 = .ok (.iload_n 3, 1) := dq_29 (zby_at (j := 12) zbL_law_77 rfl)
theorem dL_law_1245 : decode cL_law 1245 = .ok (.iconst 1, 1) := dq_4 (zby_at (j := 13) zbL_law_77 rfl)
theorem dL_law_1246 : decode cL_law 1246 = .ok (.iadd, 1) := dq_96 (zby_at (j := 14) zbL_law_77 rfl)
theorem dL_law_1247 : decode cL_law 1247 = .ok (.iaload, 1) := dq_46 (zby_at (j := 15) zbL_law_77 rfl)
theorem zbL_law_78 : zby cL_law 1248 20 = [182, 0, 136, 87, 167, 2, 105, 43, 182, 0, 137, 87, 44, 182, 0, 140, 87, 167, 2, 92] := by decide +kernel
theorem dL_law_1248 : decode cL_law 1248 = .ok (.invokevirtual 136, 3) := dq_182 (zby_at (j := 0) zbL_law_78 rfl) (zby_at (j := 1) zbL_law_78 rfl) (zby_at (j := 2) zbL_law_78 rfl)
theorem dL_law_1251 : decode cL_law 1251 = .ok (.pop, 1) := dq_87 (zby_at (j := 3) zbL_law_78 rfl)
theorem dL_law_1252 : decode cL_law 1252 = .ok (.goto 617, 3) := dq_167 (zby_at (j := 4) zbL_law_78 rfl) (zby_at (j := 5) zbL_law_78 rfl) (zby_at (j := 6) zbL_law_78 rfl) rfl
theorem dL_law_1255 : decode cL_law 1255 = .ok (.aload_n 1, 1) := dq_43 (zby_at (j := 7) zbL_law_78 rfl)
theorem dL_law_1256 : decode cL_law 1256 = .ok (.invokevirtual 137, 3) := dq_182 (zby_at (j := 8) zbL_law_78 rfl) (zby_at (j := 9) zbL_law_78 rfl) (zby_at (j := 10) zbL_law_78 rfl)
theorem dL_law_1259 : decode cL_law 1259 = .ok (.pop, 1) := dq_87 (zby_at (j := 11) zbL_law_78 rfl)
theorem dL_law_1260 : decode cL_law 1260 = .ok (.aload_n 2, 1) := dq_44 (zby_at (j := 12) zbL_law_78 rfl)
theorem dL_law_1261 : decode cL_law 1261 = .ok (.invokevirtual 140, 3) := dq_182 (zby_at (j := 13) zbL_law_78 rfl) (zby_at (j := 14) zbL_law_78 rfl) (zby_at (j := 15) zbL_law_78 rfl)
theorem zbL_law_79 : zby cL_law 1264 20 = [87, 167, 2, 92, 43, 42, 29, 4, 96, 46, 42, 29, 5, 96, 46, 182, 0, 141, 87, 44] := by decide +kernel
theorem dL_law_1264 : decode cL_law 1264 = .ok (.pop, 1) := dq_87 (zby_at (j := 0) zbL_law_79 rfl)
theorem dL_law_1265 : decode cL_law 1265 = .ok (.goto 604, 3) := dq_167 (zby_at (j := 1) zbL_law_79 rfl) (zby_at (j := 2) zbL_law_79 rfl) (zby_at (j := 3) zbL_law_79 rfl) rfl
theorem dL_law_1268 : decode cL_law 1268 = .ok (.aload_n 1, 1) := dq_43 (zby_at (j := 4) zbL_law_79 rfl)
theorem dL_law_1269 : decode cL_law 1269 = .ok (.aload_n 0, 1) := dq_42 (zby_at (j := 5) zbL_law_79 rfl)
theorem dL_law_1270 : decode cL_law 1270 = .ok (.iload_n 3, 1) := dq_29 (zby_at (j := 6) zbL_law_79 rfl)
theorem dL_law_1271 : decode cL_law 1271 = .ok (.iconst 1, 1) := dq_4 (zby_at (j := 7) zbL_law_79 rfl)
theorem dL_law_1272 : decode cL_law 1272 = .ok (.iadd, 1) := dq_96 (zby_at (j := 8) zbL_law_79 rfl)
theorem dL_law_1273 : decode cL_law 1273 = .ok (.iaload, 1) := dq_46 (zby_at (j := 9) zbL_law_79 rfl)
theorem dL_law_1274 : decode cL_law 1274 = .ok (.aload_n 0, 1) := dq_42 (zby_at (j := 10) zbL_law_79 rfl)
theorem dL_law_1275 : decode cL_law 1275 = .ok (.iload_n 3, 1) := dq_29 (zby_at (j := 11) zbL_law_79 rfl)
theorem dL_law_1276 : decode cL_law 1276 = .ok (.iconst 2, 1) := dq_5 (zby_at (j := 12) zbL_law_79 rfl)
theorem dL_law_1277 : decode cL_law 1277 = .ok (.iadd, 1) := dq_96 (zby_at (j := 13) zbL_law_79 rfl)
theorem dL_law_1278 : decode cL_law 1278 = .ok (.iaload, 1) := dq_46 (zby_at (j := 14) zbL_law_79 rfl)
theorem dL_law_1279 : decode cL_law 1279 = .ok (.invokevirtual 141, 3) := dq_182 (zby_at (j := 15) zbL_law_79 rfl) (zby_at (j := 16) zbL_law_79 rfl) (zby_at (j := 17) zbL_law_79 rfl)
theorem zbL_law_80 : zby cL_law 1280 20 = [0, 141, 87, 44, 42, 29, 4, 96, 46, 42, 29, 5, 96, 46, 182, 0, 144, 87, 167, 2] := by decide +kernel
theorem dL_law_1282 : decode cL_law 1282 = .ok (.pop, 1) := dq_87 (zby_at (j := 2) zbL_law_80 rfl)
theorem dL_law_1283 : decode cL_law 1283 = .ok (.aload_n 2, 1) := dq_44 (zby_at (j := 3) zbL_law_80 rfl)
theorem dL_law_1284 : decode cL_law 1284 = .ok (.aload_n 0, 1) := dq_42 (zby_at (j := 4) zbL_law_80 rfl)
theorem dL_law_1285 : decode cL_law 1285 = .ok (.iload_n 3, 1) := dq_29 (zby_at (j := 5) zbL_law_80 rfl)
theorem dL_law_1286 : decode cL_law 1286 = .ok (.iconst 1, 1) := dq_4 (zby_at (j := 6) zbL_law_80 rfl)
theorem dL_law_1287 : decode cL_law 1287 = .ok (.iadd, 1) := dq_96 (zby_at (j := 7) zbL_law_80 rfl)
theorem dL_law_1288 : decode cL_law 1288 = .ok (.iaload, 1) := dq_46 (zby_at (j := 8) zbL_law_80 rfl)
theorem dL_law_1289 : decode cL_law 1289 = .ok (.aload_n 0, 1) := dq_42 (zby_at (j := 9) zbL_law_80 rfl)
theorem dL_law_1290 : decode cL_law 1290 = .ok (.iload_n 3, 1) := dq_29 (zby_at (j := 10) zbL_law_80 rfl)
theorem dL_law_1291 : decode cL_law 1291 = .ok (.iconst 2, 1) := dq_5 (zby_at (j := 11) zbL_law_80 rfl)
theorem dL_law_1292 : decode cL_law 1292 = .ok (.iadd, 1) := dq_96 (zby_at (j := 12) zbL_law_80 rfl)
theorem dL_law_1293 : decode cL_law 1293 = .ok (.iaload, 1) := dq_46 (zby_at (j := 13) zbL_law_80 rfl)
theorem dL_law_1294 : decode cL_law 1294 = .ok (.invokevirtual 144, 3) := dq_182 (zby_at (j := 14) zbL_law_80 rfl) (zby_at (j := 15) zbL_law_80 rfl) (zby_at (j := 16) zbL_law_80 rfl)
theorem zbL_law_81 : zby cL_law 1296 20 = [144, 87, 167, 2, 59, 43, 42, 29, 4, 96, 46, 182, 0, 145, 87, 44, 42, 29, 4, 96] := by decide +kernel
theorem dL_law_1297 : decode cL_law 1297 = .ok (.pop, 1) := dq_87 (zby_at (j := 1) zbL_law_81 rfl)
theorem dL_law_1298 : decode cL_law 1298 = .ok (.goto 571, 3) := dq_167 (zby_at (j := 2) zbL_law_81 rfl) (zby_at (j := 3) zbL_law_81 rfl) (zby_at (j := 4) zbL_law_81 rfl) rfl
theorem dL_law_1301 : decode cL_law 1301 = .ok (.aload_n 1, 1) := dq_43 (zby_at (j := 5) zbL_law_81 rfl)
theorem dL_law_1302 : decode cL_law 1302 = .ok (.aload_n 0, 1) := dq_42 (zby_at (j := 6) zbL_law_81 rfl)
theorem dL_law_1303 : decode cL_law 1303 = .ok (.iload_n 3, 1) := dq_29 (zby_at (j := 7) zbL_law_81 rfl)
theorem dL_law_1304 : decode cL_law 1304 = .ok (.iconst 1, 1) := dq_4 (zby_at (j := 8) zbL_law_81 rfl)
theorem dL_law_1305 : decode cL_law 1305 = .ok (.iadd, 1) := dq_96 (zby_at (j := 9) zbL_law_81 rfl)
theorem dL_law_1306 : decode cL_law 1306 = .ok (.iaload, 1) := dq_46 (zby_at (j := 10) zbL_law_81 rfl)
theorem dL_law_1307 : decode cL_law 1307 = .ok (.invokevirtual 145, 3) := dq_182 (zby_at (j := 11) zbL_law_81 rfl) (zby_at (j := 12) zbL_law_81 rfl) (zby_at (j := 13) zbL_law_81 rfl)
theorem dL_law_1310 : decode cL_law 1310 = .ok (.pop, 1) := dq_87 (zby_at (j := 14) zbL_law_81 rfl)
theorem dL_law_1311 : decode cL_law 1311 = .ok (.aload_n 2, 1) := dq_44 (zby_at (j := 15) zbL_law_81 rfl)
theorem zbL_law_82 : zby cL_law 1312 20 = [42, 29, 4, 96, 46, 182, 0, 148, 87, 167, 2, 36, 43, 42, 29, 4, 96, 46, 182, 0] := by decide +kernel
theorem dL_law_1312 : decode cL_law 1312 = .ok (.aload_n 0, 1) := dq_42 (zby_at (j := 0) zbL_law_82 rfl)
theorem dL_law_1313 : decode cL_law 1313 = .ok (.iload_n 3, 1) := dq_29 (zby_at (j := 1) zbL_law_82 rfl)
theorem dL_law_1314 : decode cL_law 1314 = .ok (.iconst 1, 1) := dq_4 (zby_at (j := 2) zbL_law_82 rfl)
theorem dL_law_1315 : decode cL_law 1315 = .ok (.iadd, 1) := dq_96 (zby_at (j := 3) zbL_law_82 rfl)
theorem dL_law_1316 : decode cL_law 1316 = .ok (.iaload, 1) := dq_46 (zby_at (j := 4) zbL_law_82 rfl)
theorem dL_law_1317 : decode cL_law 1317 = .ok (.invokevirtual 148, 3) := dq_182 (zby_at (j := 5) zbL_law_82 rfl) (zby_at (j := 6) zbL_law_82 rfl) (zby_at (j := 7) zbL_law_82 rfl)
theorem dL_law_1320 : decode cL_law 1320 = .ok (.pop, 1) := dq_87 (zby_at (j := 8) zbL_law_82 rfl)
theorem dL_law_1321 : decode cL_law 1321 = .ok (.goto 548, 3) := dq_167 (zby_at (j := 9) zbL_law_82 rfl) (zby_at (j := 10) zbL_law_82 rfl) (zby_at (j := 11) zbL_law_82 rfl) rfl
theorem dL_law_1324 : decode cL_law 1324 = .ok (.aload_n 1, 1) := dq_43 (zby_at (j := 12) zbL_law_82 rfl)
theorem dL_law_1325 : decode cL_law 1325 = .ok (.aload_n 0, 1) := dq_42 (zby_at (j := 13) zbL_law_82 rfl)
theorem dL_law_1326 : decode cL_law 1326 = .ok (.iload_n 3, 1) := dq_29 (zby_at (j := 14) zbL_law_82 rfl)
theorem dL_law_1327 : decode cL_law 1327 = .ok (.iconst 1, 1) := dq_4 (zby_at (j := 15) zbL_law_82 rfl)
theorem zbL_law_83 : zby cL_law 1328 20 = [96, 46, 182, 0, 149, 87, 44, 42, 29, 4, 96, 46, 182, 0, 152, 87, 167, 2, 13, 43] := by decide +kernel
theorem dL_law_1328 : decode cL_law 1328 = .ok (.iadd, 1) := dq_96 (zby_at (j := 0) zbL_law_83 rfl)
theorem dL_law_1329 : decode cL_law 1329 = .ok (.iaload, 1) := dq_46 (zby_at (j := 1) zbL_law_83 rfl)
theorem dL_law_1330 : decode cL_law 1330 = .ok (.invokevirtual 149, 3) := dq_182 (zby_at (j := 2) zbL_law_83 rfl) (zby_at (j := 3) zbL_law_83 rfl) (zby_at (j := 4) zbL_law_83 rfl)
theorem dL_law_1333 : decode cL_law 1333 = .ok (.pop, 1) := dq_87 (zby_at (j := 5) zbL_law_83 rfl)
theorem dL_law_1334 : decode cL_law 1334 = .ok (.aload_n 2, 1) := dq_44 (zby_at (j := 6) zbL_law_83 rfl)
theorem dL_law_1335 : decode cL_law 1335 = .ok (.aload_n 0, 1) := dq_42 (zby_at (j := 7) zbL_law_83 rfl)
theorem dL_law_1336 : decode cL_law 1336 = .ok (.iload_n 3, 1) := dq_29 (zby_at (j := 8) zbL_law_83 rfl)
theorem dL_law_1337 : decode cL_law 1337 = .ok (.iconst 1, 1) := dq_4 (zby_at (j := 9) zbL_law_83 rfl)
theorem dL_law_1338 : decode cL_law 1338 = .ok (.iadd, 1) := dq_96 (zby_at (j := 10) zbL_law_83 rfl)
theorem dL_law_1339 : decode cL_law 1339 = .ok (.iaload, 1) := dq_46 (zby_at (j := 11) zbL_law_83 rfl)
theorem dL_law_1340 : decode cL_law 1340 = .ok (.invokevirtual 152, 3) := dq_182 (zby_at (j := 12) zbL_law_83 rfl) (zby_at (j := 13) zbL_law_83 rfl) (zby_at (j := 14) zbL_law_83 rfl)
theorem dL_law_1343 : decode cL_law 1343 = .ok (.pop, 1) := dq_87 (zby_at (j := 15) zbL_law_83 rfl)
theorem zbL_law_84 : zby cL_law 1344 20 = [167, 2, 13, 43, 42, 29, 4, 96, 46, 42, 29, 5, 96, 46, 182, 0, 153, 87, 44, 42] := by decide +kernel
theorem dL_law_1344 : decode cL_law 1344 = .ok (.goto 525, 3) := dq_167 (zby_at (j := 0) zbL_law_84 rfl) (zby_at (j := 1) zbL_law_84 rfl) (zby_at (j := 2) zbL_law_84 rfl) rfl
theorem dL_law_1347 : decode cL_law 1347 = .ok (.aload_n 1, 1) := dq_43 (zby_at (j := 3) zbL_law_84 rfl)
theorem dL_law_1348 : decode cL_law 1348 = .ok (.aload_n 0, 1) := dq_42 (zby_at (j := 4) zbL_law_84 rfl)
theorem dL_law_1349 : decode cL_law 1349 = .ok (.iload_n 3, 1) := dq_29 (zby_at (j := 5) zbL_law_84 rfl)
theorem dL_law_1350 : decode cL_law 1350 = .ok (.iconst 1, 1) := dq_4 (zby_at (j := 6) zbL_law_84 rfl)
theorem dL_law_1351 : decode cL_law 1351 = .ok (.iadd, 1) := dq_96 (zby_at (j := 7) zbL_law_84 rfl)
theorem dL_law_1352 : decode cL_law 1352 = .ok (.iaload, 1) := dq_46 (zby_at (j := 8) zbL_law_84 rfl)
theorem dL_law_1353 : decode cL_law 1353 = .ok (.aload_n 0, 1) := dq_42 (zby_at (j := 9) zbL_law_84 rfl)
theorem dL_law_1354 : decode cL_law 1354 = .ok (.iload_n 3, 1) := dq_29 (zby_at (j := 10) zbL_law_84 rfl)
theorem dL_law_1355 : decode cL_law 1355 = .ok (.iconst 2, 1) := dq_5 (zby_at (j := 11) zbL_law_84 rfl)
theorem dL_law_1356 : decode cL_law 1356 = .ok (.iadd, 1) := dq_96 (zby_at (j := 12) zbL_law_84 rfl)
theorem dL_law_1357 : decode cL_law 1357 = .ok (.iaload, 1) := dq_46 (zby_at (j := 13) zbL_law_84 rfl)
theorem dL_law_1358 : decode cL_law 1358 = .ok (.invokevirtual 153, 3) := dq_182 (zby_at (j := 14) zbL_law_84 rfl) (zby_at (j := 15) zbL_law_84 rfl) (zby_at (j := 16) zbL_law_84 rfl)
theorem zbL_law_85 : zby cL_law 1360 20 = [153, 87, 44, 42, 29, 4, 96, 46, 42, 29, 5, 96, 46, 182, 0, 156, 87, 167, 1, 236] := by decide +kernel
theorem dL_law_1361 : decode cL_law 1361 = .ok (.pop, 1) := dq_87 (zby_at (j := 1) zbL_law_85 rfl)
theorem dL_law_1362 : decode cL_law 1362 = .ok (.aload_n 2, 1) := dq_44 (zby_at (j := 2) zbL_law_85 rfl)
theorem dL_law_1363 : decode cL_law 1363 = .ok (.aload_n 0, 1) := dq_42 (zby_at (j := 3) zbL_law_85 rfl)
theorem dL_law_1364 : decode cL_law 1364 = .ok (.iload_n 3, 1) := dq_29 (zby_at (j := 4) zbL_law_85 rfl)
theorem dL_law_1365 : decode cL_law 1365 = .ok (.iconst 1, 1) := dq_4 (zby_at (j := 5) zbL_law_85 rfl)
theorem dL_law_1366 : decode cL_law 1366 = .ok (.iadd, 1) := dq_96 (zby_at (j := 6) zbL_law_85 rfl)
theorem dL_law_1367 : decode cL_law 1367 = .ok (.iaload, 1) := dq_46 (zby_at (j := 7) zbL_law_85 rfl)
theorem dL_law_1368 : decode cL_law 1368 = .ok (.aload_n 0, 1) := dq_42 (zby_at (j := 8) zbL_law_85 rfl)
theorem dL_law_1369 : decode cL_law 1369 = .ok (.iload_n 3, 1) := dq_29 (zby_at (j := 9) zbL_law_85 rfl)
theorem dL_law_1370 : decode cL_law 1370 = .ok (.iconst 2, 1) := dq_5 (zby_at (j := 10) zbL_law_85 rfl)
theorem dL_law_1371 : decode cL_law 1371 = .ok (.iadd, 1) := dq_96 (zby_at (j := 11) zbL_law_85 rfl)
theorem dL_law_1372 : decode cL_law 1372 = .ok (.iaload, 1) := dq_46 (zby_at (j := 12) zbL_law_85 rfl)
theorem dL_law_1373 : decode cL_law 1373 = .ok (.invokevirtual 156, 3) := dq_182 (zby_at (j := 13) zbL_law_85 rfl) (zby_at (j := 14) zbL_law_85 rfl) (zby_at (j := 15) zbL_law_85 rfl)
theorem zbL_law_86 : zby cL_law 1376 20 = [87, 167, 1, 236, 43, 42, 29, 4, 96, 46, 42, 29, 5, 96, 46, 182, 0, 157, 87, 44] := by decide +kernel
theorem dL_law_1376 : decode cL_law 1376 = .ok (.pop, 1) := dq_87 (zby_at (j := 0) zbL_law_86 rfl)
theorem dL_law_1377 : decode cL_law 1377 = .ok (.goto 492, 3) := dq_167 (zby_at (j := 1) zbL_law_86 rfl) (zby_at (j := 2) zbL_law_86 rfl) (zby_at (j := 3) zbL_law_86 rfl) rfl
theorem dL_law_1380 : decode cL_law 1380 = .ok (.aload_n 1, 1) := dq_43 (zby_at (j := 4) zbL_law_86 rfl)
theorem dL_law_1381 : decode cL_law 1381 = .ok (.aload_n 0, 1) := dq_42 (zby_at (j := 5) zbL_law_86 rfl)
theorem dL_law_1382 : decode cL_law 1382 = .ok (.iload_n 3, 1) := dq_29 (zby_at (j := 6) zbL_law_86 rfl)
theorem dL_law_1383 : decode cL_law 1383 = .ok (.iconst 1, 1) := dq_4 (zby_at (j := 7) zbL_law_86 rfl)
theorem dL_law_1384 : decode cL_law 1384 = .ok (.iadd, 1) := dq_96 (zby_at (j := 8) zbL_law_86 rfl)
theorem dL_law_1385 : decode cL_law 1385 = .ok (.iaload, 1) := dq_46 (zby_at (j := 9) zbL_law_86 rfl)
theorem dL_law_1386 : decode cL_law 1386 = .ok (.aload_n 0, 1) := dq_42 (zby_at (j := 10) zbL_law_86 rfl)
theorem dL_law_1387 : decode cL_law 1387 = .ok (.iload_n 3, 1) := dq_29 (zby_at (j := 11) zbL_law_86 rfl)
