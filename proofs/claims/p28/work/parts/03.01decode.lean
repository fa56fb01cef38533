theorem zbX0_init_0 : zby cX0_init 0 20 = [42, 183, 0, 3, 42, 187, 0, 9, 89, 183, 0, 11, 181, 0, 12, 42, 187, 0, 9, 89] := by decide +kernel
theorem dX0_init_0 : decode cX0_init 0 = .ok (.aload_n 0, 1) := dq_42 (zby_at (j := 0) zbX0_init_0 rfl)
theorem dX0_init_1 : decode cX0_init 1 = .ok (.invokespecial 3, 3) := dq_183 (zby_at (j := 1) zbX0_init_0 rfl) (zby_at (j := 2) zbX0_init_0 rfl) (zby_at (j := 3) zbX0_init_0 rfl)
theorem dX0_init_4 : decode cX0_init 4 = .ok (.aload_n 0, 1) := dq_42 (zby_at (j := 4) zbX0_init_0 rfl)
theorem dX0_init_5 : decode cX0_init 5 = .ok (.new 9, 3) := dq_187 (zby_at (j := 5) zbX0_init_0 rfl) (zby_at (j := 6) zbX0_init_0 rfl) (zby_at (j := 7) zbX0_init_0 rfl)
theorem dX0_init_8 : decode cX0_init 8 = .ok (.dup, 1) := dq_89 (zby_at (j := 8) zbX0_init_0 rfl)
theorem dX0_init_9 : decode cX0_init 9 = .ok (.invokespecial 11, 3) := dq_183 (zby_at (j := 9) zbX0_init_0 rfl) (zby_at (j := 10) zbX0_init_0 rfl) (zby_at (j := 11) zbX0_init_0 rfl)
theorem dX0_init_12 : decode cX0_init 12 = .ok (.putfield 12, 3) := dq_181 (zby_at (j := 12) zbX0_init_0 rfl) (zby_at (j := 13) zbX0_init_0 rfl) (zby_at (j := 14) zbX0_init_0 rfl)
theorem dX0_init_15 : decode cX0_init 15 = .ok (.aload_n 0, 1) := dq_42 (zby_at (j := 15) zbX0_init_0 rfl)
theorem zbX0_init_1 : zby cX0_init 16 20 = [187, 0, 9, 89, 183, 0, 11, 181, 0, 18, 42, 187, 0, 9, 89, 183, 0, 11, 181, 0] := by decide +kernel
theorem dX0_init_16 : decode cX0_init 16 = .ok (.new 9, 3) := dq_187 (zby_at (j := 0) zbX0_init_1 rfl) (zby_at (j := 1) zbX0_init_1 rfl) (zby_at (j := 2) zbX0_init_1 rfl)
theorem dX0_init_19 : decode cX0_init 19 = .ok (.dup, 1) := dq_89 (zby_at (j := 3) zbX0_init_1 rfl)
theorem dX0_init_20 : decode cX0_init 20 = .ok (.invokespecial 11, 3) := dq_183 (zby_at (j := 4) zbX0_init_1 rfl) (zby_at (j := 5) zbX0_init_1 rfl) (zby_at (j := 6) zbX0_init_1 rfl)
theorem dX0_init_23 : decode cX0_init 23 = .ok (.putfield 18, 3) := dq_181 (zby_at (j := 7) zbX0_init_1 rfl) (zby_at (j := 8) zbX0_init_1 rfl) (zby_at (j := 9) zbX0_init_1 rfl)
theorem dX0_init_26 : decode cX0_init 26 = .ok (.aload_n 0, 1) := dq_42 (zby_at (j := 10) zbX0_init_1 rfl)
theorem dX0_init_27 : decode cX0_init 27 = .ok (.new 9, 3) := dq_187 (zby_at (j := 11) zbX0_init_1 rfl) (zby_at (j := 12) zbX0_init_1 rfl) (zby_at (j := 13) zbX0_init_1 rfl)
theorem dX0_init_30 : decode cX0_init 30 = .ok (.dup, 1) := dq_89 (zby_at (j := 14) zbX0_init_1 rfl)
theorem dX0_init_31 : decode cX0_init 31 = .ok (.invokespecial 11, 3) := dq_183 (zby_at (j := 15) zbX0_init_1 rfl) (zby_at (j := 16) zbX0_init_1 rfl) (zby_at (j := 17) zbX0_init_1 rfl)
theorem zbX0_init_2 : zby cX0_init 32 20 = [0, 11, 181, 0, 21, 42, 17, 4, 0, 188, 10, 181, 0, 24, 42, 17, 4, 0, 188, 10] := by decide +kernel
theorem dX0_init_34 : decode cX0_init 34 = .ok (.putfield 21, 3) := dq_181 (zby_at (j := 2) zbX0_init_2 rfl) (zby_at (j := 3) zbX0_init_2 rfl) (zby_at (j := 4) zbX0_init_2 rfl)
theorem dX0_init_37 : decode cX0_init 37 = .ok (.aload_n 0, 1) := dq_42 (zby_at (j := 5) zbX0_init_2 rfl)
theorem dX0_init_38 : decode cX0_init 38 = .ok (.sipush 1024, 3) := dq_17 (zby_at (j := 6) zbX0_init_2 rfl) (zby_at (j := 7) zbX0_init_2 rfl) (zby_at (j := 8) zbX0_init_2 rfl) rfl
theorem dX0_init_41 : decode cX0_init 41 = .ok (.newarray .int, 2) := dq_188_10 (zby_at (j := 9) zbX0_init_2 rfl) (zby_at (j := 10) zbX0_init_2 rfl)
theorem dX0_init_43 : decode cX0_init 43 = .ok (.putfield 24, 3) := dq_181 (zby_at (j := 11) zbX0_init_2 rfl) (zby_at (j := 12) zbX0_init_2 rfl) (zby_at (j := 13) zbX0_init_2 rfl)
theorem dX0_init_46 : decode cX0_init 46 = .ok (.aload_n 0, 1) := dq_42 (zby_at (j := 14) zbX0_init_2 rfl)
theorem dX0_init_47 : decode cX0_init 47 = .ok (.sipush 1024, 3) := dq_17 (zby_at (j := 15) zbX0_init_2 rfl) (zby_at (j := 16) zbX0_init_2 rfl) (zby_at (j := 17) zbX0_init_2 rfl) rfl
theorem zbX0_init_3 : zby cX0_init 48 20 = [4, 0, 188, 10, 181, 0, 28, 177] := by decide +kernel
theorem dX0_init_50 : decode cX0_init 50 = .ok (.newarray .int, 2) := dq_188_10 (zby_at (j := 2) zbX0_init_3 rfl) (zby_at (j := 3) zbX0_init_3 rfl)
theorem dX0_init_52 : decode cX0_init 52 = .ok (.putfield 28, 3) := dq_181 (zby_at (j := 4) zbX0_init_3 rfl) (zby_at (j := 5) zbX0_init_3 rfl) (zby_at (j := 6) zbX0_init_3 rfl)
theorem dX0_init_55 : decode cX0_init 55 = .ok (.return_, 1) := dq_177 (zby_at (j := 7) zbX0_init_3 rfl)
theorem zbX0_combine_0 : zby cX0_combine 0 20 = [27, 170, 0, 0, 0, 0, 0, 128, 0, 0, 0, 0, 0, 0, 0, 5, 0, 0, 0, 39] := by decide +kernel
theorem dX0_combine_0 : decode cX0_combine 0 = .ok (.iload_n 1, 1) := dq_27 (zby_at (j := 0) zbX0_combine_0 rfl)
theorem dX0_combine_1 : decode cX0_combine 1 = .ok (.tableswitch 128 0 5 #[39, 47, 55, 63, 74, 85], 39) := by decide +kernel
theorem zbX0_combine_2 : zby cX0_combine 32 20 = [0, 0, 0, 74, 0, 0, 0, 85, 44, 45, 182, 0, 31, 167, 0, 110, 44, 45, 182, 0] := by decide +kernel
theorem dX0_combine_40 : decode cX0_combine 40 = .ok (.aload_n 2, 1) := dq_44 (zby_at (j := 8) zbX0_combine_2 rfl)
theorem dX0_combine_41 : decode cX0_combine 41 = .ok (.aload_n 3, 1) := dq_45 (zby_at (j := 9) zbX0_combine_2 rfl)
theorem dX0_combine_42 : decode cX0_combine 42 = .ok (.invokevirtual 31, 3) := dq_182 (zby_at (j := 10) zbX0_combine_2 rfl) (zby_at (j := 11) zbX0_combine_2 rfl) (zby_at (j := 12) zbX0_combine_2 rfl)
theorem dX0_combine_45 : decode cX0_combine 45 = .ok (.goto 110, 3) := dq_167 (zby_at (j := 13) zbX0_combine_2 rfl) (zby_at (j := 14) zbX0_combine_2 rfl) (zby_at (j := 15) zbX0_combine_2 rfl) rfl
theorem zbX0_combine_3 : zby cX0_combine 48 20 = [44, 45, 182, 0, 35, 167, 0, 102, 44, 45, 182, 0, 38, 167, 0, 94, 42, 44, 45, 21] := by decide +kernel
theorem dX0_combine_48 : decode cX0_combine 48 = .ok (.aload_n 2, 1) := dq_44 (zby_at (j := 0) zbX0_combine_3 rfl)
theorem dX0_combine_49 : decode cX0_combine 49 = .ok (.aload_n 3, 1) := dq_45 (zby_at (j := 1) zbX0_combine_3 rfl)
theorem dX0_combine_50 : decode cX0_combine 50 = .ok (.invokevirtual 35, 3) := dq_182 (zby_at (j := 2) zbX0_combine_3 rfl) (zby_at (j := 3) zbX0_combine_3 rfl) (zby_at (j := 4) zbX0_combine_3 rfl)
theorem dX0_combine_53 : decode cX0_combine 53 = .ok (.goto 102, 3) := dq_167 (zby_at (j := 5) zbX0_combine_3 rfl) (zby_at (j := 6) zbX0_combine_3 rfl) (zby_at (j := 7) zbX0_combine_3 rfl) rfl
theorem dX0_combine_56 : decode cX0_combine 56 = .ok (.aload_n 2, 1) := dq_44 (zby_at (j := 8) zbX0_combine_3 rfl)
theorem dX0_combine_57 : decode cX0_combine 57 = .ok (.aload_n 3, 1) := dq_45 (zby_at (j := 9) zbX0_combine_3 rfl)
theorem dX0_combine_58 : decode cX0_combine 58 = .ok (.invokevirtual 38, 3) := dq_182 (zby_at (j := 10) zbX0_combine_3 rfl) (zby_at (j := 11) zbX0_combine_3 rfl) (zby_at (j := 12) zbX0_combine_3 rfl)
theorem dX0_combine_61 : decode cX0_combine 61 = .ok (.goto 94, 3) := dq_167 (zby_at (j := 13) zbX0_combine_3 rfl) (zby_at (j := 14) zbX0_combine_3 rfl) (zby_at (j := 15) zbX0_combine_3 rfl) rfl
theorem zbX0_combine_4 : zby cX0_combine 64 20 = [42, 44, 45, 21, 4, 182, 0, 41, 167, 0, 83, 42, 44, 45, 21, 4, 182, 0, 45, 167] := by decide +kernel
theorem dX0_combine_64 : decode cX0_combine 64 = .ok (.aload_n 0, 1) := dq_42 (zby_at (j := 0) zbX0_combine_4 rfl)
theorem dX0_combine_65 : decode cX0_combine 65 = .ok (.aload_n 2, 1) := dq_44 (zby_at (j := 1) zbX0_combine_4 rfl)
theorem dX0_combine_66 : decode cX0_combine 66 = .ok (.aload_n 3, 1) := dq_45 (zby_at (j := 2) zbX0_combine_4 rfl)
theorem dX0_combine_67 : decode cX0_combine 67 = .ok (.iload 4, 2) := dq_21 (zby_at (j := 3) zbX0_combine_4 rfl) (zby_at (j := 4) zbX0_combine_4 rfl)
theorem dX0_combine_69 : decode cX0_combine 69 = .ok (.invokevirtual 41, 3) := dq_182 (zby_at (j := 5) zbX0_combine_4 rfl) (zby_at (j := 6) zbX0_combine_4 rfl) (zby_at (j := 7) zbX0_combine_4 rfl)
theorem dX0_combine_72 : decode cX0_combine 72 = .ok (.goto 83, 3) := dq_167 (zby_at (j := 8) zbX0_combine_4 rfl) (zby_at (j := 9) zbX0_combine_4 rfl) (zby_at (j := 10) zbX0_combine_4 rfl) rfl
theorem dX0_combine_75 : decode cX0_combine 75 = .ok (.aload_n 0, 1) := dq_42 (zby_at (j := 11) zbX0_combine_4 rfl)
theorem dX0_combine_76 : decode cX0_combine 76 = .ok (.aload_n 2, 1) := dq_44 (zby_at (j := 12) zbX0_combine_4 rfl)
theorem dX0_combine_77 : decode cX0_combine 77 = .ok (.aload_n 3, 1) := dq_45 (zby_at (j := 13) zbX0_combine_4 rfl)
theorem dX0_combine_78 : decode cX0_combine 78 = .ok (.iload 4, 2) := dq_21 (zby_at (j := 14) zbX0_combine_4 rfl) (zby_at (j := 15) zbX0_combine_4 rfl)
theorem zbX0_combine_5 : zby cX0_combine 80 20 = [182, 0, 45, 167, 0, 72, 42, 180, 0, 21, 44, 182, 0, 48, 42, 44, 45, 21, 4, 182] := by decide +kernel
theorem dX0_combine_80 : decode cX0_combine 80 = .ok (.invokevirtual 45, 3) := dq_182 (zby_at (j := 0) zbX0_combine_5 rfl) (zby_at (j := 1) zbX0_combine_5 rfl) (zby_at (j := 2) zbX0_combine_5 rfl)
theorem dX0_combine_83 : decode cX0_combine 83 = .ok (.goto 72, 3) := dq_167 (zby_at (j := 3) zbX0_combine_5 rfl) (zby_at (j := 4) zbX0_combine_5 rfl) (zby_at (j := 5) zbX0_combine_5 rfl) rfl
theorem dX0_combine_86 : decode cX0_combine 86 = .ok (.aload_n 0, 1) := dq_42 (zby_at (j := 6) zbX0_combine_5 rfl)
theorem dX0_combine_87 : decode cX0_combine 87 = .ok (.getfield 21, 3) := dq_180 (zby_at (j := 7) zbX0_combine_5 rfl) (zby_at (j := 8) zbX0_combine_5 rfl) (zby_at (j := 9) zbX0_combine_5 rfl)
theorem dX0_combine_90 : decode cX0_combine 90 = .ok (.aload_n 2, 1) := dq_44 (zby_at (j := 10) zbX0_combine_5 rfl)
theorem dX0_combine_91 : decode cX0_combine 91 = .ok (.invokevirtual 48, 3) := dq_182 (zby_at (j := 11) zbX0_combine_5 rfl) (zby_at (j := 12) zbX0_combine_5 rfl) (zby_at (j := 13) zbX0_combine_5 rfl)
theorem dX0_combine_94 : decode cX0_combine 94 = .ok (.aload_n 0, 1) := dq_42 (zby_at (j := 14) zbX0_combine_5 rfl)
theorem dX0_combine_95 : decode cX0_combine 95 = .ok (.aload_n 2, 1) := dq_44 (zby_at (j := 15) zbX0_combine_5 rfl)
theorem zbX0_combine_6 : zby cX0_combine 96 20 = [45, 21, 4, 182, 0, 45, 42, 44, 45, 21, 4, 182, 0, 41, 42, 180, 0, 21, 44, 182] := by decide +kernel
theorem dX0_combine_96 : decode cX0_combine 96 = .ok (.aload_n 3, 1) := dq_45 (zby_at (j := 0) zbX0_combine_6 rfl)
theorem dX0_combine_97 : decode cX0_combine 97 = .ok (.iload 4, 2) := dq_21 (zby_at (j := 1) zbX0_combine_6 rfl) (zby_at (j := 2) zbX0_combine_6 rfl)
theorem dX0_combine_99 : decode cX0_combine 99 = .ok (.invokevirtual 45, 3) := dq_182 (zby_at (j := 3) zbX0_combine_6 rfl) (zby_at (j := 4) zbX0_combine_6 rfl) (zby_at (j := 5) zbX0_combine_6 rfl)
theorem dX0_combine_102 : decode cX0_combine 102 = .ok (.aload_n 0, 1) := dq_42 (zby_at (j := 6) zbX0_combine_6 rfl)
theorem dX0_combine_103 : decode cX0_combine 103 = .ok (.aload_n 2, 1) := dq_44 (zby_at (j := 7) zbX0_combine_6 rfl)
theorem dX0_combine_104 : decode cX0_combine 104 = .ok (.aload_n 3, 1) := dq_45 (zby_at (j := 8) zbX0_combine_6 rfl)
theorem dX0_combine_105 : decode cX0_combine 105 = .ok (.iload 4, 2) := dq_21 (zby_at (j := 9) zbX0_combine_6 rfl) (zby_at (j := 10) zbX0_combine_6 rfl)
theorem dX0_combine_107 : decode cX0_combine 107 = .ok (.invokevirtual 41, 3) := dq_182 (zby_at (j := 11) zbX0_combine_6 rfl) (zby_at (j := 12) zbX0_combine_6 rfl) (zby_at (j := 13) zbX0_combine_6 rfl)
theorem dX0_combine_110 : decode cX0_combine 110 = .ok (.aload_n 0, 1) := dq_42 (zby_at (j := 14) zbX0_combine_6 rfl)
theorem dX0_combine_111 : decode cX0_combine 111 = .ok (.getfield 21, 3) := dq_180 (zby_at (j := 15) zbX0_combine_6 rfl) (zby_at (j := 16) zbX0_combine_6 rfl) (zby_at (j := 17) zbX0_combine_6 rfl)
theorem zbX0_combine_7 : zby cX0_combine 112 20 = [0, 21, 44, 182, 0, 35, 44, 42, 180, 0, 21, 182, 0, 48, 167, 0, 29, 42, 180, 0] := by decide +kernel
theorem dX0_combine_114 : decode cX0_combine 114 = .ok (.aload_n 2, 1) := dq_44 (zby_at (j := 2) zbX0_combine_7 rfl)
theorem dX0_combine_115 : decode cX0_combine 115 = .ok (.invokevirtual 35, 3) := dq_182 (zby_at (j := 3) zbX0_combine_7 rfl) (zby_at (j := 4) zbX0_combine_7 rfl) (zby_at (j := 5) zbX0_combine_7 rfl)
theorem dX0_combine_118 : decode cX0_combine 118 = .ok (.aload_n 2, 1) := dq_44 (zby_at (j := 6) zbX0_combine_7 rfl)
theorem dX0_combine_119 : decode cX0_combine 119 = .ok (.aload_n 0, 1) := dq_42 (zby_at (j := 7) zbX0_combine_7 rfl)
theorem dX0_combine_120 : decode cX0_combine 120 = .ok (.getfield 21, 3) := dq_180 (zby_at (j := 8) zbX0_combine_7 rfl) (zby_at (j := 9) zbX0_combine_7 rfl) (zby_at (j := 10) zbX0_combine_7 rfl)
theorem dX0_combine_123 : decode cX0_combine 123 = .ok (.invokevirtual 48, 3) := dq_182 (zby_at (j := 11) zbX0_combine_7 rfl) (zby_at (j := 12) zbX0_combine_7 rfl) (zby_at (j := 13) zbX0_combine_7 rfl)
theorem dX0_combine_126 : decode cX0_combine 126 = .ok (.goto 29, 3) := dq_167 (zby_at (j := 14) zbX0_combine_7 rfl) (zby_at (j := 15) zbX0_combine_7 rfl) (zby_at (j := 16) zbX0_combine_7 rfl) rfl
theorem zbX0_combine_8 : zby cX0_combine 128 20 = [29, 42, 180, 0, 12, 45, 182, 0, 48, 42, 42, 180, 0, 12, 21, 4, 182, 0, 51, 44] := by decide +kernel
theorem dX0_combine_129 : decode cX0_combine 129 = .ok (.aload_n 0, 1) := dq_42 (zby_at (j := 1) zbX0_combine_8 rfl)
theorem dX0_combine_130 : decode cX0_combine 130 = .ok (.getfield 12, 3) := dq_180 (zby_at (j := 2) zbX0_combine_8 rfl) (zby_at (j := 3) zbX0_combine_8 rfl) (zby_at (j := 4) zbX0_combine_8 rfl)
theorem dX0_combine_133 : decode cX0_combine 133 = .ok (.aload_n 3, 1) := dq_45 (zby_at (j := 5) zbX0_combine_8 rfl)
theorem dX0_combine_134 : decode cX0_combine 134 = .ok (.invokevirtual 48, 3) := dq_182 (zby_at (j := 6) zbX0_combine_8 rfl) (zby_at (j := 7) zbX0_combine_8 rfl) (zby_at (j := 8) zbX0_combine_8 rfl)
theorem dX0_combine_137 : decode cX0_combine 137 = .ok (.aload_n 0, 1) := dq_42 (zby_at (j := 9) zbX0_combine_8 rfl)
theorem dX0_combine_138 : decode cX0_combine 138 = .ok (.aload_n 0, 1) := dq_42 (zby_at (j := 10) zbX0_combine_8 rfl)
theorem dX0_combine_139 : decode cX0_combine 139 = .ok (.getfield 12, 3) := dq_180 (zby_at (j := 11) zbX0_combine_8 rfl) (zby_at (j := 12) zbX0_combine_8 rfl) (zby_at (j := 13) zbX0_combine_8 rfl)
theorem dX0_combine_142 : decode cX0_combine 142 = .ok (.iload 4, 2) := dq_21 (zby_at (j := 14) zbX0_combine_8 rfl) (zby_at (j := 15) zbX0_combine_8 rfl)
theorem zbX0_combine_9 : zby cX0_combine 144 20 = [182, 0, 51, 44, 42, 180, 0, 12, 182, 0, 35, 177] := by decide +kernel
theorem dX0_combine_144 : decode cX0_combine 144 = .ok (.invokevirtual 51, 3) := dq_182 (zby_at (j := 0) zbX0_combine_9 rfl) (zby_at (j := 1) zbX0_combine_9 rfl) (zby_at (j := 2) zbX0_combine_9 rfl)
theorem dX0_combine_147 : decode cX0_combine 147 = .ok (.aload_n 2, 1) := dq_44 (zby_at (j := 3) zbX0_combine_9 rfl)
theorem dX0_combine_148 : decode cX0_combine 148 = .ok (.aload_n 0, 1) := dq_42 (zby_at (j := 4) zbX0_combine_9 rfl)
theorem dX0_combine_149 : decode cX0_combine 149 = .ok (.getfield 12, 3) := dq_180 (zby_at (j := 5) zbX0_combine_9 rfl) (zby_at (j := 6) zbX0_combine_9 rfl) (zby_at (j := 7) zbX0_combine_9 rfl)
theorem dX0_combine_152 : decode cX0_combine 152 = .ok (.invokevirtual 35, 3) := dq_182 (zby_at (j := 8) zbX0_combine_9 rfl) (zby_at (j := 9) zbX0_combine_9 rfl) (zby_at (j := 10) zbX0_combine_9 rfl)
theorem dX0_combine_155 : decode cX0_combine 155 = .ok (.return_, 1) := dq_177 (zby_at (j := 11) zbX0_combine_9 rfl)
theorem zbX0_reshape_0 : zby cX0_reshape 0 20 = [27, 170, 0, 0, 0, 0, 0, 105, 0, 0, 0, 0, 0, 0, 0, 5, 0, 0, 0, 39] := by decide +kernel
theorem dX0_reshape_0 : decode cX0_reshape 0 = .ok (.iload_n 1, 1) := dq_27 (zby_at (j := 0) zbX0_reshape_0 rfl)
theorem dX0_reshape_1 : decode cX0_reshape 1 = .ok (.tableswitch 105 0 5 #[39, 48, 57, 78, 87, 96], 39) := by decide +kernel
theorem zbX0_reshape_2 : zby cX0_reshape 32 20 = [0, 0, 0, 87, 0, 0, 0, 96, 42, 44, 29, 182, 0, 55, 167, 0, 60, 42, 44, 29] := by decide +kernel
theorem dX0_reshape_40 : decode cX0_reshape 40 = .ok (.aload_n 0, 1) := dq_42 (zby_at (j := 8) zbX0_reshape_2 rfl)
theorem dX0_reshape_41 : decode cX0_reshape 41 = .ok (.aload_n 2, 1) := dq_44 (zby_at (j := 9) zbX0_reshape_2 rfl)
theorem dX0_reshape_42 : decode cX0_reshape 42 = .ok (.iload_n 3, 1) := dq_29 (zby_at (j := 10) zbX0_reshape_2 rfl)
theorem dX0_reshape_43 : decode cX0_reshape 43 = .ok (.invokevirtual 55, 3) := dq_182 (zby_at (j := 11) zbX0_reshape_2 rfl) (zby_at (j := 12) zbX0_reshape_2 rfl) (zby_at (j := 13) zbX0_reshape_2 rfl)
theorem dX0_reshape_46 : decode cX0_reshape 46 = .ok (.goto 60, 3) := dq_167 (zby_at (j := 14) zbX0_reshape_2 rfl) (zby_at (j := 15) zbX0_reshape_2 rfl) (zby_at (j := 16) zbX0_reshape_2 rfl) rfl
theorem zbX0_reshape_3 : zby cX0_reshape 48 20 = [60, 42, 44, 29, 182, 0, 58, 167, 0, 51, 42, 44, 29, 182, 0, 51, 42, 44, 29, 182] := by decide +kernel
theorem dX0_reshape_49 : decode cX0_reshape 49 = .ok (.aload_n 0, 1) := dq_42 (zby_at (j := 1) zbX0_reshape_3 rfl)
theorem dX0_reshape_50 : decode cX0_reshape 50 = .ok (.aload_n 2, 1) := dq_44 (zby_at (j := 2) zbX0_reshape_3 rfl)
theorem dX0_reshape_51 : decode cX0_reshape 51 = .ok (.iload_n 3, 1) := dq_29 (zby_at (j := 3) zbX0_reshape_3 rfl)
theorem dX0_reshape_52 : decode cX0_reshape 52 = .ok (.invokevirtual 58, 3) := dq_182 (zby_at (j := 4) zbX0_reshape_3 rfl) (zby_at (j := 5) zbX0_reshape_3 rfl) (zby_at (j := 6) zbX0_reshape_3 rfl)
theorem dX0_reshape_55 : decode cX0_reshape 55 = .ok (.goto 51, 3) := dq_167 (zby_at (j := 7) zbX0_reshape_3 rfl) (zby_at (j := 8) zbX0_reshape_3 rfl) (zby_at (j := 9) zbX0_reshape_3 rfl) rfl
theorem dX0_reshape_58 : decode cX0_reshape 58 = .ok (.aload_n 0, 1) := dq_42 (zby_at (j := 10) zbX0_reshape_3 rfl)
theorem dX0_reshape_59 : decode cX0_reshape 59 = .ok (.aload_n 2, 1) := dq_44 (zby_at (j := 11) zbX0_reshape_3 rfl)
theorem dX0_reshape_60 : decode cX0_reshape 60 = .ok (.iload_n 3, 1) := dq_29 (zby_at (j := 12) zbX0_reshape_3 rfl)
theorem dX0_reshape_61 : decode cX0_reshape 61 = .ok (.invokevirtual 51, 3) := dq_182 (zby_at (j := 13) zbX0_reshape_3 rfl) (zby_at (j := 14) zbX0_reshape_3 rfl) (zby_at (j := 15) zbX0_reshape_3 rfl)
theorem zbX0_reshape_4 : zby cX0_reshape 64 20 = [42, 44, 29, 182, 0, 61, 42, 44, 29, 182, 0, 55, 167, 0, 30, 42, 44, 29, 182, 0] := by decide +kernel
theorem dX0_reshape_64 : decode cX0_reshape 64 = .ok (.aload_n 0, 1) := dq_42 (zby_at (j := 0) zbX0_reshape_4 rfl)
theorem dX0_reshape_65 : decode cX0_reshape 65 = .ok (.aload_n 2, 1) := dq_44 (zby_at (j := 1) zbX0_reshape_4 rfl)
theorem dX0_reshape_66 : decode cX0_reshape 66 = .ok (.iload_n 3, 1) := dq_29 (zby_at (j := 2) zbX0_reshape_4 rfl)
theorem dX0_reshape_67 : decode cX0_reshape 67 = .ok (.invokevirtual 61, 3) := dq_182 (zby_at (j := 3) zbX0_reshape_4 rfl) (zby_at (j := 4) zbX0_reshape_4 rfl) (zby_at (j := 5) zbX0_reshape_4 rfl)
theorem dX0_reshape_70 : decode cX0_reshape 70 = .ok (.aload_n 0, 1) := dq_42 (zby_at (j := 6) zbX0_reshape_4 rfl)
theorem dX0_reshape_71 : decode cX0_reshape 71 = .ok (.aload_n 2, 1) := dq_44 (zby_at (j := 7) zbX0_reshape_4 rfl)
theorem dX0_reshape_72 : decode cX0_reshape 72 = .ok (.iload_n 3, 1) := dq_29 (zby_at (j := 8) zbX0_reshape_4 rfl)
theorem dX0_reshape_73 : decode cX0_reshape 73 = .ok (.invokevirtual 55, 3) := dq_182 (zby_at (j := 9) zbX0_reshape_4 rfl) (zby_at (j := 10) zbX0_reshape_4 rfl) (zby_at (j := 11) zbX0_reshape_4 rfl)
theorem dX0_reshape_76 : decode cX0_reshape 76 = .ok (.goto 30, 3) := dq_167 (zby_at (j := 12) zbX0_reshape_4 rfl) (zby_at (j := 13) zbX0_reshape_4 rfl) (zby_at (j := 14) zbX0_reshape_4 rfl) rfl
theorem dX0_reshape_79 : decode cX0_reshape 79 = .ok (.aload_n 0, 1) := dq_42 (zby_at (j := 15) zbX0_reshape_4 rfl)
theorem zbX0_reshape_5 : zby cX0_reshape 80 20 = [44, 29, 182, 0, 61, 167, 0, 21, 42, 44, 29, 182, 0, 64, 167, 0, 12, 42, 44, 29] := by decide +kernel
theorem dX0_reshape_80 : decode cX0_reshape 80 = .ok (.aload_n 2, 1) := dq_44 (zby_at (j := 0) zbX0_reshape_5 rfl)
theorem dX0_reshape_81 : decode cX0_reshape 81 = .ok (.iload_n 3, 1) := dq_29 (zby_at (j := 1) zbX0_reshape_5 rfl)
theorem dX0_reshape_82 : decode cX0_reshape 82 = .ok (.invokevirtual 61, 3) := dq_182 (zby_at (j := 2) zbX0_reshape_5 rfl) (zby_at (j := 3) zbX0_reshape_5 rfl) (zby_at (j := 4) zbX0_reshape_5 rfl)
theorem dX0_reshape_85 : decode cX0_reshape 85 = .ok (.goto 21, 3) := dq_167 (zby_at (j := 5) zbX0_reshape_5 rfl) (zby_at (j := 6) zbX0_reshape_5 rfl) (zby_at (j := 7) zbX0_reshape_5 rfl) rfl
theorem dX0_reshape_88 : decode cX0_reshape 88 = .ok (.aload_n 0, 1) := dq_42 (zby_at (j := 8) zbX0_reshape_5 rfl)
theorem dX0_reshape_89 : decode cX0_reshape 89 = .ok (.aload_n 2, 1) := dq_44 (zby_at (j := 9) zbX0_reshape_5 rfl)
theorem dX0_reshape_90 : decode cX0_reshape 90 = .ok (.iload_n 3, 1) := dq_29 (zby_at (j := 10) zbX0_reshape_5 rfl)
theorem dX0_reshape_91 : decode cX0_reshape 91 = .ok (.invokevirtual 64, 3) := dq_182 (zby_at (j := 11) zbX0_reshape_5 rfl) (zby_at (j := 12) zbX0_reshape_5 rfl) (zby_at (j := 13) zbX0_reshape_5 rfl)
theorem dX0_reshape_94 : decode cX0_reshape 94 = .ok (.goto 12, 3) := dq_167 (zby_at (j := 14) zbX0_reshape_5 rfl) (zby_at (j := 15) zbX0_reshape_5 rfl) (zby_at (j := 16) zbX0_reshape_5 rfl) rfl
theorem zbX0_reshape_6 : zby cX0_reshape 96 20 = [12, 42, 44, 29, 182, 0, 67, 167, 0, 3, 177] := by decide +kernel
theorem dX0_reshape_97 : decode cX0_reshape 97 = .ok (.aload_n 0, 1) := dq_42 (zby_at (j := 1) zbX0_reshape_6 rfl)
theorem dX0_reshape_98 : decode cX0_reshape 98 = .ok (.aload_n 2, 1) := dq_44 (zby_at (j := 2) zbX0_reshape_6 rfl)
theorem dX0_reshape_99 : decode cX0_reshape 99 = .ok (.iload_n 3, 1) := dq_29 (zby_at (j := 3) zbX0_reshape_6 rfl)
theorem dX0_reshape_100 : decode cX0_reshape 100 = .ok (.invokevirtual 67, 3) := dq_182 (zby_at (j := 4) zbX0_reshape_6 rfl) (zby_at (j := 5) zbX0_reshape_6 rfl) (zby_at (j := 6) zbX0_reshape_6 rfl)
theorem dX0_reshape_103 : decode cX0_reshape 103 = .ok (.goto 3, 3) := dq_167 (zby_at (j := 7) zbX0_reshape_6 rfl) (zby_at (j := 8) zbX0_reshape_6 rfl) (zby_at (j := 9) zbX0_reshape_6 rfl) rfl
theorem dX0_reshape_106 : decode cX0_reshape 106 = .ok (.return_, 1) := dq_177 (zby_at (j := 10) zbX0_reshape_6 rfl)
theorem zbX0_complement_0 : zby cX0_complement 0 20 = [42, 180, 0, 12, 28, 182, 0, 70, 42, 180, 0, 12, 43, 182, 0, 35, 43, 42, 180, 0] := by decide +kernel
theorem dX0_complement_0 : decode cX0_complement 0 = .ok (.aload_n 0, 1) := dq_42 (zby_at (j := 0) zbX0_complement_0 rfl)
theorem dX0_complement_1 : decode cX0_complement 1 = .ok (.getfield 12, 3) := dq_180 (zby_at (j := 1) zbX0_complement_0 rfl) (zby_at (j := 2) zbX0_complement_0 rfl) (zby_at (j := 3) zbX0_complement_0 rfl)
theorem dX0_complement_4 : decode cX0_complement 4 = .ok (.iload_n 2, 1) := dq_28 (zby_at (j := 4) zbX0_complement_0 rfl)
theorem dX0_complement_5 : decode cX0_complement 5 = .ok (.invokevirtual 70, 3) := dq_182 (zby_at (j := 5) zbX0_complement_0 rfl) (zby_at (j := 6) zbX0_complement_0 rfl) (zby_at (j := 7) zbX0_complement_0 rfl)
theorem dX0_complement_8 : decode cX0_complement 8 = .ok (.aload_n 0, 1) := dq_42 (zby_at (j := 8) zbX0_complement_0 rfl)
theorem dX0_complement_9 : decode cX0_complement 9 = .ok (.getfield 12, 3) := dq_180 (zby_at (j := 9) zbX0_complement_0 rfl) (zby_at (j := 10) zbX0_complement_0 rfl) (zby_at (j := 11) zbX0_complement_0 rfl)
theorem dX0_complement_12 : decode cX0_complement 12 = .ok (.aload_n 1, 1) := dq_43 (zby_at (j := 12) zbX0_complement_0 rfl)
theorem dX0_complement_13 : decode cX0_complement 13 = .ok (.invokevirtual 35, 3) := dq_182 (zby_at (j := 13) zbX0_complement_0 rfl) (zby_at (j := 14) zbX0_complement_0 rfl) (zby_at (j := 15) zbX0_complement_0 rfl)
theorem zbX0_complement_1 : zby cX0_complement 16 20 = [43, 42, 180, 0, 12, 182, 0, 48, 177] := by decide +kernel
theorem dX0_complement_16 : decode cX0_complement 16 = .ok (.aload_n 1, 1) := dq_43 (zby_at (j := 0) zbX0_complement_1 rfl)
theorem dX0_complement_17 : decode cX0_complement 17 = .ok (.aload_n 0, 1) := dq_42 (zby_at (j := 1) zbX0_complement_1 rfl)
theorem dX0_complement_18 : decode cX0_complement 18 = .ok (.getfield 12, 3) := dq_180 (zby_at (j := 2) zbX0_complement_1 rfl) (zby_at (j := 3) zbX0_complement_1 rfl) (zby_at (j := 4) zbX0_complement_1 rfl)
theorem dX0_complement_21 : decode cX0_complement 21 = .ok (.invokevirtual 48, 3) := dq_182 (zby_at (j := 5) zbX0_complement_1 rfl) (zby_at (j := 6) zbX0_complement_1 rfl) (zby_at (j := 7) zbX0_complement_1 rfl)
theorem dX0_complement_24 : decode cX0_complement 24 = .ok (.return_, 1) := dq_177 (zby_at (j := 8) zbX0_complement_1 rfl)
theorem zbX0_raiseAll_0 : zby cX0_raiseAll 0 20 = [3, 62, 29, 28, 162, 0, 14, 43, 29, 182, 0, 74, 132, 3, 1, 167, 255, 243, 177] := by decide +kernel
theorem dX0_raiseAll_0 : decode cX0_raiseAll 0 = .ok (.iconst 0, 1) := dq_3 (zby_at (j := 0) zbX0_raiseAll_0 rfl)
theorem dX0_raiseAll_1 : decode cX0_raiseAll 1 = .ok (.istore_n 3, 1) := dq_62 (zby_at (j := 1) zbX0_raiseAll_0 rfl)
theorem dX0_raiseAll_2 : decode cX0_raiseAll 2 = .ok (.iload_n 3, 1) := dq_29 (zby_at (j := 2) zbX0_raiseAll_0 rfl)
theorem dX0_raiseAll_3 : decode cX0_raiseAll 3 = .ok (.iload_n 2, 1) := dq_28 (zby_at (j := 3) zbX0_raiseAll_0 rfl)
theorem dX0_raiseAll_4 : decode cX0_raiseAll 4 = .ok (.if_icmp .ge 14, 3) := dq_162 (zby_at (j := 4) zbX0_raiseAll_0 rfl) (zby_at (j := 5) zbX0_raiseAll_0 rfl) (zby_at (j := 6) zbX0_raiseAll_0 rfl) rfl
theorem dX0_raiseAll_7 : decode cX0_raiseAll 7 = .ok (.aload_n 1, 1) := dq_43 (zby_at (j := 7) zbX0_raiseAll_0 rfl)
theorem dX0_raiseAll_8 : decode cX0_raiseAll 8 = .ok (.iload_n 3, 1) := dq_29 (zby_at (j := 8) zbX0_raiseAll_0 rfl)
theorem dX0_raiseAll_9 : decode cX0_raiseAll 9 = .ok (.invokevirtual 74, 3) := dq_182 (zby_at (j := 9) zbX0_raiseAll_0 rfl) (zby_at (j := 10) zbX0_raiseAll_0 rfl) (zby_at (j := 11) zbX0_raiseAll_0 rfl)
theorem dX0_raiseAll_12 : decode cX0_raiseAll 12 = .ok (.iinc 3 1, 3) := dq_132 (zby_at (j := 12) zbX0_raiseAll_0 rfl) (zby_at (j := 13) zbX0_raiseAll_0 rfl) (zby_at (j := 14) zbX0_raiseAll_0 rfl) rfl
theorem dX0_raiseAll_15 : decode cX0_raiseAll 15 = .ok (.goto (-13), 3) := dq_167 (zby_at (j := 15) zbX0_raiseAll_0 rfl) (zby_at (j := 16) zbX0_raiseAll_0 rfl) (zby_at (j := 17) zbX0_raiseAll_0 rfl) rfl
theorem zbX0_raiseAll_1 : zby cX0_raiseAll 16 20 = [255, 243, 177] := by decide +kernel
theorem dX0_raiseAll_18 : decode cX0_raiseAll 18 = .ok (.return_, 1) := dq_177 (zby_at (j := 2) zbX0_raiseAll_1 rfl)
theorem zbX0_lowerAll_0 : zby cX0_lowerAll 0 20 = [3, 62, 29, 28, 162, 0, 14, 43, 29, 182, 0, 77, 132, 3, 1, 167, 255, 243, 177] := by decide +kernel
theorem dX0_lowerAll_0 : decode cX0_lowerAll 0 = .ok (.iconst 0, 1) := dq_3 (zby_at (j := 0) zbX0_lowerAll_0 rfl)
theorem dX0_lowerAll_1 : decode cX0_lowerAll 1 = .ok (.istore_n 3, 1) := dq_62 (zby_at (j := 1) zbX0_lowerAll_0 rfl)
theorem dX0_lowerAll_2 : decode cX0_lowerAll 2 = .ok (.iload_n 3, 1) := dq_29 (zby_at (j := 2) zbX0_lowerAll_0 rfl)
theorem dX0_lowerAll_3 : decode cX0_lowerAll 3 = .ok (.iload_n 2, 1) := dq_28 (zby_at (j := 3) zbX0_lowerAll_0 rfl)
theorem dX0_lowerAll_4 : decode cX0_lowerAll 4 = .ok (.if_icmp .ge 14, 3) := dq_162 (zby_at (j := 4) zbX0_lowerAll_0 rfl) (zby_at (j := 5) zbX0_lowerAll_0 rfl) (zby_at (j := 6) zbX0_lowerAll_0 rfl) rfl
theorem dX0_lowerAll_7 : decode cX0_lowerAll 7 = .ok (.aload_n 1, 1) := dq_43 (zby_at (j := 7) zbX0_lowerAll_0 rfl)
theorem dX0_lowerAll_8 : decode cX0_lowerAll 8 = .ok (.iload_n 3, 1) := dq_29 (zby_at (j := 8) zbX0_lowerAll_0 rfl)
theorem dX0_lowerAll_9 : decode cX0_lowerAll 9 = .ok (.invokevirtual 77, 3) := dq_182 (zby_at (j := 9) zbX0_lowerAll_0 rfl) (zby_at (j := 10) zbX0_lowerAll_0 rfl) (zby_at (j := 11) zbX0_lowerAll_0 rfl)
theorem dX0_lowerAll_12 : decode cX0_lowerAll 12 = .ok (.iinc 3 1, 3) := dq_132 (zby_at (j := 12) zbX0_lowerAll_0 rfl) (zby_at (j := 13) zbX0_lowerAll_0 rfl) (zby_at (j := 14) zbX0_lowerAll_0 rfl) rfl
theorem dX0_lowerAll_15 : decode cX0_lowerAll 15 = .ok (.goto (-13), 3) := dq_167 (zby_at (j := 15) zbX0_lowerAll_0 rfl) (zby_at (j := 16) zbX0_lowerAll_0 rfl) (zby_at (j := 17) zbX0_lowerAll_0 rfl) rfl
theorem zbX0_lowerAll_1 : zby cX0_lowerAll 16 20 = [255, 243, 177] := by decide +kernel
theorem dX0_lowerAll_18 : decode cX0_lowerAll 18 = .ok (.return_, 1) := dq_177 (zby_at (j := 2) zbX0_lowerAll_1 rfl)
theorem zbX0_becomeMissing_0 : zby cX0_becomeMissing 0 20 = [42, 43, 28, 182, 0, 64, 3, 62, 29, 28, 162, 0, 14, 43, 29, 182, 0, 80, 132, 3] := by decide +kernel
theorem dX0_becomeMissing_0 : decode cX0_becomeMissing 0 = .ok (.aload_n 0, 1) := dq_42 (zby_at (j := 0) zbX0_becomeMissing_0 rfl)
theorem dX0_becomeMissing_1 : decode cX0_becomeMissing 1 = .ok (.aload_n 1, 1) := dq_43 (zby_at (j := 1) zbX0_becomeMissing_0 rfl)
theorem dX0_becomeMissing_2 : decode cX0_becomeMissing 2 = .ok (.iload_n 2, 1) := dq_28 (zby_at (j := 2) zbX0_becomeMissing_0 rfl)
theorem dX0_becomeMissing_3 : decode cX0_becomeMissing 3 = .ok (.invokevirtual 64, 3) := dq_182 (zby_at (j := 3) zbX0_becomeMissing_0 rfl) (zby_at (j := 4) zbX0_becomeMissing_0 rfl) (zby_at (j := 5) zbX0_becomeMissing_0 rfl)
theorem dX0_becomeMissing_6 : decode cX0_becomeMissing 6 = .ok (.iconst 0, 1) := dq_3 (zby_at (j := 6) zbX0_becomeMissing_0 rfl)
theorem dX0_becomeMissing_7 : decode cX0_becomeMissing 7 = .ok (.istore_n 3, 1) := dq_62 (zby_at (j := 7) zbX0_becomeMissing_0 rfl)
theorem dX0_becomeMissing_8 : decode cX0_becomeMissing 8 = .ok (.iload_n 3, 1) := dq_29 (zby_at (j := 8) zbX0_becomeMissing_0 rfl)
theorem dX0_becomeMissing_9 : decode cX0_becomeMissing 9 = .ok (.iload_n 2, 1) := dq_28 (zby_at (j := 9) zbX0_becomeMissing_0 rfl)
theorem dX0_becomeMissing_10 : decode cX0_becomeMissing 10 = .ok (.if_icmp .ge 14, 3) := dq_162 (zby_at (j := 10) zbX0_becomeMissing_0 rfl) (zby_at (j := 11) zbX0_becomeMissing_0 rfl) (zby_at (j := 12) zbX0_becomeMissing_0 rfl) rfl
theorem dX0_becomeMissing_13 : decode cX0_becomeMissing 13 = .ok (.aload_n 1, 1) := dq_43 (zby_at (j := 13) zbX0_becomeMissing_0 rfl)
theorem dX0_becomeMissing_14 : decode cX0_becomeMissing 14 = .ok (.iload_n 3, 1) := dq_29 (zby_at (j := 14) zbX0_becomeMissing_0 rfl)
theorem dX0_becomeMissing_15 : decode cX0_becomeMissing 15 = .ok (.invokevirtual 80, 3) := dq_182 (zby_at (j := 15) zbX0_becomeMissing_0 rfl) (zby_at (j := 16) zbX0_becomeMissing_0 rfl) (zby_at (j := 17) zbX0_becomeMissing_0 rfl)
theorem zbX0_becomeMissing_1 : zby cX0_becomeMissing 16 20 = [0, 80, 132, 3, 1, 167, 255, 243, 177] := by decide +kernel
theorem dX0_becomeMissing_18 : decode cX0_becomeMissing 18 = .ok (.iinc 3 1, 3) := dq_132 (zby_at (j := 2) zbX0_becomeMissing_1 rfl) (zby_at (j := 3) zbX0_becomeMissing_1 rfl) (zby_at (j := 4) zbX0_becomeMissing_1 rfl) rfl
theorem dX0_becomeMissing_21 : decode cX0_becomeMissing 21 = .ok (.goto (-13), 3) := dq_167 (zby_at (j := 5) zbX0_becomeMissing_1 rfl) (zby_at (j := 6) zbX0_becomeMissing_1 rfl) (zby_at (j := 7) zbX0_becomeMissing_1 rfl) rfl
theorem dX0_becomeMissing_24 : decode cX0_becomeMissing 24 = .ok (.return_, 1) := dq_177 (zby_at (j := 8) zbX0_becomeMissing_1 rfl)
theorem zbX0_keepLeast_0 : zby cX0_keepLeast 0 20 = [42, 180, 0, 12, 182, 0, 83, 3, 62, 29, 28, 162, 0, 44, 42, 180, 0, 18, 43, 182] := by decide +kernel
theorem dX0_keepLeast_0 : decode cX0_keepLeast 0 = .ok (.aload_n 0, 1) := dq_42 (zby_at (j := 0) zbX0_keepLeast_0 rfl)
theorem dX0_keepLeast_1 : decode cX0_keepLeast 1 = .ok (.getfield 12, 3) := dq_180 (zby_at (j := 1) zbX0_keepLeast_0 rfl) (zby_at (j := 2) zbX0_keepLeast_0 rfl) (zby_at (j := 3) zbX0_keepLeast_0 rfl)
theorem dX0_keepLeast_4 : decode cX0_keepLeast 4 = .ok (.invokevirtual 83, 3) := dq_182 (zby_at (j := 4) zbX0_keepLeast_0 rfl) (zby_at (j := 5) zbX0_keepLeast_0 rfl) (zby_at (j := 6) zbX0_keepLeast_0 rfl)
theorem dX0_keepLeast_7 : decode cX0_keepLeast 7 = .ok (.iconst 0, 1) := dq_3 (zby_at (j := 7) zbX0_keepLeast_0 rfl)
theorem dX0_keepLeast_8 : decode cX0_keepLeast 8 = .ok (.istore_n 3, 1) := dq_62 (zby_at (j := 8) zbX0_keepLeast_0 rfl)
theorem dX0_keepLeast_9 : decode cX0_keepLeast 9 = .ok (.iload_n 3, 1) := dq_29 (zby_at (j := 9) zbX0_keepLeast_0 rfl)
theorem dX0_keepLeast_10 : decode cX0_keepLeast 10 = .ok (.iload_n 2, 1) := dq_28 (zby_at (j := 10) zbX0_keepLeast_0 rfl)
theorem dX0_keepLeast_11 : decode cX0_keepLeast 11 = .ok (.if_icmp .ge 44, 3) := dq_162 (zby_at (j := 11) zbX0_keepLeast_0 rfl) (zby_at (j := 12) zbX0_keepLeast_0 rfl) (zby_at (j := 13) zbX0_keepLeast_0 rfl) rfl
theorem dX0_keepLeast_14 : decode cX0_keepLeast 14 = .ok (.aload_n 0, 1) := dq_42 (zby_at (j := 14) zbX0_keepLeast_0 rfl)
theorem dX0_keepLeast_15 : decode cX0_keepLeast 15 = .ok (.getfield 18, 3) := dq_180 (zby_at (j := 15) zbX0_keepLeast_0 rfl) (zby_at (j := 16) zbX0_keepLeast_0 rfl) (zby_at (j := 17) zbX0_keepLeast_0 rfl)
theorem zbX0_keepLeast_1 : zby cX0_keepLeast 16 20 = [0, 18, 43, 182, 0, 48, 42, 180, 0, 18, 29, 182, 0, 86, 42, 180, 0, 18, 29, 182] := by decide +kernel
theorem dX0_keepLeast_18 : decode cX0_keepLeast 18 = .ok (.aload_n 1, 1) := dq_43 (zby_at (j := 2) zbX0_keepLeast_1 rfl)
theorem dX0_keepLeast_19 : decode cX0_keepLeast 19 = .ok (.invokevirtual 48, 3) := dq_182 (zby_at (j := 3) zbX0_keepLeast_1 rfl) (zby_at (j := 4) zbX0_keepLeast_1 rfl) (zby_at (j := 5) zbX0_keepLeast_1 rfl)
theorem dX0_keepLeast_22 : decode cX0_keepLeast 22 = .ok (.aload_n 0, 1) := dq_42 (zby_at (j := 6) zbX0_keepLeast_1 rfl)
theorem dX0_keepLeast_23 : decode cX0_keepLeast 23 = .ok (.getfield 18, 3) := dq_180 (zby_at (j := 7) zbX0_keepLeast_1 rfl) (zby_at (j := 8) zbX0_keepLeast_1 rfl) (zby_at (j := 9) zbX0_keepLeast_1 rfl)
theorem dX0_keepLeast_26 : decode cX0_keepLeast 26 = .ok (.iload_n 3, 1) := dq_29 (zby_at (j := 10) zbX0_keepLeast_1 rfl)
theorem dX0_keepLeast_27 : decode cX0_keepLeast 27 = .ok (.invokevirtual 86, 3) := dq_182 (zby_at (j := 11) zbX0_keepLeast_1 rfl) (zby_at (j := 12) zbX0_keepLeast_1 rfl) (zby_at (j := 13) zbX0_keepLeast_1 rfl)
theorem dX0_keepLeast_30 : decode cX0_keepLeast 30 = .ok (.aload_n 0, 1) := dq_42 (zby_at (j := 14) zbX0_keepLeast_1 rfl)
theorem dX0_keepLeast_31 : decode cX0_keepLeast 31 = .ok (.getfield 18, 3) := dq_180 (zby_at (j := 15) zbX0_keepLeast_1 rfl) (zby_at (j := 16) zbX0_keepLeast_1 rfl) (zby_at (j := 17) zbX0_keepLeast_1 rfl)
theorem zbX0_keepLeast_2 : zby cX0_keepLeast 32 20 = [0, 18, 29, 182, 0, 80, 42, 180, 0, 12, 42, 180, 0, 18, 182, 0, 31, 132, 3, 1] := by decide +kernel
theorem dX0_keepLeast_34 : decode cX0_keepLeast 34 = .ok (.iload_n 3, 1) := dq_29 (zby_at (j := 2) zbX0_keepLeast_2 rfl)
theorem dX0_keepLeast_35 : decode cX0_keepLeast 35 = .ok (.invokevirtual 80, 3) := dq_182 (zby_at (j := 3) zbX0_keepLeast_2 rfl) (zby_at (j := 4) zbX0_keepLeast_2 rfl) (zby_at (j := 5) zbX0_keepLeast_2 rfl)
theorem dX0_keepLeast_38 : decode cX0_keepLeast 38 = .ok (.aload_n 0, 1) := dq_42 (zby_at (j := 6) zbX0_keepLeast_2 rfl)
theorem dX0_keepLeast_39 : decode cX0_keepLeast 39 = .ok (.getfield 12, 3) := dq_180 (zby_at (j := 7) zbX0_keepLeast_2 rfl) (zby_at (j := 8) zbX0_keepLeast_2 rfl) (zby_at (j := 9) zbX0_keepLeast_2 rfl)
theorem dX0_keepLeast_42 : decode cX0_keepLeast 42 = .ok (.aload_n 0, 1) := dq_42 (zby_at (j := 10) zbX0_keepLeast_2 rfl)
theorem dX0_keepLeast_43 : decode cX0_keepLeast 43 = .ok (.getfield 18, 3) := dq_180 (zby_at (j := 11) zbX0_keepLeast_2 rfl) (zby_at (j := 12) zbX0_keepLeast_2 rfl) (zby_at (j := 13) zbX0_keepLeast_2 rfl)
theorem dX0_keepLeast_46 : decode cX0_keepLeast 46 = .ok (.invokevirtual 31, 3) := dq_182 (zby_at (j := 14) zbX0_keepLeast_2 rfl) (zby_at (j := 15) zbX0_keepLeast_2 rfl) (zby_at (j := 16) zbX0_keepLeast_2 rfl)
theorem zbX0_keepLeast_3 : zby cX0_keepLeast 48 20 = [31, 132, 3, 1, 167, 255, 213, 42, 42, 180, 0, 12, 28, 182, 0, 64, 43, 42, 180, 0] := by decide +kernel
theorem dX0_keepLeast_49 : decode cX0_keepLeast 49 = .ok (.iinc 3 1, 3) := dq_132 (zby_at (j := 1) zbX0_keepLeast_3 rfl) (zby_at (j := 2) zbX0_keepLeast_3 rfl) (zby_at (j := 3) zbX0_keepLeast_3 rfl) rfl
theorem dX0_keepLeast_52 : decode cX0_keepLeast 52 = .ok (.goto (-43), 3) := dq_167 (zby_at (j := 4) zbX0_keepLeast_3 rfl) (zby_at (j := 5) zbX0_keepLeast_3 rfl) (zby_at (j := 6) zbX0_keepLeast_3 rfl) rfl
theorem dX0_keepLeast_55 : decode cX0_keepLeast 55 = .ok (.aload_n 0, 1) := dq_42 (zby_at (j := 7) zbX0_keepLeast_3 rfl)
theorem dX0_keepLeast_56 : decode cX0_keepLeast 56 = .ok (.aload_n 0, 1) := dq_42 (zby_at (j := 8) zbX0_keepLeast_3 rfl)
theorem dX0_keepLeast_57 : decode cX0_keepLeast 57 = .ok (.getfield 12, 3) := dq_180 (zby_at (j := 9) zbX0_keepLeast_3 rfl) (zby_at (j := 10) zbX0_keepLeast_3 rfl) (zby_at (j := 11) zbX0_keepLeast_3 rfl)
theorem dX0_keepLeast_60 : decode cX0_keepLeast 60 = .ok (.iload_n 2, 1) := dq_28 (zby_at (j := 12) zbX0_keepLeast_3 rfl)
theorem dX0_keepLeast_61 : decode cX0_keepLeast 61 = .ok (.invokevirtual 64, 3) := dq_182 (zby_at (j := 13) zbX0_keepLeast_3 rfl) (zby_at (j := 14) zbX0_keepLeast_3 rfl) (zby_at (j := 15) zbX0_keepLeast_3 rfl)
theorem zbX0_keepLeast_4 : zby cX0_keepLeast 64 20 = [43, 42, 180, 0, 12, 182, 0, 35, 177] := by decide +kernel
theorem dX0_keepLeast_64 : decode cX0_keepLeast 64 = .ok (.aload_n 1, 1) := dq_43 (zby_at (j := 0) zbX0_keepLeast_4 rfl)
theorem dX0_keepLeast_65 : decode cX0_keepLeast 65 = .ok (.aload_n 0, 1) := dq_42 (zby_at (j := 1) zbX0_keepLeast_4 rfl)
theorem dX0_keepLeast_66 : decode cX0_keepLeast 66 = .ok (.getfield 12, 3) := dq_180 (zby_at (j := 2) zbX0_keepLeast_4 rfl) (zby_at (j := 3) zbX0_keepLeast_4 rfl) (zby_at (j := 4) zbX0_keepLeast_4 rfl)
theorem dX0_keepLeast_69 : decode cX0_keepLeast 69 = .ok (.invokevirtual 35, 3) := dq_182 (zby_at (j := 5) zbX0_keepLeast_4 rfl) (zby_at (j := 6) zbX0_keepLeast_4 rfl) (zby_at (j := 7) zbX0_keepLeast_4 rfl)
theorem dX0_keepLeast_72 : decode cX0_keepLeast 72 = .ok (.return_, 1) := dq_177 (zby_at (j := 8) zbX0_keepLeast_4 rfl)
theorem zbX0_keepGreatest_0 : zby cX0_keepGreatest 0 20 = [42, 180, 0, 12, 182, 0, 83, 3, 62, 29, 28, 162, 0, 44, 42, 180, 0, 18, 43, 182] := by decide +kernel
theorem dX0_keepGreatest_0 : decode cX0_keepGreatest 0 = .ok (.aload_n 0, 1) := dq_42 (zby_at (j := 0) zbX0_keepGreatest_0 rfl)
theorem dX0_keepGreatest_1 : decode cX0_keepGreatest 1 = .ok (.getfield 12, 3) := dq_180 (zby_at (j := 1) zbX0_keepGreatest_0 rfl) (zby_at (j := 2) zbX0_keepGreatest_0 rfl) (zby_at (j := 3) zbX0_keepGreatest_0 rfl)
theorem dX0_keepGreatest_4 : decode cX0_keepGreatest 4 = .ok (.invokevirtual 83, 3) := dq_182 (zby_at (j := 4) zbX0_keepGreatest_0 rfl) (zby_at (j := 5) zbX0_keepGreatest_0 rfl) (zby_at (j := 6) zbX0_keepGreatest_0 rfl)
theorem dX0_keepGreatest_7 : decode cX0_keepGreatest 7 = .ok (.iconst 0, 1) := dq_3 (zby_at (j := 7) zbX0_keepGreatest_0 rfl)
theorem dX0_keepGreatest_8 : decode cX0_keepGreatest 8 = .ok (.istore_n 3, 1) := dq_62 (zby_at (j := 8) zbX0_keepGreatest_0 rfl)
theorem dX0_keepGreatest_9 : decode cX0_keepGreatest 9 = .ok (.iload_n 3, 1) := dq_29 (zby_at (j := 9) zbX0_keepGreatest_0 rfl)
theorem dX0_keepGreatest_10 : decode cX0_keepGreatest 10 = .ok (.iload_n 2, 1) := dq_28 (zby_at (j := 10) zbX0_keepGreatest_0 rfl)
theorem dX0_keepGreatest_11 : decode cX0_keepGreatest 11 = .ok (.if_icmp .ge 44, 3) := dq_162 (zby_at (j := 11) zbX0_keepGreatest_0 rfl) (zby_at (j := 12) zbX0_keepGreatest_0 rfl) (zby_at (j := 13) zbX0_keepGreatest_0 rfl) rfl
theorem dX0_keepGreatest_14 : decode cX0_keepGreatest 14 = .ok (.aload_n 0, 1) := dq_42 (zby_at (j := 14) zbX0_keepGreatest_0 rfl)
theorem dX0_keepGreatest_15 : decode cX0_keepGreatest 15 = .ok (.getfield 18, 3) := dq_180 (zby_at (j := 15) zbX0_keepGreatest_0 rfl) (zby_at (j := 16) zbX0_keepGreatest_0 rfl) (zby_at (j := 17) zbX0_keepGreatest_0 rfl)
theorem zbX0_keepGreatest_1 : zby cX0_keepGreatest 16 20 = [0, 18, 43, 182, 0, 48, 42, 180, 0, 18, 29, 182, 0, 80, 42, 180, 0, 18, 29, 182] := by decide +kernel
theorem dX0_keepGreatest_18 : decode cX0_keepGreatest 18 = .ok (.aload_n 1, 1) := dq_43 (zby_at (j := 2) zbX0_keepGreatest_1 rfl)
theorem dX0_keepGreatest_19 : decode cX0_keepGreatest 19 = .ok (.invokevirtual 48, 3) := dq_182 (zby_at (j := 3) zbX0_keepGreatest_1 rfl) (zby_at (j := 4) zbX0_keepGreatest_1 rfl) (zby_at (j := 5) zbX0_keepGreatest_1 rfl)
theorem dX0_keepGreatest_22 : decode cX0_keepGreatest 22 = .ok (.aload_n 0, 1) := dq_42 (zby_at (j := 6) zbX0_keepGreatest_1 rfl)
theorem dX0_keepGreatest_23 : decode cX0_keepGreatest 23 = .ok (.getfield 18, 3) := dq_180 (zby_at (j := 7) zbX0_keepGreatest_1 rfl) (zby_at (j := 8) zbX0_keepGreatest_1 rfl) (zby_at (j := 9) zbX0_keepGreatest_1 rfl)
theorem dX0_keepGreatest_26 : decode cX0_keepGreatest 26 = .ok (.iload_n 3, 1) := dq_29 (zby_at (j := 10) zbX0_keepGreatest_1 rfl)
theorem dX0_keepGreatest_27 : decode cX0_keepGreatest 27 = .ok (.invokevirtual 80, 3) := dq_182 (zby_at (j := 11) zbX0_keepGreatest_1 rfl) (zby_at (j := 12) zbX0_keepGreatest_1 rfl) (zby_at (j := 13) zbX0_keepGreatest_1 rfl)
theorem dX0_keepGreatest_30 : decode cX0_keepGreatest 30 = .ok (.aload_n 0, 1) := dq_42 (zby_at (j := 14) zbX0_keepGreatest_1 rfl)
theorem dX0_keepGreatest_31 : decode cX0_keepGreatest 31 = .ok (.getfield 18, 3) := dq_180 (zby_at (j := 15) zbX0_keepGreatest_1 rfl) (zby_at (j := 16) zbX0_keepGreatest_1 rfl) (zby_at (j := 17) zbX0_keepGreatest_1 rfl)
theorem zbX0_keepGreatest_2 : zby cX0_keepGreatest 32 20 = [0, 18, 29, 182, 0, 86, 42, 180, 0, 12, 42, 180, 0, 18, 182, 0, 31, 132, 3, 1] := by decide +kernel
theorem dX0_keepGreatest_34 : decode cX0_keepGreatest 34 = .ok (.iload_n 3, 1) := dq_29 (zby_at (j := 2) zbX0_keepGreatest_2 rfl)
theorem dX0_keepGreatest_35 : decode cX0_keepGreatest 35 = .ok (.invokevirtual 86, 3) := dq_182 (zby_at (j := 3) zbX0_keepGreatest_2 rfl) (zby_at (j := 4) zbX0_keepGreatest_2 rfl) (zby_at (j := 5) zbX0_keepGreatest_2 rfl)
theorem dX0_keepGreatest_38 : decode cX0_keepGreatest 38 = .ok (.aload_n 0, 1) := dq_42 (zby_at (j := 6) zbX0_keepGreatest_2 rfl)
theorem dX0_keepGreatest_39 : decode cX0_keepGreatest 39 = .ok (.getfield 12, 3) := dq_180 (zby_at (j := 7) zbX0_keepGreatest_2 rfl) (zby_at (j := 8) zbX0_keepGreatest_2 rfl) (zby_at (j := 9) zbX0_keepGreatest_2 rfl)
theorem dX0_keepGreatest_42 : decode cX0_keepGreatest 42 = .ok (.aload_n 0, 1) := dq_42 (zby_at (j := 10) zbX0_keepGreatest_2 rfl)
theorem dX0_keepGreatest_43 : decode cX0_keepGreatest 43 = .ok (.getfield 18, 3) := dq_180 (zby_at (j := 11) zbX0_keepGreatest_2 rfl) (zby_at (j := 12) zbX0_keepGreatest_2 rfl) (zby_at (j := 13) zbX0_keepGreatest_2 rfl)
theorem dX0_keepGreatest_46 : decode cX0_keepGreatest 46 = .ok (.invokevirtual 31, 3) := dq_182 (zby_at (j := 14) zbX0_keepGreatest_2 rfl) (zby_at (j := 15) zbX0_keepGreatest_2 rfl) (zby_at (j := 16) zbX0_keepGreatest_2 rfl)
theorem zbX0_keepGreatest_3 : zby cX0_keepGreatest 48 20 = [31, 132, 3, 1, 167, 255, 213, 42, 42, 180, 0, 12, 28, 182, 0, 67, 43, 42, 180, 0] := by decide +kernel
theorem dX0_keepGreatest_49 : decode cX0_keepGreatest 49 = .ok (.iinc 3 1, 3) := dq_132 (zby_at (j := 1) zbX0_keepGreatest_3 rfl) (zby_at (j := 2) zbX0_keepGreatest_3 rfl) (zby_at (j := 3) zbX0_keepGreatest_3 rfl) rfl
theorem dX0_keepGreatest_52 : decode cX0_keepGreatest 52 = .ok (.goto (-43), 3) := dq_167 (zby_at (j := 4) zbX0_keepGreatest_3 rfl) (zby_at (j := 5) zbX0_keepGreatest_3 rfl) (zby_at (j := 6) zbX0_keepGreatest_3 rfl) rfl
theorem dX0_keepGreatest_55 : decode cX0_keepGreatest 55 = .ok (.aload_n 0, 1) := dq_42 (zby_at (j := 7) zbX0_keepGreatest_3 rfl)
theorem dX0_keepGreatest_56 : decode cX0_keepGreatest 56 = .ok (.aload_n 0, 1) := dq_42 (zby_at (j := 8) zbX0_keepGreatest_3 rfl)
theorem dX0_keepGreatest_57 : decode cX0_keepGreatest 57 = .ok (.getfield 12, 3) := dq_180 (zby_at (j := 9) zbX0_keepGreatest_3 rfl) (zby_at (j := 10) zbX0_keepGreatest_3 rfl) (zby_at (j := 11) zbX0_keepGreatest_3 rfl)
theorem dX0_keepGreatest_60 : decode cX0_keepGreatest 60 = .ok (.iload_n 2, 1) := dq_28 (zby_at (j := 12) zbX0_keepGreatest_3 rfl)
theorem dX0_keepGreatest_61 : decode cX0_keepGreatest 61 = .ok (.invokevirtual 67, 3) := dq_182 (zby_at (j := 13) zbX0_keepGreatest_3 rfl) (zby_at (j := 14) zbX0_keepGreatest_3 rfl) (zby_at (j := 15) zbX0_keepGreatest_3 rfl)
theorem zbX0_keepGreatest_4 : zby cX0_keepGreatest 64 20 = [43, 42, 180, 0, 12, 182, 0, 35, 177] := by decide +kernel
theorem dX0_keepGreatest_64 : decode cX0_keepGreatest 64 = .ok (.aload_n 1, 1) := dq_43 (zby_at (j := 0) zbX0_keepGreatest_4 rfl)
theorem dX0_keepGreatest_65 : decode cX0_keepGreatest 65 = .ok (.aload_n 0, 1) := dq_42 (zby_at (j := 1) zbX0_keepGreatest_4 rfl)
theorem dX0_keepGreatest_66 : decode cX0_keepGreatest 66 = .ok (.getfield 12, 3) := dq_180 (zby_at (j := 2) zbX0_keepGreatest_4 rfl) (zby_at (j := 3) zbX0_keepGreatest_4 rfl) (zby_at (j := 4) zbX0_keepGreatest_4 rfl)
theorem dX0_keepGreatest_69 : decode cX0_keepGreatest 69 = .ok (.invokevirtual 35, 3) := dq_182 (zby_at (j := 5) zbX0_keepGreatest_4 rfl) (zby_at (j := 6) zbX0_keepGreatest_4 rfl) (zby_at (j := 7) zbX0_keepGreatest_4 rfl)
theorem dX0_keepGreatest_72 : decode cX0_keepGreatest 72 = .ok (.return_, 1) := dq_177 (zby_at (j := 8) zbX0_keepGreatest_4 rfl)
theorem zbX0_multiply_0 : zby cX0_multiply 0 20 = [42, 43, 42, 180, 0, 24, 29, 182, 0, 89, 42, 44, 42, 180, 0, 28, 29, 182, 0, 89] := by decide +kernel
theorem dX0_multiply_0 : decode cX0_multiply 0 = .ok (.aload_n 0, 1) := dq_42 (zby_at (j := 0) zbX0_multiply_0 rfl)
theorem dX0_multiply_1 : decode cX0_multiply 1 = .ok (.aload_n 1, 1) := dq_43 (zby_at (j := 1) zbX0_multiply_0 rfl)
theorem dX0_multiply_2 : decode cX0_multiply 2 = .ok (.aload_n 0, 1) := dq_42 (zby_at (j := 2) zbX0_multiply_0 rfl)
theorem dX0_multiply_3 : decode cX0_multiply 3 = .ok (.getfield 24, 3) := dq_180 (zby_at (j := 3) zbX0_multiply_0 rfl) (zby_at (j := 4) zbX0_multiply_0 rfl) (zby_at (j := 5) zbX0_multiply_0 rfl)
theorem dX0_multiply_6 : decode cX0_multiply 6 = .ok (.iload_n 3, 1) := dq_29 (zby_at (j := 6) zbX0_multiply_0 rfl)
theorem dX0_multiply_7 : decode cX0_multiply 7 = .ok (.invokevirtual 89, 3) := dq_182 (zby_at (j := 7) zbX0_multiply_0 rfl) (zby_at (j := 8) zbX0_multiply_0 rfl) (zby_at (j := 9) zbX0_multiply_0 rfl)
theorem dX0_multiply_10 : decode cX0_multiply 10 = .ok (.aload_n 0, 1) := dq_42 (zby_at (j := 10) zbX0_multiply_0 rfl)
theorem dX0_multiply_11 : decode cX0_multiply 11 = .ok (.aload_n 2, 1) := dq_44 (zby_at (j := 11) zbX0_multiply_0 rfl)
theorem dX0_multiply_12 : decode cX0_multiply 12 = .ok (.aload_n 0, 1) := dq_42 (zby_at (j := 12) zbX0_multiply_0 rfl)
theorem dX0_multiply_13 : decode cX0_multiply 13 = .ok (.getfield 28, 3) := dq_180 (zby_at (j := 13) zbX0_multiply_0 rfl) (zby_at (j := 14) zbX0_multiply_0 rfl) (zby_at (j := 15) zbX0_multiply_0 rfl)
theorem zbX0_multiply_1 : zby cX0_multiply 16 20 = [29, 182, 0, 89, 29, 184, 0, 93, 54, 4, 3, 54, 5, 21, 5, 21, 4, 162, 0, 26] := by decide +kernel
theorem dX0_multiply_16 : decode cX0_multiply 16 = .ok (.iload_n 3, 1) := dq_29 (zby_at (j := 0) zbX0_multiply_1 rfl)
theorem dX0_multiply_17 : decode cX0_multiply 17 = .ok (.invokevirtual 89, 3) := dq_182 (zby_at (j := 1) zbX0_multiply_1 rfl) (zby_at (j := 2) zbX0_multiply_1 rfl) (zby_at (j := 3) zbX0_multiply_1 rfl)
theorem dX0_multiply_20 : decode cX0_multiply 20 = .ok (.iload_n 3, 1) := dq_29 (zby_at (j := 4) zbX0_multiply_1 rfl)
theorem dX0_multiply_21 : decode cX0_multiply 21 = .ok (.invokestatic 93, 3) := dq_184 (zby_at (j := 5) zbX0_multiply_1 rfl) (zby_at (j := 6) zbX0_multiply_1 rfl) (zby_at (j := 7) zbX0_multiply_1 rfl)
theorem dX0_multiply_24 : decode cX0_multiply 24 = .ok (.istore 4, 2) := dq_54 (zby_at (j := 8) zbX0_multiply_1 rfl) (zby_at (j := 9) zbX0_multiply_1 rfl)
theorem dX0_multiply_26 : decode cX0_multiply 26 = .ok (.iconst 0, 1) := dq_3 (zby_at (j := 10) zbX0_multiply_1 rfl)
theorem dX0_multiply_27 : decode cX0_multiply 27 = .ok (.istore 5, 2) := dq_54 (zby_at (j := 11) zbX0_multiply_1 rfl) (zby_at (j := 12) zbX0_multiply_1 rfl)
theorem dX0_multiply_29 : decode cX0_multiply 29 = .ok (.iload 5, 2) := dq_21 (zby_at (j := 13) zbX0_multiply_1 rfl) (zby_at (j := 14) zbX0_multiply_1 rfl)
theorem dX0_multiply_31 : decode cX0_multiply 31 = .ok (.iload 4, 2) := dq_21 (zby_at (j := 15) zbX0_multiply_1 rfl) (zby_at (j := 16) zbX0_multiply_1 rfl)
theorem zbX0_multiply_2 : zby cX0_multiply 32 20 = [4, 162, 0, 26, 42, 180, 0, 24, 21, 5, 92, 46, 42, 180, 0, 28, 21, 5, 46, 104] := by decide +kernel
theorem dX0_multiply_33 : decode cX0_multiply 33 = .ok (.if_icmp .ge 26, 3) := dq_162 (zby_at (j := 1) zbX0_multiply_2 rfl) (zby_at (j := 2) zbX0_multiply_2 rfl) (zby_at (j := 3) zbX0_multiply_2 rfl) rfl
theorem dX0_multiply_36 : decode cX0_multiply 36 = .ok (.aload_n 0, 1) := dq_42 (zby_at (j := 4) zbX0_multiply_2 rfl)
theorem dX0_multiply_37 : decode cX0_multiply 37 = .ok (.getfield 24, 3) := dq_180 (zby_at (j := 5) zbX0_multiply_2 rfl) (zby_at (j := 6) zbX0_multiply_2 rfl) (zby_at (j := 7) zbX0_multiply_2 rfl)
theorem dX0_multiply_40 : decode cX0_multiply 40 = .ok (.iload 5, 2) := dq_21 (zby_at (j := 8) zbX0_multiply_2 rfl) (zby_at (j := 9) zbX0_multiply_2 rfl)
theorem dX0_multiply_42 : decode cX0_multiply 42 = .ok (.dup2, 1) := dq_92 (zby_at (j := 10) zbX0_multiply_2 rfl)
theorem dX0_multiply_43 : decode cX0_multiply 43 = .ok (.iaload, 1) := dq_46 (zby_at (j := 11) zbX0_multiply_2 rfl)
theorem dX0_multiply_44 : decode cX0_multiply 44 = .ok (.aload_n 0, 1) := dq_42 (zby_at (j := 12) zbX0_multiply_2 rfl)
theorem dX0_multiply_45 : decode cX0_multiply 45 = .ok (.getfield 28, 3) := dq_180 (zby_at (j := 13) zbX0_multiply_2 rfl) (zby_at (j := 14) zbX0_multiply_2 rfl) (zby_at (j := 15) zbX0_multiply_2 rfl)
theorem zbX0_multiply_3 : zby cX0_multiply 48 20 = [21, 5, 46, 104, 79, 132, 5, 1, 167, 255, 229, 4, 54, 5, 21, 5, 21, 4, 162, 0] := by decide +kernel
theorem dX0_multiply_48 : decode cX0_multiply 48 = .ok (.iload 5, 2) := dq_21 (zby_at (j := 0) zbX0_multiply_3 rfl) (zby_at (j := 1) zbX0_multiply_3 rfl)
theorem dX0_multiply_50 : decode cX0_multiply 50 = .ok (.iaload, 1) := dq_46 (zby_at (j := 2) zbX0_multiply_3 rfl)
theorem dX0_multiply_51 : decode cX0_multiply 51 = .ok (.imul, 1) := dq_104 (zby_at (j := 3) zbX0_multiply_3 rfl)
theorem dX0_multiply_52 : decode cX0_multiply 52 = .ok (.iastore, 1) := dq_79 (zby_at (j := 4) zbX0_multiply_3 rfl)
theorem dX0_multiply_53 : decode cX0_multiply 53 = .ok (.iinc 5 1, 3) := dq_132 (zby_at (j := 5) zbX0_multiply_3 rfl) (zby_at (j := 6) zbX0_multiply_3 rfl) (zby_at (j := 7) zbX0_multiply_3 rfl) rfl
theorem dX0_multiply_56 : decode cX0_multiply 56 = .ok (.goto (-27), 3) := dq_167 (zby_at (j := 8) zbX0_multiply_3 rfl) (zby_at (j := 9) zbX0_multiply_3 rfl) (zby_at (j := 10) zbX0_multiply_3 rfl) rfl
theorem dX0_multiply_59 : decode cX0_multiply 59 = .ok (.iconst 1, 1) := dq_4 (zby_at (j := 11) zbX0_multiply_3 rfl)
theorem dX0_multiply_60 : decode cX0_multiply 60 = .ok (.istore 5, 2) := dq_54 (zby_at (j := 12) zbX0_multiply_3 rfl) (zby_at (j := 13) zbX0_multiply_3 rfl)
theorem dX0_multiply_62 : decode cX0_multiply 62 = .ok (.iload 5, 2) := dq_21 (zby_at (j := 14) zbX0_multiply_3 rfl) (zby_at (j := 15) zbX0_multiply_3 rfl)
theorem zbX0_multiply_4 : zby cX0_multiply 64 20 = [21, 4, 162, 0, 57, 21, 5, 54, 6, 21, 6, 21, 4, 162, 0, 37, 21, 6, 21, 5] := by decide +kernel
theorem dX0_multiply_64 : decode cX0_multiply 64 = .ok (.iload 4, 2) := dq_21 (zby_at (j := 0) zbX0_multiply_4 rfl) (zby_at (j := 1) zbX0_multiply_4 rfl)
theorem dX0_multiply_66 : decode cX0_multiply 66 = .ok (.if_icmp .ge 57, 3) := dq_162 (zby_at (j := 2) zbX0_multiply_4 rfl) (zby_at (j := 3) zbX0_multiply_4 rfl) (zby_at (j := 4) zbX0_multiply_4 rfl) rfl
theorem dX0_multiply_69 : decode cX0_multiply 69 = .ok (.iload 5, 2) := dq_21 (zby_at (j := 5) zbX0_multiply_4 rfl) (zby_at (j := 6) zbX0_multiply_4 rfl)
theorem dX0_multiply_71 : decode cX0_multiply 71 = .ok (.istore 6, 2) := dq_54 (zby_at (j := 7) zbX0_multiply_4 rfl) (zby_at (j := 8) zbX0_multiply_4 rfl)
theorem dX0_multiply_73 : decode cX0_multiply 73 = .ok (.iload 6, 2) := dq_21 (zby_at (j := 9) zbX0_multiply_4 rfl) (zby_at (j := 10) zbX0_multiply_4 rfl)
theorem dX0_multiply_75 : decode cX0_multiply 75 = .ok (.iload 4, 2) := dq_21 (zby_at (j := 11) zbX0_multiply_4 rfl) (zby_at (j := 12) zbX0_multiply_4 rfl)
theorem dX0_multiply_77 : decode cX0_multiply 77 = .ok (.if_icmp .ge 37, 3) := dq_162 (zby_at (j := 13) zbX0_multiply_4 rfl) (zby_at (j := 14) zbX0_multiply_4 rfl) (zby_at (j := 15) zbX0_multiply_4 rfl) rfl
theorem zbX0_multiply_5 : zby cX0_multiply 80 20 = [21, 6, 21, 5, 126, 153, 0, 23, 42, 180, 0, 24, 21, 6, 92, 46, 42, 180, 0, 24] := by decide +kernel
theorem dX0_multiply_80 : decode cX0_multiply 80 = .ok (.iload 6, 2) := dq_21 (zby_at (j := 0) zbX0_multiply_5 rfl) (zby_at (j := 1) zbX0_multiply_5 rfl)
theorem dX0_multiply_82 : decode cX0_multiply 82 = .ok (.iload 5, 2) := dq_21 (zby_at (j := 2) zbX0_multiply_5 rfl) (zby_at (j := 3) zbX0_multiply_5 rfl)
theorem dX0_multiply_84 : decode cX0_multiply 84 = .ok (.iand, 1) := dq_126 (zby_at (j := 4) zbX0_multiply_5 rfl)
theorem dX0_multiply_85 : decode cX0_multiply 85 = .ok (.ifCond .eq 23, 3) := dq_153 (zby_at (j := 5) zbX0_multiply_5 rfl) (zby_at (j := 6) zbX0_multiply_5 rfl) (zby_at (j := 7) zbX0_multiply_5 rfl) rfl
theorem dX0_multiply_88 : decode cX0_multiply 88 = .ok (.aload_n 0, 1) := dq_42 (zby_at (j := 8) zbX0_multiply_5 rfl)
theorem dX0_multiply_89 : decode cX0_multiply 89 = .ok (.getfield 24, 3) := dq_180 (zby_at (j := 9) zbX0_multiply_5 rfl) (zby_at (j := 10) zbX0_multiply_5 rfl) (zby_at (j := 11) zbX0_multiply_5 rfl)
theorem dX0_multiply_92 : decode cX0_multiply 92 = .ok (.iload 6, 2) := dq_21 (zby_at (j := 12) zbX0_multiply_5 rfl) (zby_at (j := 13) zbX0_multiply_5 rfl)
theorem dX0_multiply_94 : decode cX0_multiply 94 = .ok (.dup2, 1) := dq_92 (zby_at (j := 14) zbX0_multiply_5 rfl)
theorem dX0_multiply_95 : decode cX0_multiply 95 = .ok (.iaload, 1) := dq_46 (zby_at (j := 15) zbX0_multiply_5 rfl)
theorem zbX0_multiply_6 : zby cX0_multiply 96 20 = [42, 180, 0, 24, 21, 6, 21, 5, 100, 46, 100, 79, 132, 6, 1, 167, 255, 218, 21, 5] := by decide +kernel
theorem dX0_multiply_96 : decode cX0_multiply 96 = .ok (.aload_n 0, 1) := dq_42 (zby_at (j := 0) zbX0_multiply_6 rfl)
theorem dX0_multiply_97 : decode cX0_multiply 97 = .ok (.getfield 24, 3) := dq_180 (zby_at (j := 1) zbX0_multiply_6 rfl) (zby_at (j := 2) zbX0_multiply_6 rfl) (zby_at (j := 3) zbX0_multiply_6 rfl)
theorem dX0_multiply_100 : decode cX0_multiply 100 = .ok (.iload 6, 2) := dq_21 (zby_at (j := 4) zbX0_multiply_6 rfl) (zby_at (j := 5) zbX0_multiply_6 rfl)
theorem dX0_multiply_102 : decode cX0_multiply 102 = .ok (.iload 5, 2) := dq_21 (zby_at (j := 6) zbX0_multiply_6 rfl) (zby_at (j := 7) zbX0_multiply_6 rfl)
theorem dX0_multiply_104 : decode cX0_multiply 104 = .ok (.isub, 1) := dq_100 (zby_at (j := 8) zbX0_multiply_6 rfl)
theorem dX0_multiply_105 : decode cX0_multiply 105 = .ok (.iaload, 1) := dq_46 (zby_at (j := 9) zbX0_multiply_6 rfl)
theorem dX0_multiply_106 : decode cX0_multiply 106 = .ok (.isub, 1) := dq_100 (zby_at (j := 10) zbX0_multiply_6 rfl)
theorem dX0_multiply_107 : decode cX0_multiply 107 = .ok (.iastore, 1) := dq_79 (zby_at (j := 11) zbX0_multiply_6 rfl)
theorem dX0_multiply_108 : decode cX0_multiply 108 = .ok (.iinc 6 1, 3) := dq_132 (zby_at (j := 12) zbX0_multiply_6 rfl) (zby_at (j := 13) zbX0_multiply_6 rfl) (zby_at (j := 14) zbX0_multiply_6 rfl) rfl
theorem dX0_multiply_111 : decode cX0_multiply 111 = .ok (.goto (-38), 3) := dq_167 (zby_at (j := 15) zbX0_multiply_6 rfl) (zby_at (j := 16) zbX0_multiply_6 rfl) (zby_at (j := 17) zbX0_multiply_6 rfl) rfl
theorem zbX0_multiply_7 : zby cX0_multiply 112 20 = [255, 218, 21, 5, 4, 120, 54, 5, 167, 255, 198, 43, 182, 0, 83, 3, 54, 5, 21, 5] := by decide +kernel
theorem dX0_multiply_114 : decode cX0_multiply 114 = .ok (.iload 5, 2) := dq_21 (zby_at (j := 2) zbX0_multiply_7 rfl) (zby_at (j := 3) zbX0_multiply_7 rfl)
theorem dX0_multiply_116 : decode cX0_multiply 116 = .ok (.iconst 1, 1) := dq_4 (zby_at (j := 4) zbX0_multiply_7 rfl)
theorem dX0_multiply_117 : decode cX0_multiply 117 = .ok (.ishl, 1) := dq_120 (zby_at (j := 5) zbX0_multiply_7 rfl)
theorem dX0_multiply_118 : decode cX0_multiply 118 = .ok (.istore 5, 2) := dq_54 (zby_at (j := 6) zbX0_multiply_7 rfl) (zby_at (j := 7) zbX0_multiply_7 rfl)
theorem dX0_multiply_120 : decode cX0_multiply 120 = .ok (.goto (-58), 3) := dq_167 (zby_at (j := 8) zbX0_multiply_7 rfl) (zby_at (j := 9) zbX0_multiply_7 rfl) (zby_at (j := 10) zbX0_multiply_7 rfl) rfl
theorem dX0_multiply_123 : decode cX0_multiply 123 = .ok (.aload_n 1, 1) := dq_43 (zby_at (j := 11) zbX0_multiply_7 rfl)
theorem dX0_multiply_124 : decode cX0_multiply 124 = .ok (.invokevirtual 83, 3) := dq_182 (zby_at (j := 12) zbX0_multiply_7 rfl) (zby_at (j := 13) zbX0_multiply_7 rfl) (zby_at (j := 14) zbX0_multiply_7 rfl)
theorem dX0_multiply_127 : decode cX0_multiply 127 = .ok (.iconst 0, 1) := dq_3 (zby_at (j := 15) zbX0_multiply_7 rfl)
theorem zbX0_multiply_8 : zby cX0_multiply 128 20 = [54, 5, 21, 5, 21, 4, 162, 0, 25, 42, 180, 0, 24, 21, 5, 46, 153, 0, 9, 43] := by decide +kernel
theorem dX0_multiply_128 : decode cX0_multiply 128 = .ok (.istore 5, 2) := dq_54 (zby_at (j := 0) zbX0_multiply_8 rfl) (zby_at (j := 1) zbX0_multiply_8 rfl)
theorem dX0_multiply_130 : decode cX0_multiply 130 = .ok (.iload 5, 2) := dq_21 (zby_at (j := 2) zbX0_multiply_8 rfl) (zby_at (j := 3) zbX0_multiply_8 rfl)
theorem dX0_multiply_132 : decode cX0_multiply 132 = .ok (.iload 4, 2) := dq_21 (zby_at (j := 4) zbX0_multiply_8 rfl) (zby_at (j := 5) zbX0_multiply_8 rfl)
theorem dX0_multiply_134 : decode cX0_multiply 134 = .ok (.if_icmp .ge 25, 3) := dq_162 (zby_at (j := 6) zbX0_multiply_8 rfl) (zby_at (j := 7) zbX0_multiply_8 rfl) (zby_at (j := 8) zbX0_multiply_8 rfl) rfl
theorem dX0_multiply_137 : decode cX0_multiply 137 = .ok (.aload_n 0, 1) := dq_42 (zby_at (j := 9) zbX0_multiply_8 rfl)
theorem dX0_multiply_138 : decode cX0_multiply 138 = .ok (.getfield 24, 3) := dq_180 (zby_at (j := 10) zbX0_multiply_8 rfl) (zby_at (j := 11) zbX0_multiply_8 rfl) (zby_at (j := 12) zbX0_multiply_8 rfl)
theorem dX0_multiply_141 : decode cX0_multiply 141 = .ok (.iload 5, 2) := dq_21 (zby_at (j := 13) zbX0_multiply_8 rfl) (zby_at (j := 14) zbX0_multiply_8 rfl)
theorem dX0_multiply_143 : decode cX0_multiply 143 = .ok (.iaload, 1) := dq_46 (zby_at (j := 15) zbX0_multiply_8 rfl)
theorem zbX0_multiply_9 : zby cX0_multiply 144 20 = [153, 0, 9, 43, 21, 5, 182, 0, 97, 132, 5, 1, 167, 255, 230, 177] := by decide +kernel
theorem dX0_multiply_144 : decode cX0_multiply 144 = .ok (.ifCond .eq 9, 3) := dq_153 (zby_at (j := 0) zbX0_multiply_9 rfl) (zby_at (j := 1) zbX0_multiply_9 rfl) (zby_at (j := 2) zbX0_multiply_9 rfl) rfl
theorem dX0_multiply_147 : decode cX0_multiply 147 = .ok (.aload_n 1, 1) := dq_43 (zby_at (j := 3) zbX0_multiply_9 rfl)
theorem dX0_multiply_148 : decode cX0_multiply 148 = .ok (.iload 5, 2) := dq_21 (zby_at (j := 4) zbX0_multiply_9 rfl) (zby_at (j := 5) zbX0_multiply_9 rfl)
theorem dX0_multiply_150 : decode cX0_multiply 150 = .ok (.invokevirtual 97, 3) := dq_182 (zby_at (j := 6) zbX0_multiply_9 rfl) (zby_at (j := 7) zbX0_multiply_9 rfl) (zby_at (j := 8) zbX0_multiply_9 rfl)
theorem dX0_multiply_153 : decode cX0_multiply 153 = .ok (.iinc 5 1, 3) := dq_132 (zby_at (j := 9) zbX0_multiply_9 rfl) (zby_at (j := 10) zbX0_multiply_9 rfl) (zby_at (j := 11) zbX0_multiply_9 rfl) rfl
theorem dX0_multiply_156 : decode cX0_multiply 156 = .ok (.goto (-26), 3) := dq_167 (zby_at (j := 12) zbX0_multiply_9 rfl) (zby_at (j := 13) zbX0_multiply_9 rfl) (zby_at (j := 14) zbX0_multiply_9 rfl) rfl
theorem dX0_multiply_159 : decode cX0_multiply 159 = .ok (.return_, 1) := dq_177 (zby_at (j := 15) zbX0_multiply_9 rfl)
theorem zbX0_countBelow_0 : zby cX0_countBelow 0 20 = [29, 184, 0, 93, 54, 4, 3, 54, 5, 21, 5, 21, 4, 162, 0, 27, 44, 21, 5, 43] := by decide +kernel
theorem dX0_countBelow_0 : decode cX0_countBelow 0 = .ok (.iload_n 3, 1) := dq_29 (zby_at (j := 0) zbX0_countBelow_0 rfl)
theorem dX0_countBelow_1 : decode cX0_countBelow 1 = .ok (.invokestatic 93, 3) := dq_184 (zby_at (j := 1) zbX0_countBelow_0 rfl) (zby_at (j := 2) zbX0_countBelow_0 rfl) (zby_at (j := 3) zbX0_countBelow_0 rfl)
theorem dX0_countBelow_4 : decode cX0_countBelow 4 = .ok (.istore 4, 2) := dq_54 (zby_at (j := 4) zbX0_countBelow_0 rfl) (zby_at (j := 5) zbX0_countBelow_0 rfl)
theorem dX0_countBelow_6 : decode cX0_countBelow 6 = .ok (.iconst 0, 1) := dq_3 (zby_at (j := 6) zbX0_countBelow_0 rfl)
theorem dX0_countBelow_7 : decode cX0_countBelow 7 = .ok (.istore 5, 2) := dq_54 (zby_at (j := 7) zbX0_countBelow_0 rfl) (zby_at (j := 8) zbX0_countBelow_0 rfl)
theorem dX0_countBelow_9 : decode cX0_countBelow 9 = .ok (.iload 5, 2) := dq_21 (zby_at (j := 9) zbX0_countBelow_0 rfl) (zby_at (j := 10) zbX0_countBelow_0 rfl)
theorem dX0_countBelow_11 : decode cX0_countBelow 11 = .ok (.iload 4, 2) := dq_21 (zby_at (j := 11) zbX0_countBelow_0 rfl) (zby_at (j := 12) zbX0_countBelow_0 rfl)
theorem dX0_countBelow_13 : decode cX0_countBelow 13 = .ok (.if_icmp .ge 27, 3) := dq_162 (zby_at (j := 13) zbX0_countBelow_0 rfl) (zby_at (j := 14) zbX0_countBelow_0 rfl) (zby_at (j := 15) zbX0_countBelow_0 rfl) rfl
theorem zbX0_countBelow_1 : zby cX0_countBelow 16 20 = [44, 21, 5, 43, 21, 5, 182, 0, 100, 153, 0, 7, 4, 167, 0, 4, 3, 79, 132, 5] := by decide +kernel
theorem dX0_countBelow_16 : decode cX0_countBelow 16 = .ok (.aload_n 2, 1) := dq_44 (zby_at (j := 0) zbX0_countBelow_1 rfl)
theorem dX0_countBelow_17 : decode cX0_countBelow 17 = .ok (.iload 5, 2) := dq_21 (zby_at (j := 1) zbX0_countBelow_1 rfl) (zby_at (j := 2) zbX0_countBelow_1 rfl)
theorem dX0_countBelow_19 : decode cX0_countBelow 19 = .ok (.aload_n 1, 1) := dq_43 (zby_at (j := 3) zbX0_countBelow_1 rfl)
theorem dX0_countBelow_20 : decode cX0_countBelow 20 = .ok (.iload 5, 2) := dq_21 (zby_at (j := 4) zbX0_countBelow_1 rfl) (zby_at (j := 5) zbX0_countBelow_1 rfl)
theorem dX0_countBelow_22 : decode cX0_countBelow 22 = .ok (.invokevirtual 100, 3) := dq_182 (zby_at (j := 6) zbX0_countBelow_1 rfl) (zby_at (j := 7) zbX0_countBelow_1 rfl) (zby_at (j := 8) zbX0_countBelow_1 rfl)
theorem dX0_countBelow_25 : decode cX0_countBelow 25 = .ok (.ifCond .eq 7, 3) := dq_153 (zby_at (j := 9) zbX0_countBelow_1 rfl) (zby_at (j := 10) zbX0_countBelow_1 rfl) (zby_at (j := 11) zbX0_countBelow_1 rfl) rfl
theorem dX0_countBelow_28 : decode cX0_countBelow 28 = .ok (.iconst 1, 1) := dq_4 (zby_at (j := 12) zbX0_countBelow_1 rfl)
theorem dX0_countBelow_29 : decode cX0_countBelow 29 = .ok (.goto 4, 3) := dq_167 (zby_at (j := 13) zbX0_countBelow_1 rfl) (zby_at (j := 14) zbX0_countBelow_1 rfl) (zby_at (j := 15) zbX0_countBelow_1 rfl) rfl
theorem zbX0_countBelow_2 : zby cX0_countBelow 32 20 = [3, 79, 132, 5, 1, 167, 255, 228, 4, 54, 5, 21, 5, 21, 4, 162, 0, 51, 21, 5] := by decide +kernel
theorem dX0_countBelow_32 : decode cX0_countBelow 32 = .ok (.iconst 0, 1) := dq_3 (zby_at (j := 0) zbX0_countBelow_2 rfl)
theorem dX0_countBelow_33 : decode cX0_countBelow 33 = .ok (.iastore, 1) := dq_79 (zby_at (j := 1) zbX0_countBelow_2 rfl)
theorem dX0_countBelow_34 : decode cX0_countBelow 34 = .ok (.iinc 5 1, 3) := dq_132 (zby_at (j := 2) zbX0_countBelow_2 rfl) (zby_at (j := 3) zbX0_countBelow_2 rfl) (zby_at (j := 4) zbX0_countBelow_2 rfl) rfl
theorem dX0_countBelow_37 : decode cX0_countBelow 37 = .ok (.goto (-28), 3) := dq_167 (zby_at (j := 5) zbX0_countBelow_2 rfl) (zby_at (j := 6) zbX0_countBelow_2 rfl) (zby_at (j := 7) zbX0_countBelow_2 rfl) rfl
theorem dX0_countBelow_40 : decode cX0_countBelow 40 = .ok (.iconst 1, 1) := dq_4 (zby_at (j := 8) zbX0_countBelow_2 rfl)
theorem dX0_countBelow_41 : decode cX0_countBelow 41 = .ok (.istore 5, 2) := dq_54 (zby_at (j := 9) zbX0_countBelow_2 rfl) (zby_at (j := 10) zbX0_countBelow_2 rfl)
theorem dX0_countBelow_43 : decode cX0_countBelow 43 = .ok (.iload 5, 2) := dq_21 (zby_at (j := 11) zbX0_countBelow_2 rfl) (zby_at (j := 12) zbX0_countBelow_2 rfl)
theorem dX0_countBelow_45 : decode cX0_countBelow 45 = .ok (.iload 4, 2) := dq_21 (zby_at (j := 13) zbX0_countBelow_2 rfl) (zby_at (j := 14) zbX0_countBelow_2 rfl)
theorem dX0_countBelow_47 : decode cX0_countBelow 47 = .ok (.if_icmp .ge 51, 3) := dq_162 (zby_at (j := 15) zbX0_countBelow_2 rfl) (zby_at (j := 16) zbX0_countBelow_2 rfl) (zby_at (j := 17) zbX0_countBelow_2 rfl) rfl
theorem zbX0_countBelow_3 : zby cX0_countBelow 48 20 = [0, 51, 21, 5, 54, 6, 21, 6, 21, 4, 162, 0, 31, 21, 6, 21, 5, 126, 153, 0] := by decide +kernel
theorem dX0_countBelow_50 : decode cX0_countBelow 50 = .ok (.iload 5, 2) := dq_21 (zby_at (j := 2) zbX0_countBelow_3 rfl) (zby_at (j := 3) zbX0_countBelow_3 rfl)
theorem dX0_countBelow_52 : decode cX0_countBelow 52 = .ok (.istore 6, 2) := dq_54 (zby_at (j := 4) zbX0_countBelow_3 rfl) (zby_at (j := 5) zbX0_countBelow_3 rfl)
theorem dX0_countBelow_54 : decode cX0_countBelow 54 = .ok (.iload 6, 2) := dq_21 (zby_at (j := 6) zbX0_countBelow_3 rfl) (zby_at (j := 7) zbX0_countBelow_3 rfl)
theorem dX0_countBelow_56 : decode cX0_countBelow 56 = .ok (.iload 4, 2) := dq_21 (zby_at (j := 8) zbX0_countBelow_3 rfl) (zby_at (j := 9) zbX0_countBelow_3 rfl)
theorem dX0_countBelow_58 : decode cX0_countBelow 58 = .ok (.if_icmp .ge 31, 3) := dq_162 (zby_at (j := 10) zbX0_countBelow_3 rfl) (zby_at (j := 11) zbX0_countBelow_3 rfl) (zby_at (j := 12) zbX0_countBelow_3 rfl) rfl
theorem dX0_countBelow_61 : decode cX0_countBelow 61 = .ok (.iload 6, 2) := dq_21 (zby_at (j := 13) zbX0_countBelow_3 rfl) (zby_at (j := 14) zbX0_countBelow_3 rfl)
theorem dX0_countBelow_63 : decode cX0_countBelow 63 = .ok (.iload 5, 2) := dq_21 (zby_at (j := 15) zbX0_countBelow_3 rfl) (zby_at (j := 16) zbX0_countBelow_3 rfl)
theorem zbX0_countBelow_4 : zby cX0_countBelow 64 20 = [5, 126, 153, 0, 17, 44, 21, 6, 92, 46, 44, 21, 6, 21, 5, 100, 46, 96, 79, 132] := by decide +kernel
theorem dX0_countBelow_65 : decode cX0_countBelow 65 = .ok (.iand, 1) := dq_126 (zby_at (j := 1) zbX0_countBelow_4 rfl)
theorem dX0_countBelow_66 : decode cX0_countBelow 66 = .ok (.ifCond .eq 17, 3) := dq_153 (zby_at (j := 2) zbX0_countBelow_4 rfl) (zby_at (j := 3) zbX0_countBelow_4 rfl) (zby_at (j := 4) zbX0_countBelow_4 rfl) rfl
theorem dX0_countBelow_69 : decode cX0_countBelow 69 = .ok (.aload_n 2, 1) := dq_44 (zby_at (j := 5) zbX0_countBelow_4 rfl)
theorem dX0_countBelow_70 : decode cX0_countBelow 70 = .ok (.iload 6, 2) := dq_21 (zby_at (j := 6) zbX0_countBelow_4 rfl) (zby_at (j := 7) zbX0_countBelow_4 rfl)
theorem dX0_countBelow_72 : decode cX0_countBelow 72 = .ok (.dup2, 1) := dq_92 (zby_at (j := 8) zbX0_countBelow_4 rfl)
theorem dX0_countBelow_73 : decode cX0_countBelow 73 = .ok (.iaload, 1) := dq_46 (zby_at (j := 9) zbX0_countBelow_4 rfl)
theorem dX0_countBelow_74 : decode cX0_countBelow 74 = .ok (.aload_n 2, 1) := dq_44 (zby_at (j := 10) zbX0_countBelow_4 rfl)
theorem dX0_countBelow_75 : decode cX0_countBelow 75 = .ok (.iload 6, 2) := dq_21 (zby_at (j := 11) zbX0_countBelow_4 rfl) (zby_at (j := 12) zbX0_countBelow_4 rfl)
theorem dX0_countBelow_77 : decode cX0_countBelow 77 = .ok (.iload 5, 2) := dq_21 (zby_at (j := 13) zbX0_countBelow_4 rfl) (zby_at (j := 14) zbX0_countBelow_4 rfl)
theorem dX0_countBelow_79 : decode cX0_countBelow 79 = .ok (.isub, 1) := dq_100 (zby_at (j := 15) zbX0_countBelow_4 rfl)
theorem zbX0_countBelow_5 : zby cX0_countBelow 80 20 = [46, 96, 79, 132, 6, 1, 167, 255, 224, 21, 5, 4, 120, 54, 5, 167, 255, 204, 177] := by decide +kernel
theorem dX0_countBelow_80 : decode cX0_countBelow 80 = .ok (.iaload, 1) := dq_46 (zby_at (j := 0) zbX0_countBelow_5 rfl)
theorem dX0_countBelow_81 : decode cX0_countBelow 81 = .ok (.iadd, 1) := dq_96 (zby_at (j := 1) zbX0_countBelow_5 rfl)
theorem dX0_countBelow_82 : decode cX0_countBelow 82 = .ok (.iastore, 1) := dq_79 (zby_at (j := 2) zbX0_countBelow_5 rfl)
theorem dX0_countBelow_83 : decode cX0_countBelow 83 = .ok (.iinc 6 1, 3) := dq_132 (zby_at (j := 3) zbX0_countBelow_5 rfl) (zby_at (j := 4) zbX0_countBelow_5 rfl) (zby_at (j := 5) zbX0_countBelow_5 rfl) rfl
theorem dX0_countBelow_86 : decode cX0_countBelow 86 = .ok (.goto (-32), 3) := dq_167 (zby_at (j := 6) zbX0_countBelow_5 rfl) (zby_at (j := 7) zbX0_countBelow_5 rfl) (zby_at (j := 8) zbX0_countBelow_5 rfl) rfl
theorem dX0_countBelow_89 : decode cX0_countBelow 89 = .ok (.iload 5, 2) := dq_21 (zby_at (j := 9) zbX0_countBelow_5 rfl) (zby_at (j := 10) zbX0_countBelow_5 rfl)
theorem dX0_countBelow_91 : decode cX0_countBelow 91 = .ok (.iconst 1, 1) := dq_4 (zby_at (j := 11) zbX0_countBelow_5 rfl)
theorem dX0_countBelow_92 : decode cX0_countBelow 92 = .ok (.ishl, 1) := dq_120 (zby_at (j := 12) zbX0_countBelow_5 rfl)
theorem dX0_countBelow_93 : decode cX0_countBelow 93 = .ok (.istore 5, 2) := dq_54 (zby_at (j := 13) zbX0_countBelow_5 rfl) (zby_at (j := 14) zbX0_countBelow_5 rfl)
theorem dX0_countBelow_95 : decode cX0_countBelow 95 = .ok (.goto (-52), 3) := dq_167 (zby_at (j := 15) zbX0_countBelow_5 rfl) (zby_at (j := 16) zbX0_countBelow_5 rfl) (zby_at (j := 17) zbX0_countBelow_5 rfl) rfl
theorem zbX0_countBelow_6 : zby cX0_countBelow 96 20 = [255, 204, 177] := by decide +kernel
theorem dX0_countBelow_98 : decode cX0_countBelow 98 = .ok (.return_, 1) := dq_177 (zby_at (j := 2) zbX0_countBelow_6 rfl)
theorem zbX0_setsOf_0 : zby cX0_setsOf 0 20 = [4, 3, 16, 10, 26, 184, 0, 104, 184, 0, 110, 120, 172] := by decide +kernel
theorem dX0_setsOf_0 : decode cX0_setsOf 0 = .ok (.iconst 1, 1) := dq_4 (zby_at (j := 0) zbX0_setsOf_0 rfl)
theorem dX0_setsOf_1 : decode cX0_setsOf 1 = .ok (.iconst 0, 1) := dq_3 (zby_at (j := 1) zbX0_setsOf_0 rfl)
theorem dX0_setsOf_2 : decode cX0_setsOf 2 = .ok (.bipush 10, 2) := dq_16 (zby_at (j := 2) zbX0_setsOf_0 rfl) (zby_at (j := 3) zbX0_setsOf_0 rfl) rfl
theorem dX0_setsOf_4 : decode cX0_setsOf 4 = .ok (.iload_n 0, 1) := dq_26 (zby_at (j := 4) zbX0_setsOf_0 rfl)
theorem dX0_setsOf_5 : decode cX0_setsOf 5 = .ok (.invokestatic 104, 3) := dq_184 (zby_at (j := 5) zbX0_setsOf_0 rfl) (zby_at (j := 6) zbX0_setsOf_0 rfl) (zby_at (j := 7) zbX0_setsOf_0 rfl)
theorem dX0_setsOf_8 : decode cX0_setsOf 8 = .ok (.invokestatic 110, 3) := dq_184 (zby_at (j := 8) zbX0_setsOf_0 rfl) (zby_at (j := 9) zbX0_setsOf_0 rfl) (zby_at (j := 10) zbX0_setsOf_0 rfl)
theorem dX0_setsOf_11 : decode cX0_setsOf 11 = .ok (.ishl, 1) := dq_120 (zby_at (j := 11) zbX0_setsOf_0 rfl)
theorem dX0_setsOf_12 : decode cX0_setsOf 12 = .ok (.ireturn, 1) := dq_172 (zby_at (j := 12) zbX0_setsOf_0 rfl)
theorem zbX0_divide_0 : zby cX0_divide 0 20 = [42, 180, 0, 12, 182, 0, 83, 44, 182, 0, 113, 154, 0, 61, 42, 44, 29, 182, 0, 117] := by decide +kernel
theorem dX0_divide_0 : decode cX0_divide 0 = .ok (.aload_n 0, 1) := dq_42 (zby_at (j := 0) zbX0_divide_0 rfl)
theorem dX0_divide_1 : decode cX0_divide 1 = .ok (.getfield 12, 3) := dq_180 (zby_at (j := 1) zbX0_divide_0 rfl) (zby_at (j := 2) zbX0_divide_0 rfl) (zby_at (j := 3) zbX0_divide_0 rfl)
theorem dX0_divide_4 : decode cX0_divide 4 = .ok (.invokevirtual 83, 3) := dq_182 (zby_at (j := 4) zbX0_divide_0 rfl) (zby_at (j := 5) zbX0_divide_0 rfl) (zby_at (j := 6) zbX0_divide_0 rfl)
theorem dX0_divide_7 : decode cX0_divide 7 = .ok (.aload_n 2, 1) := dq_44 (zby_at (j := 7) zbX0_divide_0 rfl)
theorem dX0_divide_8 : decode cX0_divide 8 = .ok (.invokevirtual 113, 3) := dq_182 (zby_at (j := 8) zbX0_divide_0 rfl) (zby_at (j := 9) zbX0_divide_0 rfl) (zby_at (j := 10) zbX0_divide_0 rfl)
theorem dX0_divide_11 : decode cX0_divide 11 = .ok (.ifCond .ne 61, 3) := dq_154 (zby_at (j := 11) zbX0_divide_0 rfl) (zby_at (j := 12) zbX0_divide_0 rfl) (zby_at (j := 13) zbX0_divide_0 rfl) rfl
theorem dX0_divide_14 : decode cX0_divide 14 = .ok (.aload_n 0, 1) := dq_42 (zby_at (j := 14) zbX0_divide_0 rfl)
theorem dX0_divide_15 : decode cX0_divide 15 = .ok (.aload_n 2, 1) := dq_44 (zby_at (j := 15) zbX0_divide_0 rfl)
theorem zbX0_divide_1 : zby cX0_divide 16 20 = [29, 182, 0, 117, 54, 4, 29, 184, 0, 93, 54, 5, 3, 54, 6, 21, 6, 21, 5, 162] := by decide +kernel
theorem dX0_divide_16 : decode cX0_divide 16 = .ok (.iload_n 3, 1) := dq_29 (zby_at (j := 0) zbX0_divide_1 rfl)
theorem dX0_divide_17 : decode cX0_divide 17 = .ok (.invokevirtual 117, 3) := dq_182 (zby_at (j := 1) zbX0_divide_1 rfl) (zby_at (j := 2) zbX0_divide_1 rfl) (zby_at (j := 3) zbX0_divide_1 rfl)
theorem dX0_divide_20 : decode cX0_divide 20 = .ok (.istore 4, 2) := dq_54 (zby_at (j := 4) zbX0_divide_1 rfl) (zby_at (j := 5) zbX0_divide_1 rfl)
theorem dX0_divide_22 : decode cX0_divide 22 = .ok (.iload_n 3, 1) := dq_29 (zby_at (j := 6) zbX0_divide_1 rfl)
theorem dX0_divide_23 : decode cX0_divide 23 = .ok (.invokestatic 93, 3) := dq_184 (zby_at (j := 7) zbX0_divide_1 rfl) (zby_at (j := 8) zbX0_divide_1 rfl) (zby_at (j := 9) zbX0_divide_1 rfl)
theorem dX0_divide_26 : decode cX0_divide 26 = .ok (.istore 5, 2) := dq_54 (zby_at (j := 10) zbX0_divide_1 rfl) (zby_at (j := 11) zbX0_divide_1 rfl)
theorem dX0_divide_28 : decode cX0_divide 28 = .ok (.iconst 0, 1) := dq_3 (zby_at (j := 12) zbX0_divide_1 rfl)
theorem dX0_divide_29 : decode cX0_divide 29 = .ok (.istore 6, 2) := dq_54 (zby_at (j := 13) zbX0_divide_1 rfl) (zby_at (j := 14) zbX0_divide_1 rfl)
theorem dX0_divide_31 : decode cX0_divide 31 = .ok (.iload 6, 2) := dq_21 (zby_at (j := 15) zbX0_divide_1 rfl) (zby_at (j := 16) zbX0_divide_1 rfl)
theorem zbX0_divide_2 : zby cX0_divide 32 20 = [6, 21, 5, 162, 0, 37, 21, 6, 21, 4, 126, 154, 0, 23, 42, 43, 44, 21, 6, 182] := by decide +kernel
theorem dX0_divide_33 : decode cX0_divide 33 = .ok (.iload 5, 2) := dq_21 (zby_at (j := 1) zbX0_divide_2 rfl) (zby_at (j := 2) zbX0_divide_2 rfl)
theorem dX0_divide_35 : decode cX0_divide 35 = .ok (.if_icmp .ge 37, 3) := dq_162 (zby_at (j := 3) zbX0_divide_2 rfl) (zby_at (j := 4) zbX0_divide_2 rfl) (zby_at (j := 5) zbX0_divide_2 rfl) rfl
theorem dX0_divide_38 : decode cX0_divide 38 = .ok (.iload 6, 2) := dq_21 (zby_at (j := 6) zbX0_divide_2 rfl) (zby_at (j := 7) zbX0_divide_2 rfl)
theorem dX0_divide_40 : decode cX0_divide 40 = .ok (.iload 4, 2) := dq_21 (zby_at (j := 8) zbX0_divide_2 rfl) (zby_at (j := 9) zbX0_divide_2 rfl)
theorem dX0_divide_42 : decode cX0_divide 42 = .ok (.iand, 1) := dq_126 (zby_at (j := 10) zbX0_divide_2 rfl)
theorem dX0_divide_43 : decode cX0_divide 43 = .ok (.ifCond .ne 23, 3) := dq_154 (zby_at (j := 11) zbX0_divide_2 rfl) (zby_at (j := 12) zbX0_divide_2 rfl) (zby_at (j := 13) zbX0_divide_2 rfl) rfl
theorem dX0_divide_46 : decode cX0_divide 46 = .ok (.aload_n 0, 1) := dq_42 (zby_at (j := 14) zbX0_divide_2 rfl)
theorem dX0_divide_47 : decode cX0_divide 47 = .ok (.aload_n 1, 1) := dq_43 (zby_at (j := 15) zbX0_divide_2 rfl)
theorem zbX0_divide_3 : zby cX0_divide 48 20 = [44, 21, 6, 182, 0, 121, 153, 0, 12, 42, 180, 0, 12, 21, 6, 182, 0, 97, 132, 6] := by decide +kernel
theorem dX0_divide_48 : decode cX0_divide 48 = .ok (.aload_n 2, 1) := dq_44 (zby_at (j := 0) zbX0_divide_3 rfl)
theorem dX0_divide_49 : decode cX0_divide 49 = .ok (.iload 6, 2) := dq_21 (zby_at (j := 1) zbX0_divide_3 rfl) (zby_at (j := 2) zbX0_divide_3 rfl)
theorem dX0_divide_51 : decode cX0_divide 51 = .ok (.invokevirtual 121, 3) := dq_182 (zby_at (j := 3) zbX0_divide_3 rfl) (zby_at (j := 4) zbX0_divide_3 rfl) (zby_at (j := 5) zbX0_divide_3 rfl)
theorem dX0_divide_54 : decode cX0_divide 54 = .ok (.ifCond .eq 12, 3) := dq_153 (zby_at (j := 6) zbX0_divide_3 rfl) (zby_at (j := 7) zbX0_divide_3 rfl) (zby_at (j := 8) zbX0_divide_3 rfl) rfl
theorem dX0_divide_57 : decode cX0_divide 57 = .ok (.aload_n 0, 1) := dq_42 (zby_at (j := 9) zbX0_divide_3 rfl)
theorem dX0_divide_58 : decode cX0_divide 58 = .ok (.getfield 12, 3) := dq_180 (zby_at (j := 10) zbX0_divide_3 rfl) (zby_at (j := 11) zbX0_divide_3 rfl) (zby_at (j := 12) zbX0_divide_3 rfl)
theorem dX0_divide_61 : decode cX0_divide 61 = .ok (.iload 6, 2) := dq_21 (zby_at (j := 13) zbX0_divide_3 rfl) (zby_at (j := 14) zbX0_divide_3 rfl)
theorem dX0_divide_63 : decode cX0_divide 63 = .ok (.invokevirtual 97, 3) := dq_182 (zby_at (j := 15) zbX0_divide_3 rfl) (zby_at (j := 16) zbX0_divide_3 rfl) (zby_at (j := 17) zbX0_divide_3 rfl)
theorem zbX0_divide_4 : zby cX0_divide 64 20 = [0, 97, 132, 6, 1, 167, 255, 218, 43, 42, 180, 0, 12, 182, 0, 48, 177] := by decide +kernel
theorem dX0_divide_66 : decode cX0_divide 66 = .ok (.iinc 6 1, 3) := dq_132 (zby_at (j := 2) zbX0_divide_4 rfl) (zby_at (j := 3) zbX0_divide_4 rfl) (zby_at (j := 4) zbX0_divide_4 rfl) rfl
theorem dX0_divide_69 : decode cX0_divide 69 = .ok (.goto (-38), 3) := dq_167 (zby_at (j := 5) zbX0_divide_4 rfl) (zby_at (j := 6) zbX0_divide_4 rfl) (zby_at (j := 7) zbX0_divide_4 rfl) rfl
theorem dX0_divide_72 : decode cX0_divide 72 = .ok (.aload_n 1, 1) := dq_43 (zby_at (j := 8) zbX0_divide_4 rfl)
theorem dX0_divide_73 : decode cX0_divide 73 = .ok (.aload_n 0, 1) := dq_42 (zby_at (j := 9) zbX0_divide_4 rfl)
theorem dX0_divide_74 : decode cX0_divide 74 = .ok (.getfield 12, 3) := dq_180 (zby_at (j := 10) zbX0_divide_4 rfl) (zby_at (j := 11) zbX0_divide_4 rfl) (zby_at (j := 12) zbX0_divide_4 rfl)
theorem dX0_divide_77 : decode cX0_divide 77 = .ok (.invokevirtual 48, 3) := dq_182 (zby_at (j := 13) zbX0_divide_4 rfl) (zby_at (j := 14) zbX0_divide_4 rfl) (zby_at (j := 15) zbX0_divide_4 rfl)
theorem zbX0_divide_5 : zby cX0_divide 80 20 = [177] := by decide +kernel
theorem dX0_divide_80 : decode cX0_divide 80 = .ok (.return_, 1) := dq_177 (zby_at (j := 0) zbX0_divide_5 rfl)
theorem zbX0_allJoined_0 : zby cX0_allJoined 0 20 = [44, 3, 182, 0, 125, 54, 4, 3, 54, 5, 21, 5, 17, 4, 0, 162, 0, 37, 21, 4] := by decide +kernel
theorem dX0_allJoined_0 : decode cX0_allJoined 0 = .ok (.aload_n 2, 1) := dq_44 (zby_at (j := 0) zbX0_allJoined_0 rfl)
theorem dX0_allJoined_1 : decode cX0_allJoined 1 = .ok (.iconst 0, 1) := dq_3 (zby_at (j := 1) zbX0_allJoined_0 rfl)
theorem dX0_allJoined_2 : decode cX0_allJoined 2 = .ok (.invokevirtual 125, 3) := dq_182 (zby_at (j := 2) zbX0_allJoined_0 rfl) (zby_at (j := 3) zbX0_allJoined_0 rfl) (zby_at (j := 4) zbX0_allJoined_0 rfl)
theorem dX0_allJoined_5 : decode cX0_allJoined 5 = .ok (.istore 4, 2) := dq_54 (zby_at (j := 5) zbX0_allJoined_0 rfl) (zby_at (j := 6) zbX0_allJoined_0 rfl)
theorem dX0_allJoined_7 : decode cX0_allJoined 7 = .ok (.iconst 0, 1) := dq_3 (zby_at (j := 7) zbX0_allJoined_0 rfl)
theorem dX0_allJoined_8 : decode cX0_allJoined 8 = .ok (.istore 5, 2) := dq_54 (zby_at (j := 8) zbX0_allJoined_0 rfl) (zby_at (j := 9) zbX0_allJoined_0 rfl)
theorem dX0_allJoined_10 : decode cX0_allJoined 10 = .ok (.iload 5, 2) := dq_21 (zby_at (j := 10) zbX0_allJoined_0 rfl) (zby_at (j := 11) zbX0_allJoined_0 rfl)
theorem dX0_allJoined_12 : decode cX0_allJoined 12 = .ok (.sipush 1024, 3) := dq_17 (zby_at (j := 12) zbX0_allJoined_0 rfl) (zby_at (j := 13) zbX0_allJoined_0 rfl) (zby_at (j := 14) zbX0_allJoined_0 rfl) rfl
theorem dX0_allJoined_15 : decode cX0_allJoined 15 = .ok (.if_icmp .ge 37, 3) := dq_162 (zby_at (j := 15) zbX0_allJoined_0 rfl) (zby_at (j := 16) zbX0_allJoined_0 rfl) (zby_at (j := 17) zbX0_allJoined_0 rfl) rfl
theorem zbX0_allJoined_1 : zby cX0_allJoined 16 20 = [0, 37, 21, 4, 155, 0, 32, 43, 29, 21, 4, 128, 182, 0, 100, 154, 0, 5, 3, 172] := by decide +kernel
theorem dX0_allJoined_18 : decode cX0_allJoined 18 = .ok (.iload 4, 2) := dq_21 (zby_at (j := 2) zbX0_allJoined_1 rfl) (zby_at (j := 3) zbX0_allJoined_1 rfl)
theorem dX0_allJoined_20 : decode cX0_allJoined 20 = .ok (.ifCond .lt 32, 3) := dq_155 (zby_at (j := 4) zbX0_allJoined_1 rfl) (zby_at (j := 5) zbX0_allJoined_1 rfl) (zby_at (j := 6) zbX0_allJoined_1 rfl) rfl
theorem dX0_allJoined_23 : decode cX0_allJoined 23 = .ok (.aload_n 1, 1) := dq_43 (zby_at (j := 7) zbX0_allJoined_1 rfl)
theorem dX0_allJoined_24 : decode cX0_allJoined 24 = .ok (.iload_n 3, 1) := dq_29 (zby_at (j := 8) zbX0_allJoined_1 rfl)
theorem dX0_allJoined_25 : decode cX0_allJoined 25 = .ok (.iload 4, 2) := dq_21 (zby_at (j := 9) zbX0_allJoined_1 rfl) (zby_at (j := 10) zbX0_allJoined_1 rfl)
theorem dX0_allJoined_27 : decode cX0_allJoined 27 = .ok (.ior, 1) := dq_128 (zby_at (j := 11) zbX0_allJoined_1 rfl)
theorem dX0_allJoined_28 : decode cX0_allJoined 28 = .ok (.invokevirtual 100, 3) := dq_182 (zby_at (j := 12) zbX0_allJoined_1 rfl) (zby_at (j := 13) zbX0_allJoined_1 rfl) (zby_at (j := 14) zbX0_allJoined_1 rfl)
theorem dX0_allJoined_31 : decode cX0_allJoined 31 = .ok (.ifCond .ne 5, 3) := dq_154 (zby_at (j := 15) zbX0_allJoined_1 rfl) (zby_at (j := 16) zbX0_allJoined_1 rfl) (zby_at (j := 17) zbX0_allJoined_1 rfl) rfl
theorem zbX0_allJoined_2 : zby cX0_allJoined 32 20 = [0, 5, 3, 172, 44, 21, 4, 4, 96, 182, 0, 125, 54, 4, 132, 5, 1, 167, 255, 217] := by decide +kernel
theorem dX0_allJoined_34 : decode cX0_allJoined 34 = .ok (.iconst 0, 1) := dq_3 (zby_at (j := 2) zbX0_allJoined_2 rfl)
theorem dX0_allJoined_35 : decode cX0_allJoined 35 = .ok (.ireturn, 1) := dq_172 (zby_at (j := 3) zbX0_allJoined_2 rfl)
theorem dX0_allJoined_36 : decode cX0_allJoined 36 = .ok (.aload_n 2, 1) := dq_44 (zby_at (j := 4) zbX0_allJoined_2 rfl)
theorem dX0_allJoined_37 : decode cX0_allJoined 37 = .ok (.iload 4, 2) := dq_21 (zby_at (j := 5) zbX0_allJoined_2 rfl) (zby_at (j := 6) zbX0_allJoined_2 rfl)
theorem dX0_allJoined_39 : decode cX0_allJoined 39 = .ok (.iconst 1, 1) := dq_4 (zby_at (j := 7) zbX0_allJoined_2 rfl)
theorem dX0_allJoined_40 : decode cX0_allJoined 40 = .ok (.iadd, 1) := dq_96 (zby_at (j := 8) zbX0_allJoined_2 rfl)
theorem dX0_allJoined_41 : decode cX0_allJoined 41 = .ok (.invokevirtual 125, 3) := dq_182 (zby_at (j := 9) zbX0_allJoined_2 rfl) (zby_at (j := 10) zbX0_allJoined_2 rfl) (zby_at (j := 11) zbX0_allJoined_2 rfl)
theorem dX0_allJoined_44 : decode cX0_allJoined 44 = .ok (.istore 4, 2) := dq_54 (zby_at (j := 12) zbX0_allJoined_2 rfl) (zby_at (j := 13) zbX0_allJoined_2 rfl)
theorem dX0_allJoined_46 : decode cX0_allJoined 46 = .ok (.iinc 5 1, 3) := dq_132 (zby_at (j := 14) zbX0_allJoined_2 rfl) (zby_at (j := 15) zbX0_allJoined_2 rfl) (zby_at (j := 16) zbX0_allJoined_2 rfl) rfl
theorem zbX0_allJoined_3 : zby cX0_allJoined 48 20 = [1, 167, 255, 217, 4, 172] := by decide +kernel
theorem dX0_allJoined_49 : decode cX0_allJoined 49 = .ok (.goto (-39), 3) := dq_167 (zby_at (j := 1) zbX0_allJoined_3 rfl) (zby_at (j := 2) zbX0_allJoined_3 rfl) (zby_at (j := 3) zbX0_allJoined_3 rfl) rfl
theorem dX0_allJoined_52 : decode cX0_allJoined 52 = .ok (.iconst 1, 1) := dq_4 (zby_at (j := 4) zbX0_allJoined_3 rfl)
theorem dX0_allJoined_53 : decode cX0_allJoined 53 = .ok (.ireturn, 1) := dq_172 (zby_at (j := 5) zbX0_allJoined_3 rfl)
theorem zbX0_namesUsed_0 : zby cX0_namesUsed 0 20 = [3, 62, 3, 54, 4, 21, 4, 28, 162, 0, 44, 42, 180, 0, 18, 43, 182, 0, 48, 42] := by decide +kernel
theorem dX0_namesUsed_0 : decode cX0_namesUsed 0 = .ok (.iconst 0, 1) := dq_3 (zby_at (j := 0) zbX0_namesUsed_0 rfl)
theorem dX0_namesUsed_1 : decode cX0_namesUsed 1 = .ok (.istore_n 3, 1) := dq_62 (zby_at (j := 1) zbX0_namesUsed_0 rfl)
theorem dX0_namesUsed_2 : decode cX0_namesUsed 2 = .ok (.iconst 0, 1) := dq_3 (zby_at (j := 2) zbX0_namesUsed_0 rfl)
theorem dX0_namesUsed_3 : decode cX0_namesUsed 3 = .ok (.istore 4, 2) := dq_54 (zby_at (j := 3) zbX0_namesUsed_0 rfl) (zby_at (j := 4) zbX0_namesUsed_0 rfl)
theorem dX0_namesUsed_5 : decode cX0_namesUsed 5 = .ok (.iload 4, 2) := dq_21 (zby_at (j := 5) zbX0_namesUsed_0 rfl) (zby_at (j := 6) zbX0_namesUsed_0 rfl)
theorem dX0_namesUsed_7 : decode cX0_namesUsed 7 = .ok (.iload_n 2, 1) := dq_28 (zby_at (j := 7) zbX0_namesUsed_0 rfl)
theorem dX0_namesUsed_8 : decode cX0_namesUsed 8 = .ok (.if_icmp .ge 44, 3) := dq_162 (zby_at (j := 8) zbX0_namesUsed_0 rfl) (zby_at (j := 9) zbX0_namesUsed_0 rfl) (zby_at (j := 10) zbX0_namesUsed_0 rfl) rfl
theorem dX0_namesUsed_11 : decode cX0_namesUsed 11 = .ok (.aload_n 0, 1) := dq_42 (zby_at (j := 11) zbX0_namesUsed_0 rfl)
theorem dX0_namesUsed_12 : decode cX0_namesUsed 12 = .ok (.getfield 18, 3) := dq_180 (zby_at (j := 12) zbX0_namesUsed_0 rfl) (zby_at (j := 13) zbX0_namesUsed_0 rfl) (zby_at (j := 14) zbX0_namesUsed_0 rfl)
theorem dX0_namesUsed_15 : decode cX0_namesUsed 15 = .ok (.aload_n 1, 1) := dq_43 (zby_at (j := 15) zbX0_namesUsed_0 rfl)
theorem zbX0_namesUsed_1 : zby cX0_namesUsed 16 20 = [182, 0, 48, 42, 180, 0, 18, 21, 4, 182, 0, 86, 42, 180, 0, 18, 43, 182, 0, 128] := by decide +kernel
theorem dX0_namesUsed_16 : decode cX0_namesUsed 16 = .ok (.invokevirtual 48, 3) := dq_182 (zby_at (j := 0) zbX0_namesUsed_1 rfl) (zby_at (j := 1) zbX0_namesUsed_1 rfl) (zby_at (j := 2) zbX0_namesUsed_1 rfl)
theorem dX0_namesUsed_19 : decode cX0_namesUsed 19 = .ok (.aload_n 0, 1) := dq_42 (zby_at (j := 3) zbX0_namesUsed_1 rfl)
theorem dX0_namesUsed_20 : decode cX0_namesUsed 20 = .ok (.getfield 18, 3) := dq_180 (zby_at (j := 4) zbX0_namesUsed_1 rfl) (zby_at (j := 5) zbX0_namesUsed_1 rfl) (zby_at (j := 6) zbX0_namesUsed_1 rfl)
theorem dX0_namesUsed_23 : decode cX0_namesUsed 23 = .ok (.iload 4, 2) := dq_21 (zby_at (j := 7) zbX0_namesUsed_1 rfl) (zby_at (j := 8) zbX0_namesUsed_1 rfl)
theorem dX0_namesUsed_25 : decode cX0_namesUsed 25 = .ok (.invokevirtual 86, 3) := dq_182 (zby_at (j := 9) zbX0_namesUsed_1 rfl) (zby_at (j := 10) zbX0_namesUsed_1 rfl) (zby_at (j := 11) zbX0_namesUsed_1 rfl)
theorem dX0_namesUsed_28 : decode cX0_namesUsed 28 = .ok (.aload_n 0, 1) := dq_42 (zby_at (j := 12) zbX0_namesUsed_1 rfl)
theorem dX0_namesUsed_29 : decode cX0_namesUsed 29 = .ok (.getfield 18, 3) := dq_180 (zby_at (j := 13) zbX0_namesUsed_1 rfl) (zby_at (j := 14) zbX0_namesUsed_1 rfl) (zby_at (j := 15) zbX0_namesUsed_1 rfl)
theorem zbX0_namesUsed_2 : zby cX0_namesUsed 32 20 = [43, 182, 0, 128, 154, 0, 10, 29, 4, 21, 4, 120, 128, 62, 132, 4, 1, 167, 255, 212] := by decide +kernel
theorem dX0_namesUsed_32 : decode cX0_namesUsed 32 = .ok (.aload_n 1, 1) := dq_43 (zby_at (j := 0) zbX0_namesUsed_2 rfl)
theorem dX0_namesUsed_33 : decode cX0_namesUsed 33 = .ok (.invokevirtual 128, 3) := dq_182 (zby_at (j := 1) zbX0_namesUsed_2 rfl) (zby_at (j := 2) zbX0_namesUsed_2 rfl) (zby_at (j := 3) zbX0_namesUsed_2 rfl)
theorem dX0_namesUsed_36 : decode cX0_namesUsed 36 = .ok (.ifCond .ne 10, 3) := dq_154 (zby_at (j := 4) zbX0_namesUsed_2 rfl) (zby_at (j := 5) zbX0_namesUsed_2 rfl) (zby_at (j := 6) zbX0_namesUsed_2 rfl) rfl
theorem dX0_namesUsed_39 : decode cX0_namesUsed 39 = .ok (.iload_n 3, 1) := dq_29 (zby_at (j := 7) zbX0_namesUsed_2 rfl)
theorem dX0_namesUsed_40 : decode cX0_namesUsed 40 = .ok (.iconst 1, 1) := dq_4 (zby_at (j := 8) zbX0_namesUsed_2 rfl)
theorem dX0_namesUsed_41 : decode cX0_namesUsed 41 = .ok (.iload 4, 2) := dq_21 (zby_at (j := 9) zbX0_namesUsed_2 rfl) (zby_at (j := 10) zbX0_namesUsed_2 rfl)
theorem dX0_namesUsed_43 : decode cX0_namesUsed 43 = .ok (.ishl, 1) := dq_120 (zby_at (j := 11) zbX0_namesUsed_2 rfl)
theorem dX0_namesUsed_44 : decode cX0_namesUsed 44 = .ok (.ior, 1) := dq_128 (zby_at (j := 12) zbX0_namesUsed_2 rfl)
theorem dX0_namesUsed_45 : decode cX0_namesUsed 45 = .ok (.istore_n 3, 1) := dq_62 (zby_at (j := 13) zbX0_namesUsed_2 rfl)
theorem dX0_namesUsed_46 : decode cX0_namesUsed 46 = .ok (.iinc 4 1, 3) := dq_132 (zby_at (j := 14) zbX0_namesUsed_2 rfl) (zby_at (j := 15) zbX0_namesUsed_2 rfl) (zby_at (j := 16) zbX0_namesUsed_2 rfl) rfl
theorem zbX0_namesUsed_3 : zby cX0_namesUsed 48 20 = [1, 167, 255, 212, 29, 172] := by decide +kernel
theorem dX0_namesUsed_49 : decode cX0_namesUsed 49 = .ok (.goto (-44), 3) := dq_167 (zby_at (j := 1) zbX0_namesUsed_3 rfl) (zby_at (j := 2) zbX0_namesUsed_3 rfl) (zby_at (j := 3) zbX0_namesUsed_3 rfl) rfl
theorem dX0_namesUsed_52 : decode cX0_namesUsed 52 = .ok (.iload_n 3, 1) := dq_29 (zby_at (j := 4) zbX0_namesUsed_3 rfl)
theorem dX0_namesUsed_53 : decode cX0_namesUsed 53 = .ok (.ireturn, 1) := dq_172 (zby_at (j := 5) zbX0_namesUsed_3 rfl)
theorem zbX0_disjointPairs_0 : zby cX0_disjointPairs 0 20 = [42, 44, 42, 180, 0, 28, 29, 182, 0, 89, 29, 184, 0, 93, 54, 4, 3, 54, 5, 3] := by decide +kernel
theorem dX0_disjointPairs_0 : decode cX0_disjointPairs 0 = .ok (.aload_n 0, 1) := dq_42 (zby_at (j := 0) zbX0_disjointPairs_0 rfl)
theorem dX0_disjointPairs_1 : decode cX0_disjointPairs 1 = .ok (.aload_n 2, 1) := dq_44 (zby_at (j := 1) zbX0_disjointPairs_0 rfl)
theorem dX0_disjointPairs_2 : decode cX0_disjointPairs 2 = .ok (.aload_n 0, 1) := dq_42 (zby_at (j := 2) zbX0_disjointPairs_0 rfl)
theorem dX0_disjointPairs_3 : decode cX0_disjointPairs 3 = .ok (.getfield 28, 3) := dq_180 (zby_at (j := 3) zbX0_disjointPairs_0 rfl) (zby_at (j := 4) zbX0_disjointPairs_0 rfl) (zby_at (j := 5) zbX0_disjointPairs_0 rfl)
theorem dX0_disjointPairs_6 : decode cX0_disjointPairs 6 = .ok (.iload_n 3, 1) := dq_29 (zby_at (j := 6) zbX0_disjointPairs_0 rfl)
theorem dX0_disjointPairs_7 : decode cX0_disjointPairs 7 = .ok (.invokevirtual 89, 3) := dq_182 (zby_at (j := 7) zbX0_disjointPairs_0 rfl) (zby_at (j := 8) zbX0_disjointPairs_0 rfl) (zby_at (j := 9) zbX0_disjointPairs_0 rfl)
theorem dX0_disjointPairs_10 : decode cX0_disjointPairs 10 = .ok (.iload_n 3, 1) := dq_29 (zby_at (j := 10) zbX0_disjointPairs_0 rfl)
theorem dX0_disjointPairs_11 : decode cX0_disjointPairs 11 = .ok (.invokestatic 93, 3) := dq_184 (zby_at (j := 11) zbX0_disjointPairs_0 rfl) (zby_at (j := 12) zbX0_disjointPairs_0 rfl) (zby_at (j := 13) zbX0_disjointPairs_0 rfl)
theorem dX0_disjointPairs_14 : decode cX0_disjointPairs 14 = .ok (.istore 4, 2) := dq_54 (zby_at (j := 14) zbX0_disjointPairs_0 rfl) (zby_at (j := 15) zbX0_disjointPairs_0 rfl)
theorem zbX0_disjointPairs_1 : zby cX0_disjointPairs 16 20 = [3, 54, 5, 3, 54, 6, 21, 6, 21, 4, 162, 0, 35, 43, 21, 6, 182, 0, 100, 153] := by decide +kernel
theorem dX0_disjointPairs_16 : decode cX0_disjointPairs 16 = .ok (.iconst 0, 1) := dq_3 (zby_at (j := 0) zbX0_disjointPairs_1 rfl)
theorem dX0_disjointPairs_17 : decode cX0_disjointPairs 17 = .ok (.istore 5, 2) := dq_54 (zby_at (j := 1) zbX0_disjointPairs_1 rfl) (zby_at (j := 2) zbX0_disjointPairs_1 rfl)
theorem dX0_disjointPairs_19 : decode cX0_disjointPairs 19 = .ok (.iconst 0, 1) := dq_3 (zby_at (j := 3) zbX0_disjointPairs_1 rfl)
theorem dX0_disjointPairs_20 : decode cX0_disjointPairs 20 = .ok (.istore 6, 2) := dq_54 (zby_at (j := 4) zbX0_disjointPairs_1 rfl) (zby_at (j := 5) zbX0_disjointPairs_1 rfl)
theorem dX0_disjointPairs_22 : decode cX0_disjointPairs 22 = .ok (.iload 6, 2) := dq_21 (zby_at (j := 6) zbX0_disjointPairs_1 rfl) (zby_at (j := 7) zbX0_disjointPairs_1 rfl)
theorem dX0_disjointPairs_24 : decode cX0_disjointPairs 24 = .ok (.iload 4, 2) := dq_21 (zby_at (j := 8) zbX0_disjointPairs_1 rfl) (zby_at (j := 9) zbX0_disjointPairs_1 rfl)
theorem dX0_disjointPairs_26 : decode cX0_disjointPairs 26 = .ok (.if_icmp .ge 35, 3) := dq_162 (zby_at (j := 10) zbX0_disjointPairs_1 rfl) (zby_at (j := 11) zbX0_disjointPairs_1 rfl) (zby_at (j := 12) zbX0_disjointPairs_1 rfl) rfl
theorem dX0_disjointPairs_29 : decode cX0_disjointPairs 29 = .ok (.aload_n 1, 1) := dq_43 (zby_at (j := 13) zbX0_disjointPairs_1 rfl)
theorem dX0_disjointPairs_30 : decode cX0_disjointPairs 30 = .ok (.iload 6, 2) := dq_21 (zby_at (j := 14) zbX0_disjointPairs_1 rfl) (zby_at (j := 15) zbX0_disjointPairs_1 rfl)
theorem zbX0_disjointPairs_2 : zby cX0_disjointPairs 32 20 = [182, 0, 100, 153, 0, 20, 21, 5, 42, 180, 0, 28, 21, 4, 4, 100, 21, 6, 100, 46] := by decide +kernel
theorem dX0_disjointPairs_32 : decode cX0_disjointPairs 32 = .ok (.invokevirtual 100, 3) := dq_182 (zby_at (j := 0) zbX0_disjointPairs_2 rfl) (zby_at (j := 1) zbX0_disjointPairs_2 rfl) (zby_at (j := 2) zbX0_disjointPairs_2 rfl)
theorem dX0_disjointPairs_35 : decode cX0_disjointPairs 35 = .ok (.ifCond .eq 20, 3) := dq_153 (zby_at (j := 3) zbX0_disjointPairs_2 rfl) (zby_at (j := 4) zbX0_disjointPairs_2 rfl) (zby_at (j := 5) zbX0_disjointPairs_2 rfl) rfl
theorem dX0_disjointPairs_38 : decode cX0_disjointPairs 38 = .ok (.iload 5, 2) := dq_21 (zby_at (j := 6) zbX0_disjointPairs_2 rfl) (zby_at (j := 7) zbX0_disjointPairs_2 rfl)
theorem dX0_disjointPairs_40 : decode cX0_disjointPairs 40 = .ok (.aload_n 0, 1) := dq_42 (zby_at (j := 8) zbX0_disjointPairs_2 rfl)
theorem dX0_disjointPairs_41 : decode cX0_disjointPairs 41 = .ok (.getfield 28, 3) := dq_180 (zby_at (j := 9) zbX0_disjointPairs_2 rfl) (zby_at (j := 10) zbX0_disjointPairs_2 rfl) (zby_at (j := 11) zbX0_disjointPairs_2 rfl)
theorem dX0_disjointPairs_44 : decode cX0_disjointPairs 44 = .ok (.iload 4, 2) := dq_21 (zby_at (j := 12) zbX0_disjointPairs_2 rfl) (zby_at (j := 13) zbX0_disjointPairs_2 rfl)
theorem dX0_disjointPairs_46 : decode cX0_disjointPairs 46 = .ok (.iconst 1, 1) := dq_4 (zby_at (j := 14) zbX0_disjointPairs_2 rfl)
theorem dX0_disjointPairs_47 : decode cX0_disjointPairs 47 = .ok (.isub, 1) := dq_100 (zby_at (j := 15) zbX0_disjointPairs_2 rfl)
theorem zbX0_disjointPairs_3 : zby cX0_disjointPairs 48 20 = [21, 6, 100, 46, 96, 54, 5, 132, 6, 1, 167, 255, 220, 21, 5, 172] := by decide +kernel
theorem dX0_disjointPairs_48 : decode cX0_disjointPairs 48 = .ok (.iload 6, 2) := dq_21 (zby_at (j := 0) zbX0_disjointPairs_3 rfl) (zby_at (j := 1) zbX0_disjointPairs_3 rfl)
theorem dX0_disjointPairs_50 : decode cX0_disjointPairs 50 = .ok (.isub, 1) := dq_100 (zby_at (j := 2) zbX0_disjointPairs_3 rfl)
theorem dX0_disjointPairs_51 : decode cX0_disjointPairs 51 = .ok (.iaload, 1) := dq_46 (zby_at (j := 3) zbX0_disjointPairs_3 rfl)
theorem dX0_disjointPairs_52 : decode cX0_disjointPairs 52 = .ok (.iadd, 1) := dq_96 (zby_at (j := 4) zbX0_disjointPairs_3 rfl)
theorem dX0_disjointPairs_53 : decode cX0_disjointPairs 53 = .ok (.istore 5, 2) := dq_54 (zby_at (j := 5) zbX0_disjointPairs_3 rfl) (zby_at (j := 6) zbX0_disjointPairs_3 rfl)
theorem dX0_disjointPairs_55 : decode cX0_disjointPairs 55 = .ok (.iinc 6 1, 3) := dq_132 (zby_at (j := 7) zbX0_disjointPairs_3 rfl) (zby_at (j := 8) zbX0_disjointPairs_3 rfl) (zby_at (j := 9) zbX0_disjointPairs_3 rfl) rfl
theorem dX0_disjointPairs_58 : decode cX0_disjointPairs 58 = .ok (.goto (-36), 3) := dq_167 (zby_at (j := 10) zbX0_disjointPairs_3 rfl) (zby_at (j := 11) zbX0_disjointPairs_3 rfl) (zby_at (j := 12) zbX0_disjointPairs_3 rfl) rfl
theorem dX0_disjointPairs_61 : decode cX0_disjointPairs 61 = .ok (.iload 5, 2) := dq_21 (zby_at (j := 13) zbX0_disjointPairs_3 rfl) (zby_at (j := 14) zbX0_disjointPairs_3 rfl)
theorem dX0_disjointPairs_63 : decode cX0_disjointPairs 63 = .ok (.ireturn, 1) := dq_172 (zby_at (j := 15) zbX0_disjointPairs_3 rfl)
theorem zbX1_init_0 : zby cX1_init 0 20 = [42, 183, 0, 3, 42, 17, 8, 0, 188, 10, 181, 0, 11, 42, 17, 6, 64, 188, 10, 181] := by decide +kernel
theorem dX1_init_0 : decode cX1_init 0 = .ok (.aload_n 0, 1) := dq_42 (zby_at (j := 0) zbX1_init_0 rfl)
theorem dX1_init_1 : decode cX1_init 1 = .ok (.invokespecial 3, 3) := dq_183 (zby_at (j := 1) zbX1_init_0 rfl) (zby_at (j := 2) zbX1_init_0 rfl) (zby_at (j := 3) zbX1_init_0 rfl)
theorem dX1_init_4 : decode cX1_init 4 = .ok (.aload_n 0, 1) := dq_42 (zby_at (j := 4) zbX1_init_0 rfl)
theorem dX1_init_5 : decode cX1_init 5 = .ok (.sipush 2048, 3) := dq_17 (zby_at (j := 5) zbX1_init_0 rfl) (zby_at (j := 6) zbX1_init_0 rfl) (zby_at (j := 7) zbX1_init_0 rfl) rfl
theorem dX1_init_8 : decode cX1_init 8 = .ok (.newarray .int, 2) := dq_188_10 (zby_at (j := 8) zbX1_init_0 rfl) (zby_at (j := 9) zbX1_init_0 rfl)
theorem dX1_init_10 : decode cX1_init 10 = .ok (.putfield 11, 3) := dq_181 (zby_at (j := 10) zbX1_init_0 rfl) (zby_at (j := 11) zbX1_init_0 rfl) (zby_at (j := 12) zbX1_init_0 rfl)
theorem dX1_init_13 : decode cX1_init 13 = .ok (.aload_n 0, 1) := dq_42 (zby_at (j := 13) zbX1_init_0 rfl)
theorem dX1_init_14 : decode cX1_init 14 = .ok (.sipush 1600, 3) := dq_17 (zby_at (j := 14) zbX1_init_0 rfl) (zby_at (j := 15) zbX1_init_0 rfl) (zby_at (j := 16) zbX1_init_0 rfl) rfl
theorem zbX1_init_1 : zby cX1_init 16 20 = [64, 188, 10, 181, 0, 15, 42, 17, 6, 64, 188, 10, 181, 0, 18, 42, 17, 6, 64, 188] := by decide +kernel
theorem dX1_init_17 : decode cX1_init 17 = .ok (.newarray .int, 2) := dq_188_10 (zby_at (j := 1) zbX1_init_1 rfl) (zby_at (j := 2) zbX1_init_1 rfl)
theorem dX1_init_19 : decode cX1_init 19 = .ok (.putfield 15, 3) := dq_181 (zby_at (j := 3) zbX1_init_1 rfl) (zby_at (j := 4) zbX1_init_1 rfl) (zby_at (j := 5) zbX1_init_1 rfl)
theorem dX1_init_22 : decode cX1_init 22 = .ok (.aload_n 0, 1) := dq_42 (zby_at (j := 6) zbX1_init_1 rfl)
theorem dX1_init_23 : decode cX1_init 23 = .ok (.sipush 1600, 3) := dq_17 (zby_at (j := 7) zbX1_init_1 rfl) (zby_at (j := 8) zbX1_init_1 rfl) (zby_at (j := 9) zbX1_init_1 rfl) rfl
theorem dX1_init_26 : decode cX1_init 26 = .ok (.newarray .int, 2) := dq_188_10 (zby_at (j := 10) zbX1_init_1 rfl) (zby_at (j := 11) zbX1_init_1 rfl)
theorem dX1_init_28 : decode cX1_init 28 = .ok (.putfield 18, 3) := dq_181 (zby_at (j := 12) zbX1_init_1 rfl) (zby_at (j := 13) zbX1_init_1 rfl) (zby_at (j := 14) zbX1_init_1 rfl)
theorem dX1_init_31 : decode cX1_init 31 = .ok (.aload_n 0, 1) := dq_42 (zby_at (j := 15) zbX1_init_1 rfl)
theorem zbX1_init_2 : zby cX1_init 32 20 = [17, 6, 64, 188, 10, 181, 0, 21, 42, 17, 6, 64, 188, 10, 181, 0, 24, 42, 17, 4] := by decide +kernel
theorem dX1_init_32 : decode cX1_init 32 = .ok (.sipush 1600, 3) := dq_17 (zby_at (j := 0) zbX1_init_2 rfl) (zby_at (j := 1) zbX1_init_2 rfl) (zby_at (j := 2) zbX1_init_2 rfl) rfl
theorem dX1_init_35 : decode cX1_init 35 = .ok (.newarray .int, 2) := dq_188_10 (zby_at (j := 3) zbX1_init_2 rfl) (zby_at (j := 4) zbX1_init_2 rfl)
theorem dX1_init_37 : decode cX1_init 37 = .ok (.putfield 21, 3) := dq_181 (zby_at (j := 5) zbX1_init_2 rfl) (zby_at (j := 6) zbX1_init_2 rfl) (zby_at (j := 7) zbX1_init_2 rfl)
theorem dX1_init_40 : decode cX1_init 40 = .ok (.aload_n 0, 1) := dq_42 (zby_at (j := 8) zbX1_init_2 rfl)
theorem dX1_init_41 : decode cX1_init 41 = .ok (.sipush 1600, 3) := dq_17 (zby_at (j := 9) zbX1_init_2 rfl) (zby_at (j := 10) zbX1_init_2 rfl) (zby_at (j := 11) zbX1_init_2 rfl) rfl
theorem dX1_init_44 : decode cX1_init 44 = .ok (.newarray .int, 2) := dq_188_10 (zby_at (j := 12) zbX1_init_2 rfl) (zby_at (j := 13) zbX1_init_2 rfl)
theorem dX1_init_46 : decode cX1_init 46 = .ok (.putfield 24, 3) := dq_181 (zby_at (j := 14) zbX1_init_2 rfl) (zby_at (j := 15) zbX1_init_2 rfl) (zby_at (j := 16) zbX1_init_2 rfl)
theorem zbX1_init_3 : zby cX1_init 48 20 = [24, 42, 17, 4, 0, 188, 10, 181, 0, 27, 42, 17, 4, 0, 188, 10, 181, 0, 30, 42] := by decide +kernel
theorem dX1_init_49 : decode cX1_init 49 = .ok (.aload_n 0, 1) := dq_42 (zby_at (j := 1) zbX1_init_3 rfl)
theorem dX1_init_50 : decode cX1_init 50 = .ok (.sipush 1024, 3) := dq_17 (zby_at (j := 2) zbX1_init_3 rfl) (zby_at (j := 3) zbX1_init_3 rfl) (zby_at (j := 4) zbX1_init_3 rfl) rfl
theorem dX1_init_53 : decode cX1_init 53 = .ok (.newarray .int, 2) := dq_188_10 (zby_at (j := 5) zbX1_init_3 rfl) (zby_at (j := 6) zbX1_init_3 rfl)
theorem dX1_init_55 : decode cX1_init 55 = .ok (.putfield 27, 3) := dq_181 (zby_at (j := 7) zbX1_init_3 rfl) (zby_at (j := 8) zbX1_init_3 rfl) (zby_at (j := 9) zbX1_init_3 rfl)
theorem dX1_init_58 : decode cX1_init 58 = .ok (.aload_n 0, 1) := dq_42 (zby_at (j := 10) zbX1_init_3 rfl)
theorem dX1_init_59 : decode cX1_init 59 = .ok (.sipush 1024, 3) := dq_17 (zby_at (j := 11) zbX1_init_3 rfl) (zby_at (j := 12) zbX1_init_3 rfl) (zby_at (j := 13) zbX1_init_3 rfl) rfl
theorem dX1_init_62 : decode cX1_init 62 = .ok (.newarray .int, 2) := dq_188_10 (zby_at (j := 14) zbX1_init_3 rfl) (zby_at (j := 15) zbX1_init_3 rfl)
theorem zbX1_init_4 : zby cX1_init 64 20 = [181, 0, 30, 42, 16, 10, 188, 10, 181, 0, 33, 42, 5, 181, 0, 36, 177] := by decide +kernel
theorem dX1_init_64 : decode cX1_init 64 = .ok (.putfield 30, 3) := dq_181 (zby_at (j := 0) zbX1_init_4 rfl) (zby_at (j := 1) zbX1_init_4 rfl) (zby_at (j := 2) zbX1_init_4 rfl)
theorem dX1_init_67 : decode cX1_init 67 = .ok (.aload_n 0, 1) := dq_42 (zby_at (j := 3) zbX1_init_4 rfl)
theorem dX1_init_68 : decode cX1_init 68 = .ok (.bipush 10, 2) := dq_16 (zby_at (j := 4) zbX1_init_4 rfl) (zby_at (j := 5) zbX1_init_4 rfl) rfl
theorem dX1_init_70 : decode cX1_init 70 = .ok (.newarray .int, 2) := dq_188_10 (zby_at (j := 6) zbX1_init_4 rfl) (zby_at (j := 7) zbX1_init_4 rfl)
theorem dX1_init_72 : decode cX1_init 72 = .ok (.putfield 33, 3) := dq_181 (zby_at (j := 8) zbX1_init_4 rfl) (zby_at (j := 9) zbX1_init_4 rfl) (zby_at (j := 10) zbX1_init_4 rfl)
theorem dX1_init_75 : decode cX1_init 75 = .ok (.aload_n 0, 1) := dq_42 (zby_at (j := 11) zbX1_init_4 rfl)
theorem dX1_init_76 : decode cX1_init 76 = .ok (.iconst 2, 1) := dq_5 (zby_at (j := 12) zbX1_init_4 rfl)
theorem dX1_init_77 : decode cX1_init 77 = .ok (.putfield 36, 3) := dq_181 (zby_at (j := 13) zbX1_init_4 rfl) (zby_at (j := 14) zbX1_init_4 rfl) (zby_at (j := 15) zbX1_init_4 rfl)
theorem zbX1_init_5 : zby cX1_init 80 20 = [177] := by decide +kernel
theorem dX1_init_80 : decode cX1_init 80 = .ok (.return_, 1) := dq_177 (zby_at (j := 0) zbX1_init_5 rfl)
theorem zbX1_tallyOf_0 : zby cX1_tallyOf 0 20 = [42, 182, 0, 40, 42, 43, 182, 0, 43, 42, 44, 43, 180, 0, 47, 182, 0, 52, 42, 180] := by decide +kernel
theorem dX1_tallyOf_0 : decode cX1_tallyOf 0 = .ok (.aload_n 0, 1) := dq_42 (zby_at (j := 0) zbX1_tallyOf_0 rfl)
theorem dX1_tallyOf_1 : decode cX1_tallyOf 1 = .ok (.invokevirtual 40, 3) := dq_182 (zby_at (j := 1) zbX1_tallyOf_0 rfl) (zby_at (j := 2) zbX1_tallyOf_0 rfl) (zby_at (j := 3) zbX1_tallyOf_0 rfl)
theorem dX1_tallyOf_4 : decode cX1_tallyOf 4 = .ok (.aload_n 0, 1) := dq_42 (zby_at (j := 4) zbX1_tallyOf_0 rfl)
theorem dX1_tallyOf_5 : decode cX1_tallyOf 5 = .ok (.aload_n 1, 1) := dq_43 (zby_at (j := 5) zbX1_tallyOf_0 rfl)
theorem dX1_tallyOf_6 : decode cX1_tallyOf 6 = .ok (.invokevirtual 43, 3) := dq_182 (zby_at (j := 6) zbX1_tallyOf_0 rfl) (zby_at (j := 7) zbX1_tallyOf_0 rfl) (zby_at (j := 8) zbX1_tallyOf_0 rfl)
theorem dX1_tallyOf_9 : decode cX1_tallyOf 9 = .ok (.aload_n 0, 1) := dq_42 (zby_at (j := 9) zbX1_tallyOf_0 rfl)
theorem dX1_tallyOf_10 : decode cX1_tallyOf 10 = .ok (.aload_n 2, 1) := dq_44 (zby_at (j := 10) zbX1_tallyOf_0 rfl)
theorem dX1_tallyOf_11 : decode cX1_tallyOf 11 = .ok (.aload_n 1, 1) := dq_43 (zby_at (j := 11) zbX1_tallyOf_0 rfl)
theorem dX1_tallyOf_12 : decode cX1_tallyOf 12 = .ok (.getfield 47, 3) := dq_180 (zby_at (j := 12) zbX1_tallyOf_0 rfl) (zby_at (j := 13) zbX1_tallyOf_0 rfl) (zby_at (j := 14) zbX1_tallyOf_0 rfl)
theorem dX1_tallyOf_15 : decode cX1_tallyOf 15 = .ok (.invokevirtual 52, 3) := dq_182 (zby_at (j := 15) zbX1_tallyOf_0 rfl) (zby_at (j := 16) zbX1_tallyOf_0 rfl) (zby_at (j := 17) zbX1_tallyOf_0 rfl)
theorem zbX1_tallyOf_1 : zby cX1_tallyOf 16 20 = [0, 52, 42, 180, 0, 36, 5, 100, 172] := by decide +kernel
theorem dX1_tallyOf_18 : decode cX1_tallyOf 18 = .ok (.aload_n 0, 1) := dq_42 (zby_at (j := 2) zbX1_tallyOf_1 rfl)
theorem dX1_tallyOf_19 : decode cX1_tallyOf 19 = .ok (.getfield 36, 3) := dq_180 (zby_at (j := 3) zbX1_tallyOf_1 rfl) (zby_at (j := 4) zbX1_tallyOf_1 rfl) (zby_at (j := 5) zbX1_tallyOf_1 rfl)
theorem dX1_tallyOf_22 : decode cX1_tallyOf 22 = .ok (.iconst 2, 1) := dq_5 (zby_at (j := 6) zbX1_tallyOf_1 rfl)
theorem dX1_tallyOf_23 : decode cX1_tallyOf 23 = .ok (.isub, 1) := dq_100 (zby_at (j := 7) zbX1_tallyOf_1 rfl)
theorem dX1_tallyOf_24 : decode cX1_tallyOf 24 = .ok (.ireturn, 1) := dq_172 (zby_at (j := 8) zbX1_tallyOf_1 rfl)
theorem zbX1_tallyOfAll_0 : zby cX1_tallyOfAll 0 20 = [42, 182, 0, 40, 42, 43, 182, 0, 43, 3, 61, 28, 16, 10, 162, 0, 32, 43, 28, 182] := by decide +kernel
theorem dX1_tallyOfAll_0 : decode cX1_tallyOfAll 0 = .ok (.aload_n 0, 1) := dq_42 (zby_at (j := 0) zbX1_tallyOfAll_0 rfl)
theorem dX1_tallyOfAll_1 : decode cX1_tallyOfAll 1 = .ok (.invokevirtual 40, 3) := dq_182 (zby_at (j := 1) zbX1_tallyOfAll_0 rfl) (zby_at (j := 2) zbX1_tallyOfAll_0 rfl) (zby_at (j := 3) zbX1_tallyOfAll_0 rfl)
theorem dX1_tallyOfAll_4 : decode cX1_tallyOfAll 4 = .ok (.aload_n 0, 1) := dq_42 (zby_at (j := 4) zbX1_tallyOfAll_0 rfl)
theorem dX1_tallyOfAll_5 : decode cX1_tallyOfAll 5 = .ok (.aload_n 1, 1) := dq_43 (zby_at (j := 5) zbX1_tallyOfAll_0 rfl)
theorem dX1_tallyOfAll_6 : decode cX1_tallyOfAll 6 = .ok (.invokevirtual 43, 3) := dq_182 (zby_at (j := 6) zbX1_tallyOfAll_0 rfl) (zby_at (j := 7) zbX1_tallyOfAll_0 rfl) (zby_at (j := 8) zbX1_tallyOfAll_0 rfl)
theorem dX1_tallyOfAll_9 : decode cX1_tallyOfAll 9 = .ok (.iconst 0, 1) := dq_3 (zby_at (j := 9) zbX1_tallyOfAll_0 rfl)
theorem dX1_tallyOfAll_10 : decode cX1_tallyOfAll 10 = .ok (.istore_n 2, 1) := dq_61 (zby_at (j := 10) zbX1_tallyOfAll_0 rfl)
theorem dX1_tallyOfAll_11 : decode cX1_tallyOfAll 11 = .ok (.iload_n 2, 1) := dq_28 (zby_at (j := 11) zbX1_tallyOfAll_0 rfl)
theorem dX1_tallyOfAll_12 : decode cX1_tallyOfAll 12 = .ok (.bipush 10, 2) := dq_16 (zby_at (j := 12) zbX1_tallyOfAll_0 rfl) (zby_at (j := 13) zbX1_tallyOfAll_0 rfl) rfl
theorem dX1_tallyOfAll_14 : decode cX1_tallyOfAll 14 = .ok (.if_icmp .ge 32, 3) := dq_162 (zby_at (j := 14) zbX1_tallyOfAll_0 rfl) (zby_at (j := 15) zbX1_tallyOfAll_0 rfl) (zby_at (j := 16) zbX1_tallyOfAll_0 rfl) rfl
theorem zbX1_tallyOfAll_1 : zby cX1_tallyOfAll 16 20 = [32, 43, 28, 182, 0, 56, 28, 160, 0, 17, 42, 43, 180, 0, 60, 28, 50, 43, 180, 0] := by decide +kernel
theorem dX1_tallyOfAll_17 : decode cX1_tallyOfAll 17 = .ok (.aload_n 1, 1) := dq_43 (zby_at (j := 1) zbX1_tallyOfAll_1 rfl)
theorem dX1_tallyOfAll_18 : decode cX1_tallyOfAll 18 = .ok (.iload_n 2, 1) := dq_28 (zby_at (j := 2) zbX1_tallyOfAll_1 rfl)
theorem dX1_tallyOfAll_19 : decode cX1_tallyOfAll 19 = .ok (.invokevirtual 56, 3) := dq_182 (zby_at (j := 3) zbX1_tallyOfAll_1 rfl) (zby_at (j := 4) zbX1_tallyOfAll_1 rfl) (zby_at (j := 5) zbX1_tallyOfAll_1 rfl)
theorem dX1_tallyOfAll_22 : decode cX1_tallyOfAll 22 = .ok (.iload_n 2, 1) := dq_28 (zby_at (j := 6) zbX1_tallyOfAll_1 rfl)
theorem dX1_tallyOfAll_23 : decode cX1_tallyOfAll 23 = .ok (.if_icmp .ne 17, 3) := dq_160 (zby_at (j := 7) zbX1_tallyOfAll_1 rfl) (zby_at (j := 8) zbX1_tallyOfAll_1 rfl) (zby_at (j := 9) zbX1_tallyOfAll_1 rfl) rfl
theorem dX1_tallyOfAll_26 : decode cX1_tallyOfAll 26 = .ok (.aload_n 0, 1) := dq_42 (zby_at (j := 10) zbX1_tallyOfAll_1 rfl)
theorem dX1_tallyOfAll_27 : decode cX1_tallyOfAll 27 = .ok (.aload_n 1, 1) := dq_43 (zby_at (j := 11) zbX1_tallyOfAll_1 rfl)
theorem dX1_tallyOfAll_28 : decode cX1_tallyOfAll 28 = .ok (.getfield 60, 3) := dq_180 (zby_at (j := 12) zbX1_tallyOfAll_1 rfl) (zby_at (j := 13) zbX1_tallyOfAll_1 rfl) (zby_at (j := 14) zbX1_tallyOfAll_1 rfl)
theorem dX1_tallyOfAll_31 : decode cX1_tallyOfAll 31 = .ok (.iload_n 2, 1) := dq_28 (zby_at (j := 15) zbX1_tallyOfAll_1 rfl)
theorem zbX1_tallyOfAll_2 : zby cX1_tallyOfAll 32 20 = [50, 43, 180, 0, 47, 182, 0, 52, 132, 2, 1, 167, 255, 224, 42, 180, 0, 36, 5, 100] := by decide +kernel
theorem dX1_tallyOfAll_32 : decode cX1_tallyOfAll 32 = .ok (.aaload, 1) := dq_50 (zby_at (j := 0) zbX1_tallyOfAll_2 rfl)
theorem dX1_tallyOfAll_33 : decode cX1_tallyOfAll 33 = .ok (.aload_n 1, 1) := dq_43 (zby_at (j := 1) zbX1_tallyOfAll_2 rfl)
theorem dX1_tallyOfAll_34 : decode cX1_tallyOfAll 34 = .ok (.getfield 47, 3) := dq_180 (zby_at (j := 2) zbX1_tallyOfAll_2 rfl) (zby_at (j := 3) zbX1_tallyOfAll_2 rfl) (zby_at (j := 4) zbX1_tallyOfAll_2 rfl)
theorem dX1_tallyOfAll_37 : decode cX1_tallyOfAll 37 = .ok (.invokevirtual 52, 3) := dq_182 (zby_at (j := 5) zbX1_tallyOfAll_2 rfl) (zby_at (j := 6) zbX1_tallyOfAll_2 rfl) (zby_at (j := 7) zbX1_tallyOfAll_2 rfl)
theorem dX1_tallyOfAll_40 : decode cX1_tallyOfAll 40 = .ok (.iinc 2 1, 3) := dq_132 (zby_at (j := 8) zbX1_tallyOfAll_2 rfl) (zby_at (j := 9) zbX1_tallyOfAll_2 rfl) (zby_at (j := 10) zbX1_tallyOfAll_2 rfl) rfl
theorem dX1_tallyOfAll_43 : decode cX1_tallyOfAll 43 = .ok (.goto (-32), 3) := dq_167 (zby_at (j := 11) zbX1_tallyOfAll_2 rfl) (zby_at (j := 12) zbX1_tallyOfAll_2 rfl) (zby_at (j := 13) zbX1_tallyOfAll_2 rfl) rfl
theorem dX1_tallyOfAll_46 : decode cX1_tallyOfAll 46 = .ok (.aload_n 0, 1) := dq_42 (zby_at (j := 14) zbX1_tallyOfAll_2 rfl)
theorem dX1_tallyOfAll_47 : decode cX1_tallyOfAll 47 = .ok (.getfield 36, 3) := dq_180 (zby_at (j := 15) zbX1_tallyOfAll_2 rfl) (zby_at (j := 16) zbX1_tallyOfAll_2 rfl) (zby_at (j := 17) zbX1_tallyOfAll_2 rfl)
theorem zbX1_tallyOfAll_3 : zby cX1_tallyOfAll 48 20 = [0, 36, 5, 100, 172] := by decide +kernel
theorem dX1_tallyOfAll_50 : decode cX1_tallyOfAll 50 = .ok (.iconst 2, 1) := dq_5 (zby_at (j := 2) zbX1_tallyOfAll_3 rfl)
theorem dX1_tallyOfAll_51 : decode cX1_tallyOfAll 51 = .ok (.isub, 1) := dq_100 (zby_at (j := 3) zbX1_tallyOfAll_3 rfl)
theorem dX1_tallyOfAll_52 : decode cX1_tallyOfAll 52 = .ok (.ireturn, 1) := dq_172 (zby_at (j := 4) zbX1_tallyOfAll_3 rfl)
theorem zbX1_tallyAt_0 : zby cX1_tallyAt 0 20 = [27, 155, 0, 18, 27, 16, 10, 162, 0, 12, 42, 180, 0, 33, 27, 46, 167, 0, 4, 3] := by decide +kernel
theorem dX1_tallyAt_0 : decode cX1_tallyAt 0 = .ok (.iload_n 1, 1) := dq_27 (zby_at (j := 0) zbX1_tallyAt_0 rfl)
theorem dX1_tallyAt_1 : decode cX1_tallyAt 1 = .ok (.ifCond .lt 18, 3) := dq_155 (zby_at (j := 1) zbX1_tallyAt_0 rfl) (zby_at (j := 2) zbX1_tallyAt_0 rfl) (zby_at (j := 3) zbX1_tallyAt_0 rfl) rfl
theorem dX1_tallyAt_4 : decode cX1_tallyAt 4 = .ok (.iload_n 1, 1) := dq_27 (zby_at (j := 4) zbX1_tallyAt_0 rfl)
theorem dX1_tallyAt_5 : decode cX1_tallyAt 5 = .ok (.bipush 10, 2) := dq_16 (zby_at (j := 5) zbX1_tallyAt_0 rfl) (zby_at (j := 6) zbX1_tallyAt_0 rfl) rfl
theorem dX1_tallyAt_7 : decode cX1_tallyAt 7 = .ok (.if_icmp .ge 12, 3) := dq_162 (zby_at (j := 7) zbX1_tallyAt_0 rfl) (zby_at (j := 8) zbX1_tallyAt_0 rfl) (zby_at (j := 9) zbX1_tallyAt_0 rfl) rfl
theorem dX1_tallyAt_10 : decode cX1_tallyAt 10 = .ok (.aload_n 0, 1) := dq_42 (zby_at (j := 10) zbX1_tallyAt_0 rfl)
theorem dX1_tallyAt_11 : decode cX1_tallyAt 11 = .ok (.getfield 33, 3) := dq_180 (zby_at (j := 11) zbX1_tallyAt_0 rfl) (zby_at (j := 12) zbX1_tallyAt_0 rfl) (zby_at (j := 13) zbX1_tallyAt_0 rfl)
theorem dX1_tallyAt_14 : decode cX1_tallyAt 14 = .ok (.iload_n 1, 1) := dq_27 (zby_at (j := 14) zbX1_tallyAt_0 rfl)
theorem dX1_tallyAt_15 : decode cX1_tallyAt 15 = .ok (.iaload, 1) := dq_46 (zby_at (j := 15) zbX1_tallyAt_0 rfl)
theorem zbX1_tallyAt_1 : zby cX1_tallyAt 16 20 = [167, 0, 4, 3, 172] := by decide +kernel
theorem dX1_tallyAt_16 : decode cX1_tallyAt 16 = .ok (.goto 4, 3) := dq_167 (zby_at (j := 0) zbX1_tallyAt_1 rfl) (zby_at (j := 1) zbX1_tallyAt_1 rfl) (zby_at (j := 2) zbX1_tallyAt_1 rfl) rfl
theorem dX1_tallyAt_19 : decode cX1_tallyAt 19 = .ok (.iconst 0, 1) := dq_3 (zby_at (j := 3) zbX1_tallyAt_1 rfl)
theorem dX1_tallyAt_20 : decode cX1_tallyAt 20 = .ok (.ireturn, 1) := dq_172 (zby_at (j := 4) zbX1_tallyAt_1 rfl)
theorem zbX1_reset_0 : zby cX1_reset 0 20 = [5, 60, 27, 42, 180, 0, 36, 162, 0, 36, 42, 180, 0, 11, 42, 180, 0, 18, 27, 46] := by decide +kernel
theorem dX1_reset_0 : decode cX1_reset 0 = .ok (.iconst 2, 1) := dq_5 (zby_at (j := 0) zbX1_reset_0 rfl)
theorem dX1_reset_1 : decode cX1_reset 1 = .ok (.istore_n 1, 1) := dq_60 (zby_at (j := 1) zbX1_reset_0 rfl)
theorem dX1_reset_2 : decode cX1_reset 2 = .ok (.iload_n 1, 1) := dq_27 (zby_at (j := 2) zbX1_reset_0 rfl)
theorem dX1_reset_3 : decode cX1_reset 3 = .ok (.aload_n 0, 1) := dq_42 (zby_at (j := 3) zbX1_reset_0 rfl)
theorem dX1_reset_4 : decode cX1_reset 4 = .ok (.getfield 36, 3) := dq_180 (zby_at (j := 4) zbX1_reset_0 rfl) (zby_at (j := 5) zbX1_reset_0 rfl) (zby_at (j := 6) zbX1_reset_0 rfl)
theorem dX1_reset_7 : decode cX1_reset 7 = .ok (.if_icmp .ge 36, 3) := dq_162 (zby_at (j := 7) zbX1_reset_0 rfl) (zby_at (j := 8) zbX1_reset_0 rfl) (zby_at (j := 9) zbX1_reset_0 rfl) rfl
theorem dX1_reset_10 : decode cX1_reset 10 = .ok (.aload_n 0, 1) := dq_42 (zby_at (j := 10) zbX1_reset_0 rfl)
theorem dX1_reset_11 : decode cX1_reset 11 = .ok (.getfield 11, 3) := dq_180 (zby_at (j := 11) zbX1_reset_0 rfl) (zby_at (j := 12) zbX1_reset_0 rfl) (zby_at (j := 13) zbX1_reset_0 rfl)
theorem dX1_reset_14 : decode cX1_reset 14 = .ok (.aload_n 0, 1) := dq_42 (zby_at (j := 14) zbX1_reset_0 rfl)
theorem dX1_reset_15 : decode cX1_reset 15 = .ok (.getfield 18, 3) := dq_180 (zby_at (j := 15) zbX1_reset_0 rfl) (zby_at (j := 16) zbX1_reset_0 rfl) (zby_at (j := 17) zbX1_reset_0 rfl)
theorem zbX1_reset_1 : zby cX1_reset 16 20 = [0, 18, 27, 46, 42, 180, 0, 21, 27, 46, 42, 180, 0, 24, 27, 46, 184, 0, 64, 3] := by decide +kernel
theorem dX1_reset_18 : decode cX1_reset 18 = .ok (.iload_n 1, 1) := dq_27 (zby_at (j := 2) zbX1_reset_1 rfl)
theorem dX1_reset_19 : decode cX1_reset 19 = .ok (.iaload, 1) := dq_46 (zby_at (j := 3) zbX1_reset_1 rfl)
theorem dX1_reset_20 : decode cX1_reset 20 = .ok (.aload_n 0, 1) := dq_42 (zby_at (j := 4) zbX1_reset_1 rfl)
theorem dX1_reset_21 : decode cX1_reset 21 = .ok (.getfield 21, 3) := dq_180 (zby_at (j := 5) zbX1_reset_1 rfl) (zby_at (j := 6) zbX1_reset_1 rfl) (zby_at (j := 7) zbX1_reset_1 rfl)
theorem dX1_reset_24 : decode cX1_reset 24 = .ok (.iload_n 1, 1) := dq_27 (zby_at (j := 8) zbX1_reset_1 rfl)
theorem dX1_reset_25 : decode cX1_reset 25 = .ok (.iaload, 1) := dq_46 (zby_at (j := 9) zbX1_reset_1 rfl)
theorem dX1_reset_26 : decode cX1_reset 26 = .ok (.aload_n 0, 1) := dq_42 (zby_at (j := 10) zbX1_reset_1 rfl)
theorem dX1_reset_27 : decode cX1_reset 27 = .ok (.getfield 24, 3) := dq_180 (zby_at (j := 11) zbX1_reset_1 rfl) (zby_at (j := 12) zbX1_reset_1 rfl) (zby_at (j := 13) zbX1_reset_1 rfl)
theorem dX1_reset_30 : decode cX1_reset 30 = .ok (.iload_n 1, 1) := dq_27 (zby_at (j := 14) zbX1_reset_1 rfl)
theorem dX1_reset_31 : decode cX1_reset 31 = .ok (.iaload, 1) := dq_46 (zby_at (j := 15) zbX1_reset_1 rfl)
theorem zbX1_reset_2 : zby cX1_reset 32 20 = [184, 0, 64, 3, 79, 132, 1, 1, 167, 255, 218, 42, 180, 0, 33, 3, 184, 0, 68, 42] := by decide +kernel
theorem dX1_reset_32 : decode cX1_reset 32 = .ok (.invokestatic 64, 3) := dq_184 (zby_at (j := 0) zbX1_reset_2 rfl) (zby_at (j := 1) zbX1_reset_2 rfl) (zby_at (j := 2) zbX1_reset_2 rfl)
theorem dX1_reset_35 : decode cX1_reset 35 = .ok (.iconst 0, 1) := dq_3 (zby_at (j := 3) zbX1_reset_2 rfl)
theorem dX1_reset_36 : decode cX1_reset 36 = .ok (.iastore, 1) := dq_79 (zby_at (j := 4) zbX1_reset_2 rfl)
theorem dX1_reset_37 : decode cX1_reset 37 = .ok (.iinc 1 1, 3) := dq_132 (zby_at (j := 5) zbX1_reset_2 rfl) (zby_at (j := 6) zbX1_reset_2 rfl) (zby_at (j := 7) zbX1_reset_2 rfl) rfl
theorem dX1_reset_40 : decode cX1_reset 40 = .ok (.goto (-38), 3) := dq_167 (zby_at (j := 8) zbX1_reset_2 rfl) (zby_at (j := 9) zbX1_reset_2 rfl) (zby_at (j := 10) zbX1_reset_2 rfl) rfl
theorem dX1_reset_43 : decode cX1_reset 43 = .ok (.aload_n 0, 1) := dq_42 (zby_at (j := 11) zbX1_reset_2 rfl)
theorem dX1_reset_44 : decode cX1_reset 44 = .ok (.getfield 33, 3) := dq_180 (zby_at (j := 12) zbX1_reset_2 rfl) (zby_at (j := 13) zbX1_reset_2 rfl) (zby_at (j := 14) zbX1_reset_2 rfl)
theorem dX1_reset_47 : decode cX1_reset 47 = .ok (.iconst 0, 1) := dq_3 (zby_at (j := 15) zbX1_reset_2 rfl)
theorem zbX1_reset_3 : zby cX1_reset 48 20 = [184, 0, 68, 42, 5, 181, 0, 36, 177] := by decide +kernel
theorem dX1_reset_48 : decode cX1_reset 48 = .ok (.invokestatic 68, 3) := dq_184 (zby_at (j := 0) zbX1_reset_3 rfl) (zby_at (j := 1) zbX1_reset_3 rfl) (zby_at (j := 2) zbX1_reset_3 rfl)
theorem dX1_reset_51 : decode cX1_reset 51 = .ok (.aload_n 0, 1) := dq_42 (zby_at (j := 3) zbX1_reset_3 rfl)
theorem dX1_reset_52 : decode cX1_reset 52 = .ok (.iconst 2, 1) := dq_5 (zby_at (j := 4) zbX1_reset_3 rfl)
theorem dX1_reset_53 : decode cX1_reset 53 = .ok (.putfield 36, 3) := dq_181 (zby_at (j := 5) zbX1_reset_3 rfl) (zby_at (j := 6) zbX1_reset_3 rfl) (zby_at (j := 7) zbX1_reset_3 rfl)
theorem dX1_reset_56 : decode cX1_reset 56 = .ok (.return_, 1) := dq_177 (zby_at (j := 8) zbX1_reset_3 rfl)
theorem zbX1_headOf_0 : zby cX1_headOf 0 20 = [28, 17, 2, 101, 104, 27, 16, 37, 104, 96, 26, 96, 17, 7, 255, 126, 172] := by decide +kernel
theorem dX1_headOf_0 : decode cX1_headOf 0 = .ok (.iload_n 2, 1) := dq_28 (zby_at (j := 0) zbX1_headOf_0 rfl)
theorem dX1_headOf_1 : decode cX1_headOf 1 = .ok (.sipush 613, 3) := dq_17 (zby_at (j := 1) zbX1_headOf_0 rfl) (zby_at (j := 2) zbX1_headOf_0 rfl) (zby_at (j := 3) zbX1_headOf_0 rfl) rfl
theorem dX1_headOf_4 : decode cX1_headOf 4 = .ok (.imul, 1) := dq_104 (zby_at (j := 4) zbX1_headOf_0 rfl)
theorem dX1_headOf_5 : decode cX1_headOf 5 = .ok (.iload_n 1, 1) := dq_27 (zby_at (j := 5) zbX1_headOf_0 rfl)
theorem dX1_headOf_6 : decode cX1_headOf 6 = .ok (.bipush 37, 2) := dq_16 (zby_at (j := 6) zbX1_headOf_0 rfl) (zby_at (j := 7) zbX1_headOf_0 rfl) rfl
theorem dX1_headOf_8 : decode cX1_headOf 8 = .ok (.imul, 1) := dq_104 (zby_at (j := 8) zbX1_headOf_0 rfl)
theorem dX1_headOf_9 : decode cX1_headOf 9 = .ok (.iadd, 1) := dq_96 (zby_at (j := 9) zbX1_headOf_0 rfl)
theorem dX1_headOf_10 : decode cX1_headOf 10 = .ok (.iload_n 0, 1) := dq_26 (zby_at (j := 10) zbX1_headOf_0 rfl)
theorem dX1_headOf_11 : decode cX1_headOf 11 = .ok (.iadd, 1) := dq_96 (zby_at (j := 11) zbX1_headOf_0 rfl)
theorem dX1_headOf_12 : decode cX1_headOf 12 = .ok (.sipush 2047, 3) := dq_17 (zby_at (j := 12) zbX1_headOf_0 rfl) (zby_at (j := 13) zbX1_headOf_0 rfl) (zby_at (j := 14) zbX1_headOf_0 rfl) rfl
theorem dX1_headOf_15 : decode cX1_headOf 15 = .ok (.iand, 1) := dq_126 (zby_at (j := 15) zbX1_headOf_0 rfl)
theorem zbX1_headOf_1 : zby cX1_headOf 16 20 = [172] := by decide +kernel
theorem dX1_headOf_16 : decode cX1_headOf 16 = .ok (.ireturn, 1) := dq_172 (zby_at (j := 0) zbX1_headOf_1 rfl)
theorem zbX1_spread_0 : zby cX1_spread 0 20 = [42, 180, 0, 27, 3, 3, 79, 3, 61, 28, 43, 180, 0, 47, 162, 0, 70, 28, 16, 10] := by decide +kernel
theorem dX1_spread_0 : decode cX1_spread 0 = .ok (.aload_n 0, 1) := dq_42 (zby_at (j := 0) zbX1_spread_0 rfl)
theorem dX1_spread_1 : decode cX1_spread 1 = .ok (.getfield 27, 3) := dq_180 (zby_at (j := 1) zbX1_spread_0 rfl) (zby_at (j := 2) zbX1_spread_0 rfl) (zby_at (j := 3) zbX1_spread_0 rfl)
theorem dX1_spread_4 : decode cX1_spread 4 = .ok (.iconst 0, 1) := dq_3 (zby_at (j := 4) zbX1_spread_0 rfl)
theorem dX1_spread_5 : decode cX1_spread 5 = .ok (.iconst 0, 1) := dq_3 (zby_at (j := 5) zbX1_spread_0 rfl)
theorem dX1_spread_6 : decode cX1_spread 6 = .ok (.iastore, 1) := dq_79 (zby_at (j := 6) zbX1_spread_0 rfl)
theorem dX1_spread_7 : decode cX1_spread 7 = .ok (.iconst 0, 1) := dq_3 (zby_at (j := 7) zbX1_spread_0 rfl)
theorem dX1_spread_8 : decode cX1_spread 8 = .ok (.istore_n 2, 1) := dq_61 (zby_at (j := 8) zbX1_spread_0 rfl)
theorem dX1_spread_9 : decode cX1_spread 9 = .ok (.iload_n 2, 1) := dq_28 (zby_at (j := 9) zbX1_spread_0 rfl)
theorem dX1_spread_10 : decode cX1_spread 10 = .ok (.aload_n 1, 1) := dq_43 (zby_at (j := 10) zbX1_spread_0 rfl)
theorem dX1_spread_11 : decode cX1_spread 11 = .ok (.getfield 47, 3) := dq_180 (zby_at (j := 11) zbX1_spread_0 rfl) (zby_at (j := 12) zbX1_spread_0 rfl) (zby_at (j := 13) zbX1_spread_0 rfl)
theorem dX1_spread_14 : decode cX1_spread 14 = .ok (.if_icmp .ge 70, 3) := dq_162 (zby_at (j := 14) zbX1_spread_0 rfl) (zby_at (j := 15) zbX1_spread_0 rfl) (zby_at (j := 16) zbX1_spread_0 rfl) rfl
theorem zbX1_spread_1 : zby cX1_spread 16 20 = [70, 28, 16, 10, 162, 0, 64, 4, 28, 120, 62, 4, 43, 180, 0, 74, 43, 180, 0, 47] := by decide +kernel
theorem dX1_spread_17 : decode cX1_spread 17 = .ok (.iload_n 2, 1) := dq_28 (zby_at (j := 1) zbX1_spread_1 rfl)
theorem dX1_spread_18 : decode cX1_spread 18 = .ok (.bipush 10, 2) := dq_16 (zby_at (j := 2) zbX1_spread_1 rfl) (zby_at (j := 3) zbX1_spread_1 rfl) rfl
theorem dX1_spread_20 : decode cX1_spread 20 = .ok (.if_icmp .ge 64, 3) := dq_162 (zby_at (j := 4) zbX1_spread_1 rfl) (zby_at (j := 5) zbX1_spread_1 rfl) (zby_at (j := 6) zbX1_spread_1 rfl) rfl
theorem dX1_spread_23 : decode cX1_spread 23 = .ok (.iconst 1, 1) := dq_4 (zby_at (j := 7) zbX1_spread_1 rfl)
theorem dX1_spread_24 : decode cX1_spread 24 = .ok (.iload_n 2, 1) := dq_28 (zby_at (j := 8) zbX1_spread_1 rfl)
theorem dX1_spread_25 : decode cX1_spread 25 = .ok (.ishl, 1) := dq_120 (zby_at (j := 9) zbX1_spread_1 rfl)
theorem dX1_spread_26 : decode cX1_spread 26 = .ok (.istore_n 3, 1) := dq_62 (zby_at (j := 10) zbX1_spread_1 rfl)
theorem dX1_spread_27 : decode cX1_spread 27 = .ok (.iconst 1, 1) := dq_4 (zby_at (j := 11) zbX1_spread_1 rfl)
theorem dX1_spread_28 : decode cX1_spread 28 = .ok (.aload_n 1, 1) := dq_43 (zby_at (j := 12) zbX1_spread_1 rfl)
theorem dX1_spread_29 : decode cX1_spread 29 = .ok (.getfield 74, 3) := dq_180 (zby_at (j := 13) zbX1_spread_1 rfl) (zby_at (j := 14) zbX1_spread_1 rfl) (zby_at (j := 15) zbX1_spread_1 rfl)
theorem zbX1_spread_2 : zby cX1_spread 32 20 = [43, 180, 0, 47, 4, 100, 28, 100, 46, 120, 54, 4, 3, 54, 5, 21, 5, 29, 162, 0] := by decide +kernel
theorem dX1_spread_32 : decode cX1_spread 32 = .ok (.aload_n 1, 1) := dq_43 (zby_at (j := 0) zbX1_spread_2 rfl)
theorem dX1_spread_33 : decode cX1_spread 33 = .ok (.getfield 47, 3) := dq_180 (zby_at (j := 1) zbX1_spread_2 rfl) (zby_at (j := 2) zbX1_spread_2 rfl) (zby_at (j := 3) zbX1_spread_2 rfl)
theorem dX1_spread_36 : decode cX1_spread 36 = .ok (.iconst 1, 1) := dq_4 (zby_at (j := 4) zbX1_spread_2 rfl)
theorem dX1_spread_37 : decode cX1_spread 37 = .ok (.isub, 1) := dq_100 (zby_at (j := 5) zbX1_spread_2 rfl)
theorem dX1_spread_38 : decode cX1_spread 38 = .ok (.iload_n 2, 1) := dq_28 (zby_at (j := 6) zbX1_spread_2 rfl)
theorem dX1_spread_39 : decode cX1_spread 39 = .ok (.isub, 1) := dq_100 (zby_at (j := 7) zbX1_spread_2 rfl)
theorem dX1_spread_40 : decode cX1_spread 40 = .ok (.iaload, 1) := dq_46 (zby_at (j := 8) zbX1_spread_2 rfl)
theorem dX1_spread_41 : decode cX1_spread 41 = .ok (.ishl, 1) := dq_120 (zby_at (j := 9) zbX1_spread_2 rfl)
theorem dX1_spread_42 : decode cX1_spread 42 = .ok (.istore 4, 2) := dq_54 (zby_at (j := 10) zbX1_spread_2 rfl) (zby_at (j := 11) zbX1_spread_2 rfl)
theorem dX1_spread_44 : decode cX1_spread 44 = .ok (.iconst 0, 1) := dq_3 (zby_at (j := 12) zbX1_spread_2 rfl)
theorem dX1_spread_45 : decode cX1_spread 45 = .ok (.istore 5, 2) := dq_54 (zby_at (j := 13) zbX1_spread_2 rfl) (zby_at (j := 14) zbX1_spread_2 rfl)
theorem dX1_spread_47 : decode cX1_spread 47 = .ok (.iload 5, 2) := dq_21 (zby_at (j := 15) zbX1_spread_2 rfl) (zby_at (j := 16) zbX1_spread_2 rfl)
theorem zbX1_spread_3 : zby cX1_spread 48 20 = [5, 29, 162, 0, 28, 42, 180, 0, 27, 29, 21, 5, 96, 42, 180, 0, 27, 21, 5, 46] := by decide +kernel
theorem dX1_spread_49 : decode cX1_spread 49 = .ok (.iload_n 3, 1) := dq_29 (zby_at (j := 1) zbX1_spread_3 rfl)
theorem dX1_spread_50 : decode cX1_spread 50 = .ok (.if_icmp .ge 28, 3) := dq_162 (zby_at (j := 2) zbX1_spread_3 rfl) (zby_at (j := 3) zbX1_spread_3 rfl) (zby_at (j := 4) zbX1_spread_3 rfl) rfl
theorem dX1_spread_53 : decode cX1_spread 53 = .ok (.aload_n 0, 1) := dq_42 (zby_at (j := 5) zbX1_spread_3 rfl)
theorem dX1_spread_54 : decode cX1_spread 54 = .ok (.getfield 27, 3) := dq_180 (zby_at (j := 6) zbX1_spread_3 rfl) (zby_at (j := 7) zbX1_spread_3 rfl) (zby_at (j := 8) zbX1_spread_3 rfl)
theorem dX1_spread_57 : decode cX1_spread 57 = .ok (.iload_n 3, 1) := dq_29 (zby_at (j := 9) zbX1_spread_3 rfl)
theorem dX1_spread_58 : decode cX1_spread 58 = .ok (.iload 5, 2) := dq_21 (zby_at (j := 10) zbX1_spread_3 rfl) (zby_at (j := 11) zbX1_spread_3 rfl)
theorem dX1_spread_60 : decode cX1_spread 60 = .ok (.iadd, 1) := dq_96 (zby_at (j := 12) zbX1_spread_3 rfl)
theorem dX1_spread_61 : decode cX1_spread 61 = .ok (.aload_n 0, 1) := dq_42 (zby_at (j := 13) zbX1_spread_3 rfl)
theorem dX1_spread_62 : decode cX1_spread 62 = .ok (.getfield 27, 3) := dq_180 (zby_at (j := 14) zbX1_spread_3 rfl) (zby_at (j := 15) zbX1_spread_3 rfl) (zby_at (j := 16) zbX1_spread_3 rfl)
theorem zbX1_spread_4 : zby cX1_spread 64 20 = [27, 21, 5, 46, 21, 4, 128, 79, 132, 5, 1, 167, 255, 228, 132, 2, 1, 167, 255, 184] := by decide +kernel
theorem dX1_spread_65 : decode cX1_spread 65 = .ok (.iload 5, 2) := dq_21 (zby_at (j := 1) zbX1_spread_4 rfl) (zby_at (j := 2) zbX1_spread_4 rfl)
theorem dX1_spread_67 : decode cX1_spread 67 = .ok (.iaload, 1) := dq_46 (zby_at (j := 3) zbX1_spread_4 rfl)
theorem dX1_spread_68 : decode cX1_spread 68 = .ok (.iload 4, 2) := dq_21 (zby_at (j := 4) zbX1_spread_4 rfl) (zby_at (j := 5) zbX1_spread_4 rfl)
theorem dX1_spread_70 : decode cX1_spread 70 = .ok (.ior, 1) := dq_128 (zby_at (j := 6) zbX1_spread_4 rfl)
theorem dX1_spread_71 : decode cX1_spread 71 = .ok (.iastore, 1) := dq_79 (zby_at (j := 7) zbX1_spread_4 rfl)
theorem dX1_spread_72 : decode cX1_spread 72 = .ok (.iinc 5 1, 3) := dq_132 (zby_at (j := 8) zbX1_spread_4 rfl) (zby_at (j := 9) zbX1_spread_4 rfl) (zby_at (j := 10) zbX1_spread_4 rfl) rfl
theorem dX1_spread_75 : decode cX1_spread 75 = .ok (.goto (-28), 3) := dq_167 (zby_at (j := 11) zbX1_spread_4 rfl) (zby_at (j := 12) zbX1_spread_4 rfl) (zby_at (j := 13) zbX1_spread_4 rfl) rfl
theorem dX1_spread_78 : decode cX1_spread 78 = .ok (.iinc 2 1, 3) := dq_132 (zby_at (j := 14) zbX1_spread_4 rfl) (zby_at (j := 15) zbX1_spread_4 rfl) (zby_at (j := 16) zbX1_spread_4 rfl) rfl
theorem zbX1_spread_5 : zby cX1_spread 80 20 = [1, 167, 255, 184, 177] := by decide +kernel
theorem dX1_spread_81 : decode cX1_spread 81 = .ok (.goto (-72), 3) := dq_167 (zby_at (j := 1) zbX1_spread_5 rfl) (zby_at (j := 2) zbX1_spread_5 rfl) (zby_at (j := 3) zbX1_spread_5 rfl) rfl
theorem dX1_spread_84 : decode cX1_spread 84 = .ok (.return_, 1) := dq_177 (zby_at (j := 4) zbX1_spread_5 rfl)
theorem zbX1_grow_0 : zby cX1_grow 0 20 = [4, 3, 16, 10, 28, 184, 0, 77, 184, 0, 83, 120, 62, 3, 54, 4, 21, 4, 29, 162] := by decide +kernel
theorem dX1_grow_0 : decode cX1_grow 0 = .ok (.iconst 1, 1) := dq_4 (zby_at (j := 0) zbX1_grow_0 rfl)
theorem dX1_grow_1 : decode cX1_grow 1 = .ok (.iconst 0, 1) := dq_3 (zby_at (j := 1) zbX1_grow_0 rfl)
theorem dX1_grow_2 : decode cX1_grow 2 = .ok (.bipush 10, 2) := dq_16 (zby_at (j := 2) zbX1_grow_0 rfl) (zby_at (j := 3) zbX1_grow_0 rfl) rfl
theorem dX1_grow_4 : decode cX1_grow 4 = .ok (.iload_n 2, 1) := dq_28 (zby_at (j := 4) zbX1_grow_0 rfl)
theorem dX1_grow_5 : decode cX1_grow 5 = .ok (.invokestatic 77, 3) := dq_184 (zby_at (j := 5) zbX1_grow_0 rfl) (zby_at (j := 6) zbX1_grow_0 rfl) (zby_at (j := 7) zbX1_grow_0 rfl)
theorem dX1_grow_8 : decode cX1_grow 8 = .ok (.invokestatic 83, 3) := dq_184 (zby_at (j := 8) zbX1_grow_0 rfl) (zby_at (j := 9) zbX1_grow_0 rfl) (zby_at (j := 10) zbX1_grow_0 rfl)
theorem dX1_grow_11 : decode cX1_grow 11 = .ok (.ishl, 1) := dq_120 (zby_at (j := 11) zbX1_grow_0 rfl)
theorem dX1_grow_12 : decode cX1_grow 12 = .ok (.istore_n 3, 1) := dq_62 (zby_at (j := 12) zbX1_grow_0 rfl)
theorem dX1_grow_13 : decode cX1_grow 13 = .ok (.iconst 0, 1) := dq_3 (zby_at (j := 13) zbX1_grow_0 rfl)
theorem dX1_grow_14 : decode cX1_grow 14 = .ok (.istore 4, 2) := dq_54 (zby_at (j := 14) zbX1_grow_0 rfl) (zby_at (j := 15) zbX1_grow_0 rfl)
theorem zbX1_grow_1 : zby cX1_grow 16 20 = [21, 4, 29, 162, 0, 35, 42, 180, 0, 30, 21, 4, 43, 42, 180, 0, 27, 21, 4, 46] := by decide +kernel
theorem dX1_grow_16 : decode cX1_grow 16 = .ok (.iload 4, 2) := dq_21 (zby_at (j := 0) zbX1_grow_1 rfl) (zby_at (j := 1) zbX1_grow_1 rfl)
theorem dX1_grow_18 : decode cX1_grow 18 = .ok (.iload_n 3, 1) := dq_29 (zby_at (j := 2) zbX1_grow_1 rfl)
theorem dX1_grow_19 : decode cX1_grow 19 = .ok (.if_icmp .ge 35, 3) := dq_162 (zby_at (j := 3) zbX1_grow_1 rfl) (zby_at (j := 4) zbX1_grow_1 rfl) (zby_at (j := 5) zbX1_grow_1 rfl) rfl
theorem dX1_grow_22 : decode cX1_grow 22 = .ok (.aload_n 0, 1) := dq_42 (zby_at (j := 6) zbX1_grow_1 rfl)
theorem dX1_grow_23 : decode cX1_grow 23 = .ok (.getfield 30, 3) := dq_180 (zby_at (j := 7) zbX1_grow_1 rfl) (zby_at (j := 8) zbX1_grow_1 rfl) (zby_at (j := 9) zbX1_grow_1 rfl)
theorem dX1_grow_26 : decode cX1_grow 26 = .ok (.iload 4, 2) := dq_21 (zby_at (j := 10) zbX1_grow_1 rfl) (zby_at (j := 11) zbX1_grow_1 rfl)
theorem dX1_grow_28 : decode cX1_grow 28 = .ok (.aload_n 1, 1) := dq_43 (zby_at (j := 12) zbX1_grow_1 rfl)
theorem dX1_grow_29 : decode cX1_grow 29 = .ok (.aload_n 0, 1) := dq_42 (zby_at (j := 13) zbX1_grow_1 rfl)
theorem dX1_grow_30 : decode cX1_grow 30 = .ok (.getfield 27, 3) := dq_180 (zby_at (j := 14) zbX1_grow_1 rfl) (zby_at (j := 15) zbX1_grow_1 rfl) (zby_at (j := 16) zbX1_grow_1 rfl)
theorem zbX1_grow_2 : zby cX1_grow 32 20 = [27, 21, 4, 46, 182, 0, 86, 153, 0, 7, 4, 167, 0, 4, 3, 79, 132, 4, 1, 167] := by decide +kernel
theorem dX1_grow_33 : decode cX1_grow 33 = .ok (.iload 4, 2) := dq_21 (zby_at (j := 1) zbX1_grow_2 rfl) (zby_at (j := 2) zbX1_grow_2 rfl)
theorem dX1_grow_35 : decode cX1_grow 35 = .ok (.iaload, 1) := dq_46 (zby_at (j := 3) zbX1_grow_2 rfl)
theorem dX1_grow_36 : decode cX1_grow 36 = .ok (.invokevirtual 86, 3) := dq_182 (zby_at (j := 4) zbX1_grow_2 rfl) (zby_at (j := 5) zbX1_grow_2 rfl) (zby_at (j := 6) zbX1_grow_2 rfl)
theorem dX1_grow_39 : decode cX1_grow 39 = .ok (.ifCond .eq 7, 3) := dq_153 (zby_at (j := 7) zbX1_grow_2 rfl) (zby_at (j := 8) zbX1_grow_2 rfl) (zby_at (j := 9) zbX1_grow_2 rfl) rfl
theorem dX1_grow_42 : decode cX1_grow 42 = .ok (.iconst 1, 1) := dq_4 (zby_at (j := 10) zbX1_grow_2 rfl)
theorem dX1_grow_43 : decode cX1_grow 43 = .ok (.goto 4, 3) := dq_167 (zby_at (j := 11) zbX1_grow_2 rfl) (zby_at (j := 12) zbX1_grow_2 rfl) (zby_at (j := 13) zbX1_grow_2 rfl) rfl
theorem dX1_grow_46 : decode cX1_grow 46 = .ok (.iconst 0, 1) := dq_3 (zby_at (j := 14) zbX1_grow_2 rfl)
theorem dX1_grow_47 : decode cX1_grow 47 = .ok (.iastore, 1) := dq_79 (zby_at (j := 15) zbX1_grow_2 rfl)
theorem zbX1_grow_3 : zby cX1_grow 48 20 = [132, 4, 1, 167, 255, 221, 16, 10, 28, 184, 0, 77, 4, 100, 54, 4, 21, 4, 155, 0] := by decide +kernel
theorem dX1_grow_48 : decode cX1_grow 48 = .ok (.iinc 4 1, 3) := dq_132 (zby_at (j := 0) zbX1_grow_3 rfl) (zby_at (j := 1) zbX1_grow_3 rfl) (zby_at (j := 2) zbX1_grow_3 rfl) rfl
theorem dX1_grow_51 : decode cX1_grow 51 = .ok (.goto (-35), 3) := dq_167 (zby_at (j := 3) zbX1_grow_3 rfl) (zby_at (j := 4) zbX1_grow_3 rfl) (zby_at (j := 5) zbX1_grow_3 rfl) rfl
theorem dX1_grow_54 : decode cX1_grow 54 = .ok (.bipush 10, 2) := dq_16 (zby_at (j := 6) zbX1_grow_3 rfl) (zby_at (j := 7) zbX1_grow_3 rfl) rfl
theorem dX1_grow_56 : decode cX1_grow 56 = .ok (.iload_n 2, 1) := dq_28 (zby_at (j := 8) zbX1_grow_3 rfl)
theorem dX1_grow_57 : decode cX1_grow 57 = .ok (.invokestatic 77, 3) := dq_184 (zby_at (j := 9) zbX1_grow_3 rfl) (zby_at (j := 10) zbX1_grow_3 rfl) (zby_at (j := 11) zbX1_grow_3 rfl)
theorem dX1_grow_60 : decode cX1_grow 60 = .ok (.iconst 1, 1) := dq_4 (zby_at (j := 12) zbX1_grow_3 rfl)
theorem dX1_grow_61 : decode cX1_grow 61 = .ok (.isub, 1) := dq_100 (zby_at (j := 13) zbX1_grow_3 rfl)
theorem dX1_grow_62 : decode cX1_grow 62 = .ok (.istore 4, 2) := dq_54 (zby_at (j := 14) zbX1_grow_3 rfl) (zby_at (j := 15) zbX1_grow_3 rfl)
theorem zbX1_grow_4 : zby cX1_grow 64 20 = [21, 4, 155, 0, 81, 3, 54, 5, 21, 5, 4, 21, 4, 120, 162, 0, 63, 42, 180, 0] := by decide +kernel
theorem dX1_grow_64 : decode cX1_grow 64 = .ok (.iload 4, 2) := dq_21 (zby_at (j := 0) zbX1_grow_4 rfl) (zby_at (j := 1) zbX1_grow_4 rfl)
theorem dX1_grow_66 : decode cX1_grow 66 = .ok (.ifCond .lt 81, 3) := dq_155 (zby_at (j := 2) zbX1_grow_4 rfl) (zby_at (j := 3) zbX1_grow_4 rfl) (zby_at (j := 4) zbX1_grow_4 rfl) rfl
theorem dX1_grow_69 : decode cX1_grow 69 = .ok (.iconst 0, 1) := dq_3 (zby_at (j := 5) zbX1_grow_4 rfl)
theorem dX1_grow_70 : decode cX1_grow 70 = .ok (.istore 5, 2) := dq_54 (zby_at (j := 6) zbX1_grow_4 rfl) (zby_at (j := 7) zbX1_grow_4 rfl)
theorem dX1_grow_72 : decode cX1_grow 72 = .ok (.iload 5, 2) := dq_21 (zby_at (j := 8) zbX1_grow_4 rfl) (zby_at (j := 9) zbX1_grow_4 rfl)
theorem dX1_grow_74 : decode cX1_grow 74 = .ok (.iconst 1, 1) := dq_4 (zby_at (j := 10) zbX1_grow_4 rfl)
theorem dX1_grow_75 : decode cX1_grow 75 = .ok (.iload 4, 2) := dq_21 (zby_at (j := 11) zbX1_grow_4 rfl) (zby_at (j := 12) zbX1_grow_4 rfl)
theorem dX1_grow_77 : decode cX1_grow 77 = .ok (.ishl, 1) := dq_120 (zby_at (j := 13) zbX1_grow_4 rfl)
theorem dX1_grow_78 : decode cX1_grow 78 = .ok (.if_icmp .ge 63, 3) := dq_162 (zby_at (j := 14) zbX1_grow_4 rfl) (zby_at (j := 15) zbX1_grow_4 rfl) (zby_at (j := 16) zbX1_grow_4 rfl) rfl
theorem zbX1_grow_5 : zby cX1_grow 80 20 = [63, 42, 180, 0, 30, 5, 21, 5, 104, 4, 96, 46, 54, 6, 42, 180, 0, 30, 21, 5] := by decide +kernel
theorem dX1_grow_81 : decode cX1_grow 81 = .ok (.aload_n 0, 1) := dq_42 (zby_at (j := 1) zbX1_grow_5 rfl)
theorem dX1_grow_82 : decode cX1_grow 82 = .ok (.getfield 30, 3) := dq_180 (zby_at (j := 2) zbX1_grow_5 rfl) (zby_at (j := 3) zbX1_grow_5 rfl) (zby_at (j := 4) zbX1_grow_5 rfl)
theorem dX1_grow_85 : decode cX1_grow 85 = .ok (.iconst 2, 1) := dq_5 (zby_at (j := 5) zbX1_grow_5 rfl)
theorem dX1_grow_86 : decode cX1_grow 86 = .ok (.iload 5, 2) := dq_21 (zby_at (j := 6) zbX1_grow_5 rfl) (zby_at (j := 7) zbX1_grow_5 rfl)
theorem dX1_grow_88 : decode cX1_grow 88 = .ok (.imul, 1) := dq_104 (zby_at (j := 8) zbX1_grow_5 rfl)
theorem dX1_grow_89 : decode cX1_grow 89 = .ok (.iconst 1, 1) := dq_4 (zby_at (j := 9) zbX1_grow_5 rfl)
theorem dX1_grow_90 : decode cX1_grow 90 = .ok (.iadd, 1) := dq_96 (zby_at (j := 10) zbX1_grow_5 rfl)
theorem dX1_grow_91 : decode cX1_grow 91 = .ok (.iaload, 1) := dq_46 (zby_at (j := 11) zbX1_grow_5 rfl)
theorem dX1_grow_92 : decode cX1_grow 92 = .ok (.istore 6, 2) := dq_54 (zby_at (j := 12) zbX1_grow_5 rfl) (zby_at (j := 13) zbX1_grow_5 rfl)
theorem dX1_grow_94 : decode cX1_grow 94 = .ok (.aload_n 0, 1) := dq_42 (zby_at (j := 14) zbX1_grow_5 rfl)
theorem dX1_grow_95 : decode cX1_grow 95 = .ok (.getfield 30, 3) := dq_180 (zby_at (j := 15) zbX1_grow_5 rfl) (zby_at (j := 16) zbX1_grow_5 rfl) (zby_at (j := 17) zbX1_grow_5 rfl)
theorem zbX1_grow_6 : zby cX1_grow 96 20 = [0, 30, 21, 5, 21, 6, 154, 0, 15, 42, 180, 0, 30, 5, 21, 5, 104, 46, 167, 0] := by decide +kernel
theorem dX1_grow_98 : decode cX1_grow 98 = .ok (.iload 5, 2) := dq_21 (zby_at (j := 2) zbX1_grow_6 rfl) (zby_at (j := 3) zbX1_grow_6 rfl)
theorem dX1_grow_100 : decode cX1_grow 100 = .ok (.iload 6, 2) := dq_21 (zby_at (j := 4) zbX1_grow_6 rfl) (zby_at (j := 5) zbX1_grow_6 rfl)
theorem dX1_grow_102 : decode cX1_grow 102 = .ok (.ifCond .ne 15, 3) := dq_154 (zby_at (j := 6) zbX1_grow_6 rfl) (zby_at (j := 7) zbX1_grow_6 rfl) (zby_at (j := 8) zbX1_grow_6 rfl) rfl
theorem dX1_grow_105 : decode cX1_grow 105 = .ok (.aload_n 0, 1) := dq_42 (zby_at (j := 9) zbX1_grow_6 rfl)
theorem dX1_grow_106 : decode cX1_grow 106 = .ok (.getfield 30, 3) := dq_180 (zby_at (j := 10) zbX1_grow_6 rfl) (zby_at (j := 11) zbX1_grow_6 rfl) (zby_at (j := 12) zbX1_grow_6 rfl)
theorem dX1_grow_109 : decode cX1_grow 109 = .ok (.iconst 2, 1) := dq_5 (zby_at (j := 13) zbX1_grow_6 rfl)
theorem dX1_grow_110 : decode cX1_grow 110 = .ok (.iload 5, 2) := dq_21 (zby_at (j := 14) zbX1_grow_6 rfl) (zby_at (j := 15) zbX1_grow_6 rfl)
theorem zbX1_grow_7 : zby cX1_grow 112 20 = [104, 46, 167, 0, 20, 42, 21, 4, 42, 180, 0, 30, 5, 21, 5, 104, 46, 21, 6, 182] := by decide +kernel
theorem dX1_grow_112 : decode cX1_grow 112 = .ok (.imul, 1) := dq_104 (zby_at (j := 0) zbX1_grow_7 rfl)
theorem dX1_grow_113 : decode cX1_grow 113 = .ok (.iaload, 1) := dq_46 (zby_at (j := 1) zbX1_grow_7 rfl)
theorem dX1_grow_114 : decode cX1_grow 114 = .ok (.goto 20, 3) := dq_167 (zby_at (j := 2) zbX1_grow_7 rfl) (zby_at (j := 3) zbX1_grow_7 rfl) (zby_at (j := 4) zbX1_grow_7 rfl) rfl
theorem dX1_grow_117 : decode cX1_grow 117 = .ok (.aload_n 0, 1) := dq_42 (zby_at (j := 5) zbX1_grow_7 rfl)
theorem dX1_grow_118 : decode cX1_grow 118 = .ok (.iload 4, 2) := dq_21 (zby_at (j := 6) zbX1_grow_7 rfl) (zby_at (j := 7) zbX1_grow_7 rfl)
theorem dX1_grow_120 : decode cX1_grow 120 = .ok (.aload_n 0, 1) := dq_42 (zby_at (j := 8) zbX1_grow_7 rfl)
theorem dX1_grow_121 : decode cX1_grow 121 = .ok (.getfield 30, 3) := dq_180 (zby_at (j := 9) zbX1_grow_7 rfl) (zby_at (j := 10) zbX1_grow_7 rfl) (zby_at (j := 11) zbX1_grow_7 rfl)
theorem dX1_grow_124 : decode cX1_grow 124 = .ok (.iconst 2, 1) := dq_5 (zby_at (j := 12) zbX1_grow_7 rfl)
theorem dX1_grow_125 : decode cX1_grow 125 = .ok (.iload 5, 2) := dq_21 (zby_at (j := 13) zbX1_grow_7 rfl) (zby_at (j := 14) zbX1_grow_7 rfl)
theorem dX1_grow_127 : decode cX1_grow 127 = .ok (.imul, 1) := dq_104 (zby_at (j := 15) zbX1_grow_7 rfl)
theorem zbX1_grow_8 : zby cX1_grow 128 20 = [46, 21, 6, 182, 0, 92, 79, 132, 5, 1, 167, 255, 190, 132, 4, 255, 167, 255, 176, 177] := by decide +kernel
theorem dX1_grow_128 : decode cX1_grow 128 = .ok (.iaload, 1) := dq_46 (zby_at (j := 0) zbX1_grow_8 rfl)
theorem dX1_grow_129 : decode cX1_grow 129 = .ok (.iload 6, 2) := dq_21 (zby_at (j := 1) zbX1_grow_8 rfl) (zby_at (j := 2) zbX1_grow_8 rfl)
theorem dX1_grow_131 : decode cX1_grow 131 = .ok (.invokevirtual 92, 3) := dq_182 (zby_at (j := 3) zbX1_grow_8 rfl) (zby_at (j := 4) zbX1_grow_8 rfl) (zby_at (j := 5) zbX1_grow_8 rfl)
theorem dX1_grow_134 : decode cX1_grow 134 = .ok (.iastore, 1) := dq_79 (zby_at (j := 6) zbX1_grow_8 rfl)
theorem dX1_grow_135 : decode cX1_grow 135 = .ok (.iinc 5 1, 3) := dq_132 (zby_at (j := 7) zbX1_grow_8 rfl) (zby_at (j := 8) zbX1_grow_8 rfl) (zby_at (j := 9) zbX1_grow_8 rfl) rfl
theorem dX1_grow_138 : decode cX1_grow 138 = .ok (.goto (-66), 3) := dq_167 (zby_at (j := 10) zbX1_grow_8 rfl) (zby_at (j := 11) zbX1_grow_8 rfl) (zby_at (j := 12) zbX1_grow_8 rfl) rfl
theorem dX1_grow_141 : decode cX1_grow 141 = .ok (.iinc 4 (-1), 3) := dq_132 (zby_at (j := 13) zbX1_grow_8 rfl) (zby_at (j := 14) zbX1_grow_8 rfl) (zby_at (j := 15) zbX1_grow_8 rfl) rfl
theorem zbX1_grow_9 : zby cX1_grow 144 20 = [167, 255, 176, 177] := by decide +kernel
theorem dX1_grow_144 : decode cX1_grow 144 = .ok (.goto (-80), 3) := dq_167 (zby_at (j := 0) zbX1_grow_9 rfl) (zby_at (j := 1) zbX1_grow_9 rfl) (zby_at (j := 2) zbX1_grow_9 rfl) rfl
theorem dX1_grow_147 : decode cX1_grow 147 = .ok (.return_, 1) := dq_177 (zby_at (j := 3) zbX1_grow_9 rfl)
theorem zbX1_node_0 : zby cX1_node 0 20 = [27, 28, 29, 184, 0, 64, 54, 4, 42, 180, 0, 11, 21, 4, 46, 54, 5, 3, 54, 6] := by decide +kernel
theorem dX1_node_0 : decode cX1_node 0 = .ok (.iload_n 1, 1) := dq_27 (zby_at (j := 0) zbX1_node_0 rfl)
theorem dX1_node_1 : decode cX1_node 1 = .ok (.iload_n 2, 1) := dq_28 (zby_at (j := 1) zbX1_node_0 rfl)
theorem dX1_node_2 : decode cX1_node 2 = .ok (.iload_n 3, 1) := dq_29 (zby_at (j := 2) zbX1_node_0 rfl)
theorem dX1_node_3 : decode cX1_node 3 = .ok (.invokestatic 64, 3) := dq_184 (zby_at (j := 3) zbX1_node_0 rfl) (zby_at (j := 4) zbX1_node_0 rfl) (zby_at (j := 5) zbX1_node_0 rfl)
theorem dX1_node_6 : decode cX1_node 6 = .ok (.istore 4, 2) := dq_54 (zby_at (j := 6) zbX1_node_0 rfl) (zby_at (j := 7) zbX1_node_0 rfl)
theorem dX1_node_8 : decode cX1_node 8 = .ok (.aload_n 0, 1) := dq_42 (zby_at (j := 8) zbX1_node_0 rfl)
theorem dX1_node_9 : decode cX1_node 9 = .ok (.getfield 11, 3) := dq_180 (zby_at (j := 9) zbX1_node_0 rfl) (zby_at (j := 10) zbX1_node_0 rfl) (zby_at (j := 11) zbX1_node_0 rfl)
theorem dX1_node_12 : decode cX1_node 12 = .ok (.iload 4, 2) := dq_21 (zby_at (j := 12) zbX1_node_0 rfl) (zby_at (j := 13) zbX1_node_0 rfl)
theorem dX1_node_14 : decode cX1_node 14 = .ok (.iaload, 1) := dq_46 (zby_at (j := 14) zbX1_node_0 rfl)
theorem dX1_node_15 : decode cX1_node 15 = .ok (.istore 5, 2) := dq_54 (zby_at (j := 15) zbX1_node_0 rfl) (zby_at (j := 16) zbX1_node_0 rfl)
theorem zbX1_node_1 : zby cX1_node 16 20 = [5, 3, 54, 6, 21, 6, 17, 6, 64, 162, 0, 68, 21, 5, 5, 161, 0, 62, 21, 5] := by decide +kernel
theorem dX1_node_17 : decode cX1_node 17 = .ok (.iconst 0, 1) := dq_3 (zby_at (j := 1) zbX1_node_1 rfl)
theorem dX1_node_18 : decode cX1_node 18 = .ok (.istore 6, 2) := dq_54 (zby_at (j := 2) zbX1_node_1 rfl) (zby_at (j := 3) zbX1_node_1 rfl)
theorem dX1_node_20 : decode cX1_node 20 = .ok (.iload 6, 2) := dq_21 (zby_at (j := 4) zbX1_node_1 rfl) (zby_at (j := 5) zbX1_node_1 rfl)
theorem dX1_node_22 : decode cX1_node 22 = .ok (.sipush 1600, 3) := dq_17 (zby_at (j := 6) zbX1_node_1 rfl) (zby_at (j := 7) zbX1_node_1 rfl) (zby_at (j := 8) zbX1_node_1 rfl) rfl
theorem dX1_node_25 : decode cX1_node 25 = .ok (.if_icmp .ge 68, 3) := dq_162 (zby_at (j := 9) zbX1_node_1 rfl) (zby_at (j := 10) zbX1_node_1 rfl) (zby_at (j := 11) zbX1_node_1 rfl) rfl
theorem dX1_node_28 : decode cX1_node 28 = .ok (.iload 5, 2) := dq_21 (zby_at (j := 12) zbX1_node_1 rfl) (zby_at (j := 13) zbX1_node_1 rfl)
theorem dX1_node_30 : decode cX1_node 30 = .ok (.iconst 2, 1) := dq_5 (zby_at (j := 14) zbX1_node_1 rfl)
theorem dX1_node_31 : decode cX1_node 31 = .ok (.if_icmp .lt 62, 3) := dq_161 (zby_at (j := 15) zbX1_node_1 rfl) (zby_at (j := 16) zbX1_node_1 rfl) (zby_at (j := 17) zbX1_node_1 rfl) rfl
theorem zbX1_node_2 : zby cX1_node 32 20 = [0, 62, 21, 5, 17, 6, 64, 162, 0, 54, 42, 180, 0, 18, 21, 5, 46, 27, 160, 0] := by decide +kernel
theorem dX1_node_34 : decode cX1_node 34 = .ok (.iload 5, 2) := dq_21 (zby_at (j := 2) zbX1_node_2 rfl) (zby_at (j := 3) zbX1_node_2 rfl)
theorem dX1_node_36 : decode cX1_node 36 = .ok (.sipush 1600, 3) := dq_17 (zby_at (j := 4) zbX1_node_2 rfl) (zby_at (j := 5) zbX1_node_2 rfl) (zby_at (j := 6) zbX1_node_2 rfl) rfl
theorem dX1_node_39 : decode cX1_node 39 = .ok (.if_icmp .ge 54, 3) := dq_162 (zby_at (j := 7) zbX1_node_2 rfl) (zby_at (j := 8) zbX1_node_2 rfl) (zby_at (j := 9) zbX1_node_2 rfl) rfl
theorem dX1_node_42 : decode cX1_node 42 = .ok (.aload_n 0, 1) := dq_42 (zby_at (j := 10) zbX1_node_2 rfl)
theorem dX1_node_43 : decode cX1_node 43 = .ok (.getfield 18, 3) := dq_180 (zby_at (j := 11) zbX1_node_2 rfl) (zby_at (j := 12) zbX1_node_2 rfl) (zby_at (j := 13) zbX1_node_2 rfl)
theorem dX1_node_46 : decode cX1_node 46 = .ok (.iload 5, 2) := dq_21 (zby_at (j := 14) zbX1_node_2 rfl) (zby_at (j := 15) zbX1_node_2 rfl)
theorem zbX1_node_3 : zby cX1_node 48 20 = [46, 27, 160, 0, 28, 42, 180, 0, 21, 21, 5, 46, 28, 160, 0, 17, 42, 180, 0, 24] := by decide +kernel
theorem dX1_node_48 : decode cX1_node 48 = .ok (.iaload, 1) := dq_46 (zby_at (j := 0) zbX1_node_3 rfl)
theorem dX1_node_49 : decode cX1_node 49 = .ok (.iload_n 1, 1) := dq_27 (zby_at (j := 1) zbX1_node_3 rfl)
theorem dX1_node_50 : decode cX1_node 50 = .ok (.if_icmp .ne 28, 3) := dq_160 (zby_at (j := 2) zbX1_node_3 rfl) (zby_at (j := 3) zbX1_node_3 rfl) (zby_at (j := 4) zbX1_node_3 rfl) rfl
theorem dX1_node_53 : decode cX1_node 53 = .ok (.aload_n 0, 1) := dq_42 (zby_at (j := 5) zbX1_node_3 rfl)
theorem dX1_node_54 : decode cX1_node 54 = .ok (.getfield 21, 3) := dq_180 (zby_at (j := 6) zbX1_node_3 rfl) (zby_at (j := 7) zbX1_node_3 rfl) (zby_at (j := 8) zbX1_node_3 rfl)
theorem dX1_node_57 : decode cX1_node 57 = .ok (.iload 5, 2) := dq_21 (zby_at (j := 9) zbX1_node_3 rfl) (zby_at (j := 10) zbX1_node_3 rfl)
theorem dX1_node_59 : decode cX1_node 59 = .ok (.iaload, 1) := dq_46 (zby_at (j := 11) zbX1_node_3 rfl)
theorem dX1_node_60 : decode cX1_node 60 = .ok (.iload_n 2, 1) := dq_28 (zby_at (j := 12) zbX1_node_3 rfl)
theorem dX1_node_61 : decode cX1_node 61 = .ok (.if_icmp .ne 17, 3) := dq_160 (zby_at (j := 13) zbX1_node_3 rfl) (zby_at (j := 14) zbX1_node_3 rfl) (zby_at (j := 15) zbX1_node_3 rfl) rfl
theorem zbX1_node_4 : zby cX1_node 64 20 = [42, 180, 0, 24, 21, 5, 46, 29, 160, 0, 6, 21, 5, 172, 42, 180, 0, 15, 21, 5] := by decide +kernel
theorem dX1_node_64 : decode cX1_node 64 = .ok (.aload_n 0, 1) := dq_42 (zby_at (j := 0) zbX1_node_4 rfl)
theorem dX1_node_65 : decode cX1_node 65 = .ok (.getfield 24, 3) := dq_180 (zby_at (j := 1) zbX1_node_4 rfl) (zby_at (j := 2) zbX1_node_4 rfl) (zby_at (j := 3) zbX1_node_4 rfl)
theorem dX1_node_68 : decode cX1_node 68 = .ok (.iload 5, 2) := dq_21 (zby_at (j := 4) zbX1_node_4 rfl) (zby_at (j := 5) zbX1_node_4 rfl)
theorem dX1_node_70 : decode cX1_node 70 = .ok (.iaload, 1) := dq_46 (zby_at (j := 6) zbX1_node_4 rfl)
theorem dX1_node_71 : decode cX1_node 71 = .ok (.iload_n 3, 1) := dq_29 (zby_at (j := 7) zbX1_node_4 rfl)
theorem dX1_node_72 : decode cX1_node 72 = .ok (.if_icmp .ne 6, 3) := dq_160 (zby_at (j := 8) zbX1_node_4 rfl) (zby_at (j := 9) zbX1_node_4 rfl) (zby_at (j := 10) zbX1_node_4 rfl) rfl
theorem dX1_node_75 : decode cX1_node 75 = .ok (.iload 5, 2) := dq_21 (zby_at (j := 11) zbX1_node_4 rfl) (zby_at (j := 12) zbX1_node_4 rfl)
theorem dX1_node_77 : decode cX1_node 77 = .ok (.ireturn, 1) := dq_172 (zby_at (j := 13) zbX1_node_4 rfl)
theorem dX1_node_78 : decode cX1_node 78 = .ok (.aload_n 0, 1) := dq_42 (zby_at (j := 14) zbX1_node_4 rfl)
theorem dX1_node_79 : decode cX1_node 79 = .ok (.getfield 15, 3) := dq_180 (zby_at (j := 15) zbX1_node_4 rfl) (zby_at (j := 16) zbX1_node_4 rfl) (zby_at (j := 17) zbX1_node_4 rfl)
theorem zbX1_node_5 : zby cX1_node 80 20 = [0, 15, 21, 5, 46, 54, 5, 132, 6, 1, 167, 255, 186, 42, 180, 0, 36, 17, 6, 64] := by decide +kernel
theorem dX1_node_82 : decode cX1_node 82 = .ok (.iload 5, 2) := dq_21 (zby_at (j := 2) zbX1_node_5 rfl) (zby_at (j := 3) zbX1_node_5 rfl)
theorem dX1_node_84 : decode cX1_node 84 = .ok (.iaload, 1) := dq_46 (zby_at (j := 4) zbX1_node_5 rfl)
theorem dX1_node_85 : decode cX1_node 85 = .ok (.istore 5, 2) := dq_54 (zby_at (j := 5) zbX1_node_5 rfl) (zby_at (j := 6) zbX1_node_5 rfl)
theorem dX1_node_87 : decode cX1_node 87 = .ok (.iinc 6 1, 3) := dq_132 (zby_at (j := 7) zbX1_node_5 rfl) (zby_at (j := 8) zbX1_node_5 rfl) (zby_at (j := 9) zbX1_node_5 rfl) rfl
theorem dX1_node_90 : decode cX1_node 90 = .ok (.goto (-70), 3) := dq_167 (zby_at (j := 10) zbX1_node_5 rfl) (zby_at (j := 11) zbX1_node_5 rfl) (zby_at (j := 12) zbX1_node_5 rfl) rfl
theorem dX1_node_93 : decode cX1_node 93 = .ok (.aload_n 0, 1) := dq_42 (zby_at (j := 13) zbX1_node_5 rfl)
theorem dX1_node_94 : decode cX1_node 94 = .ok (.getfield 36, 3) := dq_180 (zby_at (j := 14) zbX1_node_5 rfl) (zby_at (j := 15) zbX1_node_5 rfl) (zby_at (j := 16) zbX1_node_5 rfl)
theorem zbX1_node_6 : zby cX1_node 96 20 = [36, 17, 6, 64, 162, 0, 13, 27, 155, 0, 9, 27, 16, 10, 161, 0, 5, 3, 172, 42] := by decide +kernel
theorem dX1_node_97 : decode cX1_node 97 = .ok (.sipush 1600, 3) := dq_17 (zby_at (j := 1) zbX1_node_6 rfl) (zby_at (j := 2) zbX1_node_6 rfl) (zby_at (j := 3) zbX1_node_6 rfl) rfl
theorem dX1_node_100 : decode cX1_node 100 = .ok (.if_icmp .ge 13, 3) := dq_162 (zby_at (j := 4) zbX1_node_6 rfl) (zby_at (j := 5) zbX1_node_6 rfl) (zby_at (j := 6) zbX1_node_6 rfl) rfl
theorem dX1_node_103 : decode cX1_node 103 = .ok (.iload_n 1, 1) := dq_27 (zby_at (j := 7) zbX1_node_6 rfl)
theorem dX1_node_104 : decode cX1_node 104 = .ok (.ifCond .lt 9, 3) := dq_155 (zby_at (j := 8) zbX1_node_6 rfl) (zby_at (j := 9) zbX1_node_6 rfl) (zby_at (j := 10) zbX1_node_6 rfl) rfl
theorem dX1_node_107 : decode cX1_node 107 = .ok (.iload_n 1, 1) := dq_27 (zby_at (j := 11) zbX1_node_6 rfl)
theorem dX1_node_108 : decode cX1_node 108 = .ok (.bipush 10, 2) := dq_16 (zby_at (j := 12) zbX1_node_6 rfl) (zby_at (j := 13) zbX1_node_6 rfl) rfl
theorem dX1_node_110 : decode cX1_node 110 = .ok (.if_icmp .lt 5, 3) := dq_161 (zby_at (j := 14) zbX1_node_6 rfl) (zby_at (j := 15) zbX1_node_6 rfl) (zby_at (j := 16) zbX1_node_6 rfl) rfl
theorem zbX1_node_7 : zby cX1_node 112 20 = [5, 3, 172, 42, 89, 180, 0, 36, 90, 4, 96, 181, 0, 36, 54, 5, 42, 180, 0, 18] := by decide +kernel
theorem dX1_node_113 : decode cX1_node 113 = .ok (.iconst 0, 1) := dq_3 (zby_at (j := 1) zbX1_node_7 rfl)
theorem dX1_node_114 : decode cX1_node 114 = .ok (.ireturn, 1) := dq_172 (zby_at (j := 2) zbX1_node_7 rfl)
theorem dX1_node_115 : decode cX1_node 115 = .ok (.aload_n 0, 1) := dq_42 (zby_at (j := 3) zbX1_node_7 rfl)
theorem dX1_node_116 : decode cX1_node 116 = .ok (.dup, 1) := dq_89 (zby_at (j := 4) zbX1_node_7 rfl)
theorem dX1_node_117 : decode cX1_node 117 = .ok (.getfield 36, 3) := dq_180 (zby_at (j := 5) zbX1_node_7 rfl) (zby_at (j := 6) zbX1_node_7 rfl) (zby_at (j := 7) zbX1_node_7 rfl)
theorem dX1_node_120 : decode cX1_node 120 = .ok (.dup_x1, 1) := dq_90 (zby_at (j := 8) zbX1_node_7 rfl)
theorem dX1_node_121 : decode cX1_node 121 = .ok (.iconst 1, 1) := dq_4 (zby_at (j := 9) zbX1_node_7 rfl)
theorem dX1_node_122 : decode cX1_node 122 = .ok (.iadd, 1) := dq_96 (zby_at (j := 10) zbX1_node_7 rfl)
theorem dX1_node_123 : decode cX1_node 123 = .ok (.putfield 36, 3) := dq_181 (zby_at (j := 11) zbX1_node_7 rfl) (zby_at (j := 12) zbX1_node_7 rfl) (zby_at (j := 13) zbX1_node_7 rfl)
theorem dX1_node_126 : decode cX1_node 126 = .ok (.istore 5, 2) := dq_54 (zby_at (j := 14) zbX1_node_7 rfl) (zby_at (j := 15) zbX1_node_7 rfl)
theorem zbX1_node_8 : zby cX1_node 128 20 = [42, 180, 0, 18, 21, 5, 27, 79, 42, 180, 0, 21, 21, 5, 28, 79, 42, 180, 0, 24] := by decide +kernel
theorem dX1_node_128 : decode cX1_node 128 = .ok (.aload_n 0, 1) := dq_42 (zby_at (j := 0) zbX1_node_8 rfl)
theorem dX1_node_129 : decode cX1_node 129 = .ok (.getfield 18, 3) := dq_180 (zby_at (j := 1) zbX1_node_8 rfl) (zby_at (j := 2) zbX1_node_8 rfl) (zby_at (j := 3) zbX1_node_8 rfl)
theorem dX1_node_132 : decode cX1_node 132 = .ok (.iload 5, 2) := dq_21 (zby_at (j := 4) zbX1_node_8 rfl) (zby_at (j := 5) zbX1_node_8 rfl)
theorem dX1_node_134 : decode cX1_node 134 = .ok (.iload_n 1, 1) := dq_27 (zby_at (j := 6) zbX1_node_8 rfl)
theorem dX1_node_135 : decode cX1_node 135 = .ok (.iastore, 1) := dq_79 (zby_at (j := 7) zbX1_node_8 rfl)
theorem dX1_node_136 : decode cX1_node 136 = .ok (.aload_n 0, 1) := dq_42 (zby_at (j := 8) zbX1_node_8 rfl)
theorem dX1_node_137 : decode cX1_node 137 = .ok (.getfield 21, 3) := dq_180 (zby_at (j := 9) zbX1_node_8 rfl) (zby_at (j := 10) zbX1_node_8 rfl) (zby_at (j := 11) zbX1_node_8 rfl)
theorem dX1_node_140 : decode cX1_node 140 = .ok (.iload 5, 2) := dq_21 (zby_at (j := 12) zbX1_node_8 rfl) (zby_at (j := 13) zbX1_node_8 rfl)
theorem dX1_node_142 : decode cX1_node 142 = .ok (.iload_n 2, 1) := dq_28 (zby_at (j := 14) zbX1_node_8 rfl)
theorem dX1_node_143 : decode cX1_node 143 = .ok (.iastore, 1) := dq_79 (zby_at (j := 15) zbX1_node_8 rfl)
theorem zbX1_node_9 : zby cX1_node 144 20 = [42, 180, 0, 24, 21, 5, 29, 79, 42, 180, 0, 15, 21, 5, 42, 180, 0, 11, 21, 4] := by decide +kernel
theorem dX1_node_144 : decode cX1_node 144 = .ok (.aload_n 0, 1) := dq_42 (zby_at (j := 0) zbX1_node_9 rfl)
theorem dX1_node_145 : decode cX1_node 145 = .ok (.getfield 24, 3) := dq_180 (zby_at (j := 1) zbX1_node_9 rfl) (zby_at (j := 2) zbX1_node_9 rfl) (zby_at (j := 3) zbX1_node_9 rfl)
theorem dX1_node_148 : decode cX1_node 148 = .ok (.iload 5, 2) := dq_21 (zby_at (j := 4) zbX1_node_9 rfl) (zby_at (j := 5) zbX1_node_9 rfl)
theorem dX1_node_150 : decode cX1_node 150 = .ok (.iload_n 3, 1) := dq_29 (zby_at (j := 6) zbX1_node_9 rfl)
theorem dX1_node_151 : decode cX1_node 151 = .ok (.iastore, 1) := dq_79 (zby_at (j := 7) zbX1_node_9 rfl)
theorem dX1_node_152 : decode cX1_node 152 = .ok (.aload_n 0, 1) := dq_42 (zby_at (j := 8) zbX1_node_9 rfl)
theorem dX1_node_153 : decode cX1_node 153 = .ok (.getfield 15, 3) := dq_180 (zby_at (j := 9) zbX1_node_9 rfl) (zby_at (j := 10) zbX1_node_9 rfl) (zby_at (j := 11) zbX1_node_9 rfl)
theorem dX1_node_156 : decode cX1_node 156 = .ok (.iload 5, 2) := dq_21 (zby_at (j := 12) zbX1_node_9 rfl) (zby_at (j := 13) zbX1_node_9 rfl)
theorem dX1_node_158 : decode cX1_node 158 = .ok (.aload_n 0, 1) := dq_42 (zby_at (j := 14) zbX1_node_9 rfl)
theorem dX1_node_159 : decode cX1_node 159 = .ok (.getfield 11, 3) := dq_180 (zby_at (j := 15) zbX1_node_9 rfl) (zby_at (j := 16) zbX1_node_9 rfl) (zby_at (j := 17) zbX1_node_9 rfl)
theorem zbX1_node_10 : zby cX1_node 160 20 = [0, 11, 21, 4, 46, 79, 42, 180, 0, 11, 21, 4, 21, 5, 79, 42, 180, 0, 33, 27] := by decide +kernel
theorem dX1_node_162 : decode cX1_node 162 = .ok (.iload 4, 2) := dq_21 (zby_at (j := 2) zbX1_node_10 rfl) (zby_at (j := 3) zbX1_node_10 rfl)
theorem dX1_node_164 : decode cX1_node 164 = .ok (.iaload, 1) := dq_46 (zby_at (j := 4) zbX1_node_10 rfl)
theorem dX1_node_165 : decode cX1_node 165 = .ok (.iastore, 1) := dq_79 (zby_at (j := 5) zbX1_node_10 rfl)
theorem dX1_node_166 : decode cX1_node 166 = .ok (.aload_n 0, 1) := dq_42 (zby_at (j := 6) zbX1_node_10 rfl)
theorem dX1_node_167 : decode cX1_node 167 = .ok (.getfield 11, 3) := dq_180 (zby_at (j := 7) zbX1_node_10 rfl) (zby_at (j := 8) zbX1_node_10 rfl) (zby_at (j := 9) zbX1_node_10 rfl)
theorem dX1_node_170 : decode cX1_node 170 = .ok (.iload 4, 2) := dq_21 (zby_at (j := 10) zbX1_node_10 rfl) (zby_at (j := 11) zbX1_node_10 rfl)
theorem dX1_node_172 : decode cX1_node 172 = .ok (.iload 5, 2) := dq_21 (zby_at (j := 12) zbX1_node_10 rfl) (zby_at (j := 13) zbX1_node_10 rfl)
theorem dX1_node_174 : decode cX1_node 174 = .ok (.iastore, 1) := dq_79 (zby_at (j := 14) zbX1_node_10 rfl)
theorem dX1_node_175 : decode cX1_node 175 = .ok (.aload_n 0, 1) := dq_42 (zby_at (j := 15) zbX1_node_10 rfl)
theorem zbX1_node_11 : zby cX1_node 176 20 = [180, 0, 33, 27, 92, 46, 4, 96, 79, 21, 5, 172] := by decide +kernel
theorem dX1_node_176 : decode cX1_node 176 = .ok (.getfield 33, 3) := dq_180 (zby_at (j := 0) zbX1_node_11 rfl) (zby_at (j := 1) zbX1_node_11 rfl) (zby_at (j := 2) zbX1_node_11 rfl)
theorem dX1_node_179 : decode cX1_node 179 = .ok (.iload_n 1, 1) := dq_27 (zby_at (j := 3) zbX1_node_11 rfl)
theorem dX1_node_180 : decode cX1_node 180 = .ok (.dup2, 1) := dq_92 (zby_at (j := 4) zbX1_node_11 rfl)
theorem dX1_node_181 : decode cX1_node 181 = .ok (.iaload, 1) := dq_46 (zby_at (j := 5) zbX1_node_11 rfl)
theorem dX1_node_182 : decode cX1_node 182 = .ok (.iconst 1, 1) := dq_4 (zby_at (j := 6) zbX1_node_11 rfl)
theorem dX1_node_183 : decode cX1_node 183 = .ok (.iadd, 1) := dq_96 (zby_at (j := 7) zbX1_node_11 rfl)
theorem dX1_node_184 : decode cX1_node 184 = .ok (.iastore, 1) := dq_79 (zby_at (j := 8) zbX1_node_11 rfl)
theorem dX1_node_185 : decode cX1_node 185 = .ok (.iload 5, 2) := dq_21 (zby_at (j := 9) zbX1_node_11 rfl) (zby_at (j := 10) zbX1_node_11 rfl)
theorem dX1_node_187 : decode cX1_node 187 = .ok (.ireturn, 1) := dq_172 (zby_at (j := 11) zbX1_node_11 rfl)
theorem zbX2_init_0 : zby cX2_init 0 20 = [42, 183, 0, 3, 42, 16, 16, 188, 11, 181, 0, 11, 177] := by decide +kernel
theorem dX2_init_0 : decode cX2_init 0 = .ok (.aload_n 0, 1) := dq_42 (zby_at (j := 0) zbX2_init_0 rfl)
theorem dX2_init_1 : decode cX2_init 1 = .ok (.invokespecial 3, 3) := dq_183 (zby_at (j := 1) zbX2_init_0 rfl) (zby_at (j := 2) zbX2_init_0 rfl) (zby_at (j := 3) zbX2_init_0 rfl)
theorem dX2_init_4 : decode cX2_init 4 = .ok (.aload_n 0, 1) := dq_42 (zby_at (j := 4) zbX2_init_0 rfl)
theorem dX2_init_5 : decode cX2_init 5 = .ok (.bipush 16, 2) := dq_16 (zby_at (j := 5) zbX2_init_0 rfl) (zby_at (j := 6) zbX2_init_0 rfl) rfl
theorem dX2_init_7 : decode cX2_init 7 = .ok (.newarray .long, 2) := dq_188_11 (zby_at (j := 7) zbX2_init_0 rfl) (zby_at (j := 8) zbX2_init_0 rfl)
theorem dX2_init_9 : decode cX2_init 9 = .ok (.putfield 11, 3) := dq_181 (zby_at (j := 9) zbX2_init_0 rfl) (zby_at (j := 10) zbX2_init_0 rfl) (zby_at (j := 11) zbX2_init_0 rfl)
theorem dX2_init_12 : decode cX2_init 12 = .ok (.return_, 1) := dq_177 (zby_at (j := 12) zbX2_init_0 rfl)
theorem zbX2_holds_0 : zby cX2_holds 0 20 = [27, 155, 0, 35, 27, 17, 4, 0, 162, 0, 28, 42, 180, 0, 11, 27, 16, 6, 122, 47] := by decide +kernel
theorem dX2_holds_0 : decode cX2_holds 0 = .ok (.iload_n 1, 1) := dq_27 (zby_at (j := 0) zbX2_holds_0 rfl)
theorem dX2_holds_1 : decode cX2_holds 1 = .ok (.ifCond .lt 35, 3) := dq_155 (zby_at (j := 1) zbX2_holds_0 rfl) (zby_at (j := 2) zbX2_holds_0 rfl) (zby_at (j := 3) zbX2_holds_0 rfl) rfl
theorem dX2_holds_4 : decode cX2_holds 4 = .ok (.iload_n 1, 1) := dq_27 (zby_at (j := 4) zbX2_holds_0 rfl)
theorem dX2_holds_5 : decode cX2_holds 5 = .ok (.sipush 1024, 3) := dq_17 (zby_at (j := 5) zbX2_holds_0 rfl) (zby_at (j := 6) zbX2_holds_0 rfl) (zby_at (j := 7) zbX2_holds_0 rfl) rfl
theorem dX2_holds_8 : decode cX2_holds 8 = .ok (.if_icmp .ge 28, 3) := dq_162 (zby_at (j := 8) zbX2_holds_0 rfl) (zby_at (j := 9) zbX2_holds_0 rfl) (zby_at (j := 10) zbX2_holds_0 rfl) rfl
theorem dX2_holds_11 : decode cX2_holds 11 = .ok (.aload_n 0, 1) := dq_42 (zby_at (j := 11) zbX2_holds_0 rfl)
theorem dX2_holds_12 : decode cX2_holds 12 = .ok (.getfield 11, 3) := dq_180 (zby_at (j := 12) zbX2_holds_0 rfl) (zby_at (j := 13) zbX2_holds_0 rfl) (zby_at (j := 14) zbX2_holds_0 rfl)
theorem dX2_holds_15 : decode cX2_holds 15 = .ok (.iload_n 1, 1) := dq_27 (zby_at (j := 15) zbX2_holds_0 rfl)
theorem zbX2_holds_1 : zby cX2_holds 16 20 = [16, 6, 122, 47, 27, 16, 63, 126, 125, 10, 127, 9, 148, 153, 0, 7, 4, 167, 0, 4] := by decide +kernel
theorem dX2_holds_16 : decode cX2_holds 16 = .ok (.bipush 6, 2) := dq_16 (zby_at (j := 0) zbX2_holds_1 rfl) (zby_at (j := 1) zbX2_holds_1 rfl) rfl
theorem dX2_holds_18 : decode cX2_holds 18 = .ok (.ishr, 1) := dq_122 (zby_at (j := 2) zbX2_holds_1 rfl)
theorem dX2_holds_19 : decode cX2_holds 19 = .ok (.laload, 1) := dq_47 (zby_at (j := 3) zbX2_holds_1 rfl)
theorem dX2_holds_20 : decode cX2_holds 20 = .ok (.iload_n 1, 1) := dq_27 (zby_at (j := 4) zbX2_holds_1 rfl)
theorem dX2_holds_21 : decode cX2_holds 21 = .ok (.bipush 63, 2) := dq_16 (zby_at (j := 5) zbX2_holds_1 rfl) (zby_at (j := 6) zbX2_holds_1 rfl) rfl
theorem dX2_holds_23 : decode cX2_holds 23 = .ok (.iand, 1) := dq_126 (zby_at (j := 7) zbX2_holds_1 rfl)
theorem dX2_holds_24 : decode cX2_holds 24 = .ok (.lushr, 1) := dq_125 (zby_at (j := 8) zbX2_holds_1 rfl)
theorem dX2_holds_25 : decode cX2_holds 25 = .ok (.lconst 1, 1) := dq_10 (zby_at (j := 9) zbX2_holds_1 rfl)
theorem dX2_holds_26 : decode cX2_holds 26 = .ok (.land, 1) := dq_127 (zby_at (j := 10) zbX2_holds_1 rfl)
theorem dX2_holds_27 : decode cX2_holds 27 = .ok (.lconst 0, 1) := dq_9 (zby_at (j := 11) zbX2_holds_1 rfl)
theorem dX2_holds_28 : decode cX2_holds 28 = .ok (.lcmp, 1) := dq_148 (zby_at (j := 12) zbX2_holds_1 rfl)
theorem dX2_holds_29 : decode cX2_holds 29 = .ok (.ifCond .eq 7, 3) := dq_153 (zby_at (j := 13) zbX2_holds_1 rfl) (zby_at (j := 14) zbX2_holds_1 rfl) (zby_at (j := 15) zbX2_holds_1 rfl) rfl
theorem zbX2_holds_2 : zby cX2_holds 32 20 = [4, 167, 0, 4, 3, 172] := by decide +kernel
theorem dX2_holds_32 : decode cX2_holds 32 = .ok (.iconst 1, 1) := dq_4 (zby_at (j := 0) zbX2_holds_2 rfl)
theorem dX2_holds_33 : decode cX2_holds 33 = .ok (.goto 4, 3) := dq_167 (zby_at (j := 1) zbX2_holds_2 rfl) (zby_at (j := 2) zbX2_holds_2 rfl) (zby_at (j := 3) zbX2_holds_2 rfl) rfl
theorem dX2_holds_36 : decode cX2_holds 36 = .ok (.iconst 0, 1) := dq_3 (zby_at (j := 4) zbX2_holds_2 rfl)
theorem dX2_holds_37 : decode cX2_holds 37 = .ok (.ireturn, 1) := dq_172 (zby_at (j := 5) zbX2_holds_2 rfl)
theorem zbX2_include_0 : zby cX2_include 0 20 = [27, 155, 0, 28, 27, 17, 4, 0, 162, 0, 21, 42, 180, 0, 11, 27, 16, 6, 122, 92] := by decide +kernel
theorem dX2_include_0 : decode cX2_include 0 = .ok (.iload_n 1, 1) := dq_27 (zby_at (j := 0) zbX2_include_0 rfl)
theorem dX2_include_1 : decode cX2_include 1 = .ok (.ifCond .lt 28, 3) := dq_155 (zby_at (j := 1) zbX2_include_0 rfl) (zby_at (j := 2) zbX2_include_0 rfl) (zby_at (j := 3) zbX2_include_0 rfl) rfl
theorem dX2_include_4 : decode cX2_include 4 = .ok (.iload_n 1, 1) := dq_27 (zby_at (j := 4) zbX2_include_0 rfl)
theorem dX2_include_5 : decode cX2_include 5 = .ok (.sipush 1024, 3) := dq_17 (zby_at (j := 5) zbX2_include_0 rfl) (zby_at (j := 6) zbX2_include_0 rfl) (zby_at (j := 7) zbX2_include_0 rfl) rfl
theorem dX2_include_8 : decode cX2_include 8 = .ok (.if_icmp .ge 21, 3) := dq_162 (zby_at (j := 8) zbX2_include_0 rfl) (zby_at (j := 9) zbX2_include_0 rfl) (zby_at (j := 10) zbX2_include_0 rfl) rfl
theorem dX2_include_11 : decode cX2_include 11 = .ok (.aload_n 0, 1) := dq_42 (zby_at (j := 11) zbX2_include_0 rfl)
theorem dX2_include_12 : decode cX2_include 12 = .ok (.getfield 11, 3) := dq_180 (zby_at (j := 12) zbX2_include_0 rfl) (zby_at (j := 13) zbX2_include_0 rfl) (zby_at (j := 14) zbX2_include_0 rfl)
theorem dX2_include_15 : decode cX2_include 15 = .ok (.iload_n 1, 1) := dq_27 (zby_at (j := 15) zbX2_include_0 rfl)
theorem zbX2_include_1 : zby cX2_include 16 20 = [16, 6, 122, 92, 47, 10, 27, 16, 63, 126, 121, 129, 80, 177] := by decide +kernel
theorem dX2_include_16 : decode cX2_include 16 = .ok (.bipush 6, 2) := dq_16 (zby_at (j := 0) zbX2_include_1 rfl) (zby_at (j := 1) zbX2_include_1 rfl) rfl
theorem dX2_include_18 : decode cX2_include 18 = .ok (.ishr, 1) := dq_122 (zby_at (j := 2) zbX2_include_1 rfl)
theorem dX2_include_19 : decode cX2_include 19 = .ok (.dup2, 1) := dq_92 (zby_at (j := 3) zbX2_include_1 rfl)
theorem dX2_include_20 : decode cX2_include 20 = .ok (.laload, 1) := dq_47 (zby_at (j := 4) zbX2_include_1 rfl)
theorem dX2_include_21 : decode cX2_include 21 = .ok (.lconst 1, 1) := dq_10 (zby_at (j := 5) zbX2_include_1 rfl)
theorem dX2_include_22 : decode cX2_include 22 = .ok (.iload_n 1, 1) := dq_27 (zby_at (j := 6) zbX2_include_1 rfl)
theorem dX2_include_23 : decode cX2_include 23 = .ok (.bipush 63, 2) := dq_16 (zby_at (j := 7) zbX2_include_1 rfl) (zby_at (j := 8) zbX2_include_1 rfl) rfl
theorem dX2_include_25 : decode cX2_include 25 = .ok (.iand, 1) := dq_126 (zby_at (j := 9) zbX2_include_1 rfl)
theorem dX2_include_26 : decode cX2_include 26 = .ok (.lshl, 1) := dq_121 (zby_at (j := 10) zbX2_include_1 rfl)
theorem dX2_include_27 : decode cX2_include 27 = .ok (.lor, 1) := dq_129 (zby_at (j := 11) zbX2_include_1 rfl)
theorem dX2_include_28 : decode cX2_include 28 = .ok (.lastore, 1) := dq_80 (zby_at (j := 12) zbX2_include_1 rfl)
theorem dX2_include_29 : decode cX2_include 29 = .ok (.return_, 1) := dq_177 (zby_at (j := 13) zbX2_include_1 rfl)
theorem zbX2_exclude_0 : zby cX2_exclude 0 20 = [27, 155, 0, 32, 27, 17, 4, 0, 162, 0, 25, 42, 180, 0, 11, 27, 16, 6, 122, 92] := by decide +kernel
theorem dX2_exclude_0 : decode cX2_exclude 0 = .ok (.iload_n 1, 1) := dq_27 (zby_at (j := 0) zbX2_exclude_0 rfl)
theorem dX2_exclude_1 : decode cX2_exclude 1 = .ok (.ifCond .lt 32, 3) := dq_155 (zby_at (j := 1) zbX2_exclude_0 rfl) (zby_at (j := 2) zbX2_exclude_0 rfl) (zby_at (j := 3) zbX2_exclude_0 rfl) rfl
theorem dX2_exclude_4 : decode cX2_exclude 4 = .ok (.iload_n 1, 1) := dq_27 (zby_at (j := 4) zbX2_exclude_0 rfl)
theorem dX2_exclude_5 : decode cX2_exclude 5 = .ok (.sipush 1024, 3) := dq_17 (zby_at (j := 5) zbX2_exclude_0 rfl) (zby_at (j := 6) zbX2_exclude_0 rfl) (zby_at (j := 7) zbX2_exclude_0 rfl) rfl
theorem dX2_exclude_8 : decode cX2_exclude 8 = .ok (.if_icmp .ge 25, 3) := dq_162 (zby_at (j := 8) zbX2_exclude_0 rfl) (zby_at (j := 9) zbX2_exclude_0 rfl) (zby_at (j := 10) zbX2_exclude_0 rfl) rfl
theorem dX2_exclude_11 : decode cX2_exclude 11 = .ok (.aload_n 0, 1) := dq_42 (zby_at (j := 11) zbX2_exclude_0 rfl)
theorem dX2_exclude_12 : decode cX2_exclude 12 = .ok (.getfield 11, 3) := dq_180 (zby_at (j := 12) zbX2_exclude_0 rfl) (zby_at (j := 13) zbX2_exclude_0 rfl) (zby_at (j := 14) zbX2_exclude_0 rfl)
theorem dX2_exclude_15 : decode cX2_exclude 15 = .ok (.iload_n 1, 1) := dq_27 (zby_at (j := 15) zbX2_exclude_0 rfl)
theorem zbX2_exclude_1 : zby cX2_exclude 16 20 = [16, 6, 122, 92, 47, 10, 27, 16, 63, 126, 121, 20, 0, 15, 131, 127, 80, 177] := by decide +kernel
theorem dX2_exclude_16 : decode cX2_exclude 16 = .ok (.bipush 6, 2) := dq_16 (zby_at (j := 0) zbX2_exclude_1 rfl) (zby_at (j := 1) zbX2_exclude_1 rfl) rfl
theorem dX2_exclude_18 : decode cX2_exclude 18 = .ok (.ishr, 1) := dq_122 (zby_at (j := 2) zbX2_exclude_1 rfl)
theorem dX2_exclude_19 : decode cX2_exclude 19 = .ok (.dup2, 1) := dq_92 (zby_at (j := 3) zbX2_exclude_1 rfl)
theorem dX2_exclude_20 : decode cX2_exclude 20 = .ok (.laload, 1) := dq_47 (zby_at (j := 4) zbX2_exclude_1 rfl)
theorem dX2_exclude_21 : decode cX2_exclude 21 = .ok (.lconst 1, 1) := dq_10 (zby_at (j := 5) zbX2_exclude_1 rfl)
theorem dX2_exclude_22 : decode cX2_exclude 22 = .ok (.iload_n 1, 1) := dq_27 (zby_at (j := 6) zbX2_exclude_1 rfl)
theorem dX2_exclude_23 : decode cX2_exclude 23 = .ok (.bipush 63, 2) := dq_16 (zby_at (j := 7) zbX2_exclude_1 rfl) (zby_at (j := 8) zbX2_exclude_1 rfl) rfl
theorem dX2_exclude_25 : decode cX2_exclude 25 = .ok (.iand, 1) := dq_126 (zby_at (j := 9) zbX2_exclude_1 rfl)
theorem dX2_exclude_26 : decode cX2_exclude 26 = .ok (.lshl, 1) := dq_121 (zby_at (j := 10) zbX2_exclude_1 rfl)
theorem dX2_exclude_27 : decode cX2_exclude 27 = .ok (.ldc2_w 15, 3) := dq_20 (zby_at (j := 11) zbX2_exclude_1 rfl) (zby_at (j := 12) zbX2_exclude_1 rfl) (zby_at (j := 13) zbX2_exclude_1 rfl)
theorem dX2_exclude_30 : decode cX2_exclude 30 = .ok (.lxor, 1) := dq_131 (zby_at (j := 14) zbX2_exclude_1 rfl)
theorem dX2_exclude_31 : decode cX2_exclude 31 = .ok (.land, 1) := dq_127 (zby_at (j := 15) zbX2_exclude_1 rfl)
theorem zbX2_exclude_2 : zby cX2_exclude 32 20 = [80, 177] := by decide +kernel
theorem dX2_exclude_32 : decode cX2_exclude 32 = .ok (.lastore, 1) := dq_80 (zby_at (j := 0) zbX2_exclude_2 rfl)
theorem dX2_exclude_33 : decode cX2_exclude 33 = .ok (.return_, 1) := dq_177 (zby_at (j := 1) zbX2_exclude_2 rfl)
theorem zbX2_clear_0 : zby cX2_clear 0 20 = [42, 180, 0, 11, 9, 184, 0, 17, 177] := by decide +kernel
theorem dX2_clear_0 : decode cX2_clear 0 = .ok (.aload_n 0, 1) := dq_42 (zby_at (j := 0) zbX2_clear_0 rfl)
theorem dX2_clear_1 : decode cX2_clear 1 = .ok (.getfield 11, 3) := dq_180 (zby_at (j := 1) zbX2_clear_0 rfl) (zby_at (j := 2) zbX2_clear_0 rfl) (zby_at (j := 3) zbX2_clear_0 rfl)
theorem dX2_clear_4 : decode cX2_clear 4 = .ok (.lconst 0, 1) := dq_9 (zby_at (j := 4) zbX2_clear_0 rfl)
theorem dX2_clear_5 : decode cX2_clear 5 = .ok (.invokestatic 17, 3) := dq_184 (zby_at (j := 5) zbX2_clear_0 rfl) (zby_at (j := 6) zbX2_clear_0 rfl) (zby_at (j := 7) zbX2_clear_0 rfl)
theorem dX2_clear_8 : decode cX2_clear 8 = .ok (.return_, 1) := dq_177 (zby_at (j := 8) zbX2_clear_0 rfl)
theorem zbX2_copyFrom_0 : zby cX2_copyFrom 0 20 = [43, 180, 0, 11, 3, 42, 180, 0, 11, 3, 16, 16, 184, 0, 23, 177] := by decide +kernel
theorem dX2_copyFrom_0 : decode cX2_copyFrom 0 = .ok (.aload_n 1, 1) := dq_43 (zby_at (j := 0) zbX2_copyFrom_0 rfl)
theorem dX2_copyFrom_1 : decode cX2_copyFrom 1 = .ok (.getfield 11, 3) := dq_180 (zby_at (j := 1) zbX2_copyFrom_0 rfl) (zby_at (j := 2) zbX2_copyFrom_0 rfl) (zby_at (j := 3) zbX2_copyFrom_0 rfl)
theorem dX2_copyFrom_4 : decode cX2_copyFrom 4 = .ok (.iconst 0, 1) := dq_3 (zby_at (j := 4) zbX2_copyFrom_0 rfl)
theorem dX2_copyFrom_5 : decode cX2_copyFrom 5 = .ok (.aload_n 0, 1) := dq_42 (zby_at (j := 5) zbX2_copyFrom_0 rfl)
theorem dX2_copyFrom_6 : decode cX2_copyFrom 6 = .ok (.getfield 11, 3) := dq_180 (zby_at (j := 6) zbX2_copyFrom_0 rfl) (zby_at (j := 7) zbX2_copyFrom_0 rfl) (zby_at (j := 8) zbX2_copyFrom_0 rfl)
theorem dX2_copyFrom_9 : decode cX2_copyFrom 9 = .ok (.iconst 0, 1) := dq_3 (zby_at (j := 9) zbX2_copyFrom_0 rfl)
theorem dX2_copyFrom_10 : decode cX2_copyFrom 10 = .ok (.bipush 16, 2) := dq_16 (zby_at (j := 10) zbX2_copyFrom_0 rfl) (zby_at (j := 11) zbX2_copyFrom_0 rfl) rfl
theorem dX2_copyFrom_12 : decode cX2_copyFrom 12 = .ok (.invokestatic 23, 3) := dq_184 (zby_at (j := 12) zbX2_copyFrom_0 rfl) (zby_at (j := 13) zbX2_copyFrom_0 rfl) (zby_at (j := 14) zbX2_copyFrom_0 rfl)
theorem dX2_copyFrom_15 : decode cX2_copyFrom 15 = .ok (.return_, 1) := dq_177 (zby_at (j := 15) zbX2_copyFrom_0 rfl)
theorem zbX2_becomeAll_0 : zby cX2_becomeAll 0 20 = [42, 182, 0, 29, 27, 16, 6, 162, 0, 17, 42, 180, 0, 11, 3, 10, 4, 27, 120, 121] := by decide +kernel
theorem dX2_becomeAll_0 : decode cX2_becomeAll 0 = .ok (.aload_n 0, 1) := dq_42 (zby_at (j := 0) zbX2_becomeAll_0 rfl)
theorem dX2_becomeAll_1 : decode cX2_becomeAll 1 = .ok (.invokevirtual 29, 3) := dq_182 (zby_at (j := 1) zbX2_becomeAll_0 rfl) (zby_at (j := 2) zbX2_becomeAll_0 rfl) (zby_at (j := 3) zbX2_becomeAll_0 rfl)
theorem dX2_becomeAll_4 : decode cX2_becomeAll 4 = .ok (.iload_n 1, 1) := dq_27 (zby_at (j := 4) zbX2_becomeAll_0 rfl)
theorem dX2_becomeAll_5 : decode cX2_becomeAll 5 = .ok (.bipush 6, 2) := dq_16 (zby_at (j := 5) zbX2_becomeAll_0 rfl) (zby_at (j := 6) zbX2_becomeAll_0 rfl) rfl
theorem dX2_becomeAll_7 : decode cX2_becomeAll 7 = .ok (.if_icmp .ge 17, 3) := dq_162 (zby_at (j := 7) zbX2_becomeAll_0 rfl) (zby_at (j := 8) zbX2_becomeAll_0 rfl) (zby_at (j := 9) zbX2_becomeAll_0 rfl) rfl
theorem dX2_becomeAll_10 : decode cX2_becomeAll 10 = .ok (.aload_n 0, 1) := dq_42 (zby_at (j := 10) zbX2_becomeAll_0 rfl)
theorem dX2_becomeAll_11 : decode cX2_becomeAll 11 = .ok (.getfield 11, 3) := dq_180 (zby_at (j := 11) zbX2_becomeAll_0 rfl) (zby_at (j := 12) zbX2_becomeAll_0 rfl) (zby_at (j := 13) zbX2_becomeAll_0 rfl)
theorem dX2_becomeAll_14 : decode cX2_becomeAll 14 = .ok (.iconst 0, 1) := dq_3 (zby_at (j := 14) zbX2_becomeAll_0 rfl)
theorem dX2_becomeAll_15 : decode cX2_becomeAll 15 = .ok (.lconst 1, 1) := dq_10 (zby_at (j := 15) zbX2_becomeAll_0 rfl)
theorem zbX2_becomeAll_1 : zby cX2_becomeAll 16 20 = [4, 27, 120, 121, 10, 101, 80, 177, 3, 61, 28, 16, 16, 162, 0, 28, 28, 4, 27, 16] := by decide +kernel
theorem dX2_becomeAll_16 : decode cX2_becomeAll 16 = .ok (.iconst 1, 1) := dq_4 (zby_at (j := 0) zbX2_becomeAll_1 rfl)
theorem dX2_becomeAll_17 : decode cX2_becomeAll 17 = .ok (.iload_n 1, 1) := dq_27 (zby_at (j := 1) zbX2_becomeAll_1 rfl)
theorem dX2_becomeAll_18 : decode cX2_becomeAll 18 = .ok (.ishl, 1) := dq_120 (zby_at (j := 2) zbX2_becomeAll_1 rfl)
theorem dX2_becomeAll_19 : decode cX2_becomeAll 19 = .ok (.lshl, 1) := dq_121 (zby_at (j := 3) zbX2_becomeAll_1 rfl)
theorem dX2_becomeAll_20 : decode cX2_becomeAll 20 = .ok (.lconst 1, 1) := dq_10 (zby_at (j := 4) zbX2_becomeAll_1 rfl)
theorem dX2_becomeAll_21 : decode cX2_becomeAll 21 = .ok (.lsub, 1) := dq_101 (zby_at (j := 5) zbX2_becomeAll_1 rfl)
theorem dX2_becomeAll_22 : decode cX2_becomeAll 22 = .ok (.lastore, 1) := dq_80 (zby_at (j := 6) zbX2_becomeAll_1 rfl)
theorem dX2_becomeAll_23 : decode cX2_becomeAll 23 = .ok (.return_, 1) := dq_177 (zby_at (j := 7) zbX2_becomeAll_1 rfl)
theorem dX2_becomeAll_24 : decode cX2_becomeAll 24 = .ok (.iconst 0, 1) := dq_3 (zby_at (j := 8) zbX2_becomeAll_1 rfl)
theorem dX2_becomeAll_25 : decode cX2_becomeAll 25 = .ok (.istore_n 2, 1) := dq_61 (zby_at (j := 9) zbX2_becomeAll_1 rfl)
theorem dX2_becomeAll_26 : decode cX2_becomeAll 26 = .ok (.iload_n 2, 1) := dq_28 (zby_at (j := 10) zbX2_becomeAll_1 rfl)
theorem dX2_becomeAll_27 : decode cX2_becomeAll 27 = .ok (.bipush 16, 2) := dq_16 (zby_at (j := 11) zbX2_becomeAll_1 rfl) (zby_at (j := 12) zbX2_becomeAll_1 rfl) rfl
theorem dX2_becomeAll_29 : decode cX2_becomeAll 29 = .ok (.if_icmp .ge 28, 3) := dq_162 (zby_at (j := 13) zbX2_becomeAll_1 rfl) (zby_at (j := 14) zbX2_becomeAll_1 rfl) (zby_at (j := 15) zbX2_becomeAll_1 rfl) rfl
theorem zbX2_becomeAll_2 : zby cX2_becomeAll 32 20 = [28, 4, 27, 16, 6, 100, 120, 162, 0, 18, 42, 180, 0, 11, 28, 20, 0, 15, 80, 132] := by decide +kernel
theorem dX2_becomeAll_32 : decode cX2_becomeAll 32 = .ok (.iload_n 2, 1) := dq_28 (zby_at (j := 0) zbX2_becomeAll_2 rfl)
theorem dX2_becomeAll_33 : decode cX2_becomeAll 33 = .ok (.iconst 1, 1) := dq_4 (zby_at (j := 1) zbX2_becomeAll_2 rfl)
theorem dX2_becomeAll_34 : decode cX2_becomeAll 34 = .ok (.iload_n 1, 1) := dq_27 (zby_at (j := 2) zbX2_becomeAll_2 rfl)
theorem dX2_becomeAll_35 : decode cX2_becomeAll 35 = .ok (.bipush 6, 2) := dq_16 (zby_at (j := 3) zbX2_becomeAll_2 rfl) (zby_at (j := 4) zbX2_becomeAll_2 rfl) rfl
theorem dX2_becomeAll_37 : decode cX2_becomeAll 37 = .ok (.isub, 1) := dq_100 (zby_at (j := 5) zbX2_becomeAll_2 rfl)
theorem dX2_becomeAll_38 : decode cX2_becomeAll 38 = .ok (.ishl, 1) := dq_120 (zby_at (j := 6) zbX2_becomeAll_2 rfl)
theorem dX2_becomeAll_39 : decode cX2_becomeAll 39 = .ok (.if_icmp .ge 18, 3) := dq_162 (zby_at (j := 7) zbX2_becomeAll_2 rfl) (zby_at (j := 8) zbX2_becomeAll_2 rfl) (zby_at (j := 9) zbX2_becomeAll_2 rfl) rfl
theorem dX2_becomeAll_42 : decode cX2_becomeAll 42 = .ok (.aload_n 0, 1) := dq_42 (zby_at (j := 10) zbX2_becomeAll_2 rfl)
theorem dX2_becomeAll_43 : decode cX2_becomeAll 43 = .ok (.getfield 11, 3) := dq_180 (zby_at (j := 11) zbX2_becomeAll_2 rfl) (zby_at (j := 12) zbX2_becomeAll_2 rfl) (zby_at (j := 13) zbX2_becomeAll_2 rfl)
theorem dX2_becomeAll_46 : decode cX2_becomeAll 46 = .ok (.iload_n 2, 1) := dq_28 (zby_at (j := 14) zbX2_becomeAll_2 rfl)
theorem dX2_becomeAll_47 : decode cX2_becomeAll 47 = .ok (.ldc2_w 15, 3) := dq_20 (zby_at (j := 15) zbX2_becomeAll_2 rfl) (zby_at (j := 16) zbX2_becomeAll_2 rfl) (zby_at (j := 17) zbX2_becomeAll_2 rfl)
theorem zbX2_becomeAll_3 : zby cX2_becomeAll 48 20 = [0, 15, 80, 132, 2, 1, 167, 255, 228, 177] := by decide +kernel
theorem dX2_becomeAll_50 : decode cX2_becomeAll 50 = .ok (.lastore, 1) := dq_80 (zby_at (j := 2) zbX2_becomeAll_3 rfl)
theorem dX2_becomeAll_51 : decode cX2_becomeAll 51 = .ok (.iinc 2 1, 3) := dq_132 (zby_at (j := 3) zbX2_becomeAll_3 rfl) (zby_at (j := 4) zbX2_becomeAll_3 rfl) (zby_at (j := 5) zbX2_becomeAll_3 rfl) rfl
theorem dX2_becomeAll_54 : decode cX2_becomeAll 54 = .ok (.goto (-28), 3) := dq_167 (zby_at (j := 6) zbX2_becomeAll_3 rfl) (zby_at (j := 7) zbX2_becomeAll_3 rfl) (zby_at (j := 8) zbX2_becomeAll_3 rfl) rfl
theorem dX2_becomeAll_57 : decode cX2_becomeAll 57 = .ok (.return_, 1) := dq_177 (zby_at (j := 9) zbX2_becomeAll_3 rfl)
theorem zbX2_join_0 : zby cX2_join 0 20 = [3, 61, 28, 16, 16, 162, 0, 24, 42, 180, 0, 11, 28, 92, 47, 43, 180, 0, 11, 28] := by decide +kernel
theorem dX2_join_0 : decode cX2_join 0 = .ok (.iconst 0, 1) := dq_3 (zby_at (j := 0) zbX2_join_0 rfl)
theorem dX2_join_1 : decode cX2_join 1 = .ok (.istore_n 2, 1) := dq_61 (zby_at (j := 1) zbX2_join_0 rfl)
theorem dX2_join_2 : decode cX2_join 2 = .ok (.iload_n 2, 1) := dq_28 (zby_at (j := 2) zbX2_join_0 rfl)
theorem dX2_join_3 : decode cX2_join 3 = .ok (.bipush 16, 2) := dq_16 (zby_at (j := 3) zbX2_join_0 rfl) (zby_at (j := 4) zbX2_join_0 rfl) rfl
theorem dX2_join_5 : decode cX2_join 5 = .ok (.if_icmp .ge 24, 3) := dq_162 (zby_at (j := 5) zbX2_join_0 rfl) (zby_at (j := 6) zbX2_join_0 rfl) (zby_at (j := 7) zbX2_join_0 rfl) rfl
theorem dX2_join_8 : decode cX2_join 8 = .ok (.aload_n 0, 1) := dq_42 (zby_at (j := 8) zbX2_join_0 rfl)
theorem dX2_join_9 : decode cX2_join 9 = .ok (.getfield 11, 3) := dq_180 (zby_at (j := 9) zbX2_join_0 rfl) (zby_at (j := 10) zbX2_join_0 rfl) (zby_at (j := 11) zbX2_join_0 rfl)
theorem dX2_join_12 : decode cX2_join 12 = .ok (.iload_n 2, 1) := dq_28 (zby_at (j := 12) zbX2_join_0 rfl)
theorem dX2_join_13 : decode cX2_join 13 = .ok (.dup2, 1) := dq_92 (zby_at (j := 13) zbX2_join_0 rfl)
theorem dX2_join_14 : decode cX2_join 14 = .ok (.laload, 1) := dq_47 (zby_at (j := 14) zbX2_join_0 rfl)
theorem dX2_join_15 : decode cX2_join 15 = .ok (.aload_n 1, 1) := dq_43 (zby_at (j := 15) zbX2_join_0 rfl)
theorem zbX2_join_1 : zby cX2_join 16 20 = [180, 0, 11, 28, 47, 129, 80, 132, 2, 1, 167, 255, 232, 177] := by decide +kernel
theorem dX2_join_16 : decode cX2_join 16 = .ok (.getfield 11, 3) := dq_180 (zby_at (j := 0) zbX2_join_1 rfl) (zby_at (j := 1) zbX2_join_1 rfl) (zby_at (j := 2) zbX2_join_1 rfl)
theorem dX2_join_19 : decode cX2_join 19 = .ok (.iload_n 2, 1) := dq_28 (zby_at (j := 3) zbX2_join_1 rfl)
theorem dX2_join_20 : decode cX2_join 20 = .ok (.laload, 1) := dq_47 (zby_at (j := 4) zbX2_join_1 rfl)
theorem dX2_join_21 : decode cX2_join 21 = .ok (.lor, 1) := dq_129 (zby_at (j := 5) zbX2_join_1 rfl)
theorem dX2_join_22 : decode cX2_join 22 = .ok (.lastore, 1) := dq_80 (zby_at (j := 6) zbX2_join_1 rfl)
theorem dX2_join_23 : decode cX2_join 23 = .ok (.iinc 2 1, 3) := dq_132 (zby_at (j := 7) zbX2_join_1 rfl) (zby_at (j := 8) zbX2_join_1 rfl) (zby_at (j := 9) zbX2_join_1 rfl) rfl
theorem dX2_join_26 : decode cX2_join 26 = .ok (.goto (-24), 3) := dq_167 (zby_at (j := 10) zbX2_join_1 rfl) (zby_at (j := 11) zbX2_join_1 rfl) (zby_at (j := 12) zbX2_join_1 rfl) rfl
theorem dX2_join_29 : decode cX2_join 29 = .ok (.return_, 1) := dq_177 (zby_at (j := 13) zbX2_join_1 rfl)
theorem zbX2_cutBy_0 : zby cX2_cutBy 0 20 = [3, 61, 28, 16, 16, 162, 0, 24, 42, 180, 0, 11, 28, 92, 47, 43, 180, 0, 11, 28] := by decide +kernel
theorem dX2_cutBy_0 : decode cX2_cutBy 0 = .ok (.iconst 0, 1) := dq_3 (zby_at (j := 0) zbX2_cutBy_0 rfl)
theorem dX2_cutBy_1 : decode cX2_cutBy 1 = .ok (.istore_n 2, 1) := dq_61 (zby_at (j := 1) zbX2_cutBy_0 rfl)
theorem dX2_cutBy_2 : decode cX2_cutBy 2 = .ok (.iload_n 2, 1) := dq_28 (zby_at (j := 2) zbX2_cutBy_0 rfl)
theorem dX2_cutBy_3 : decode cX2_cutBy 3 = .ok (.bipush 16, 2) := dq_16 (zby_at (j := 3) zbX2_cutBy_0 rfl) (zby_at (j := 4) zbX2_cutBy_0 rfl) rfl
theorem dX2_cutBy_5 : decode cX2_cutBy 5 = .ok (.if_icmp .ge 24, 3) := dq_162 (zby_at (j := 5) zbX2_cutBy_0 rfl) (zby_at (j := 6) zbX2_cutBy_0 rfl) (zby_at (j := 7) zbX2_cutBy_0 rfl) rfl
theorem dX2_cutBy_8 : decode cX2_cutBy 8 = .ok (.aload_n 0, 1) := dq_42 (zby_at (j := 8) zbX2_cutBy_0 rfl)
theorem dX2_cutBy_9 : decode cX2_cutBy 9 = .ok (.getfield 11, 3) := dq_180 (zby_at (j := 9) zbX2_cutBy_0 rfl) (zby_at (j := 10) zbX2_cutBy_0 rfl) (zby_at (j := 11) zbX2_cutBy_0 rfl)
theorem dX2_cutBy_12 : decode cX2_cutBy 12 = .ok (.iload_n 2, 1) := dq_28 (zby_at (j := 12) zbX2_cutBy_0 rfl)
theorem dX2_cutBy_13 : decode cX2_cutBy 13 = .ok (.dup2, 1) := dq_92 (zby_at (j := 13) zbX2_cutBy_0 rfl)
theorem dX2_cutBy_14 : decode cX2_cutBy 14 = .ok (.laload, 1) := dq_47 (zby_at (j := 14) zbX2_cutBy_0 rfl)
theorem dX2_cutBy_15 : decode cX2_cutBy 15 = .ok (.aload_n 1, 1) := dq_43 (zby_at (j := 15) zbX2_cutBy_0 rfl)
theorem zbX2_cutBy_1 : zby cX2_cutBy 16 20 = [180, 0, 11, 28, 47, 127, 80, 132, 2, 1, 167, 255, 232, 177] := by decide +kernel
theorem dX2_cutBy_16 : decode cX2_cutBy 16 = .ok (.getfield 11, 3) := dq_180 (zby_at (j := 0) zbX2_cutBy_1 rfl) (zby_at (j := 1) zbX2_cutBy_1 rfl) (zby_at (j := 2) zbX2_cutBy_1 rfl)
theorem dX2_cutBy_19 : decode cX2_cutBy 19 = .ok (.iload_n 2, 1) := dq_28 (zby_at (j := 3) zbX2_cutBy_1 rfl)
theorem dX2_cutBy_20 : decode cX2_cutBy 20 = .ok (.laload, 1) := dq_47 (zby_at (j := 4) zbX2_cutBy_1 rfl)
theorem dX2_cutBy_21 : decode cX2_cutBy 21 = .ok (.land, 1) := dq_127 (zby_at (j := 5) zbX2_cutBy_1 rfl)
theorem dX2_cutBy_22 : decode cX2_cutBy 22 = .ok (.lastore, 1) := dq_80 (zby_at (j := 6) zbX2_cutBy_1 rfl)
theorem dX2_cutBy_23 : decode cX2_cutBy 23 = .ok (.iinc 2 1, 3) := dq_132 (zby_at (j := 7) zbX2_cutBy_1 rfl) (zby_at (j := 8) zbX2_cutBy_1 rfl) (zby_at (j := 9) zbX2_cutBy_1 rfl) rfl
theorem dX2_cutBy_26 : decode cX2_cutBy 26 = .ok (.goto (-24), 3) := dq_167 (zby_at (j := 10) zbX2_cutBy_1 rfl) (zby_at (j := 11) zbX2_cutBy_1 rfl) (zby_at (j := 12) zbX2_cutBy_1 rfl) rfl
theorem dX2_cutBy_29 : decode cX2_cutBy 29 = .ok (.return_, 1) := dq_177 (zby_at (j := 13) zbX2_cutBy_1 rfl)
theorem zbX2_takeAway_0 : zby cX2_takeAway 0 20 = [3, 61, 28, 16, 16, 162, 0, 28, 42, 180, 0, 11, 28, 92, 47, 43, 180, 0, 11, 28] := by decide +kernel
theorem dX2_takeAway_0 : decode cX2_takeAway 0 = .ok (.iconst 0, 1) := dq_3 (zby_at (j := 0) zbX2_takeAway_0 rfl)
theorem dX2_takeAway_1 : decode cX2_takeAway 1 = .ok (.istore_n 2, 1) := dq_61 (zby_at (j := 1) zbX2_takeAway_0 rfl)
theorem dX2_takeAway_2 : decode cX2_takeAway 2 = .ok (.iload_n 2, 1) := dq_28 (zby_at (j := 2) zbX2_takeAway_0 rfl)
theorem dX2_takeAway_3 : decode cX2_takeAway 3 = .ok (.bipush 16, 2) := dq_16 (zby_at (j := 3) zbX2_takeAway_0 rfl) (zby_at (j := 4) zbX2_takeAway_0 rfl) rfl
theorem dX2_takeAway_5 : decode cX2_takeAway 5 = .ok (.if_icmp .ge 28, 3) := dq_162 (zby_at (j := 5) zbX2_takeAway_0 rfl) (zby_at (j := 6) zbX2_takeAway_0 rfl) (zby_at (j := 7) zbX2_takeAway_0 rfl) rfl
theorem dX2_takeAway_8 : decode cX2_takeAway 8 = .ok (.aload_n 0, 1) := dq_42 (zby_at (j := 8) zbX2_takeAway_0 rfl)
theorem dX2_takeAway_9 : decode cX2_takeAway 9 = .ok (.getfield 11, 3) := dq_180 (zby_at (j := 9) zbX2_takeAway_0 rfl) (zby_at (j := 10) zbX2_takeAway_0 rfl) (zby_at (j := 11) zbX2_takeAway_0 rfl)
theorem dX2_takeAway_12 : decode cX2_takeAway 12 = .ok (.iload_n 2, 1) := dq_28 (zby_at (j := 12) zbX2_takeAway_0 rfl)
theorem dX2_takeAway_13 : decode cX2_takeAway 13 = .ok (.dup2, 1) := dq_92 (zby_at (j := 13) zbX2_takeAway_0 rfl)
theorem dX2_takeAway_14 : decode cX2_takeAway 14 = .ok (.laload, 1) := dq_47 (zby_at (j := 14) zbX2_takeAway_0 rfl)
theorem dX2_takeAway_15 : decode cX2_takeAway 15 = .ok (.aload_n 1, 1) := dq_43 (zby_at (j := 15) zbX2_takeAway_0 rfl)
theorem zbX2_takeAway_1 : zby cX2_takeAway 16 20 = [180, 0, 11, 28, 47, 20, 0, 15, 131, 127, 80, 132, 2, 1, 167, 255, 228, 177] := by decide +kernel
theorem dX2_takeAway_16 : decode cX2_takeAway 16 = .ok (.getfield 11, 3) := dq_180 (zby_at (j := 0) zbX2_takeAway_1 rfl) (zby_at (j := 1) zbX2_takeAway_1 rfl) (zby_at (j := 2) zbX2_takeAway_1 rfl)
theorem dX2_takeAway_19 : decode cX2_takeAway 19 = .ok (.iload_n 2, 1) := dq_28 (zby_at (j := 3) zbX2_takeAway_1 rfl)
theorem dX2_takeAway_20 : decode cX2_takeAway 20 = .ok (.laload, 1) := dq_47 (zby_at (j := 4) zbX2_takeAway_1 rfl)
theorem dX2_takeAway_21 : decode cX2_takeAway 21 = .ok (.ldc2_w 15, 3) := dq_20 (zby_at (j := 5) zbX2_takeAway_1 rfl) (zby_at (j := 6) zbX2_takeAway_1 rfl) (zby_at (j := 7) zbX2_takeAway_1 rfl)
theorem dX2_takeAway_24 : decode cX2_takeAway 24 = .ok (.lxor, 1) := dq_131 (zby_at (j := 8) zbX2_takeAway_1 rfl)
theorem dX2_takeAway_25 : decode cX2_takeAway 25 = .ok (.land, 1) := dq_127 (zby_at (j := 9) zbX2_takeAway_1 rfl)
theorem dX2_takeAway_26 : decode cX2_takeAway 26 = .ok (.lastore, 1) := dq_80 (zby_at (j := 10) zbX2_takeAway_1 rfl)
theorem dX2_takeAway_27 : decode cX2_takeAway 27 = .ok (.iinc 2 1, 3) := dq_132 (zby_at (j := 11) zbX2_takeAway_1 rfl) (zby_at (j := 12) zbX2_takeAway_1 rfl) (zby_at (j := 13) zbX2_takeAway_1 rfl) rfl
theorem dX2_takeAway_30 : decode cX2_takeAway 30 = .ok (.goto (-28), 3) := dq_167 (zby_at (j := 14) zbX2_takeAway_1 rfl) (zby_at (j := 15) zbX2_takeAway_1 rfl) (zby_at (j := 16) zbX2_takeAway_1 rfl) rfl
theorem zbX2_takeAway_2 : zby cX2_takeAway 32 20 = [228, 177] := by decide +kernel
theorem dX2_takeAway_33 : decode cX2_takeAway 33 = .ok (.return_, 1) := dq_177 (zby_at (j := 1) zbX2_takeAway_2 rfl)
theorem zbX2_isEmpty_0 : zby cX2_isEmpty 0 20 = [3, 60, 27, 16, 16, 162, 0, 22, 42, 180, 0, 11, 27, 47, 9, 148, 153, 0, 5, 3] := by decide +kernel
theorem dX2_isEmpty_0 : decode cX2_isEmpty 0 = .ok (.iconst 0, 1) := dq_3 (zby_at (j := 0) zbX2_isEmpty_0 rfl)
theorem dX2_isEmpty_1 : decode cX2_isEmpty 1 = .ok (.istore_n 1, 1) := dq_60 (zby_at (j := 1) zbX2_isEmpty_0 rfl)
theorem dX2_isEmpty_2 : decode cX2_isEmpty 2 = .ok (.iload_n 1, 1) := dq_27 (zby_at (j := 2) zbX2_isEmpty_0 rfl)
theorem dX2_isEmpty_3 : decode cX2_isEmpty 3 = .ok (.bipush 16, 2) := dq_16 (zby_at (j := 3) zbX2_isEmpty_0 rfl) (zby_at (j := 4) zbX2_isEmpty_0 rfl) rfl
theorem dX2_isEmpty_5 : decode cX2_isEmpty 5 = .ok (.if_icmp .ge 22, 3) := dq_162 (zby_at (j := 5) zbX2_isEmpty_0 rfl) (zby_at (j := 6) zbX2_isEmpty_0 rfl) (zby_at (j := 7) zbX2_isEmpty_0 rfl) rfl
theorem dX2_isEmpty_8 : decode cX2_isEmpty 8 = .ok (.aload_n 0, 1) := dq_42 (zby_at (j := 8) zbX2_isEmpty_0 rfl)
theorem dX2_isEmpty_9 : decode cX2_isEmpty 9 = .ok (.getfield 11, 3) := dq_180 (zby_at (j := 9) zbX2_isEmpty_0 rfl) (zby_at (j := 10) zbX2_isEmpty_0 rfl) (zby_at (j := 11) zbX2_isEmpty_0 rfl)
theorem dX2_isEmpty_12 : decode cX2_isEmpty 12 = .ok (.iload_n 1, 1) := dq_27 (zby_at (j := 12) zbX2_isEmpty_0 rfl)
theorem dX2_isEmpty_13 : decode cX2_isEmpty 13 = .ok (.laload, 1) := dq_47 (zby_at (j := 13) zbX2_isEmpty_0 rfl)
theorem dX2_isEmpty_14 : decode cX2_isEmpty 14 = .ok (.lconst 0, 1) := dq_9 (zby_at (j := 14) zbX2_isEmpty_0 rfl)
theorem dX2_isEmpty_15 : decode cX2_isEmpty 15 = .ok (.lcmp, 1) := dq_148 (zby_at (j := 15) zbX2_isEmpty_0 rfl)
theorem zbX2_isEmpty_1 : zby cX2_isEmpty 16 20 = [153, 0, 5, 3, 172, 132, 1, 1, 167, 255, 234, 4, 172] := by decide +kernel
theorem dX2_isEmpty_16 : decode cX2_isEmpty 16 = .ok (.ifCond .eq 5, 3) := dq_153 (zby_at (j := 0) zbX2_isEmpty_1 rfl) (zby_at (j := 1) zbX2_isEmpty_1 rfl) (zby_at (j := 2) zbX2_isEmpty_1 rfl) rfl
theorem dX2_isEmpty_19 : decode cX2_isEmpty 19 = .ok (.iconst 0, 1) := dq_3 (zby_at (j := 3) zbX2_isEmpty_1 rfl)
theorem dX2_isEmpty_20 : decode cX2_isEmpty 20 = .ok (.ireturn, 1) := dq_172 (zby_at (j := 4) zbX2_isEmpty_1 rfl)
theorem dX2_isEmpty_21 : decode cX2_isEmpty 21 = .ok (.iinc 1 1, 3) := dq_132 (zby_at (j := 5) zbX2_isEmpty_1 rfl) (zby_at (j := 6) zbX2_isEmpty_1 rfl) (zby_at (j := 7) zbX2_isEmpty_1 rfl) rfl
theorem dX2_isEmpty_24 : decode cX2_isEmpty 24 = .ok (.goto (-22), 3) := dq_167 (zby_at (j := 8) zbX2_isEmpty_1 rfl) (zby_at (j := 9) zbX2_isEmpty_1 rfl) (zby_at (j := 10) zbX2_isEmpty_1 rfl) rfl
theorem dX2_isEmpty_27 : decode cX2_isEmpty 27 = .ok (.iconst 1, 1) := dq_4 (zby_at (j := 11) zbX2_isEmpty_1 rfl)
theorem dX2_isEmpty_28 : decode cX2_isEmpty 28 = .ok (.ireturn, 1) := dq_172 (zby_at (j := 12) zbX2_isEmpty_1 rfl)
theorem zbX2_sameAs_0 : zby cX2_sameAs 0 20 = [3, 61, 28, 16, 16, 162, 0, 27, 42, 180, 0, 11, 28, 47, 43, 180, 0, 11, 28, 47] := by decide +kernel
theorem dX2_sameAs_0 : decode cX2_sameAs 0 = .ok (.iconst 0, 1) := dq_3 (zby_at (j := 0) zbX2_sameAs_0 rfl)
theorem dX2_sameAs_1 : decode cX2_sameAs 1 = .ok (.istore_n 2, 1) := dq_61 (zby_at (j := 1) zbX2_sameAs_0 rfl)
theorem dX2_sameAs_2 : decode cX2_sameAs 2 = .ok (.iload_n 2, 1) := dq_28 (zby_at (j := 2) zbX2_sameAs_0 rfl)
theorem dX2_sameAs_3 : decode cX2_sameAs 3 = .ok (.bipush 16, 2) := dq_16 (zby_at (j := 3) zbX2_sameAs_0 rfl) (zby_at (j := 4) zbX2_sameAs_0 rfl) rfl
theorem dX2_sameAs_5 : decode cX2_sameAs 5 = .ok (.if_icmp .ge 27, 3) := dq_162 (zby_at (j := 5) zbX2_sameAs_0 rfl) (zby_at (j := 6) zbX2_sameAs_0 rfl) (zby_at (j := 7) zbX2_sameAs_0 rfl) rfl
theorem dX2_sameAs_8 : decode cX2_sameAs 8 = .ok (.aload_n 0, 1) := dq_42 (zby_at (j := 8) zbX2_sameAs_0 rfl)
theorem dX2_sameAs_9 : decode cX2_sameAs 9 = .ok (.getfield 11, 3) := dq_180 (zby_at (j := 9) zbX2_sameAs_0 rfl) (zby_at (j := 10) zbX2_sameAs_0 rfl) (zby_at (j := 11) zbX2_sameAs_0 rfl)
theorem dX2_sameAs_12 : decode cX2_sameAs 12 = .ok (.iload_n 2, 1) := dq_28 (zby_at (j := 12) zbX2_sameAs_0 rfl)
theorem dX2_sameAs_13 : decode cX2_sameAs 13 = .ok (.laload, 1) := dq_47 (zby_at (j := 13) zbX2_sameAs_0 rfl)
theorem dX2_sameAs_14 : decode cX2_sameAs 14 = .ok (.aload_n 1, 1) := dq_43 (zby_at (j := 14) zbX2_sameAs_0 rfl)
theorem dX2_sameAs_15 : decode cX2_sameAs 15 = .ok (.getfield 11, 3) := dq_180 (zby_at (j := 15) zbX2_sameAs_0 rfl) (zby_at (j := 16) zbX2_sameAs_0 rfl) (zby_at (j := 17) zbX2_sameAs_0 rfl)
theorem zbX2_sameAs_1 : zby cX2_sameAs 16 20 = [0, 11, 28, 47, 148, 153, 0, 5, 3, 172, 132, 2, 1, 167, 255, 229, 4, 172] := by decide +kernel
theorem dX2_sameAs_18 : decode cX2_sameAs 18 = .ok (.iload_n 2, 1) := dq_28 (zby_at (j := 2) zbX2_sameAs_1 rfl)
theorem dX2_sameAs_19 : decode cX2_sameAs 19 = .ok (.laload, 1) := dq_47 (zby_at (j := 3) zbX2_sameAs_1 rfl)
theorem dX2_sameAs_20 : decode cX2_sameAs 20 = .ok (.lcmp, 1) := dq_148 (zby_at (j := 4) zbX2_sameAs_1 rfl)
theorem dX2_sameAs_21 : decode cX2_sameAs 21 = .ok (.ifCond .eq 5, 3) := dq_153 (zby_at (j := 5) zbX2_sameAs_1 rfl) (zby_at (j := 6) zbX2_sameAs_1 rfl) (zby_at (j := 7) zbX2_sameAs_1 rfl) rfl
theorem dX2_sameAs_24 : decode cX2_sameAs 24 = .ok (.iconst 0, 1) := dq_3 (zby_at (j := 8) zbX2_sameAs_1 rfl)
theorem dX2_sameAs_25 : decode cX2_sameAs 25 = .ok (.ireturn, 1) := dq_172 (zby_at (j := 9) zbX2_sameAs_1 rfl)
theorem dX2_sameAs_26 : decode cX2_sameAs 26 = .ok (.iinc 2 1, 3) := dq_132 (zby_at (j := 10) zbX2_sameAs_1 rfl) (zby_at (j := 11) zbX2_sameAs_1 rfl) (zby_at (j := 12) zbX2_sameAs_1 rfl) rfl
theorem dX2_sameAs_29 : decode cX2_sameAs 29 = .ok (.goto (-27), 3) := dq_167 (zby_at (j := 13) zbX2_sameAs_1 rfl) (zby_at (j := 14) zbX2_sameAs_1 rfl) (zby_at (j := 15) zbX2_sameAs_1 rfl) rfl
theorem zbX2_sameAs_2 : zby cX2_sameAs 32 20 = [4, 172] := by decide +kernel
theorem dX2_sameAs_32 : decode cX2_sameAs 32 = .ok (.iconst 1, 1) := dq_4 (zby_at (j := 0) zbX2_sameAs_2 rfl)
theorem dX2_sameAs_33 : decode cX2_sameAs 33 = .ok (.ireturn, 1) := dq_172 (zby_at (j := 1) zbX2_sameAs_2 rfl)
theorem zbX2_tally_0 : zby cX2_tally 0 20 = [3, 60, 3, 61, 28, 16, 16, 162, 0, 21, 27, 42, 180, 0, 11, 28, 47, 184, 0, 32] := by decide +kernel
theorem dX2_tally_0 : decode cX2_tally 0 = .ok (.iconst 0, 1) := dq_3 (zby_at (j := 0) zbX2_tally_0 rfl)
theorem dX2_tally_1 : decode cX2_tally 1 = .ok (.istore_n 1, 1) := dq_60 (zby_at (j := 1) zbX2_tally_0 rfl)
theorem dX2_tally_2 : decode cX2_tally 2 = .ok (.iconst 0, 1) := dq_3 (zby_at (j := 2) zbX2_tally_0 rfl)
theorem dX2_tally_3 : decode cX2_tally 3 = .ok (.istore_n 2, 1) := dq_61 (zby_at (j := 3) zbX2_tally_0 rfl)
theorem dX2_tally_4 : decode cX2_tally 4 = .ok (.iload_n 2, 1) := dq_28 (zby_at (j := 4) zbX2_tally_0 rfl)
theorem dX2_tally_5 : decode cX2_tally 5 = .ok (.bipush 16, 2) := dq_16 (zby_at (j := 5) zbX2_tally_0 rfl) (zby_at (j := 6) zbX2_tally_0 rfl) rfl
theorem dX2_tally_7 : decode cX2_tally 7 = .ok (.if_icmp .ge 21, 3) := dq_162 (zby_at (j := 7) zbX2_tally_0 rfl) (zby_at (j := 8) zbX2_tally_0 rfl) (zby_at (j := 9) zbX2_tally_0 rfl) rfl
theorem dX2_tally_10 : decode cX2_tally 10 = .ok (.iload_n 1, 1) := dq_27 (zby_at (j := 10) zbX2_tally_0 rfl)
theorem dX2_tally_11 : decode cX2_tally 11 = .ok (.aload_n 0, 1) := dq_42 (zby_at (j := 11) zbX2_tally_0 rfl)
theorem dX2_tally_12 : decode cX2_tally 12 = .ok (.getfield 11, 3) := dq_180 (zby_at (j := 12) zbX2_tally_0 rfl) (zby_at (j := 13) zbX2_tally_0 rfl) (zby_at (j := 14) zbX2_tally_0 rfl)
theorem dX2_tally_15 : decode cX2_tally 15 = .ok (.iload_n 2, 1) := dq_28 (zby_at (j := 15) zbX2_tally_0 rfl)
theorem zbX2_tally_1 : zby cX2_tally 16 20 = [47, 184, 0, 32, 96, 60, 132, 2, 1, 167, 255, 235, 27, 172] := by decide +kernel
theorem dX2_tally_16 : decode cX2_tally 16 = .ok (.laload, 1) := dq_47 (zby_at (j := 0) zbX2_tally_1 rfl)
theorem dX2_tally_17 : decode cX2_tally 17 = .ok (.invokestatic 32, 3) := dq_184 (zby_at (j := 1) zbX2_tally_1 rfl) (zby_at (j := 2) zbX2_tally_1 rfl) (zby_at (j := 3) zbX2_tally_1 rfl)
theorem dX2_tally_20 : decode cX2_tally 20 = .ok (.iadd, 1) := dq_96 (zby_at (j := 4) zbX2_tally_1 rfl)
theorem dX2_tally_21 : decode cX2_tally 21 = .ok (.istore_n 1, 1) := dq_60 (zby_at (j := 5) zbX2_tally_1 rfl)
theorem dX2_tally_22 : decode cX2_tally 22 = .ok (.iinc 2 1, 3) := dq_132 (zby_at (j := 6) zbX2_tally_1 rfl) (zby_at (j := 7) zbX2_tally_1 rfl) (zby_at (j := 8) zbX2_tally_1 rfl) rfl
theorem dX2_tally_25 : decode cX2_tally 25 = .ok (.goto (-21), 3) := dq_167 (zby_at (j := 9) zbX2_tally_1 rfl) (zby_at (j := 10) zbX2_tally_1 rfl) (zby_at (j := 11) zbX2_tally_1 rfl) rfl
theorem dX2_tally_28 : decode cX2_tally 28 = .ok (.iload_n 1, 1) := dq_27 (zby_at (j := 12) zbX2_tally_1 rfl)
theorem dX2_tally_29 : decode cX2_tally 29 = .ok (.ireturn, 1) := dq_172 (zby_at (j := 13) zbX2_tally_1 rfl)
theorem zbX2_tallyBelow_0 : zby cX2_tallyBelow 0 20 = [3, 61, 3, 62, 29, 16, 16, 162, 0, 29, 29, 27, 16, 6, 122, 162, 0, 21, 28, 42] := by decide +kernel
theorem dX2_tallyBelow_0 : decode cX2_tallyBelow 0 = .ok (.iconst 0, 1) := dq_3 (zby_at (j := 0) zbX2_tallyBelow_0 rfl)
theorem dX2_tallyBelow_1 : decode cX2_tallyBelow 1 = .ok (.istore_n 2, 1) := dq_61 (zby_at (j := 1) zbX2_tallyBelow_0 rfl)
theorem dX2_tallyBelow_2 : decode cX2_tallyBelow 2 = .ok (.iconst 0, 1) := dq_3 (zby_at (j := 2) zbX2_tallyBelow_0 rfl)
theorem dX2_tallyBelow_3 : decode cX2_tallyBelow 3 = .ok (.istore_n 3, 1) := dq_62 (zby_at (j := 3) zbX2_tallyBelow_0 rfl)
theorem dX2_tallyBelow_4 : decode cX2_tallyBelow 4 = .ok (.iload_n 3, 1) := dq_29 (zby_at (j := 4) zbX2_tallyBelow_0 rfl)
theorem dX2_tallyBelow_5 : decode cX2_tallyBelow 5 = .ok (.bipush 16, 2) := dq_16 (zby_at (j := 5) zbX2_tallyBelow_0 rfl) (zby_at (j := 6) zbX2_tallyBelow_0 rfl) rfl
theorem dX2_tallyBelow_7 : decode cX2_tallyBelow 7 = .ok (.if_icmp .ge 29, 3) := dq_162 (zby_at (j := 7) zbX2_tallyBelow_0 rfl) (zby_at (j := 8) zbX2_tallyBelow_0 rfl) (zby_at (j := 9) zbX2_tallyBelow_0 rfl) rfl
theorem dX2_tallyBelow_10 : decode cX2_tallyBelow 10 = .ok (.iload_n 3, 1) := dq_29 (zby_at (j := 10) zbX2_tallyBelow_0 rfl)
theorem dX2_tallyBelow_11 : decode cX2_tallyBelow 11 = .ok (.iload_n 1, 1) := dq_27 (zby_at (j := 11) zbX2_tallyBelow_0 rfl)
theorem dX2_tallyBelow_12 : decode cX2_tallyBelow 12 = .ok (.bipush 6, 2) := dq_16 (zby_at (j := 12) zbX2_tallyBelow_0 rfl) (zby_at (j := 13) zbX2_tallyBelow_0 rfl) rfl
theorem dX2_tallyBelow_14 : decode cX2_tallyBelow 14 = .ok (.ishr, 1) := dq_122 (zby_at (j := 14) zbX2_tallyBelow_0 rfl)
theorem dX2_tallyBelow_15 : decode cX2_tallyBelow 15 = .ok (.if_icmp .ge 21, 3) := dq_162 (zby_at (j := 15) zbX2_tallyBelow_0 rfl) (zby_at (j := 16) zbX2_tallyBelow_0 rfl) (zby_at (j := 17) zbX2_tallyBelow_0 rfl) rfl
theorem zbX2_tallyBelow_1 : zby cX2_tallyBelow 16 20 = [0, 21, 28, 42, 180, 0, 11, 29, 47, 184, 0, 32, 96, 61, 132, 3, 1, 167, 255, 227] := by decide +kernel
theorem dX2_tallyBelow_18 : decode cX2_tallyBelow 18 = .ok (.iload_n 2, 1) := dq_28 (zby_at (j := 2) zbX2_tallyBelow_1 rfl)
theorem dX2_tallyBelow_19 : decode cX2_tallyBelow 19 = .ok (.aload_n 0, 1) := dq_42 (zby_at (j := 3) zbX2_tallyBelow_1 rfl)
theorem dX2_tallyBelow_20 : decode cX2_tallyBelow 20 = .ok (.getfield 11, 3) := dq_180 (zby_at (j := 4) zbX2_tallyBelow_1 rfl) (zby_at (j := 5) zbX2_tallyBelow_1 rfl) (zby_at (j := 6) zbX2_tallyBelow_1 rfl)
theorem dX2_tallyBelow_23 : decode cX2_tallyBelow 23 = .ok (.iload_n 3, 1) := dq_29 (zby_at (j := 7) zbX2_tallyBelow_1 rfl)
theorem dX2_tallyBelow_24 : decode cX2_tallyBelow 24 = .ok (.laload, 1) := dq_47 (zby_at (j := 8) zbX2_tallyBelow_1 rfl)
theorem dX2_tallyBelow_25 : decode cX2_tallyBelow 25 = .ok (.invokestatic 32, 3) := dq_184 (zby_at (j := 9) zbX2_tallyBelow_1 rfl) (zby_at (j := 10) zbX2_tallyBelow_1 rfl) (zby_at (j := 11) zbX2_tallyBelow_1 rfl)
theorem dX2_tallyBelow_28 : decode cX2_tallyBelow 28 = .ok (.iadd, 1) := dq_96 (zby_at (j := 12) zbX2_tallyBelow_1 rfl)
theorem dX2_tallyBelow_29 : decode cX2_tallyBelow 29 = .ok (.istore_n 2, 1) := dq_61 (zby_at (j := 13) zbX2_tallyBelow_1 rfl)
theorem dX2_tallyBelow_30 : decode cX2_tallyBelow 30 = .ok (.iinc 3 1, 3) := dq_132 (zby_at (j := 14) zbX2_tallyBelow_1 rfl) (zby_at (j := 15) zbX2_tallyBelow_1 rfl) (zby_at (j := 16) zbX2_tallyBelow_1 rfl) rfl
theorem zbX2_tallyBelow_2 : zby cX2_tallyBelow 32 20 = [1, 167, 255, 227, 27, 155, 0, 34, 27, 17, 4, 0, 162, 0, 27, 28, 42, 180, 0, 11] := by decide +kernel
theorem dX2_tallyBelow_33 : decode cX2_tallyBelow 33 = .ok (.goto (-29), 3) := dq_167 (zby_at (j := 1) zbX2_tallyBelow_2 rfl) (zby_at (j := 2) zbX2_tallyBelow_2 rfl) (zby_at (j := 3) zbX2_tallyBelow_2 rfl) rfl
theorem dX2_tallyBelow_36 : decode cX2_tallyBelow 36 = .ok (.iload_n 1, 1) := dq_27 (zby_at (j := 4) zbX2_tallyBelow_2 rfl)
theorem dX2_tallyBelow_37 : decode cX2_tallyBelow 37 = .ok (.ifCond .lt 34, 3) := dq_155 (zby_at (j := 5) zbX2_tallyBelow_2 rfl) (zby_at (j := 6) zbX2_tallyBelow_2 rfl) (zby_at (j := 7) zbX2_tallyBelow_2 rfl) rfl
theorem dX2_tallyBelow_40 : decode cX2_tallyBelow 40 = .ok (.iload_n 1, 1) := dq_27 (zby_at (j := 8) zbX2_tallyBelow_2 rfl)
theorem dX2_tallyBelow_41 : decode cX2_tallyBelow 41 = .ok (.sipush 1024, 3) := dq_17 (zby_at (j := 9) zbX2_tallyBelow_2 rfl) (zby_at (j := 10) zbX2_tallyBelow_2 rfl) (zby_at (j := 11) zbX2_tallyBelow_2 rfl) rfl
theorem dX2_tallyBelow_44 : decode cX2_tallyBelow 44 = .ok (.if_icmp .ge 27, 3) := dq_162 (zby_at (j := 12) zbX2_tallyBelow_2 rfl) (zby_at (j := 13) zbX2_tallyBelow_2 rfl) (zby_at (j := 14) zbX2_tallyBelow_2 rfl) rfl
theorem dX2_tallyBelow_47 : decode cX2_tallyBelow 47 = .ok (.iload_n 2, 1) := dq_28 (zby_at (j := 15) zbX2_tallyBelow_2 rfl)
theorem zbX2_tallyBelow_3 : zby cX2_tallyBelow 48 20 = [42, 180, 0, 11, 27, 16, 6, 122, 47, 10, 27, 16, 63, 126, 121, 10, 101, 127, 184, 0] := by decide +kernel
theorem dX2_tallyBelow_48 : decode cX2_tallyBelow 48 = .ok (.aload_n 0, 1) := dq_42 (zby_at (j := 0) zbX2_tallyBelow_3 rfl)
theorem dX2_tallyBelow_49 : decode cX2_tallyBelow 49 = .ok (.getfield 11, 3) := dq_180 (zby_at (j := 1) zbX2_tallyBelow_3 rfl) (zby_at (j := 2) zbX2_tallyBelow_3 rfl) (zby_at (j := 3) zbX2_tallyBelow_3 rfl)
theorem dX2_tallyBelow_52 : decode cX2_tallyBelow 52 = .ok (.iload_n 1, 1) := dq_27 (zby_at (j := 4) zbX2_tallyBelow_3 rfl)
theorem dX2_tallyBelow_53 : decode cX2_tallyBelow 53 = .ok (.bipush 6, 2) := dq_16 (zby_at (j := 5) zbX2_tallyBelow_3 rfl) (zby_at (j := 6) zbX2_tallyBelow_3 rfl) rfl
theorem dX2_tallyBelow_55 : decode cX2_tallyBelow 55 = .ok (.ishr, 1) := dq_122 (zby_at (j := 7) zbX2_tallyBelow_3 rfl)
theorem dX2_tallyBelow_56 : decode cX2_tallyBelow 56 = .ok (.laload, 1) := dq_47 (zby_at (j := 8) zbX2_tallyBelow_3 rfl)
theorem dX2_tallyBelow_57 : decode cX2_tallyBelow 57 = .ok (.lconst 1, 1) := dq_10 (zby_at (j := 9) zbX2_tallyBelow_3 rfl)
theorem dX2_tallyBelow_58 : decode cX2_tallyBelow 58 = .ok (.iload_n 1, 1) := dq_27 (zby_at (j := 10) zbX2_tallyBelow_3 rfl)
theorem dX2_tallyBelow_59 : decode cX2_tallyBelow 59 = .ok (.bipush 63, 2) := dq_16 (zby_at (j := 11) zbX2_tallyBelow_3 rfl) (zby_at (j := 12) zbX2_tallyBelow_3 rfl) rfl
theorem dX2_tallyBelow_61 : decode cX2_tallyBelow 61 = .ok (.iand, 1) := dq_126 (zby_at (j := 13) zbX2_tallyBelow_3 rfl)
theorem dX2_tallyBelow_62 : decode cX2_tallyBelow 62 = .ok (.lshl, 1) := dq_121 (zby_at (j := 14) zbX2_tallyBelow_3 rfl)
theorem dX2_tallyBelow_63 : decode cX2_tallyBelow 63 = .ok (.lconst 1, 1) := dq_10 (zby_at (j := 15) zbX2_tallyBelow_3 rfl)
theorem zbX2_tallyBelow_4 : zby cX2_tallyBelow 64 20 = [101, 127, 184, 0, 32, 96, 61, 28, 172] := by decide +kernel
theorem dX2_tallyBelow_64 : decode cX2_tallyBelow 64 = .ok (.lsub, 1) := dq_101 (zby_at (j := 0) zbX2_tallyBelow_4 rfl)
theorem dX2_tallyBelow_65 : decode cX2_tallyBelow 65 = .ok (.land, 1) := dq_127 (zby_at (j := 1) zbX2_tallyBelow_4 rfl)
theorem dX2_tallyBelow_66 : decode cX2_tallyBelow 66 = .ok (.invokestatic 32, 3) := dq_184 (zby_at (j := 2) zbX2_tallyBelow_4 rfl) (zby_at (j := 3) zbX2_tallyBelow_4 rfl) (zby_at (j := 4) zbX2_tallyBelow_4 rfl)
theorem dX2_tallyBelow_69 : decode cX2_tallyBelow 69 = .ok (.iadd, 1) := dq_96 (zby_at (j := 5) zbX2_tallyBelow_4 rfl)
theorem dX2_tallyBelow_70 : decode cX2_tallyBelow 70 = .ok (.istore_n 2, 1) := dq_61 (zby_at (j := 6) zbX2_tallyBelow_4 rfl)
theorem dX2_tallyBelow_71 : decode cX2_tallyBelow 71 = .ok (.iload_n 2, 1) := dq_28 (zby_at (j := 7) zbX2_tallyBelow_4 rfl)
theorem dX2_tallyBelow_72 : decode cX2_tallyBelow 72 = .ok (.ireturn, 1) := dq_172 (zby_at (j := 8) zbX2_tallyBelow_4 rfl)
theorem zbX2_firstFrom_0 : zby cX2_firstFrom 0 20 = [27, 155, 0, 10, 27, 17, 4, 0, 161, 0, 5, 2, 172, 42, 180, 0, 11, 27, 16, 6] := by decide +kernel
theorem dX2_firstFrom_0 : decode cX2_firstFrom 0 = .ok (.iload_n 1, 1) := dq_27 (zby_at (j := 0) zbX2_firstFrom_0 rfl)
theorem dX2_firstFrom_1 : decode cX2_firstFrom 1 = .ok (.ifCond .lt 10, 3) := dq_155 (zby_at (j := 1) zbX2_firstFrom_0 rfl) (zby_at (j := 2) zbX2_firstFrom_0 rfl) (zby_at (j := 3) zbX2_firstFrom_0 rfl) rfl
theorem dX2_firstFrom_4 : decode cX2_firstFrom 4 = .ok (.iload_n 1, 1) := dq_27 (zby_at (j := 4) zbX2_firstFrom_0 rfl)
theorem dX2_firstFrom_5 : decode cX2_firstFrom 5 = .ok (.sipush 1024, 3) := dq_17 (zby_at (j := 5) zbX2_firstFrom_0 rfl) (zby_at (j := 6) zbX2_firstFrom_0 rfl) (zby_at (j := 7) zbX2_firstFrom_0 rfl) rfl
theorem dX2_firstFrom_8 : decode cX2_firstFrom 8 = .ok (.if_icmp .lt 5, 3) := dq_161 (zby_at (j := 8) zbX2_firstFrom_0 rfl) (zby_at (j := 9) zbX2_firstFrom_0 rfl) (zby_at (j := 10) zbX2_firstFrom_0 rfl) rfl
theorem dX2_firstFrom_11 : decode cX2_firstFrom 11 = .ok (.iconst (-1), 1) := dq_2 (zby_at (j := 11) zbX2_firstFrom_0 rfl)
theorem dX2_firstFrom_12 : decode cX2_firstFrom 12 = .ok (.ireturn, 1) := dq_172 (zby_at (j := 12) zbX2_firstFrom_0 rfl)
theorem dX2_firstFrom_13 : decode cX2_firstFrom 13 = .ok (.aload_n 0, 1) := dq_42 (zby_at (j := 13) zbX2_firstFrom_0 rfl)
theorem dX2_firstFrom_14 : decode cX2_firstFrom 14 = .ok (.getfield 11, 3) := dq_180 (zby_at (j := 14) zbX2_firstFrom_0 rfl) (zby_at (j := 15) zbX2_firstFrom_0 rfl) (zby_at (j := 16) zbX2_firstFrom_0 rfl)
theorem zbX2_firstFrom_1 : zby cX2_firstFrom 16 20 = [11, 27, 16, 6, 122, 47, 20, 0, 15, 27, 16, 63, 126, 121, 127, 65, 27, 16, 6, 122] := by decide +kernel
theorem dX2_firstFrom_17 : decode cX2_firstFrom 17 = .ok (.iload_n 1, 1) := dq_27 (zby_at (j := 1) zbX2_firstFrom_1 rfl)
theorem dX2_firstFrom_18 : decode cX2_firstFrom 18 = .ok (.bipush 6, 2) := dq_16 (zby_at (j := 2) zbX2_firstFrom_1 rfl) (zby_at (j := 3) zbX2_firstFrom_1 rfl) rfl
theorem dX2_firstFrom_20 : decode cX2_firstFrom 20 = .ok (.ishr, 1) := dq_122 (zby_at (j := 4) zbX2_firstFrom_1 rfl)
theorem dX2_firstFrom_21 : decode cX2_firstFrom 21 = .ok (.laload, 1) := dq_47 (zby_at (j := 5) zbX2_firstFrom_1 rfl)
theorem dX2_firstFrom_22 : decode cX2_firstFrom 22 = .ok (.ldc2_w 15, 3) := dq_20 (zby_at (j := 6) zbX2_firstFrom_1 rfl) (zby_at (j := 7) zbX2_firstFrom_1 rfl) (zby_at (j := 8) zbX2_firstFrom_1 rfl)
theorem dX2_firstFrom_25 : decode cX2_firstFrom 25 = .ok (.iload_n 1, 1) := dq_27 (zby_at (j := 9) zbX2_firstFrom_1 rfl)
theorem dX2_firstFrom_26 : decode cX2_firstFrom 26 = .ok (.bipush 63, 2) := dq_16 (zby_at (j := 10) zbX2_firstFrom_1 rfl) (zby_at (j := 11) zbX2_firstFrom_1 rfl) rfl
theorem dX2_firstFrom_28 : decode cX2_firstFrom 28 = .ok (.iand, 1) := dq_126 (zby_at (j := 12) zbX2_firstFrom_1 rfl)
theorem dX2_firstFrom_29 : decode cX2_firstFrom 29 = .ok (.lshl, 1) := dq_121 (zby_at (j := 13) zbX2_firstFrom_1 rfl)
theorem dX2_firstFrom_30 : decode cX2_firstFrom 30 = .ok (.land, 1) := dq_127 (zby_at (j := 14) zbX2_firstFrom_1 rfl)
theorem dX2_firstFrom_31 : decode cX2_firstFrom 31 = .ok (.lstore_n 2, 1) := dq_65 (zby_at (j := 15) zbX2_firstFrom_1 rfl)
theorem zbX2_firstFrom_2 : zby cX2_firstFrom 32 20 = [27, 16, 6, 122, 54, 4, 21, 4, 16, 16, 162, 0, 43, 21, 4, 27, 16, 6, 122, 164] := by decide +kernel
theorem dX2_firstFrom_32 : decode cX2_firstFrom 32 = .ok (.iload_n 1, 1) := dq_27 (zby_at (j := 0) zbX2_firstFrom_2 rfl)
theorem dX2_firstFrom_33 : decode cX2_firstFrom 33 = .ok (.bipush 6, 2) := dq_16 (zby_at (j := 1) zbX2_firstFrom_2 rfl) (zby_at (j := 2) zbX2_firstFrom_2 rfl) rfl
theorem dX2_firstFrom_35 : decode cX2_firstFrom 35 = .ok (.ishr, 1) := dq_122 (zby_at (j := 3) zbX2_firstFrom_2 rfl)
theorem dX2_firstFrom_36 : decode cX2_firstFrom 36 = .ok (.istore 4, 2) := dq_54 (zby_at (j := 4) zbX2_firstFrom_2 rfl) (zby_at (j := 5) zbX2_firstFrom_2 rfl)
theorem dX2_firstFrom_38 : decode cX2_firstFrom 38 = .ok (.iload 4, 2) := dq_21 (zby_at (j := 6) zbX2_firstFrom_2 rfl) (zby_at (j := 7) zbX2_firstFrom_2 rfl)
theorem dX2_firstFrom_40 : decode cX2_firstFrom 40 = .ok (.bipush 16, 2) := dq_16 (zby_at (j := 8) zbX2_firstFrom_2 rfl) (zby_at (j := 9) zbX2_firstFrom_2 rfl) rfl
theorem dX2_firstFrom_42 : decode cX2_firstFrom 42 = .ok (.if_icmp .ge 43, 3) := dq_162 (zby_at (j := 10) zbX2_firstFrom_2 rfl) (zby_at (j := 11) zbX2_firstFrom_2 rfl) (zby_at (j := 12) zbX2_firstFrom_2 rfl) rfl
theorem dX2_firstFrom_45 : decode cX2_firstFrom 45 = .ok (.iload 4, 2) := dq_21 (zby_at (j := 13) zbX2_firstFrom_2 rfl) (zby_at (j := 14) zbX2_firstFrom_2 rfl)
theorem dX2_firstFrom_47 : decode cX2_firstFrom 47 = .ok (.iload_n 1, 1) := dq_27 (zby_at (j := 15) zbX2_firstFrom_2 rfl)
theorem zbX2_firstFrom_3 : zby cX2_firstFrom 48 20 = [16, 6, 122, 164, 0, 11, 42, 180, 0, 11, 21, 4, 47, 65, 32, 9, 148, 153, 0, 14] := by decide +kernel
theorem dX2_firstFrom_48 : decode cX2_firstFrom 48 = .ok (.bipush 6, 2) := dq_16 (zby_at (j := 0) zbX2_firstFrom_3 rfl) (zby_at (j := 1) zbX2_firstFrom_3 rfl) rfl
theorem dX2_firstFrom_50 : decode cX2_firstFrom 50 = .ok (.ishr, 1) := dq_122 (zby_at (j := 2) zbX2_firstFrom_3 rfl)
theorem dX2_firstFrom_51 : decode cX2_firstFrom 51 = .ok (.if_icmp .le 11, 3) := dq_164 (zby_at (j := 3) zbX2_firstFrom_3 rfl) (zby_at (j := 4) zbX2_firstFrom_3 rfl) (zby_at (j := 5) zbX2_firstFrom_3 rfl) rfl
theorem dX2_firstFrom_54 : decode cX2_firstFrom 54 = .ok (.aload_n 0, 1) := dq_42 (zby_at (j := 6) zbX2_firstFrom_3 rfl)
theorem dX2_firstFrom_55 : decode cX2_firstFrom 55 = .ok (.getfield 11, 3) := dq_180 (zby_at (j := 7) zbX2_firstFrom_3 rfl) (zby_at (j := 8) zbX2_firstFrom_3 rfl) (zby_at (j := 9) zbX2_firstFrom_3 rfl)
theorem dX2_firstFrom_58 : decode cX2_firstFrom 58 = .ok (.iload 4, 2) := dq_21 (zby_at (j := 10) zbX2_firstFrom_3 rfl) (zby_at (j := 11) zbX2_firstFrom_3 rfl)
theorem dX2_firstFrom_60 : decode cX2_firstFrom 60 = .ok (.laload, 1) := dq_47 (zby_at (j := 12) zbX2_firstFrom_3 rfl)
theorem dX2_firstFrom_61 : decode cX2_firstFrom 61 = .ok (.lstore_n 2, 1) := dq_65 (zby_at (j := 13) zbX2_firstFrom_3 rfl)
theorem dX2_firstFrom_62 : decode cX2_firstFrom 62 = .ok (.lload_n 2, 1) := dq_32 (zby_at (j := 14) zbX2_firstFrom_3 rfl)
theorem dX2_firstFrom_63 : decode cX2_firstFrom 63 = .ok (.lconst 0, 1) := dq_9 (zby_at (j := 15) zbX2_firstFrom_3 rfl)
theorem zbX2_firstFrom_4 : zby cX2_firstFrom 64 20 = [148, 153, 0, 14, 21, 4, 16, 64, 104, 32, 184, 0, 38, 96, 172, 132, 4, 1, 167, 255] := by decide +kernel
theorem dX2_firstFrom_64 : decode cX2_firstFrom 64 = .ok (.lcmp, 1) := dq_148 (zby_at (j := 0) zbX2_firstFrom_4 rfl)
theorem dX2_firstFrom_65 : decode cX2_firstFrom 65 = .ok (.ifCond .eq 14, 3) := dq_153 (zby_at (j := 1) zbX2_firstFrom_4 rfl) (zby_at (j := 2) zbX2_firstFrom_4 rfl) (zby_at (j := 3) zbX2_firstFrom_4 rfl) rfl
theorem dX2_firstFrom_68 : decode cX2_firstFrom 68 = .ok (.iload 4, 2) := dq_21 (zby_at (j := 4) zbX2_firstFrom_4 rfl) (zby_at (j := 5) zbX2_firstFrom_4 rfl)
theorem dX2_firstFrom_70 : decode cX2_firstFrom 70 = .ok (.bipush 64, 2) := dq_16 (zby_at (j := 6) zbX2_firstFrom_4 rfl) (zby_at (j := 7) zbX2_firstFrom_4 rfl) rfl
theorem dX2_firstFrom_72 : decode cX2_firstFrom 72 = .ok (.imul, 1) := dq_104 (zby_at (j := 8) zbX2_firstFrom_4 rfl)
theorem dX2_firstFrom_73 : decode cX2_firstFrom 73 = .ok (.lload_n 2, 1) := dq_32 (zby_at (j := 9) zbX2_firstFrom_4 rfl)
theorem dX2_firstFrom_74 : decode cX2_firstFrom 74 = .ok (.invokestatic 38, 3) := dq_184 (zby_at (j := 10) zbX2_firstFrom_4 rfl) (zby_at (j := 11) zbX2_firstFrom_4 rfl) (zby_at (j := 12) zbX2_firstFrom_4 rfl)
theorem dX2_firstFrom_77 : decode cX2_firstFrom 77 = .ok (.iadd, 1) := dq_96 (zby_at (j := 13) zbX2_firstFrom_4 rfl)
theorem dX2_firstFrom_78 : decode cX2_firstFrom 78 = .ok (.ireturn, 1) := dq_172 (zby_at (j := 14) zbX2_firstFrom_4 rfl)
theorem dX2_firstFrom_79 : decode cX2_firstFrom 79 = .ok (.iinc 4 1, 3) := dq_132 (zby_at (j := 15) zbX2_firstFrom_4 rfl) (zby_at (j := 16) zbX2_firstFrom_4 rfl) (zby_at (j := 17) zbX2_firstFrom_4 rfl) rfl
theorem zbX2_firstFrom_5 : zby cX2_firstFrom 80 20 = [4, 1, 167, 255, 212, 2, 172] := by decide +kernel
theorem dX2_firstFrom_82 : decode cX2_firstFrom 82 = .ok (.goto (-44), 3) := dq_167 (zby_at (j := 2) zbX2_firstFrom_5 rfl) (zby_at (j := 3) zbX2_firstFrom_5 rfl) (zby_at (j := 4) zbX2_firstFrom_5 rfl) rfl
theorem dX2_firstFrom_85 : decode cX2_firstFrom 85 = .ok (.iconst (-1), 1) := dq_2 (zby_at (j := 5) zbX2_firstFrom_5 rfl)
theorem dX2_firstFrom_86 : decode cX2_firstFrom 86 = .ok (.ireturn, 1) := dq_172 (zby_at (j := 6) zbX2_firstFrom_5 rfl)
theorem zbX2_pick_0 : zby cX2_pick 0 20 = [27, 156, 0, 5, 2, 172, 27, 61, 3, 62, 29, 16, 16, 162, 0, 48, 42, 180, 0, 11] := by decide +kernel
theorem dX2_pick_0 : decode cX2_pick 0 = .ok (.iload_n 1, 1) := dq_27 (zby_at (j := 0) zbX2_pick_0 rfl)
theorem dX2_pick_1 : decode cX2_pick 1 = .ok (.ifCond .ge 5, 3) := dq_156 (zby_at (j := 1) zbX2_pick_0 rfl) (zby_at (j := 2) zbX2_pick_0 rfl) (zby_at (j := 3) zbX2_pick_0 rfl) rfl
theorem dX2_pick_4 : decode cX2_pick 4 = .ok (.iconst (-1), 1) := dq_2 (zby_at (j := 4) zbX2_pick_0 rfl)
theorem dX2_pick_5 : decode cX2_pick 5 = .ok (.ireturn, 1) := dq_172 (zby_at (j := 5) zbX2_pick_0 rfl)
theorem dX2_pick_6 : decode cX2_pick 6 = .ok (.iload_n 1, 1) := dq_27 (zby_at (j := 6) zbX2_pick_0 rfl)
theorem dX2_pick_7 : decode cX2_pick 7 = .ok (.istore_n 2, 1) := dq_61 (zby_at (j := 7) zbX2_pick_0 rfl)
theorem dX2_pick_8 : decode cX2_pick 8 = .ok (.iconst 0, 1) := dq_3 (zby_at (j := 8) zbX2_pick_0 rfl)
theorem dX2_pick_9 : decode cX2_pick 9 = .ok (.istore_n 3, 1) := dq_62 (zby_at (j := 9) zbX2_pick_0 rfl)
theorem dX2_pick_10 : decode cX2_pick 10 = .ok (.iload_n 3, 1) := dq_29 (zby_at (j := 10) zbX2_pick_0 rfl)
theorem dX2_pick_11 : decode cX2_pick 11 = .ok (.bipush 16, 2) := dq_16 (zby_at (j := 11) zbX2_pick_0 rfl) (zby_at (j := 12) zbX2_pick_0 rfl) rfl
theorem dX2_pick_13 : decode cX2_pick 13 = .ok (.if_icmp .ge 48, 3) := dq_162 (zby_at (j := 13) zbX2_pick_0 rfl) (zby_at (j := 14) zbX2_pick_0 rfl) (zby_at (j := 15) zbX2_pick_0 rfl) rfl
theorem zbX2_pick_1 : zby cX2_pick 16 20 = [42, 180, 0, 11, 29, 47, 184, 0, 32, 54, 4, 28, 21, 4, 162, 0, 20, 29, 16, 64] := by decide +kernel
theorem dX2_pick_16 : decode cX2_pick 16 = .ok (.aload_n 0, 1) := dq_42 (zby_at (j := 0) zbX2_pick_1 rfl)
theorem dX2_pick_17 : decode cX2_pick 17 = .ok (.getfield 11, 3) := dq_180 (zby_at (j := 1) zbX2_pick_1 rfl) (zby_at (j := 2) zbX2_pick_1 rfl) (zby_at (j := 3) zbX2_pick_1 rfl)
theorem dX2_pick_20 : decode cX2_pick 20 = .ok (.iload_n 3, 1) := dq_29 (zby_at (j := 4) zbX2_pick_1 rfl)
theorem dX2_pick_21 : decode cX2_pick 21 = .ok (.laload, 1) := dq_47 (zby_at (j := 5) zbX2_pick_1 rfl)
theorem dX2_pick_22 : decode cX2_pick 22 = .ok (.invokestatic 32, 3) := dq_184 (zby_at (j := 6) zbX2_pick_1 rfl) (zby_at (j := 7) zbX2_pick_1 rfl) (zby_at (j := 8) zbX2_pick_1 rfl)
theorem dX2_pick_25 : decode cX2_pick 25 = .ok (.istore 4, 2) := dq_54 (zby_at (j := 9) zbX2_pick_1 rfl) (zby_at (j := 10) zbX2_pick_1 rfl)
theorem dX2_pick_27 : decode cX2_pick 27 = .ok (.iload_n 2, 1) := dq_28 (zby_at (j := 11) zbX2_pick_1 rfl)
theorem dX2_pick_28 : decode cX2_pick 28 = .ok (.iload 4, 2) := dq_21 (zby_at (j := 12) zbX2_pick_1 rfl) (zby_at (j := 13) zbX2_pick_1 rfl)
theorem dX2_pick_30 : decode cX2_pick 30 = .ok (.if_icmp .ge 20, 3) := dq_162 (zby_at (j := 14) zbX2_pick_1 rfl) (zby_at (j := 15) zbX2_pick_1 rfl) (zby_at (j := 16) zbX2_pick_1 rfl) rfl
theorem zbX2_pick_2 : zby cX2_pick 32 20 = [20, 29, 16, 64, 104, 42, 42, 180, 0, 11, 29, 47, 28, 182, 0, 41, 96, 172, 28, 21] := by decide +kernel
theorem dX2_pick_33 : decode cX2_pick 33 = .ok (.iload_n 3, 1) := dq_29 (zby_at (j := 1) zbX2_pick_2 rfl)
theorem dX2_pick_34 : decode cX2_pick 34 = .ok (.bipush 64, 2) := dq_16 (zby_at (j := 2) zbX2_pick_2 rfl) (zby_at (j := 3) zbX2_pick_2 rfl) rfl
theorem dX2_pick_36 : decode cX2_pick 36 = .ok (.imul, 1) := dq_104 (zby_at (j := 4) zbX2_pick_2 rfl)
theorem dX2_pick_37 : decode cX2_pick 37 = .ok (.aload_n 0, 1) := dq_42 (zby_at (j := 5) zbX2_pick_2 rfl)
theorem dX2_pick_38 : decode cX2_pick 38 = .ok (.aload_n 0, 1) := dq_42 (zby_at (j := 6) zbX2_pick_2 rfl)
theorem dX2_pick_39 : decode cX2_pick 39 = .ok (.getfield 11, 3) := dq_180 (zby_at (j := 7) zbX2_pick_2 rfl) (zby_at (j := 8) zbX2_pick_2 rfl) (zby_at (j := 9) zbX2_pick_2 rfl)
theorem dX2_pick_42 : decode cX2_pick 42 = .ok (.iload_n 3, 1) := dq_29 (zby_at (j := 10) zbX2_pick_2 rfl)
theorem dX2_pick_43 : decode cX2_pick 43 = .ok (.laload, 1) := dq_47 (zby_at (j := 11) zbX2_pick_2 rfl)
theorem dX2_pick_44 : decode cX2_pick 44 = .ok (.iload_n 2, 1) := dq_28 (zby_at (j := 12) zbX2_pick_2 rfl)
theorem dX2_pick_45 : decode cX2_pick 45 = .ok (.invokevirtual 41, 3) := dq_182 (zby_at (j := 13) zbX2_pick_2 rfl) (zby_at (j := 14) zbX2_pick_2 rfl) (zby_at (j := 15) zbX2_pick_2 rfl)
theorem zbX2_pick_3 : zby cX2_pick 48 20 = [96, 172, 28, 21, 4, 100, 61, 132, 3, 1, 167, 255, 208, 2, 172] := by decide +kernel
theorem dX2_pick_48 : decode cX2_pick 48 = .ok (.iadd, 1) := dq_96 (zby_at (j := 0) zbX2_pick_3 rfl)
theorem dX2_pick_49 : decode cX2_pick 49 = .ok (.ireturn, 1) := dq_172 (zby_at (j := 1) zbX2_pick_3 rfl)
theorem dX2_pick_50 : decode cX2_pick 50 = .ok (.iload_n 2, 1) := dq_28 (zby_at (j := 2) zbX2_pick_3 rfl)
theorem dX2_pick_51 : decode cX2_pick 51 = .ok (.iload 4, 2) := dq_21 (zby_at (j := 3) zbX2_pick_3 rfl) (zby_at (j := 4) zbX2_pick_3 rfl)
theorem dX2_pick_53 : decode cX2_pick 53 = .ok (.isub, 1) := dq_100 (zby_at (j := 5) zbX2_pick_3 rfl)
theorem dX2_pick_54 : decode cX2_pick 54 = .ok (.istore_n 2, 1) := dq_61 (zby_at (j := 6) zbX2_pick_3 rfl)
theorem dX2_pick_55 : decode cX2_pick 55 = .ok (.iinc 3 1, 3) := dq_132 (zby_at (j := 7) zbX2_pick_3 rfl) (zby_at (j := 8) zbX2_pick_3 rfl) (zby_at (j := 9) zbX2_pick_3 rfl) rfl
theorem dX2_pick_58 : decode cX2_pick 58 = .ok (.goto (-48), 3) := dq_167 (zby_at (j := 10) zbX2_pick_3 rfl) (zby_at (j := 11) zbX2_pick_3 rfl) (zby_at (j := 12) zbX2_pick_3 rfl) rfl
theorem dX2_pick_61 : decode cX2_pick 61 = .ok (.iconst (-1), 1) := dq_2 (zby_at (j := 13) zbX2_pick_3 rfl)
theorem dX2_pick_62 : decode cX2_pick 62 = .ok (.ireturn, 1) := dq_172 (zby_at (j := 14) zbX2_pick_3 rfl)
theorem zbX2_pickInWord_0 : zby cX2_pickInWord 0 20 = [31, 55, 4, 3, 54, 6, 21, 6, 29, 162, 0, 25, 21, 6, 16, 64, 162, 0, 18, 22] := by decide +kernel
theorem dX2_pickInWord_0 : decode cX2_pickInWord 0 = .ok (.lload_n 1, 1) := dq_31 (zby_at (j := 0) zbX2_pickInWord_0 rfl)
theorem dX2_pickInWord_1 : decode cX2_pickInWord 1 = .ok (.lstore 4, 2) := dq_55 (zby_at (j := 1) zbX2_pickInWord_0 rfl) (zby_at (j := 2) zbX2_pickInWord_0 rfl)
theorem dX2_pickInWord_3 : decode cX2_pickInWord 3 = .ok (.iconst 0, 1) := dq_3 (zby_at (j := 3) zbX2_pickInWord_0 rfl)
theorem dX2_pickInWord_4 : decode cX2_pickInWord 4 = .ok (.istore 6, 2) := dq_54 (zby_at (j := 4) zbX2_pickInWord_0 rfl) (zby_at (j := 5) zbX2_pickInWord_0 rfl)
theorem dX2_pickInWord_6 : decode cX2_pickInWord 6 = .ok (.iload 6, 2) := dq_21 (zby_at (j := 6) zbX2_pickInWord_0 rfl) (zby_at (j := 7) zbX2_pickInWord_0 rfl)
theorem dX2_pickInWord_8 : decode cX2_pickInWord 8 = .ok (.iload_n 3, 1) := dq_29 (zby_at (j := 8) zbX2_pickInWord_0 rfl)
theorem dX2_pickInWord_9 : decode cX2_pickInWord 9 = .ok (.if_icmp .ge 25, 3) := dq_162 (zby_at (j := 9) zbX2_pickInWord_0 rfl) (zby_at (j := 10) zbX2_pickInWord_0 rfl) (zby_at (j := 11) zbX2_pickInWord_0 rfl) rfl
theorem dX2_pickInWord_12 : decode cX2_pickInWord 12 = .ok (.iload 6, 2) := dq_21 (zby_at (j := 12) zbX2_pickInWord_0 rfl) (zby_at (j := 13) zbX2_pickInWord_0 rfl)
theorem dX2_pickInWord_14 : decode cX2_pickInWord 14 = .ok (.bipush 64, 2) := dq_16 (zby_at (j := 14) zbX2_pickInWord_0 rfl) (zby_at (j := 15) zbX2_pickInWord_0 rfl) rfl
theorem zbX2_pickInWord_1 : zby cX2_pickInWord 16 20 = [162, 0, 18, 22, 4, 22, 4, 10, 101, 127, 55, 4, 132, 6, 1, 167, 255, 231, 22, 4] := by decide +kernel
theorem dX2_pickInWord_16 : decode cX2_pickInWord 16 = .ok (.if_icmp .ge 18, 3) := dq_162 (zby_at (j := 0) zbX2_pickInWord_1 rfl) (zby_at (j := 1) zbX2_pickInWord_1 rfl) (zby_at (j := 2) zbX2_pickInWord_1 rfl) rfl
theorem dX2_pickInWord_19 : decode cX2_pickInWord 19 = .ok (.lload 4, 2) := dq_22 (zby_at (j := 3) zbX2_pickInWord_1 rfl) (zby_at (j := 4) zbX2_pickInWord_1 rfl)
theorem dX2_pickInWord_21 : decode cX2_pickInWord 21 = .ok (.lload 4, 2) := dq_22 (zby_at (j := 5) zbX2_pickInWord_1 rfl) (zby_at (j := 6) zbX2_pickInWord_1 rfl)
theorem dX2_pickInWord_23 : decode cX2_pickInWord 23 = .ok (.lconst 1, 1) := dq_10 (zby_at (j := 7) zbX2_pickInWord_1 rfl)
theorem dX2_pickInWord_24 : decode cX2_pickInWord 24 = .ok (.lsub, 1) := dq_101 (zby_at (j := 8) zbX2_pickInWord_1 rfl)
theorem dX2_pickInWord_25 : decode cX2_pickInWord 25 = .ok (.land, 1) := dq_127 (zby_at (j := 9) zbX2_pickInWord_1 rfl)
theorem dX2_pickInWord_26 : decode cX2_pickInWord 26 = .ok (.lstore 4, 2) := dq_55 (zby_at (j := 10) zbX2_pickInWord_1 rfl) (zby_at (j := 11) zbX2_pickInWord_1 rfl)
theorem dX2_pickInWord_28 : decode cX2_pickInWord 28 = .ok (.iinc 6 1, 3) := dq_132 (zby_at (j := 12) zbX2_pickInWord_1 rfl) (zby_at (j := 13) zbX2_pickInWord_1 rfl) (zby_at (j := 14) zbX2_pickInWord_1 rfl) rfl
theorem dX2_pickInWord_31 : decode cX2_pickInWord 31 = .ok (.goto (-25), 3) := dq_167 (zby_at (j := 15) zbX2_pickInWord_1 rfl) (zby_at (j := 16) zbX2_pickInWord_1 rfl) (zby_at (j := 17) zbX2_pickInWord_1 rfl) rfl
theorem zbX2_pickInWord_2 : zby cX2_pickInWord 32 20 = [255, 231, 22, 4, 184, 0, 38, 172] := by decide +kernel
theorem dX2_pickInWord_34 : decode cX2_pickInWord 34 = .ok (.lload 4, 2) := dq_22 (zby_at (j := 2) zbX2_pickInWord_2 rfl) (zby_at (j := 3) zbX2_pickInWord_2 rfl)
theorem dX2_pickInWord_36 : decode cX2_pickInWord 36 = .ok (.invokestatic 38, 3) := dq_184 (zby_at (j := 4) zbX2_pickInWord_2 rfl) (zby_at (j := 5) zbX2_pickInWord_2 rfl) (zby_at (j := 6) zbX2_pickInWord_2 rfl)
theorem dX2_pickInWord_39 : decode cX2_pickInWord 39 = .ok (.ireturn, 1) := dq_172 (zby_at (j := 7) zbX2_pickInWord_2 rfl)
theorem zbX2_raise_0 : zby cX2_raise 0 20 = [27, 155, 0, 9, 27, 16, 10, 161, 0, 4, 177, 27, 16, 6, 162, 0, 43, 3, 61, 28] := by decide +kernel
theorem dX2_raise_0 : decode cX2_raise 0 = .ok (.iload_n 1, 1) := dq_27 (zby_at (j := 0) zbX2_raise_0 rfl)
theorem dX2_raise_1 : decode cX2_raise 1 = .ok (.ifCond .lt 9, 3) := dq_155 (zby_at (j := 1) zbX2_raise_0 rfl) (zby_at (j := 2) zbX2_raise_0 rfl) (zby_at (j := 3) zbX2_raise_0 rfl) rfl
theorem dX2_raise_4 : decode cX2_raise 4 = .ok (.iload_n 1, 1) := dq_27 (zby_at (j := 4) zbX2_raise_0 rfl)
theorem dX2_raise_5 : decode cX2_raise 5 = .ok (.bipush 10, 2) := dq_16 (zby_at (j := 5) zbX2_raise_0 rfl) (zby_at (j := 6) zbX2_raise_0 rfl) rfl
theorem dX2_raise_7 : decode cX2_raise 7 = .ok (.if_icmp .lt 4, 3) := dq_161 (zby_at (j := 7) zbX2_raise_0 rfl) (zby_at (j := 8) zbX2_raise_0 rfl) (zby_at (j := 9) zbX2_raise_0 rfl) rfl
theorem dX2_raise_10 : decode cX2_raise 10 = .ok (.return_, 1) := dq_177 (zby_at (j := 10) zbX2_raise_0 rfl)
theorem dX2_raise_11 : decode cX2_raise 11 = .ok (.iload_n 1, 1) := dq_27 (zby_at (j := 11) zbX2_raise_0 rfl)
theorem dX2_raise_12 : decode cX2_raise 12 = .ok (.bipush 6, 2) := dq_16 (zby_at (j := 12) zbX2_raise_0 rfl) (zby_at (j := 13) zbX2_raise_0 rfl) rfl
theorem dX2_raise_14 : decode cX2_raise 14 = .ok (.if_icmp .ge 43, 3) := dq_162 (zby_at (j := 14) zbX2_raise_0 rfl) (zby_at (j := 15) zbX2_raise_0 rfl) (zby_at (j := 16) zbX2_raise_0 rfl) rfl
theorem zbX2_raise_1 : zby cX2_raise 16 20 = [43, 3, 61, 28, 16, 16, 162, 0, 34, 42, 180, 0, 11, 28, 92, 47, 42, 180, 0, 11] := by decide +kernel
theorem dX2_raise_17 : decode cX2_raise 17 = .ok (.iconst 0, 1) := dq_3 (zby_at (j := 1) zbX2_raise_1 rfl)
theorem dX2_raise_18 : decode cX2_raise 18 = .ok (.istore_n 2, 1) := dq_61 (zby_at (j := 2) zbX2_raise_1 rfl)
theorem dX2_raise_19 : decode cX2_raise 19 = .ok (.iload_n 2, 1) := dq_28 (zby_at (j := 3) zbX2_raise_1 rfl)
theorem dX2_raise_20 : decode cX2_raise 20 = .ok (.bipush 16, 2) := dq_16 (zby_at (j := 4) zbX2_raise_1 rfl) (zby_at (j := 5) zbX2_raise_1 rfl) rfl
theorem dX2_raise_22 : decode cX2_raise 22 = .ok (.if_icmp .ge 34, 3) := dq_162 (zby_at (j := 6) zbX2_raise_1 rfl) (zby_at (j := 7) zbX2_raise_1 rfl) (zby_at (j := 8) zbX2_raise_1 rfl) rfl
theorem dX2_raise_25 : decode cX2_raise 25 = .ok (.aload_n 0, 1) := dq_42 (zby_at (j := 9) zbX2_raise_1 rfl)
theorem dX2_raise_26 : decode cX2_raise 26 = .ok (.getfield 11, 3) := dq_180 (zby_at (j := 10) zbX2_raise_1 rfl) (zby_at (j := 11) zbX2_raise_1 rfl) (zby_at (j := 12) zbX2_raise_1 rfl)
theorem dX2_raise_29 : decode cX2_raise 29 = .ok (.iload_n 2, 1) := dq_28 (zby_at (j := 13) zbX2_raise_1 rfl)
theorem dX2_raise_30 : decode cX2_raise 30 = .ok (.dup2, 1) := dq_92 (zby_at (j := 14) zbX2_raise_1 rfl)
theorem dX2_raise_31 : decode cX2_raise 31 = .ok (.laload, 1) := dq_47 (zby_at (j := 15) zbX2_raise_1 rfl)
theorem zbX2_raise_2 : zby cX2_raise 32 20 = [42, 180, 0, 11, 28, 47, 178, 0, 45, 27, 47, 127, 4, 27, 120, 121, 129, 80, 132, 2] := by decide +kernel
theorem dX2_raise_32 : decode cX2_raise 32 = .ok (.aload_n 0, 1) := dq_42 (zby_at (j := 0) zbX2_raise_2 rfl)
theorem dX2_raise_33 : decode cX2_raise 33 = .ok (.getfield 11, 3) := dq_180 (zby_at (j := 1) zbX2_raise_2 rfl) (zby_at (j := 2) zbX2_raise_2 rfl) (zby_at (j := 3) zbX2_raise_2 rfl)
theorem dX2_raise_36 : decode cX2_raise 36 = .ok (.iload_n 2, 1) := dq_28 (zby_at (j := 4) zbX2_raise_2 rfl)
theorem dX2_raise_37 : decode cX2_raise 37 = .ok (.laload, 1) := dq_47 (zby_at (j := 5) zbX2_raise_2 rfl)
theorem dX2_raise_38 : decode cX2_raise 38 = .ok (.getstatic 45, 3) := dq_178 (zby_at (j := 6) zbX2_raise_2 rfl) (zby_at (j := 7) zbX2_raise_2 rfl) (zby_at (j := 8) zbX2_raise_2 rfl)
theorem dX2_raise_41 : decode cX2_raise 41 = .ok (.iload_n 1, 1) := dq_27 (zby_at (j := 9) zbX2_raise_2 rfl)
theorem dX2_raise_42 : decode cX2_raise 42 = .ok (.laload, 1) := dq_47 (zby_at (j := 10) zbX2_raise_2 rfl)
theorem dX2_raise_43 : decode cX2_raise 43 = .ok (.land, 1) := dq_127 (zby_at (j := 11) zbX2_raise_2 rfl)
theorem dX2_raise_44 : decode cX2_raise 44 = .ok (.iconst 1, 1) := dq_4 (zby_at (j := 12) zbX2_raise_2 rfl)
theorem dX2_raise_45 : decode cX2_raise 45 = .ok (.iload_n 1, 1) := dq_27 (zby_at (j := 13) zbX2_raise_2 rfl)
theorem dX2_raise_46 : decode cX2_raise 46 = .ok (.ishl, 1) := dq_120 (zby_at (j := 14) zbX2_raise_2 rfl)
theorem dX2_raise_47 : decode cX2_raise 47 = .ok (.lshl, 1) := dq_121 (zby_at (j := 15) zbX2_raise_2 rfl)
theorem zbX2_raise_3 : zby cX2_raise 48 20 = [129, 80, 132, 2, 1, 167, 255, 222, 177, 4, 27, 16, 6, 100, 120, 61, 3, 62, 29, 28] := by decide +kernel
theorem dX2_raise_48 : decode cX2_raise 48 = .ok (.lor, 1) := dq_129 (zby_at (j := 0) zbX2_raise_3 rfl)
theorem dX2_raise_49 : decode cX2_raise 49 = .ok (.lastore, 1) := dq_80 (zby_at (j := 1) zbX2_raise_3 rfl)
theorem dX2_raise_50 : decode cX2_raise 50 = .ok (.iinc 2 1, 3) := dq_132 (zby_at (j := 2) zbX2_raise_3 rfl) (zby_at (j := 3) zbX2_raise_3 rfl) (zby_at (j := 4) zbX2_raise_3 rfl) rfl
theorem dX2_raise_53 : decode cX2_raise 53 = .ok (.goto (-34), 3) := dq_167 (zby_at (j := 5) zbX2_raise_3 rfl) (zby_at (j := 6) zbX2_raise_3 rfl) (zby_at (j := 7) zbX2_raise_3 rfl) rfl
theorem dX2_raise_56 : decode cX2_raise 56 = .ok (.return_, 1) := dq_177 (zby_at (j := 8) zbX2_raise_3 rfl)
theorem dX2_raise_57 : decode cX2_raise 57 = .ok (.iconst 1, 1) := dq_4 (zby_at (j := 9) zbX2_raise_3 rfl)
theorem dX2_raise_58 : decode cX2_raise 58 = .ok (.iload_n 1, 1) := dq_27 (zby_at (j := 10) zbX2_raise_3 rfl)
theorem dX2_raise_59 : decode cX2_raise 59 = .ok (.bipush 6, 2) := dq_16 (zby_at (j := 11) zbX2_raise_3 rfl) (zby_at (j := 12) zbX2_raise_3 rfl) rfl
theorem dX2_raise_61 : decode cX2_raise 61 = .ok (.isub, 1) := dq_100 (zby_at (j := 13) zbX2_raise_3 rfl)
theorem dX2_raise_62 : decode cX2_raise 62 = .ok (.ishl, 1) := dq_120 (zby_at (j := 14) zbX2_raise_3 rfl)
theorem dX2_raise_63 : decode cX2_raise 63 = .ok (.istore_n 2, 1) := dq_61 (zby_at (j := 15) zbX2_raise_3 rfl)
theorem zbX2_raise_4 : zby cX2_raise 64 20 = [3, 62, 29, 28, 96, 16, 16, 162, 0, 32, 29, 28, 126, 154, 0, 20, 42, 180, 0, 11] := by decide +kernel
theorem dX2_raise_64 : decode cX2_raise 64 = .ok (.iconst 0, 1) := dq_3 (zby_at (j := 0) zbX2_raise_4 rfl)
theorem dX2_raise_65 : decode cX2_raise 65 = .ok (.istore_n 3, 1) := dq_62 (zby_at (j := 1) zbX2_raise_4 rfl)
theorem dX2_raise_66 : decode cX2_raise 66 = .ok (.iload_n 3, 1) := dq_29 (zby_at (j := 2) zbX2_raise_4 rfl)
theorem dX2_raise_67 : decode cX2_raise 67 = .ok (.iload_n 2, 1) := dq_28 (zby_at (j := 3) zbX2_raise_4 rfl)
theorem dX2_raise_68 : decode cX2_raise 68 = .ok (.iadd, 1) := dq_96 (zby_at (j := 4) zbX2_raise_4 rfl)
theorem dX2_raise_69 : decode cX2_raise 69 = .ok (.bipush 16, 2) := dq_16 (zby_at (j := 5) zbX2_raise_4 rfl) (zby_at (j := 6) zbX2_raise_4 rfl) rfl
theorem dX2_raise_71 : decode cX2_raise 71 = .ok (.if_icmp .ge 32, 3) := dq_162 (zby_at (j := 7) zbX2_raise_4 rfl) (zby_at (j := 8) zbX2_raise_4 rfl) (zby_at (j := 9) zbX2_raise_4 rfl) rfl
theorem dX2_raise_74 : decode cX2_raise 74 = .ok (.iload_n 3, 1) := dq_29 (zby_at (j := 10) zbX2_raise_4 rfl)
theorem dX2_raise_75 : decode cX2_raise 75 = .ok (.iload_n 2, 1) := dq_28 (zby_at (j := 11) zbX2_raise_4 rfl)
theorem dX2_raise_76 : decode cX2_raise 76 = .ok (.iand, 1) := dq_126 (zby_at (j := 12) zbX2_raise_4 rfl)
theorem dX2_raise_77 : decode cX2_raise 77 = .ok (.ifCond .ne 20, 3) := dq_154 (zby_at (j := 13) zbX2_raise_4 rfl) (zby_at (j := 14) zbX2_raise_4 rfl) (zby_at (j := 15) zbX2_raise_4 rfl) rfl
theorem zbX2_raise_5 : zby cX2_raise 80 20 = [42, 180, 0, 11, 29, 28, 96, 92, 47, 42, 180, 0, 11, 29, 47, 129, 80, 132, 3, 1] := by decide +kernel
theorem dX2_raise_80 : decode cX2_raise 80 = .ok (.aload_n 0, 1) := dq_42 (zby_at (j := 0) zbX2_raise_5 rfl)
theorem dX2_raise_81 : decode cX2_raise 81 = .ok (.getfield 11, 3) := dq_180 (zby_at (j := 1) zbX2_raise_5 rfl) (zby_at (j := 2) zbX2_raise_5 rfl) (zby_at (j := 3) zbX2_raise_5 rfl)
theorem dX2_raise_84 : decode cX2_raise 84 = .ok (.iload_n 3, 1) := dq_29 (zby_at (j := 4) zbX2_raise_5 rfl)
theorem dX2_raise_85 : decode cX2_raise 85 = .ok (.iload_n 2, 1) := dq_28 (zby_at (j := 5) zbX2_raise_5 rfl)
theorem dX2_raise_86 : decode cX2_raise 86 = .ok (.iadd, 1) := dq_96 (zby_at (j := 6) zbX2_raise_5 rfl)
theorem dX2_raise_87 : decode cX2_raise 87 = .ok (.dup2, 1) := dq_92 (zby_at (j := 7) zbX2_raise_5 rfl)
theorem dX2_raise_88 : decode cX2_raise 88 = .ok (.laload, 1) := dq_47 (zby_at (j := 8) zbX2_raise_5 rfl)
theorem dX2_raise_89 : decode cX2_raise 89 = .ok (.aload_n 0, 1) := dq_42 (zby_at (j := 9) zbX2_raise_5 rfl)
theorem dX2_raise_90 : decode cX2_raise 90 = .ok (.getfield 11, 3) := dq_180 (zby_at (j := 10) zbX2_raise_5 rfl) (zby_at (j := 11) zbX2_raise_5 rfl) (zby_at (j := 12) zbX2_raise_5 rfl)
theorem dX2_raise_93 : decode cX2_raise 93 = .ok (.iload_n 3, 1) := dq_29 (zby_at (j := 13) zbX2_raise_5 rfl)
theorem dX2_raise_94 : decode cX2_raise 94 = .ok (.laload, 1) := dq_47 (zby_at (j := 14) zbX2_raise_5 rfl)
theorem dX2_raise_95 : decode cX2_raise 95 = .ok (.lor, 1) := dq_129 (zby_at (j := 15) zbX2_raise_5 rfl)
theorem zbX2_raise_6 : zby cX2_raise 96 20 = [80, 132, 3, 1, 167, 255, 222, 177] := by decide +kernel
theorem dX2_raise_96 : decode cX2_raise 96 = .ok (.lastore, 1) := dq_80 (zby_at (j := 0) zbX2_raise_6 rfl)
theorem dX2_raise_97 : decode cX2_raise 97 = .ok (.iinc 3 1, 3) := dq_132 (zby_at (j := 1) zbX2_raise_6 rfl) (zby_at (j := 2) zbX2_raise_6 rfl) (zby_at (j := 3) zbX2_raise_6 rfl) rfl
theorem dX2_raise_100 : decode cX2_raise 100 = .ok (.goto (-34), 3) := dq_167 (zby_at (j := 4) zbX2_raise_6 rfl) (zby_at (j := 5) zbX2_raise_6 rfl) (zby_at (j := 6) zbX2_raise_6 rfl) rfl
theorem dX2_raise_103 : decode cX2_raise 103 = .ok (.return_, 1) := dq_177 (zby_at (j := 7) zbX2_raise_6 rfl)
theorem zbX2_lower_0 : zby cX2_lower 0 20 = [27, 155, 0, 9, 27, 16, 10, 161, 0, 4, 177, 27, 16, 6, 162, 0, 43, 3, 61, 28] := by decide +kernel
theorem dX2_lower_0 : decode cX2_lower 0 = .ok (.iload_n 1, 1) := dq_27 (zby_at (j := 0) zbX2_lower_0 rfl)
theorem dX2_lower_1 : decode cX2_lower 1 = .ok (.ifCond .lt 9, 3) := dq_155 (zby_at (j := 1) zbX2_lower_0 rfl) (zby_at (j := 2) zbX2_lower_0 rfl) (zby_at (j := 3) zbX2_lower_0 rfl) rfl
theorem dX2_lower_4 : decode cX2_lower 4 = .ok (.iload_n 1, 1) := dq_27 (zby_at (j := 4) zbX2_lower_0 rfl)
theorem dX2_lower_5 : decode cX2_lower 5 = .ok (.bipush 10, 2) := dq_16 (zby_at (j := 5) zbX2_lower_0 rfl) (zby_at (j := 6) zbX2_lower_0 rfl) rfl
theorem dX2_lower_7 : decode cX2_lower 7 = .ok (.if_icmp .lt 4, 3) := dq_161 (zby_at (j := 7) zbX2_lower_0 rfl) (zby_at (j := 8) zbX2_lower_0 rfl) (zby_at (j := 9) zbX2_lower_0 rfl) rfl
theorem dX2_lower_10 : decode cX2_lower 10 = .ok (.return_, 1) := dq_177 (zby_at (j := 10) zbX2_lower_0 rfl)
theorem dX2_lower_11 : decode cX2_lower 11 = .ok (.iload_n 1, 1) := dq_27 (zby_at (j := 11) zbX2_lower_0 rfl)
theorem dX2_lower_12 : decode cX2_lower 12 = .ok (.bipush 6, 2) := dq_16 (zby_at (j := 12) zbX2_lower_0 rfl) (zby_at (j := 13) zbX2_lower_0 rfl) rfl
theorem dX2_lower_14 : decode cX2_lower 14 = .ok (.if_icmp .ge 43, 3) := dq_162 (zby_at (j := 14) zbX2_lower_0 rfl) (zby_at (j := 15) zbX2_lower_0 rfl) (zby_at (j := 16) zbX2_lower_0 rfl) rfl
theorem zbX2_lower_1 : zby cX2_lower 16 20 = [43, 3, 61, 28, 16, 16, 162, 0, 34, 42, 180, 0, 11, 28, 92, 47, 42, 180, 0, 11] := by decide +kernel
theorem dX2_lower_17 : decode cX2_lower 17 = .ok (.iconst 0, 1) := dq_3 (zby_at (j := 1) zbX2_lower_1 rfl)
theorem dX2_lower_18 : decode cX2_lower 18 = .ok (.istore_n 2, 1) := dq_61 (zby_at (j := 2) zbX2_lower_1 rfl)
theorem dX2_lower_19 : decode cX2_lower 19 = .ok (.iload_n 2, 1) := dq_28 (zby_at (j := 3) zbX2_lower_1 rfl)
theorem dX2_lower_20 : decode cX2_lower 20 = .ok (.bipush 16, 2) := dq_16 (zby_at (j := 4) zbX2_lower_1 rfl) (zby_at (j := 5) zbX2_lower_1 rfl) rfl
theorem dX2_lower_22 : decode cX2_lower 22 = .ok (.if_icmp .ge 34, 3) := dq_162 (zby_at (j := 6) zbX2_lower_1 rfl) (zby_at (j := 7) zbX2_lower_1 rfl) (zby_at (j := 8) zbX2_lower_1 rfl) rfl
theorem dX2_lower_25 : decode cX2_lower 25 = .ok (.aload_n 0, 1) := dq_42 (zby_at (j := 9) zbX2_lower_1 rfl)
theorem dX2_lower_26 : decode cX2_lower 26 = .ok (.getfield 11, 3) := dq_180 (zby_at (j := 10) zbX2_lower_1 rfl) (zby_at (j := 11) zbX2_lower_1 rfl) (zby_at (j := 12) zbX2_lower_1 rfl)
theorem dX2_lower_29 : decode cX2_lower 29 = .ok (.iload_n 2, 1) := dq_28 (zby_at (j := 13) zbX2_lower_1 rfl)
theorem dX2_lower_30 : decode cX2_lower 30 = .ok (.dup2, 1) := dq_92 (zby_at (j := 14) zbX2_lower_1 rfl)
theorem dX2_lower_31 : decode cX2_lower 31 = .ok (.laload, 1) := dq_47 (zby_at (j := 15) zbX2_lower_1 rfl)
theorem zbX2_lower_2 : zby cX2_lower 32 20 = [42, 180, 0, 11, 28, 47, 4, 27, 120, 125, 178, 0, 45, 27, 47, 127, 129, 80, 132, 2] := by decide +kernel
theorem dX2_lower_32 : decode cX2_lower 32 = .ok (.aload_n 0, 1) := dq_42 (zby_at (j := 0) zbX2_lower_2 rfl)
theorem dX2_lower_33 : decode cX2_lower 33 = .ok (.getfield 11, 3) := dq_180 (zby_at (j := 1) zbX2_lower_2 rfl) (zby_at (j := 2) zbX2_lower_2 rfl) (zby_at (j := 3) zbX2_lower_2 rfl)
theorem dX2_lower_36 : decode cX2_lower 36 = .ok (.iload_n 2, 1) := dq_28 (zby_at (j := 4) zbX2_lower_2 rfl)
theorem dX2_lower_37 : decode cX2_lower 37 = .ok (.laload, 1) := dq_47 (zby_at (j := 5) zbX2_lower_2 rfl)
theorem dX2_lower_38 : decode cX2_lower 38 = .ok (.iconst 1, 1) := dq_4 (zby_at (j := 6) zbX2_lower_2 rfl)
theorem dX2_lower_39 : decode cX2_lower 39 = .ok (.iload_n 1, 1) := dq_27 (zby_at (j := 7) zbX2_lower_2 rfl)
theorem dX2_lower_40 : decode cX2_lower 40 = .ok (.ishl, 1) := dq_120 (zby_at (j := 8) zbX2_lower_2 rfl)
theorem dX2_lower_41 : decode cX2_lower 41 = .ok (.lushr, 1) := dq_125 (zby_at (j := 9) zbX2_lower_2 rfl)
theorem dX2_lower_42 : decode cX2_lower 42 = .ok (.getstatic 45, 3) := dq_178 (zby_at (j := 10) zbX2_lower_2 rfl) (zby_at (j := 11) zbX2_lower_2 rfl) (zby_at (j := 12) zbX2_lower_2 rfl)
theorem dX2_lower_45 : decode cX2_lower 45 = .ok (.iload_n 1, 1) := dq_27 (zby_at (j := 13) zbX2_lower_2 rfl)
theorem dX2_lower_46 : decode cX2_lower 46 = .ok (.laload, 1) := dq_47 (zby_at (j := 14) zbX2_lower_2 rfl)
theorem dX2_lower_47 : decode cX2_lower 47 = .ok (.land, 1) := dq_127 (zby_at (j := 15) zbX2_lower_2 rfl)
theorem zbX2_lower_3 : zby cX2_lower 48 20 = [129, 80, 132, 2, 1, 167, 255, 222, 177, 4, 27, 16, 6, 100, 120, 61, 3, 62, 29, 28] := by decide +kernel
theorem dX2_lower_48 : decode cX2_lower 48 = .ok (.lor, 1) := dq_129 (zby_at (j := 0) zbX2_lower_3 rfl)
theorem dX2_lower_49 : decode cX2_lower 49 = .ok (.lastore, 1) := dq_80 (zby_at (j := 1) zbX2_lower_3 rfl)
theorem dX2_lower_50 : decode cX2_lower 50 = .ok (.iinc 2 1, 3) := dq_132 (zby_at (j := 2) zbX2_lower_3 rfl) (zby_at (j := 3) zbX2_lower_3 rfl) (zby_at (j := 4) zbX2_lower_3 rfl) rfl
theorem dX2_lower_53 : decode cX2_lower 53 = .ok (.goto (-34), 3) := dq_167 (zby_at (j := 5) zbX2_lower_3 rfl) (zby_at (j := 6) zbX2_lower_3 rfl) (zby_at (j := 7) zbX2_lower_3 rfl) rfl
theorem dX2_lower_56 : decode cX2_lower 56 = .ok (.return_, 1) := dq_177 (zby_at (j := 8) zbX2_lower_3 rfl)
theorem dX2_lower_57 : decode cX2_lower 57 = .ok (.iconst 1, 1) := dq_4 (zby_at (j := 9) zbX2_lower_3 rfl)
theorem dX2_lower_58 : decode cX2_lower 58 = .ok (.iload_n 1, 1) := dq_27 (zby_at (j := 10) zbX2_lower_3 rfl)
theorem dX2_lower_59 : decode cX2_lower 59 = .ok (.bipush 6, 2) := dq_16 (zby_at (j := 11) zbX2_lower_3 rfl) (zby_at (j := 12) zbX2_lower_3 rfl) rfl
theorem dX2_lower_61 : decode cX2_lower 61 = .ok (.isub, 1) := dq_100 (zby_at (j := 13) zbX2_lower_3 rfl)
theorem dX2_lower_62 : decode cX2_lower 62 = .ok (.ishl, 1) := dq_120 (zby_at (j := 14) zbX2_lower_3 rfl)
theorem dX2_lower_63 : decode cX2_lower 63 = .ok (.istore_n 2, 1) := dq_61 (zby_at (j := 15) zbX2_lower_3 rfl)
theorem zbX2_lower_4 : zby cX2_lower 64 20 = [3, 62, 29, 28, 96, 16, 16, 162, 0, 32, 29, 28, 126, 154, 0, 20, 42, 180, 0, 11] := by decide +kernel
theorem dX2_lower_64 : decode cX2_lower 64 = .ok (.iconst 0, 1) := dq_3 (zby_at (j := 0) zbX2_lower_4 rfl)
theorem dX2_lower_65 : decode cX2_lower 65 = .ok (.istore_n 3, 1) := dq_62 (zby_at (j := 1) zbX2_lower_4 rfl)
theorem dX2_lower_66 : decode cX2_lower 66 = .ok (.iload_n 3, 1) := dq_29 (zby_at (j := 2) zbX2_lower_4 rfl)
theorem dX2_lower_67 : decode cX2_lower 67 = .ok (.iload_n 2, 1) := dq_28 (zby_at (j := 3) zbX2_lower_4 rfl)
theorem dX2_lower_68 : decode cX2_lower 68 = .ok (.iadd, 1) := dq_96 (zby_at (j := 4) zbX2_lower_4 rfl)
theorem dX2_lower_69 : decode cX2_lower 69 = .ok (.bipush 16, 2) := dq_16 (zby_at (j := 5) zbX2_lower_4 rfl) (zby_at (j := 6) zbX2_lower_4 rfl) rfl
theorem dX2_lower_71 : decode cX2_lower 71 = .ok (.if_icmp .ge 32, 3) := dq_162 (zby_at (j := 7) zbX2_lower_4 rfl) (zby_at (j := 8) zbX2_lower_4 rfl) (zby_at (j := 9) zbX2_lower_4 rfl) rfl
theorem dX2_lower_74 : decode cX2_lower 74 = .ok (.iload_n 3, 1) := dq_29 (zby_at (j := 10) zbX2_lower_4 rfl)
theorem dX2_lower_75 : decode cX2_lower 75 = .ok (.iload_n 2, 1) := dq_28 (zby_at (j := 11) zbX2_lower_4 rfl)
theorem dX2_lower_76 : decode cX2_lower 76 = .ok (.iand, 1) := dq_126 (zby_at (j := 12) zbX2_lower_4 rfl)
theorem dX2_lower_77 : decode cX2_lower 77 = .ok (.ifCond .ne 20, 3) := dq_154 (zby_at (j := 13) zbX2_lower_4 rfl) (zby_at (j := 14) zbX2_lower_4 rfl) (zby_at (j := 15) zbX2_lower_4 rfl) rfl
theorem zbX2_lower_5 : zby cX2_lower 80 20 = [42, 180, 0, 11, 29, 92, 47, 42, 180, 0, 11, 29, 28, 96, 47, 129, 80, 132, 3, 1] := by decide +kernel
theorem dX2_lower_80 : decode cX2_lower 80 = .ok (.aload_n 0, 1) := dq_42 (zby_at (j := 0) zbX2_lower_5 rfl)
theorem dX2_lower_81 : decode cX2_lower 81 = .ok (.getfield 11, 3) := dq_180 (zby_at (j := 1) zbX2_lower_5 rfl) (zby_at (j := 2) zbX2_lower_5 rfl) (zby_at (j := 3) zbX2_lower_5 rfl)
theorem dX2_lower_84 : decode cX2_lower 84 = .ok (.iload_n 3, 1) := dq_29 (zby_at (j := 4) zbX2_lower_5 rfl)
theorem dX2_lower_85 : decode cX2_lower 85 = .ok (.dup2, 1) := dq_92 (zby_at (j := 5) zbX2_lower_5 rfl)
theorem dX2_lower_86 : decode cX2_lower 86 = .ok (.laload, 1) := dq_47 (zby_at (j := 6) zbX2_lower_5 rfl)
theorem dX2_lower_87 : decode cX2_lower 87 = .ok (.aload_n 0, 1) := dq_42 (zby_at (j := 7) zbX2_lower_5 rfl)
theorem dX2_lower_88 : decode cX2_lower 88 = .ok (.getfield 11, 3) := dq_180 (zby_at (j := 8) zbX2_lower_5 rfl) (zby_at (j := 9) zbX2_lower_5 rfl) (zby_at (j := 10) zbX2_lower_5 rfl)
theorem dX2_lower_91 : decode cX2_lower 91 = .ok (.iload_n 3, 1) := dq_29 (zby_at (j := 11) zbX2_lower_5 rfl)
theorem dX2_lower_92 : decode cX2_lower 92 = .ok (.iload_n 2, 1) := dq_28 (zby_at (j := 12) zbX2_lower_5 rfl)
theorem dX2_lower_93 : decode cX2_lower 93 = .ok (.iadd, 1) := dq_96 (zby_at (j := 13) zbX2_lower_5 rfl)
theorem dX2_lower_94 : decode cX2_lower 94 = .ok (.laload, 1) := dq_47 (zby_at (j := 14) zbX2_lower_5 rfl)
theorem dX2_lower_95 : decode cX2_lower 95 = .ok (.lor, 1) := dq_129 (zby_at (j := 15) zbX2_lower_5 rfl)
theorem zbX2_lower_6 : zby cX2_lower 96 20 = [80, 132, 3, 1, 167, 255, 222, 177] := by decide +kernel
theorem dX2_lower_96 : decode cX2_lower 96 = .ok (.lastore, 1) := dq_80 (zby_at (j := 0) zbX2_lower_6 rfl)
theorem dX2_lower_97 : decode cX2_lower 97 = .ok (.iinc 3 1, 3) := dq_132 (zby_at (j := 1) zbX2_lower_6 rfl) (zby_at (j := 2) zbX2_lower_6 rfl) (zby_at (j := 3) zbX2_lower_6 rfl) rfl
theorem dX2_lower_100 : decode cX2_lower 100 = .ok (.goto (-34), 3) := dq_167 (zby_at (j := 4) zbX2_lower_6 rfl) (zby_at (j := 5) zbX2_lower_6 rfl) (zby_at (j := 6) zbX2_lower_6 rfl) rfl
theorem dX2_lower_103 : decode cX2_lower 103 = .ok (.return_, 1) := dq_177 (zby_at (j := 7) zbX2_lower_6 rfl)
theorem zbX2_flip_0 : zby cX2_flip 0 20 = [27, 155, 0, 9, 27, 16, 10, 161, 0, 4, 177, 27, 16, 6, 162, 0, 57, 4, 27, 120] := by decide +kernel
theorem dX2_flip_0 : decode cX2_flip 0 = .ok (.iload_n 1, 1) := dq_27 (zby_at (j := 0) zbX2_flip_0 rfl)
theorem dX2_flip_1 : decode cX2_flip 1 = .ok (.ifCond .lt 9, 3) := dq_155 (zby_at (j := 1) zbX2_flip_0 rfl) (zby_at (j := 2) zbX2_flip_0 rfl) (zby_at (j := 3) zbX2_flip_0 rfl) rfl
theorem dX2_flip_4 : decode cX2_flip 4 = .ok (.iload_n 1, 1) := dq_27 (zby_at (j := 4) zbX2_flip_0 rfl)
theorem dX2_flip_5 : decode cX2_flip 5 = .ok (.bipush 10, 2) := dq_16 (zby_at (j := 5) zbX2_flip_0 rfl) (zby_at (j := 6) zbX2_flip_0 rfl) rfl
theorem dX2_flip_7 : decode cX2_flip 7 = .ok (.if_icmp .lt 4, 3) := dq_161 (zby_at (j := 7) zbX2_flip_0 rfl) (zby_at (j := 8) zbX2_flip_0 rfl) (zby_at (j := 9) zbX2_flip_0 rfl) rfl
theorem dX2_flip_10 : decode cX2_flip 10 = .ok (.return_, 1) := dq_177 (zby_at (j := 10) zbX2_flip_0 rfl)
theorem dX2_flip_11 : decode cX2_flip 11 = .ok (.iload_n 1, 1) := dq_27 (zby_at (j := 11) zbX2_flip_0 rfl)
theorem dX2_flip_12 : decode cX2_flip 12 = .ok (.bipush 6, 2) := dq_16 (zby_at (j := 12) zbX2_flip_0 rfl) (zby_at (j := 13) zbX2_flip_0 rfl) rfl
theorem dX2_flip_14 : decode cX2_flip 14 = .ok (.if_icmp .ge 57, 3) := dq_162 (zby_at (j := 14) zbX2_flip_0 rfl) (zby_at (j := 15) zbX2_flip_0 rfl) (zby_at (j := 16) zbX2_flip_0 rfl) rfl
theorem zbX2_flip_1 : zby cX2_flip 16 20 = [57, 4, 27, 120, 61, 3, 62, 29, 16, 16, 162, 0, 44, 42, 180, 0, 11, 29, 42, 180] := by decide +kernel
theorem dX2_flip_17 : decode cX2_flip 17 = .ok (.iconst 1, 1) := dq_4 (zby_at (j := 1) zbX2_flip_1 rfl)
theorem dX2_flip_18 : decode cX2_flip 18 = .ok (.iload_n 1, 1) := dq_27 (zby_at (j := 2) zbX2_flip_1 rfl)
theorem dX2_flip_19 : decode cX2_flip 19 = .ok (.ishl, 1) := dq_120 (zby_at (j := 3) zbX2_flip_1 rfl)
theorem dX2_flip_20 : decode cX2_flip 20 = .ok (.istore_n 2, 1) := dq_61 (zby_at (j := 4) zbX2_flip_1 rfl)
theorem dX2_flip_21 : decode cX2_flip 21 = .ok (.iconst 0, 1) := dq_3 (zby_at (j := 5) zbX2_flip_1 rfl)
theorem dX2_flip_22 : decode cX2_flip 22 = .ok (.istore_n 3, 1) := dq_62 (zby_at (j := 6) zbX2_flip_1 rfl)
theorem dX2_flip_23 : decode cX2_flip 23 = .ok (.iload_n 3, 1) := dq_29 (zby_at (j := 7) zbX2_flip_1 rfl)
theorem dX2_flip_24 : decode cX2_flip 24 = .ok (.bipush 16, 2) := dq_16 (zby_at (j := 8) zbX2_flip_1 rfl) (zby_at (j := 9) zbX2_flip_1 rfl) rfl
theorem dX2_flip_26 : decode cX2_flip 26 = .ok (.if_icmp .ge 44, 3) := dq_162 (zby_at (j := 10) zbX2_flip_1 rfl) (zby_at (j := 11) zbX2_flip_1 rfl) (zby_at (j := 12) zbX2_flip_1 rfl) rfl
theorem dX2_flip_29 : decode cX2_flip 29 = .ok (.aload_n 0, 1) := dq_42 (zby_at (j := 13) zbX2_flip_1 rfl)
theorem dX2_flip_30 : decode cX2_flip 30 = .ok (.getfield 11, 3) := dq_180 (zby_at (j := 14) zbX2_flip_1 rfl) (zby_at (j := 15) zbX2_flip_1 rfl) (zby_at (j := 16) zbX2_flip_1 rfl)
theorem zbX2_flip_2 : zby cX2_flip 32 20 = [11, 29, 42, 180, 0, 11, 29, 47, 178, 0, 45, 27, 47, 127, 28, 121, 42, 180, 0, 11] := by decide +kernel
theorem dX2_flip_33 : decode cX2_flip 33 = .ok (.iload_n 3, 1) := dq_29 (zby_at (j := 1) zbX2_flip_2 rfl)
theorem dX2_flip_34 : decode cX2_flip 34 = .ok (.aload_n 0, 1) := dq_42 (zby_at (j := 2) zbX2_flip_2 rfl)
theorem dX2_flip_35 : decode cX2_flip 35 = .ok (.getfield 11, 3) := dq_180 (zby_at (j := 3) zbX2_flip_2 rfl) (zby_at (j := 4) zbX2_flip_2 rfl) (zby_at (j := 5) zbX2_flip_2 rfl)
theorem dX2_flip_38 : decode cX2_flip 38 = .ok (.iload_n 3, 1) := dq_29 (zby_at (j := 6) zbX2_flip_2 rfl)
theorem dX2_flip_39 : decode cX2_flip 39 = .ok (.laload, 1) := dq_47 (zby_at (j := 7) zbX2_flip_2 rfl)
theorem dX2_flip_40 : decode cX2_flip 40 = .ok (.getstatic 45, 3) := dq_178 (zby_at (j := 8) zbX2_flip_2 rfl) (zby_at (j := 9) zbX2_flip_2 rfl) (zby_at (j := 10) zbX2_flip_2 rfl)
theorem dX2_flip_43 : decode cX2_flip 43 = .ok (.iload_n 1, 1) := dq_27 (zby_at (j := 11) zbX2_flip_2 rfl)
theorem dX2_flip_44 : decode cX2_flip 44 = .ok (.laload, 1) := dq_47 (zby_at (j := 12) zbX2_flip_2 rfl)
theorem dX2_flip_45 : decode cX2_flip 45 = .ok (.land, 1) := dq_127 (zby_at (j := 13) zbX2_flip_2 rfl)
theorem dX2_flip_46 : decode cX2_flip 46 = .ok (.iload_n 2, 1) := dq_28 (zby_at (j := 14) zbX2_flip_2 rfl)
theorem dX2_flip_47 : decode cX2_flip 47 = .ok (.lshl, 1) := dq_121 (zby_at (j := 15) zbX2_flip_2 rfl)
theorem zbX2_flip_3 : zby cX2_flip 48 20 = [42, 180, 0, 11, 29, 47, 28, 125, 178, 0, 45, 27, 47, 127, 129, 80, 132, 3, 1, 167] := by decide +kernel
theorem dX2_flip_48 : decode cX2_flip 48 = .ok (.aload_n 0, 1) := dq_42 (zby_at (j := 0) zbX2_flip_3 rfl)
theorem dX2_flip_49 : decode cX2_flip 49 = .ok (.getfield 11, 3) := dq_180 (zby_at (j := 1) zbX2_flip_3 rfl) (zby_at (j := 2) zbX2_flip_3 rfl) (zby_at (j := 3) zbX2_flip_3 rfl)
theorem dX2_flip_52 : decode cX2_flip 52 = .ok (.iload_n 3, 1) := dq_29 (zby_at (j := 4) zbX2_flip_3 rfl)
theorem dX2_flip_53 : decode cX2_flip 53 = .ok (.laload, 1) := dq_47 (zby_at (j := 5) zbX2_flip_3 rfl)
theorem dX2_flip_54 : decode cX2_flip 54 = .ok (.iload_n 2, 1) := dq_28 (zby_at (j := 6) zbX2_flip_3 rfl)
theorem dX2_flip_55 : decode cX2_flip 55 = .ok (.lushr, 1) := dq_125 (zby_at (j := 7) zbX2_flip_3 rfl)
theorem dX2_flip_56 : decode cX2_flip 56 = .ok (.getstatic 45, 3) := dq_178 (zby_at (j := 8) zbX2_flip_3 rfl) (zby_at (j := 9) zbX2_flip_3 rfl) (zby_at (j := 10) zbX2_flip_3 rfl)
theorem dX2_flip_59 : decode cX2_flip 59 = .ok (.iload_n 1, 1) := dq_27 (zby_at (j := 11) zbX2_flip_3 rfl)
theorem dX2_flip_60 : decode cX2_flip 60 = .ok (.laload, 1) := dq_47 (zby_at (j := 12) zbX2_flip_3 rfl)
theorem dX2_flip_61 : decode cX2_flip 61 = .ok (.land, 1) := dq_127 (zby_at (j := 13) zbX2_flip_3 rfl)
theorem dX2_flip_62 : decode cX2_flip 62 = .ok (.lor, 1) := dq_129 (zby_at (j := 14) zbX2_flip_3 rfl)
theorem dX2_flip_63 : decode cX2_flip 63 = .ok (.lastore, 1) := dq_80 (zby_at (j := 15) zbX2_flip_3 rfl)
theorem zbX2_flip_4 : zby cX2_flip 64 20 = [132, 3, 1, 167, 255, 212, 177, 4, 27, 16, 6, 100, 120, 61, 3, 62, 29, 28, 96, 16] := by decide +kernel
theorem dX2_flip_64 : decode cX2_flip 64 = .ok (.iinc 3 1, 3) := dq_132 (zby_at (j := 0) zbX2_flip_4 rfl) (zby_at (j := 1) zbX2_flip_4 rfl) (zby_at (j := 2) zbX2_flip_4 rfl) rfl
theorem dX2_flip_67 : decode cX2_flip 67 = .ok (.goto (-44), 3) := dq_167 (zby_at (j := 3) zbX2_flip_4 rfl) (zby_at (j := 4) zbX2_flip_4 rfl) (zby_at (j := 5) zbX2_flip_4 rfl) rfl
theorem dX2_flip_70 : decode cX2_flip 70 = .ok (.return_, 1) := dq_177 (zby_at (j := 6) zbX2_flip_4 rfl)
theorem dX2_flip_71 : decode cX2_flip 71 = .ok (.iconst 1, 1) := dq_4 (zby_at (j := 7) zbX2_flip_4 rfl)
theorem dX2_flip_72 : decode cX2_flip 72 = .ok (.iload_n 1, 1) := dq_27 (zby_at (j := 8) zbX2_flip_4 rfl)
theorem dX2_flip_73 : decode cX2_flip 73 = .ok (.bipush 6, 2) := dq_16 (zby_at (j := 9) zbX2_flip_4 rfl) (zby_at (j := 10) zbX2_flip_4 rfl) rfl
theorem dX2_flip_75 : decode cX2_flip 75 = .ok (.isub, 1) := dq_100 (zby_at (j := 11) zbX2_flip_4 rfl)
theorem dX2_flip_76 : decode cX2_flip 76 = .ok (.ishl, 1) := dq_120 (zby_at (j := 12) zbX2_flip_4 rfl)
theorem dX2_flip_77 : decode cX2_flip 77 = .ok (.istore_n 2, 1) := dq_61 (zby_at (j := 13) zbX2_flip_4 rfl)
theorem dX2_flip_78 : decode cX2_flip 78 = .ok (.iconst 0, 1) := dq_3 (zby_at (j := 14) zbX2_flip_4 rfl)
theorem dX2_flip_79 : decode cX2_flip 79 = .ok (.istore_n 3, 1) := dq_62 (zby_at (j := 15) zbX2_flip_4 rfl)
theorem zbX2_flip_5 : zby cX2_flip 80 20 = [29, 28, 96, 16, 16, 162, 0, 47, 29, 28, 126, 154, 0, 35, 42, 180, 0, 11, 29, 47] := by decide +kernel
theorem dX2_flip_80 : decode cX2_flip 80 = .ok (.iload_n 3, 1) := dq_29 (zby_at (j := 0) zbX2_flip_5 rfl)
theorem dX2_flip_81 : decode cX2_flip 81 = .ok (.iload_n 2, 1) := dq_28 (zby_at (j := 1) zbX2_flip_5 rfl)
theorem dX2_flip_82 : decode cX2_flip 82 = .ok (.iadd, 1) := dq_96 (zby_at (j := 2) zbX2_flip_5 rfl)
theorem dX2_flip_83 : decode cX2_flip 83 = .ok (.bipush 16, 2) := dq_16 (zby_at (j := 3) zbX2_flip_5 rfl) (zby_at (j := 4) zbX2_flip_5 rfl) rfl
theorem dX2_flip_85 : decode cX2_flip 85 = .ok (.if_icmp .ge 47, 3) := dq_162 (zby_at (j := 5) zbX2_flip_5 rfl) (zby_at (j := 6) zbX2_flip_5 rfl) (zby_at (j := 7) zbX2_flip_5 rfl) rfl
theorem dX2_flip_88 : decode cX2_flip 88 = .ok (.iload_n 3, 1) := dq_29 (zby_at (j := 8) zbX2_flip_5 rfl)
theorem dX2_flip_89 : decode cX2_flip 89 = .ok (.iload_n 2, 1) := dq_28 (zby_at (j := 9) zbX2_flip_5 rfl)
theorem dX2_flip_90 : decode cX2_flip 90 = .ok (.iand, 1) := dq_126 (zby_at (j := 10) zbX2_flip_5 rfl)
theorem dX2_flip_91 : decode cX2_flip 91 = .ok (.ifCond .ne 35, 3) := dq_154 (zby_at (j := 11) zbX2_flip_5 rfl) (zby_at (j := 12) zbX2_flip_5 rfl) (zby_at (j := 13) zbX2_flip_5 rfl) rfl
theorem dX2_flip_94 : decode cX2_flip 94 = .ok (.aload_n 0, 1) := dq_42 (zby_at (j := 14) zbX2_flip_5 rfl)
theorem dX2_flip_95 : decode cX2_flip 95 = .ok (.getfield 11, 3) := dq_180 (zby_at (j := 15) zbX2_flip_5 rfl) (zby_at (j := 16) zbX2_flip_5 rfl) (zby_at (j := 17) zbX2_flip_5 rfl)
theorem zbX2_flip_6 : zby cX2_flip 96 20 = [0, 11, 29, 47, 55, 4, 42, 180, 0, 11, 29, 42, 180, 0, 11, 29, 28, 96, 47, 80] := by decide +kernel
theorem dX2_flip_98 : decode cX2_flip 98 = .ok (.iload_n 3, 1) := dq_29 (zby_at (j := 2) zbX2_flip_6 rfl)
theorem dX2_flip_99 : decode cX2_flip 99 = .ok (.laload, 1) := dq_47 (zby_at (j := 3) zbX2_flip_6 rfl)
theorem dX2_flip_100 : decode cX2_flip 100 = .ok (.lstore 4, 2) := dq_55 (zby_at (j := 4) zbX2_flip_6 rfl) (zby_at (j := 5) zbX2_flip_6 rfl)
theorem dX2_flip_102 : decode cX2_flip 102 = .ok (.aload_n 0, 1) := dq_42 (zby_at (j := 6) zbX2_flip_6 rfl)
theorem dX2_flip_103 : decode cX2_flip 103 = .ok (.getfield 11, 3) := dq_180 (zby_at (j := 7) zbX2_flip_6 rfl) (zby_at (j := 8) zbX2_flip_6 rfl) (zby_at (j := 9) zbX2_flip_6 rfl)
theorem dX2_flip_106 : decode cX2_flip 106 = .ok (.iload_n 3, 1) := dq_29 (zby_at (j := 10) zbX2_flip_6 rfl)
theorem dX2_flip_107 : decode cX2_flip 107 = .ok (.aload_n 0, 1) := dq_42 (zby_at (j := 11) zbX2_flip_6 rfl)
theorem dX2_flip_108 : decode cX2_flip 108 = .ok (.getfield 11, 3) := dq_180 (zby_at (j := 12) zbX2_flip_6 rfl) (zby_at (j := 13) zbX2_flip_6 rfl) (zby_at (j := 14) zbX2_flip_6 rfl)
theorem dX2_flip_111 : decode cX2_flip 111 = .ok (.iload_n 3, 1) := dq_29 (zby_at (j := 15) zbX2_flip_6 rfl)
theorem zbX2_flip_7 : zby cX2_flip 112 20 = [28, 96, 47, 80, 42, 180, 0, 11, 29, 28, 96, 22, 4, 80, 132, 3, 1, 167, 255, 207] := by decide +kernel
theorem dX2_flip_112 : decode cX2_flip 112 = .ok (.iload_n 2, 1) := dq_28 (zby_at (j := 0) zbX2_flip_7 rfl)
theorem dX2_flip_113 : decode cX2_flip 113 = .ok (.iadd, 1) := dq_96 (zby_at (j := 1) zbX2_flip_7 rfl)
theorem dX2_flip_114 : decode cX2_flip 114 = .ok (.laload, 1) := dq_47 (zby_at (j := 2) zbX2_flip_7 rfl)
theorem dX2_flip_115 : decode cX2_flip 115 = .ok (.lastore, 1) := dq_80 (zby_at (j := 3) zbX2_flip_7 rfl)
theorem dX2_flip_116 : decode cX2_flip 116 = .ok (.aload_n 0, 1) := dq_42 (zby_at (j := 4) zbX2_flip_7 rfl)
theorem dX2_flip_117 : decode cX2_flip 117 = .ok (.getfield 11, 3) := dq_180 (zby_at (j := 5) zbX2_flip_7 rfl) (zby_at (j := 6) zbX2_flip_7 rfl) (zby_at (j := 7) zbX2_flip_7 rfl)
theorem dX2_flip_120 : decode cX2_flip 120 = .ok (.iload_n 3, 1) := dq_29 (zby_at (j := 8) zbX2_flip_7 rfl)
theorem dX2_flip_121 : decode cX2_flip 121 = .ok (.iload_n 2, 1) := dq_28 (zby_at (j := 9) zbX2_flip_7 rfl)
theorem dX2_flip_122 : decode cX2_flip 122 = .ok (.iadd, 1) := dq_96 (zby_at (j := 10) zbX2_flip_7 rfl)
theorem dX2_flip_123 : decode cX2_flip 123 = .ok (.lload 4, 2) := dq_22 (zby_at (j := 11) zbX2_flip_7 rfl) (zby_at (j := 12) zbX2_flip_7 rfl)
theorem dX2_flip_125 : decode cX2_flip 125 = .ok (.lastore, 1) := dq_80 (zby_at (j := 13) zbX2_flip_7 rfl)
theorem dX2_flip_126 : decode cX2_flip 126 = .ok (.iinc 3 1, 3) := dq_132 (zby_at (j := 14) zbX2_flip_7 rfl) (zby_at (j := 15) zbX2_flip_7 rfl) (zby_at (j := 16) zbX2_flip_7 rfl) rfl
theorem zbX2_flip_8 : zby cX2_flip 128 20 = [1, 167, 255, 207, 177] := by decide +kernel
theorem dX2_flip_129 : decode cX2_flip 129 = .ok (.goto (-49), 3) := dq_167 (zby_at (j := 1) zbX2_flip_8 rfl) (zby_at (j := 2) zbX2_flip_8 rfl) (zby_at (j := 3) zbX2_flip_8 rfl) rfl
theorem dX2_flip_132 : decode cX2_flip 132 = .ok (.return_, 1) := dq_177 (zby_at (j := 4) zbX2_flip_8 rfl)
theorem zbX2_keepWithout_0 : zby cX2_keepWithout 0 20 = [27, 155, 0, 9, 27, 16, 10, 161, 0, 4, 177, 3, 61, 28, 16, 16, 162, 0, 50, 27] := by decide +kernel
theorem dX2_keepWithout_0 : decode cX2_keepWithout 0 = .ok (.iload_n 1, 1) := dq_27 (zby_at (j := 0) zbX2_keepWithout_0 rfl)
theorem dX2_keepWithout_1 : decode cX2_keepWithout 1 = .ok (.ifCond .lt 9, 3) := dq_155 (zby_at (j := 1) zbX2_keepWithout_0 rfl) (zby_at (j := 2) zbX2_keepWithout_0 rfl) (zby_at (j := 3) zbX2_keepWithout_0 rfl) rfl
theorem dX2_keepWithout_4 : decode cX2_keepWithout 4 = .ok (.iload_n 1, 1) := dq_27 (zby_at (j := 4) zbX2_keepWithout_0 rfl)
theorem dX2_keepWithout_5 : decode cX2_keepWithout 5 = .ok (.bipush 10, 2) := dq_16 (zby_at (j := 5) zbX2_keepWithout_0 rfl) (zby_at (j := 6) zbX2_keepWithout_0 rfl) rfl
theorem dX2_keepWithout_7 : decode cX2_keepWithout 7 = .ok (.if_icmp .lt 4, 3) := dq_161 (zby_at (j := 7) zbX2_keepWithout_0 rfl) (zby_at (j := 8) zbX2_keepWithout_0 rfl) (zby_at (j := 9) zbX2_keepWithout_0 rfl) rfl
theorem dX2_keepWithout_10 : decode cX2_keepWithout 10 = .ok (.return_, 1) := dq_177 (zby_at (j := 10) zbX2_keepWithout_0 rfl)
theorem dX2_keepWithout_11 : decode cX2_keepWithout 11 = .ok (.iconst 0, 1) := dq_3 (zby_at (j := 11) zbX2_keepWithout_0 rfl)
theorem dX2_keepWithout_12 : decode cX2_keepWithout 12 = .ok (.istore_n 2, 1) := dq_61 (zby_at (j := 12) zbX2_keepWithout_0 rfl)
theorem dX2_keepWithout_13 : decode cX2_keepWithout 13 = .ok (.iload_n 2, 1) := dq_28 (zby_at (j := 13) zbX2_keepWithout_0 rfl)
theorem dX2_keepWithout_14 : decode cX2_keepWithout 14 = .ok (.bipush 16, 2) := dq_16 (zby_at (j := 14) zbX2_keepWithout_0 rfl) (zby_at (j := 15) zbX2_keepWithout_0 rfl) rfl
theorem zbX2_keepWithout_1 : zby cX2_keepWithout 16 20 = [162, 0, 50, 27, 16, 6, 162, 0, 20, 42, 180, 0, 11, 28, 92, 47, 178, 0, 45, 27] := by decide +kernel
theorem dX2_keepWithout_16 : decode cX2_keepWithout 16 = .ok (.if_icmp .ge 50, 3) := dq_162 (zby_at (j := 0) zbX2_keepWithout_1 rfl) (zby_at (j := 1) zbX2_keepWithout_1 rfl) (zby_at (j := 2) zbX2_keepWithout_1 rfl) rfl
theorem dX2_keepWithout_19 : decode cX2_keepWithout 19 = .ok (.iload_n 1, 1) := dq_27 (zby_at (j := 3) zbX2_keepWithout_1 rfl)
theorem dX2_keepWithout_20 : decode cX2_keepWithout 20 = .ok (.bipush 6, 2) := dq_16 (zby_at (j := 4) zbX2_keepWithout_1 rfl) (zby_at (j := 5) zbX2_keepWithout_1 rfl) rfl
theorem dX2_keepWithout_22 : decode cX2_keepWithout 22 = .ok (.if_icmp .ge 20, 3) := dq_162 (zby_at (j := 6) zbX2_keepWithout_1 rfl) (zby_at (j := 7) zbX2_keepWithout_1 rfl) (zby_at (j := 8) zbX2_keepWithout_1 rfl) rfl
theorem dX2_keepWithout_25 : decode cX2_keepWithout 25 = .ok (.aload_n 0, 1) := dq_42 (zby_at (j := 9) zbX2_keepWithout_1 rfl)
theorem dX2_keepWithout_26 : decode cX2_keepWithout 26 = .ok (.getfield 11, 3) := dq_180 (zby_at (j := 10) zbX2_keepWithout_1 rfl) (zby_at (j := 11) zbX2_keepWithout_1 rfl) (zby_at (j := 12) zbX2_keepWithout_1 rfl)
theorem dX2_keepWithout_29 : decode cX2_keepWithout 29 = .ok (.iload_n 2, 1) := dq_28 (zby_at (j := 13) zbX2_keepWithout_1 rfl)
theorem dX2_keepWithout_30 : decode cX2_keepWithout 30 = .ok (.dup2, 1) := dq_92 (zby_at (j := 14) zbX2_keepWithout_1 rfl)
theorem dX2_keepWithout_31 : decode cX2_keepWithout 31 = .ok (.laload, 1) := dq_47 (zby_at (j := 15) zbX2_keepWithout_1 rfl)
theorem zbX2_keepWithout_2 : zby cX2_keepWithout 32 20 = [178, 0, 45, 27, 47, 127, 80, 167, 0, 21, 28, 27, 16, 6, 100, 122, 4, 126, 153, 0] := by decide +kernel
theorem dX2_keepWithout_32 : decode cX2_keepWithout 32 = .ok (.getstatic 45, 3) := dq_178 (zby_at (j := 0) zbX2_keepWithout_2 rfl) (zby_at (j := 1) zbX2_keepWithout_2 rfl) (zby_at (j := 2) zbX2_keepWithout_2 rfl)
theorem dX2_keepWithout_35 : decode cX2_keepWithout 35 = .ok (.iload_n 1, 1) := dq_27 (zby_at (j := 3) zbX2_keepWithout_2 rfl)
theorem dX2_keepWithout_36 : decode cX2_keepWithout 36 = .ok (.laload, 1) := dq_47 (zby_at (j := 4) zbX2_keepWithout_2 rfl)
theorem dX2_keepWithout_37 : decode cX2_keepWithout 37 = .ok (.land, 1) := dq_127 (zby_at (j := 5) zbX2_keepWithout_2 rfl)
theorem dX2_keepWithout_38 : decode cX2_keepWithout 38 = .ok (.lastore, 1) := dq_80 (zby_at (j := 6) zbX2_keepWithout_2 rfl)
theorem dX2_keepWithout_39 : decode cX2_keepWithout 39 = .ok (.goto 21, 3) := dq_167 (zby_at (j := 7) zbX2_keepWithout_2 rfl) (zby_at (j := 8) zbX2_keepWithout_2 rfl) (zby_at (j := 9) zbX2_keepWithout_2 rfl) rfl
theorem dX2_keepWithout_42 : decode cX2_keepWithout 42 = .ok (.iload_n 2, 1) := dq_28 (zby_at (j := 10) zbX2_keepWithout_2 rfl)
theorem dX2_keepWithout_43 : decode cX2_keepWithout 43 = .ok (.iload_n 1, 1) := dq_27 (zby_at (j := 11) zbX2_keepWithout_2 rfl)
theorem dX2_keepWithout_44 : decode cX2_keepWithout 44 = .ok (.bipush 6, 2) := dq_16 (zby_at (j := 12) zbX2_keepWithout_2 rfl) (zby_at (j := 13) zbX2_keepWithout_2 rfl) rfl
theorem dX2_keepWithout_46 : decode cX2_keepWithout 46 = .ok (.isub, 1) := dq_100 (zby_at (j := 14) zbX2_keepWithout_2 rfl)
theorem dX2_keepWithout_47 : decode cX2_keepWithout 47 = .ok (.ishr, 1) := dq_122 (zby_at (j := 15) zbX2_keepWithout_2 rfl)
theorem zbX2_keepWithout_3 : zby cX2_keepWithout 48 20 = [4, 126, 153, 0, 10, 42, 180, 0, 11, 28, 9, 80, 132, 2, 1, 167, 255, 206, 177] := by decide +kernel
theorem dX2_keepWithout_48 : decode cX2_keepWithout 48 = .ok (.iconst 1, 1) := dq_4 (zby_at (j := 0) zbX2_keepWithout_3 rfl)
theorem dX2_keepWithout_49 : decode cX2_keepWithout 49 = .ok (.iand, 1) := dq_126 (zby_at (j := 1) zbX2_keepWithout_3 rfl)
theorem dX2_keepWithout_50 : decode cX2_keepWithout 50 = .ok (.ifCond .eq 10, 3) := dq_153 (zby_at (j := 2) zbX2_keepWithout_3 rfl) (zby_at (j := 3) zbX2_keepWithout_3 rfl) (zby_at (j := 4) zbX2_keepWithout_3 rfl) rfl
theorem dX2_keepWithout_53 : decode cX2_keepWithout 53 = .ok (.aload_n 0, 1) := dq_42 (zby_at (j := 5) zbX2_keepWithout_3 rfl)
theorem dX2_keepWithout_54 : decode cX2_keepWithout 54 = .ok (.getfield 11, 3) := dq_180 (zby_at (j := 6) zbX2_keepWithout_3 rfl) (zby_at (j := 7) zbX2_keepWithout_3 rfl) (zby_at (j := 8) zbX2_keepWithout_3 rfl)
theorem dX2_keepWithout_57 : decode cX2_keepWithout 57 = .ok (.iload_n 2, 1) := dq_28 (zby_at (j := 9) zbX2_keepWithout_3 rfl)
theorem dX2_keepWithout_58 : decode cX2_keepWithout 58 = .ok (.lconst 0, 1) := dq_9 (zby_at (j := 10) zbX2_keepWithout_3 rfl)
theorem dX2_keepWithout_59 : decode cX2_keepWithout 59 = .ok (.lastore, 1) := dq_80 (zby_at (j := 11) zbX2_keepWithout_3 rfl)
theorem dX2_keepWithout_60 : decode cX2_keepWithout 60 = .ok (.iinc 2 1, 3) := dq_132 (zby_at (j := 12) zbX2_keepWithout_3 rfl) (zby_at (j := 13) zbX2_keepWithout_3 rfl) (zby_at (j := 14) zbX2_keepWithout_3 rfl) rfl
theorem dX2_keepWithout_63 : decode cX2_keepWithout 63 = .ok (.goto (-50), 3) := dq_167 (zby_at (j := 15) zbX2_keepWithout_3 rfl) (zby_at (j := 16) zbX2_keepWithout_3 rfl) (zby_at (j := 17) zbX2_keepWithout_3 rfl) rfl
theorem zbX2_keepWithout_4 : zby cX2_keepWithout 64 20 = [255, 206, 177] := by decide +kernel
theorem dX2_keepWithout_66 : decode cX2_keepWithout 66 = .ok (.return_, 1) := dq_177 (zby_at (j := 2) zbX2_keepWithout_4 rfl)
theorem zbX3_init_0 : zby cX3_init 0 20 = [42, 183, 0, 3, 42, 16, 64, 188, 11, 181, 0, 11, 42, 16, 64, 188, 10, 181, 0, 15] := by decide +kernel
theorem dX3_init_0 : decode cX3_init 0 = .ok (.aload_n 0, 1) := dq_42 (zby_at (j := 0) zbX3_init_0 rfl)
theorem dX3_init_1 : decode cX3_init 1 = .ok (.invokespecial 3, 3) := dq_183 (zby_at (j := 1) zbX3_init_0 rfl) (zby_at (j := 2) zbX3_init_0 rfl) (zby_at (j := 3) zbX3_init_0 rfl)
theorem dX3_init_4 : decode cX3_init 4 = .ok (.aload_n 0, 1) := dq_42 (zby_at (j := 4) zbX3_init_0 rfl)
theorem dX3_init_5 : decode cX3_init 5 = .ok (.bipush 64, 2) := dq_16 (zby_at (j := 5) zbX3_init_0 rfl) (zby_at (j := 6) zbX3_init_0 rfl) rfl
theorem dX3_init_7 : decode cX3_init 7 = .ok (.newarray .long, 2) := dq_188_11 (zby_at (j := 7) zbX3_init_0 rfl) (zby_at (j := 8) zbX3_init_0 rfl)
theorem dX3_init_9 : decode cX3_init 9 = .ok (.putfield 11, 3) := dq_181 (zby_at (j := 9) zbX3_init_0 rfl) (zby_at (j := 10) zbX3_init_0 rfl) (zby_at (j := 11) zbX3_init_0 rfl)
theorem dX3_init_12 : decode cX3_init 12 = .ok (.aload_n 0, 1) := dq_42 (zby_at (j := 12) zbX3_init_0 rfl)
theorem dX3_init_13 : decode cX3_init 13 = .ok (.bipush 64, 2) := dq_16 (zby_at (j := 13) zbX3_init_0 rfl) (zby_at (j := 14) zbX3_init_0 rfl) rfl
theorem dX3_init_15 : decode cX3_init 15 = .ok (.newarray .int, 2) := dq_188_10 (zby_at (j := 15) zbX3_init_0 rfl) (zby_at (j := 16) zbX3_init_0 rfl)
theorem zbX3_init_1 : zby cX3_init 16 20 = [10, 181, 0, 15, 42, 16, 64, 188, 10, 181, 0, 19, 177] := by decide +kernel
theorem dX3_init_17 : decode cX3_init 17 = .ok (.putfield 15, 3) := dq_181 (zby_at (j := 1) zbX3_init_1 rfl) (zby_at (j := 2) zbX3_init_1 rfl) (zby_at (j := 3) zbX3_init_1 rfl)
theorem dX3_init_20 : decode cX3_init 20 = .ok (.aload_n 0, 1) := dq_42 (zby_at (j := 4) zbX3_init_1 rfl)
theorem dX3_init_21 : decode cX3_init 21 = .ok (.bipush 64, 2) := dq_16 (zby_at (j := 5) zbX3_init_1 rfl) (zby_at (j := 6) zbX3_init_1 rfl) rfl
theorem dX3_init_23 : decode cX3_init 23 = .ok (.newarray .int, 2) := dq_188_10 (zby_at (j := 7) zbX3_init_1 rfl) (zby_at (j := 8) zbX3_init_1 rfl)
theorem dX3_init_25 : decode cX3_init 25 = .ok (.putfield 19, 3) := dq_181 (zby_at (j := 9) zbX3_init_1 rfl) (zby_at (j := 10) zbX3_init_1 rfl) (zby_at (j := 11) zbX3_init_1 rfl)
theorem dX3_init_28 : decode cX3_init 28 = .ok (.return_, 1) := dq_177 (zby_at (j := 12) zbX3_init_1 rfl)
theorem zbX3_weighAll_0 : zby cX3_weighAll 0 20 = [4, 3, 16, 6, 28, 184, 0, 22, 184, 0, 28, 120, 4, 100, 62, 42, 180, 0, 15, 29] := by decide +kernel
theorem dX3_weighAll_0 : decode cX3_weighAll 0 = .ok (.iconst 1, 1) := dq_4 (zby_at (j := 0) zbX3_weighAll_0 rfl)
theorem dX3_weighAll_1 : decode cX3_weighAll 1 = .ok (.iconst 0, 1) := dq_3 (zby_at (j := 1) zbX3_weighAll_0 rfl)
theorem dX3_weighAll_2 : decode cX3_weighAll 2 = .ok (.bipush 6, 2) := dq_16 (zby_at (j := 2) zbX3_weighAll_0 rfl) (zby_at (j := 3) zbX3_weighAll_0 rfl) rfl
theorem dX3_weighAll_4 : decode cX3_weighAll 4 = .ok (.iload_n 2, 1) := dq_28 (zby_at (j := 4) zbX3_weighAll_0 rfl)
theorem dX3_weighAll_5 : decode cX3_weighAll 5 = .ok (.invokestatic 22, 3) := dq_184 (zby_at (j := 5) zbX3_weighAll_0 rfl) (zby_at (j := 6) zbX3_weighAll_0 rfl) (zby_at (j := 7) zbX3_weighAll_0 rfl)
theorem dX3_weighAll_8 : decode cX3_weighAll 8 = .ok (.invokestatic 28, 3) := dq_184 (zby_at (j := 8) zbX3_weighAll_0 rfl) (zby_at (j := 9) zbX3_weighAll_0 rfl) (zby_at (j := 10) zbX3_weighAll_0 rfl)
theorem dX3_weighAll_11 : decode cX3_weighAll 11 = .ok (.ishl, 1) := dq_120 (zby_at (j := 11) zbX3_weighAll_0 rfl)
theorem dX3_weighAll_12 : decode cX3_weighAll 12 = .ok (.iconst 1, 1) := dq_4 (zby_at (j := 12) zbX3_weighAll_0 rfl)
theorem dX3_weighAll_13 : decode cX3_weighAll 13 = .ok (.isub, 1) := dq_100 (zby_at (j := 13) zbX3_weighAll_0 rfl)
theorem dX3_weighAll_14 : decode cX3_weighAll 14 = .ok (.istore_n 3, 1) := dq_62 (zby_at (j := 14) zbX3_weighAll_0 rfl)
theorem dX3_weighAll_15 : decode cX3_weighAll 15 = .ok (.aload_n 0, 1) := dq_42 (zby_at (j := 15) zbX3_weighAll_0 rfl)
theorem zbX3_weighAll_1 : zby cX3_weighAll 16 20 = [180, 0, 15, 29, 3, 79, 29, 4, 100, 54, 4, 21, 4, 155, 0, 118, 42, 43, 180, 0] := by decide +kernel
theorem dX3_weighAll_16 : decode cX3_weighAll 16 = .ok (.getfield 15, 3) := dq_180 (zby_at (j := 0) zbX3_weighAll_1 rfl) (zby_at (j := 1) zbX3_weighAll_1 rfl) (zby_at (j := 2) zbX3_weighAll_1 rfl)
theorem dX3_weighAll_19 : decode cX3_weighAll 19 = .ok (.iload_n 3, 1) := dq_29 (zby_at (j := 3) zbX3_weighAll_1 rfl)
theorem dX3_weighAll_20 : decode cX3_weighAll 20 = .ok (.iconst 0, 1) := dq_3 (zby_at (j := 4) zbX3_weighAll_1 rfl)
theorem dX3_weighAll_21 : decode cX3_weighAll 21 = .ok (.iastore, 1) := dq_79 (zby_at (j := 5) zbX3_weighAll_1 rfl)
theorem dX3_weighAll_22 : decode cX3_weighAll 22 = .ok (.iload_n 3, 1) := dq_29 (zby_at (j := 6) zbX3_weighAll_1 rfl)
theorem dX3_weighAll_23 : decode cX3_weighAll 23 = .ok (.iconst 1, 1) := dq_4 (zby_at (j := 7) zbX3_weighAll_1 rfl)
theorem dX3_weighAll_24 : decode cX3_weighAll 24 = .ok (.isub, 1) := dq_100 (zby_at (j := 8) zbX3_weighAll_1 rfl)
theorem dX3_weighAll_25 : decode cX3_weighAll 25 = .ok (.istore 4, 2) := dq_54 (zby_at (j := 9) zbX3_weighAll_1 rfl) (zby_at (j := 10) zbX3_weighAll_1 rfl)
theorem dX3_weighAll_27 : decode cX3_weighAll 27 = .ok (.iload 4, 2) := dq_21 (zby_at (j := 11) zbX3_weighAll_1 rfl) (zby_at (j := 12) zbX3_weighAll_1 rfl)
theorem dX3_weighAll_29 : decode cX3_weighAll 29 = .ok (.ifCond .lt 118, 3) := dq_155 (zby_at (j := 13) zbX3_weighAll_1 rfl) (zby_at (j := 14) zbX3_weighAll_1 rfl) (zby_at (j := 15) zbX3_weighAll_1 rfl) rfl
theorem zbX3_weighAll_2 : zby cX3_weighAll 32 20 = [42, 43, 180, 0, 31, 3, 47, 21, 4, 29, 182, 0, 36, 54, 5, 42, 180, 0, 15, 21] := by decide +kernel
theorem dX3_weighAll_32 : decode cX3_weighAll 32 = .ok (.aload_n 0, 1) := dq_42 (zby_at (j := 0) zbX3_weighAll_2 rfl)
theorem dX3_weighAll_33 : decode cX3_weighAll 33 = .ok (.aload_n 1, 1) := dq_43 (zby_at (j := 1) zbX3_weighAll_2 rfl)
theorem dX3_weighAll_34 : decode cX3_weighAll 34 = .ok (.getfield 31, 3) := dq_180 (zby_at (j := 2) zbX3_weighAll_2 rfl) (zby_at (j := 3) zbX3_weighAll_2 rfl) (zby_at (j := 4) zbX3_weighAll_2 rfl)
theorem dX3_weighAll_37 : decode cX3_weighAll 37 = .ok (.iconst 0, 1) := dq_3 (zby_at (j := 5) zbX3_weighAll_2 rfl)
theorem dX3_weighAll_38 : decode cX3_weighAll 38 = .ok (.laload, 1) := dq_47 (zby_at (j := 6) zbX3_weighAll_2 rfl)
theorem dX3_weighAll_39 : decode cX3_weighAll 39 = .ok (.iload 4, 2) := dq_21 (zby_at (j := 7) zbX3_weighAll_2 rfl) (zby_at (j := 8) zbX3_weighAll_2 rfl)
theorem dX3_weighAll_41 : decode cX3_weighAll 41 = .ok (.iload_n 3, 1) := dq_29 (zby_at (j := 9) zbX3_weighAll_2 rfl)
theorem dX3_weighAll_42 : decode cX3_weighAll 42 = .ok (.invokevirtual 36, 3) := dq_182 (zby_at (j := 10) zbX3_weighAll_2 rfl) (zby_at (j := 11) zbX3_weighAll_2 rfl) (zby_at (j := 12) zbX3_weighAll_2 rfl)
theorem dX3_weighAll_45 : decode cX3_weighAll 45 = .ok (.istore 5, 2) := dq_54 (zby_at (j := 13) zbX3_weighAll_2 rfl) (zby_at (j := 14) zbX3_weighAll_2 rfl)
theorem dX3_weighAll_47 : decode cX3_weighAll 47 = .ok (.aload_n 0, 1) := dq_42 (zby_at (j := 15) zbX3_weighAll_2 rfl)
theorem zbX3_weighAll_3 : zby cX3_weighAll 48 20 = [180, 0, 15, 21, 4, 18, 40, 79, 3, 54, 6, 21, 6, 28, 162, 0, 79, 21, 6, 16] := by decide +kernel
theorem dX3_weighAll_48 : decode cX3_weighAll 48 = .ok (.getfield 15, 3) := dq_180 (zby_at (j := 0) zbX3_weighAll_3 rfl) (zby_at (j := 1) zbX3_weighAll_3 rfl) (zby_at (j := 2) zbX3_weighAll_3 rfl)
theorem dX3_weighAll_51 : decode cX3_weighAll 51 = .ok (.iload 4, 2) := dq_21 (zby_at (j := 3) zbX3_weighAll_3 rfl) (zby_at (j := 4) zbX3_weighAll_3 rfl)
theorem dX3_weighAll_53 : decode cX3_weighAll 53 = .ok (.ldc 40, 2) := dq_18 (zby_at (j := 5) zbX3_weighAll_3 rfl) (zby_at (j := 6) zbX3_weighAll_3 rfl)
theorem dX3_weighAll_55 : decode cX3_weighAll 55 = .ok (.iastore, 1) := dq_79 (zby_at (j := 7) zbX3_weighAll_3 rfl)
theorem dX3_weighAll_56 : decode cX3_weighAll 56 = .ok (.iconst 0, 1) := dq_3 (zby_at (j := 8) zbX3_weighAll_3 rfl)
theorem dX3_weighAll_57 : decode cX3_weighAll 57 = .ok (.istore 6, 2) := dq_54 (zby_at (j := 9) zbX3_weighAll_3 rfl) (zby_at (j := 10) zbX3_weighAll_3 rfl)
theorem dX3_weighAll_59 : decode cX3_weighAll 59 = .ok (.iload 6, 2) := dq_21 (zby_at (j := 11) zbX3_weighAll_3 rfl) (zby_at (j := 12) zbX3_weighAll_3 rfl)
theorem dX3_weighAll_61 : decode cX3_weighAll 61 = .ok (.iload_n 2, 1) := dq_28 (zby_at (j := 13) zbX3_weighAll_3 rfl)
theorem dX3_weighAll_62 : decode cX3_weighAll 62 = .ok (.if_icmp .ge 79, 3) := dq_162 (zby_at (j := 14) zbX3_weighAll_3 rfl) (zby_at (j := 15) zbX3_weighAll_3 rfl) (zby_at (j := 16) zbX3_weighAll_3 rfl) rfl
theorem zbX3_weighAll_4 : zby cX3_weighAll 64 20 = [79, 21, 6, 16, 6, 162, 0, 72, 21, 4, 21, 6, 122, 4, 126, 154, 0, 56, 42, 21] := by decide +kernel
theorem dX3_weighAll_65 : decode cX3_weighAll 65 = .ok (.iload 6, 2) := dq_21 (zby_at (j := 1) zbX3_weighAll_4 rfl) (zby_at (j := 2) zbX3_weighAll_4 rfl)
theorem dX3_weighAll_67 : decode cX3_weighAll 67 = .ok (.bipush 6, 2) := dq_16 (zby_at (j := 3) zbX3_weighAll_4 rfl) (zby_at (j := 4) zbX3_weighAll_4 rfl) rfl
theorem dX3_weighAll_69 : decode cX3_weighAll 69 = .ok (.if_icmp .ge 72, 3) := dq_162 (zby_at (j := 5) zbX3_weighAll_4 rfl) (zby_at (j := 6) zbX3_weighAll_4 rfl) (zby_at (j := 7) zbX3_weighAll_4 rfl) rfl
theorem dX3_weighAll_72 : decode cX3_weighAll 72 = .ok (.iload 4, 2) := dq_21 (zby_at (j := 8) zbX3_weighAll_4 rfl) (zby_at (j := 9) zbX3_weighAll_4 rfl)
theorem dX3_weighAll_74 : decode cX3_weighAll 74 = .ok (.iload 6, 2) := dq_21 (zby_at (j := 10) zbX3_weighAll_4 rfl) (zby_at (j := 11) zbX3_weighAll_4 rfl)
theorem dX3_weighAll_76 : decode cX3_weighAll 76 = .ok (.ishr, 1) := dq_122 (zby_at (j := 12) zbX3_weighAll_4 rfl)
theorem dX3_weighAll_77 : decode cX3_weighAll 77 = .ok (.iconst 1, 1) := dq_4 (zby_at (j := 13) zbX3_weighAll_4 rfl)
theorem dX3_weighAll_78 : decode cX3_weighAll 78 = .ok (.iand, 1) := dq_126 (zby_at (j := 14) zbX3_weighAll_4 rfl)
theorem dX3_weighAll_79 : decode cX3_weighAll 79 = .ok (.ifCond .ne 56, 3) := dq_154 (zby_at (j := 15) zbX3_weighAll_4 rfl) (zby_at (j := 16) zbX3_weighAll_4 rfl) (zby_at (j := 17) zbX3_weighAll_4 rfl) rfl
theorem zbX3_weighAll_5 : zby cX3_weighAll 80 20 = [0, 56, 42, 21, 6, 21, 5, 182, 0, 41, 42, 180, 0, 15, 21, 4, 4, 21, 6, 120] := by decide +kernel
theorem dX3_weighAll_82 : decode cX3_weighAll 82 = .ok (.aload_n 0, 1) := dq_42 (zby_at (j := 2) zbX3_weighAll_5 rfl)
theorem dX3_weighAll_83 : decode cX3_weighAll 83 = .ok (.iload 6, 2) := dq_21 (zby_at (j := 3) zbX3_weighAll_5 rfl) (zby_at (j := 4) zbX3_weighAll_5 rfl)
theorem dX3_weighAll_85 : decode cX3_weighAll 85 = .ok (.iload 5, 2) := dq_21 (zby_at (j := 5) zbX3_weighAll_5 rfl) (zby_at (j := 6) zbX3_weighAll_5 rfl)
theorem dX3_weighAll_87 : decode cX3_weighAll 87 = .ok (.invokevirtual 41, 3) := dq_182 (zby_at (j := 7) zbX3_weighAll_5 rfl) (zby_at (j := 8) zbX3_weighAll_5 rfl) (zby_at (j := 9) zbX3_weighAll_5 rfl)
theorem dX3_weighAll_90 : decode cX3_weighAll 90 = .ok (.aload_n 0, 1) := dq_42 (zby_at (j := 10) zbX3_weighAll_5 rfl)
theorem dX3_weighAll_91 : decode cX3_weighAll 91 = .ok (.getfield 15, 3) := dq_180 (zby_at (j := 11) zbX3_weighAll_5 rfl) (zby_at (j := 12) zbX3_weighAll_5 rfl) (zby_at (j := 13) zbX3_weighAll_5 rfl)
theorem dX3_weighAll_94 : decode cX3_weighAll 94 = .ok (.iload 4, 2) := dq_21 (zby_at (j := 14) zbX3_weighAll_5 rfl) (zby_at (j := 15) zbX3_weighAll_5 rfl)
theorem zbX3_weighAll_6 : zby cX3_weighAll 96 20 = [4, 21, 6, 120, 128, 46, 96, 54, 7, 21, 7, 42, 180, 0, 15, 21, 4, 46, 162, 0] := by decide +kernel
theorem dX3_weighAll_96 : decode cX3_weighAll 96 = .ok (.iconst 1, 1) := dq_4 (zby_at (j := 0) zbX3_weighAll_6 rfl)
theorem dX3_weighAll_97 : decode cX3_weighAll 97 = .ok (.iload 6, 2) := dq_21 (zby_at (j := 1) zbX3_weighAll_6 rfl) (zby_at (j := 2) zbX3_weighAll_6 rfl)
theorem dX3_weighAll_99 : decode cX3_weighAll 99 = .ok (.ishl, 1) := dq_120 (zby_at (j := 3) zbX3_weighAll_6 rfl)
theorem dX3_weighAll_100 : decode cX3_weighAll 100 = .ok (.ior, 1) := dq_128 (zby_at (j := 4) zbX3_weighAll_6 rfl)
theorem dX3_weighAll_101 : decode cX3_weighAll 101 = .ok (.iaload, 1) := dq_46 (zby_at (j := 5) zbX3_weighAll_6 rfl)
theorem dX3_weighAll_102 : decode cX3_weighAll 102 = .ok (.iadd, 1) := dq_96 (zby_at (j := 6) zbX3_weighAll_6 rfl)
theorem dX3_weighAll_103 : decode cX3_weighAll 103 = .ok (.istore 7, 2) := dq_54 (zby_at (j := 7) zbX3_weighAll_6 rfl) (zby_at (j := 8) zbX3_weighAll_6 rfl)
theorem dX3_weighAll_105 : decode cX3_weighAll 105 = .ok (.iload 7, 2) := dq_21 (zby_at (j := 9) zbX3_weighAll_6 rfl) (zby_at (j := 10) zbX3_weighAll_6 rfl)
theorem dX3_weighAll_107 : decode cX3_weighAll 107 = .ok (.aload_n 0, 1) := dq_42 (zby_at (j := 11) zbX3_weighAll_6 rfl)
theorem dX3_weighAll_108 : decode cX3_weighAll 108 = .ok (.getfield 15, 3) := dq_180 (zby_at (j := 12) zbX3_weighAll_6 rfl) (zby_at (j := 13) zbX3_weighAll_6 rfl) (zby_at (j := 14) zbX3_weighAll_6 rfl)
theorem dX3_weighAll_111 : decode cX3_weighAll 111 = .ok (.iload 4, 2) := dq_21 (zby_at (j := 15) zbX3_weighAll_6 rfl) (zby_at (j := 16) zbX3_weighAll_6 rfl)
theorem zbX3_weighAll_7 : zby cX3_weighAll 112 20 = [4, 46, 162, 0, 21, 42, 180, 0, 15, 21, 4, 21, 7, 79, 42, 180, 0, 19, 21, 4] := by decide +kernel
theorem dX3_weighAll_113 : decode cX3_weighAll 113 = .ok (.iaload, 1) := dq_46 (zby_at (j := 1) zbX3_weighAll_7 rfl)
theorem dX3_weighAll_114 : decode cX3_weighAll 114 = .ok (.if_icmp .ge 21, 3) := dq_162 (zby_at (j := 2) zbX3_weighAll_7 rfl) (zby_at (j := 3) zbX3_weighAll_7 rfl) (zby_at (j := 4) zbX3_weighAll_7 rfl) rfl
theorem dX3_weighAll_117 : decode cX3_weighAll 117 = .ok (.aload_n 0, 1) := dq_42 (zby_at (j := 5) zbX3_weighAll_7 rfl)
theorem dX3_weighAll_118 : decode cX3_weighAll 118 = .ok (.getfield 15, 3) := dq_180 (zby_at (j := 6) zbX3_weighAll_7 rfl) (zby_at (j := 7) zbX3_weighAll_7 rfl) (zby_at (j := 8) zbX3_weighAll_7 rfl)
theorem dX3_weighAll_121 : decode cX3_weighAll 121 = .ok (.iload 4, 2) := dq_21 (zby_at (j := 9) zbX3_weighAll_7 rfl) (zby_at (j := 10) zbX3_weighAll_7 rfl)
theorem dX3_weighAll_123 : decode cX3_weighAll 123 = .ok (.iload 7, 2) := dq_21 (zby_at (j := 11) zbX3_weighAll_7 rfl) (zby_at (j := 12) zbX3_weighAll_7 rfl)
theorem dX3_weighAll_125 : decode cX3_weighAll 125 = .ok (.iastore, 1) := dq_79 (zby_at (j := 13) zbX3_weighAll_7 rfl)
theorem dX3_weighAll_126 : decode cX3_weighAll 126 = .ok (.aload_n 0, 1) := dq_42 (zby_at (j := 14) zbX3_weighAll_7 rfl)
theorem dX3_weighAll_127 : decode cX3_weighAll 127 = .ok (.getfield 19, 3) := dq_180 (zby_at (j := 15) zbX3_weighAll_7 rfl) (zby_at (j := 16) zbX3_weighAll_7 rfl) (zby_at (j := 17) zbX3_weighAll_7 rfl)
theorem zbX3_weighAll_8 : zby cX3_weighAll 128 20 = [0, 19, 21, 4, 21, 6, 79, 132, 6, 1, 167, 255, 177, 132, 4, 255, 167, 255, 139, 177] := by decide +kernel
theorem dX3_weighAll_130 : decode cX3_weighAll 130 = .ok (.iload 4, 2) := dq_21 (zby_at (j := 2) zbX3_weighAll_8 rfl) (zby_at (j := 3) zbX3_weighAll_8 rfl)
theorem dX3_weighAll_132 : decode cX3_weighAll 132 = .ok (.iload 6, 2) := dq_21 (zby_at (j := 4) zbX3_weighAll_8 rfl) (zby_at (j := 5) zbX3_weighAll_8 rfl)
theorem dX3_weighAll_134 : decode cX3_weighAll 134 = .ok (.iastore, 1) := dq_79 (zby_at (j := 6) zbX3_weighAll_8 rfl)
theorem dX3_weighAll_135 : decode cX3_weighAll 135 = .ok (.iinc 6 1, 3) := dq_132 (zby_at (j := 7) zbX3_weighAll_8 rfl) (zby_at (j := 8) zbX3_weighAll_8 rfl) (zby_at (j := 9) zbX3_weighAll_8 rfl) rfl
theorem dX3_weighAll_138 : decode cX3_weighAll 138 = .ok (.goto (-79), 3) := dq_167 (zby_at (j := 10) zbX3_weighAll_8 rfl) (zby_at (j := 11) zbX3_weighAll_8 rfl) (zby_at (j := 12) zbX3_weighAll_8 rfl) rfl
theorem dX3_weighAll_141 : decode cX3_weighAll 141 = .ok (.iinc 4 (-1), 3) := dq_132 (zby_at (j := 13) zbX3_weighAll_8 rfl) (zby_at (j := 14) zbX3_weighAll_8 rfl) (zby_at (j := 15) zbX3_weighAll_8 rfl) rfl
theorem zbX3_weighAll_9 : zby cX3_weighAll 144 20 = [167, 255, 139, 177] := by decide +kernel
theorem dX3_weighAll_144 : decode cX3_weighAll 144 = .ok (.goto (-117), 3) := dq_167 (zby_at (j := 0) zbX3_weighAll_9 rfl) (zby_at (j := 1) zbX3_weighAll_9 rfl) (zby_at (j := 2) zbX3_weighAll_9 rfl) rfl
theorem dX3_weighAll_147 : decode cX3_weighAll 147 = .ok (.return_, 1) := dq_177 (zby_at (j := 3) zbX3_weighAll_9 rfl)
theorem zbX3_fewest_0 : zby cX3_fewest 0 20 = [42, 180, 0, 15, 3, 46, 172] := by decide +kernel
theorem dX3_fewest_0 : decode cX3_fewest 0 = .ok (.aload_n 0, 1) := dq_42 (zby_at (j := 0) zbX3_fewest_0 rfl)
theorem dX3_fewest_1 : decode cX3_fewest 1 = .ok (.getfield 15, 3) := dq_180 (zby_at (j := 1) zbX3_fewest_0 rfl) (zby_at (j := 2) zbX3_fewest_0 rfl) (zby_at (j := 3) zbX3_fewest_0 rfl)
theorem dX3_fewest_4 : decode cX3_fewest 4 = .ok (.iconst 0, 1) := dq_3 (zby_at (j := 4) zbX3_fewest_0 rfl)
theorem dX3_fewest_5 : decode cX3_fewest 5 = .ok (.iaload, 1) := dq_46 (zby_at (j := 5) zbX3_fewest_0 rfl)
theorem dX3_fewest_6 : decode cX3_fewest 6 = .ok (.ireturn, 1) := dq_172 (zby_at (j := 6) zbX3_fewest_0 rfl)
theorem zbX3_nameAt_0 : zby cX3_nameAt 0 20 = [3, 61, 3, 62, 29, 27, 162, 0, 29, 29, 16, 6, 162, 0, 23, 28, 4, 42, 180, 0] := by decide +kernel
theorem dX3_nameAt_0 : decode cX3_nameAt 0 = .ok (.iconst 0, 1) := dq_3 (zby_at (j := 0) zbX3_nameAt_0 rfl)
theorem dX3_nameAt_1 : decode cX3_nameAt 1 = .ok (.istore_n 2, 1) := dq_61 (zby_at (j := 1) zbX3_nameAt_0 rfl)
theorem dX3_nameAt_2 : decode cX3_nameAt 2 = .ok (.iconst 0, 1) := dq_3 (zby_at (j := 2) zbX3_nameAt_0 rfl)
theorem dX3_nameAt_3 : decode cX3_nameAt 3 = .ok (.istore_n 3, 1) := dq_62 (zby_at (j := 3) zbX3_nameAt_0 rfl)
theorem dX3_nameAt_4 : decode cX3_nameAt 4 = .ok (.iload_n 3, 1) := dq_29 (zby_at (j := 4) zbX3_nameAt_0 rfl)
theorem dX3_nameAt_5 : decode cX3_nameAt 5 = .ok (.iload_n 1, 1) := dq_27 (zby_at (j := 5) zbX3_nameAt_0 rfl)
theorem dX3_nameAt_6 : decode cX3_nameAt 6 = .ok (.if_icmp .ge 29, 3) := dq_162 (zby_at (j := 6) zbX3_nameAt_0 rfl) (zby_at (j := 7) zbX3_nameAt_0 rfl) (zby_at (j := 8) zbX3_nameAt_0 rfl) rfl
theorem dX3_nameAt_9 : decode cX3_nameAt 9 = .ok (.iload_n 3, 1) := dq_29 (zby_at (j := 9) zbX3_nameAt_0 rfl)
theorem dX3_nameAt_10 : decode cX3_nameAt 10 = .ok (.bipush 6, 2) := dq_16 (zby_at (j := 10) zbX3_nameAt_0 rfl) (zby_at (j := 11) zbX3_nameAt_0 rfl) rfl
theorem dX3_nameAt_12 : decode cX3_nameAt 12 = .ok (.if_icmp .ge 23, 3) := dq_162 (zby_at (j := 12) zbX3_nameAt_0 rfl) (zby_at (j := 13) zbX3_nameAt_0 rfl) (zby_at (j := 14) zbX3_nameAt_0 rfl) rfl
theorem dX3_nameAt_15 : decode cX3_nameAt 15 = .ok (.iload_n 2, 1) := dq_28 (zby_at (j := 15) zbX3_nameAt_0 rfl)
theorem zbX3_nameAt_1 : zby cX3_nameAt 16 20 = [4, 42, 180, 0, 19, 28, 16, 63, 126, 46, 120, 128, 61, 132, 3, 1, 167, 255, 228, 42] := by decide +kernel
theorem dX3_nameAt_16 : decode cX3_nameAt 16 = .ok (.iconst 1, 1) := dq_4 (zby_at (j := 0) zbX3_nameAt_1 rfl)
theorem dX3_nameAt_17 : decode cX3_nameAt 17 = .ok (.aload_n 0, 1) := dq_42 (zby_at (j := 1) zbX3_nameAt_1 rfl)
theorem dX3_nameAt_18 : decode cX3_nameAt 18 = .ok (.getfield 19, 3) := dq_180 (zby_at (j := 2) zbX3_nameAt_1 rfl) (zby_at (j := 3) zbX3_nameAt_1 rfl) (zby_at (j := 4) zbX3_nameAt_1 rfl)
theorem dX3_nameAt_21 : decode cX3_nameAt 21 = .ok (.iload_n 2, 1) := dq_28 (zby_at (j := 5) zbX3_nameAt_1 rfl)
theorem dX3_nameAt_22 : decode cX3_nameAt 22 = .ok (.bipush 63, 2) := dq_16 (zby_at (j := 6) zbX3_nameAt_1 rfl) (zby_at (j := 7) zbX3_nameAt_1 rfl) rfl
theorem dX3_nameAt_24 : decode cX3_nameAt 24 = .ok (.iand, 1) := dq_126 (zby_at (j := 8) zbX3_nameAt_1 rfl)
theorem dX3_nameAt_25 : decode cX3_nameAt 25 = .ok (.iaload, 1) := dq_46 (zby_at (j := 9) zbX3_nameAt_1 rfl)
theorem dX3_nameAt_26 : decode cX3_nameAt 26 = .ok (.ishl, 1) := dq_120 (zby_at (j := 10) zbX3_nameAt_1 rfl)
theorem dX3_nameAt_27 : decode cX3_nameAt 27 = .ok (.ior, 1) := dq_128 (zby_at (j := 11) zbX3_nameAt_1 rfl)
theorem dX3_nameAt_28 : decode cX3_nameAt 28 = .ok (.istore_n 2, 1) := dq_61 (zby_at (j := 12) zbX3_nameAt_1 rfl)
theorem dX3_nameAt_29 : decode cX3_nameAt 29 = .ok (.iinc 3 1, 3) := dq_132 (zby_at (j := 13) zbX3_nameAt_1 rfl) (zby_at (j := 14) zbX3_nameAt_1 rfl) (zby_at (j := 15) zbX3_nameAt_1 rfl) rfl
theorem zbX3_nameAt_2 : zby cX3_nameAt 32 20 = [167, 255, 228, 42, 180, 0, 19, 28, 16, 63, 126, 46, 172] := by decide +kernel
theorem dX3_nameAt_32 : decode cX3_nameAt 32 = .ok (.goto (-28), 3) := dq_167 (zby_at (j := 0) zbX3_nameAt_2 rfl) (zby_at (j := 1) zbX3_nameAt_2 rfl) (zby_at (j := 2) zbX3_nameAt_2 rfl) rfl
theorem dX3_nameAt_35 : decode cX3_nameAt 35 = .ok (.aload_n 0, 1) := dq_42 (zby_at (j := 3) zbX3_nameAt_2 rfl)
theorem dX3_nameAt_36 : decode cX3_nameAt 36 = .ok (.getfield 19, 3) := dq_180 (zby_at (j := 4) zbX3_nameAt_2 rfl) (zby_at (j := 5) zbX3_nameAt_2 rfl) (zby_at (j := 6) zbX3_nameAt_2 rfl)
theorem dX3_nameAt_39 : decode cX3_nameAt 39 = .ok (.iload_n 2, 1) := dq_28 (zby_at (j := 7) zbX3_nameAt_2 rfl)
theorem dX3_nameAt_40 : decode cX3_nameAt 40 = .ok (.bipush 63, 2) := dq_16 (zby_at (j := 8) zbX3_nameAt_2 rfl) (zby_at (j := 9) zbX3_nameAt_2 rfl) rfl
theorem dX3_nameAt_42 : decode cX3_nameAt 42 = .ok (.iand, 1) := dq_126 (zby_at (j := 10) zbX3_nameAt_2 rfl)
theorem dX3_nameAt_43 : decode cX3_nameAt 43 = .ok (.iaload, 1) := dq_46 (zby_at (j := 11) zbX3_nameAt_2 rfl)
theorem dX3_nameAt_44 : decode cX3_nameAt 44 = .ok (.ireturn, 1) := dq_172 (zby_at (j := 12) zbX3_nameAt_2 rfl)
theorem zbX3_gatherParts_0 : zby cX3_gatherParts 0 20 = [10, 55, 5, 3, 54, 7, 21, 7, 16, 6, 162, 0, 35, 21, 4, 29, 2, 130, 126, 21] := by decide +kernel
theorem dX3_gatherParts_0 : decode cX3_gatherParts 0 = .ok (.lconst 1, 1) := dq_10 (zby_at (j := 0) zbX3_gatherParts_0 rfl)
theorem dX3_gatherParts_1 : decode cX3_gatherParts 1 = .ok (.lstore 5, 2) := dq_55 (zby_at (j := 1) zbX3_gatherParts_0 rfl) (zby_at (j := 2) zbX3_gatherParts_0 rfl)
theorem dX3_gatherParts_3 : decode cX3_gatherParts 3 = .ok (.iconst 0, 1) := dq_3 (zby_at (j := 3) zbX3_gatherParts_0 rfl)
theorem dX3_gatherParts_4 : decode cX3_gatherParts 4 = .ok (.istore 7, 2) := dq_54 (zby_at (j := 4) zbX3_gatherParts_0 rfl) (zby_at (j := 5) zbX3_gatherParts_0 rfl)
theorem dX3_gatherParts_6 : decode cX3_gatherParts 6 = .ok (.iload 7, 2) := dq_21 (zby_at (j := 6) zbX3_gatherParts_0 rfl) (zby_at (j := 7) zbX3_gatherParts_0 rfl)
theorem dX3_gatherParts_8 : decode cX3_gatherParts 8 = .ok (.bipush 6, 2) := dq_16 (zby_at (j := 8) zbX3_gatherParts_0 rfl) (zby_at (j := 9) zbX3_gatherParts_0 rfl) rfl
theorem dX3_gatherParts_10 : decode cX3_gatherParts 10 = .ok (.if_icmp .ge 35, 3) := dq_162 (zby_at (j := 10) zbX3_gatherParts_0 rfl) (zby_at (j := 11) zbX3_gatherParts_0 rfl) (zby_at (j := 12) zbX3_gatherParts_0 rfl) rfl
theorem dX3_gatherParts_13 : decode cX3_gatherParts 13 = .ok (.iload 4, 2) := dq_21 (zby_at (j := 13) zbX3_gatherParts_0 rfl) (zby_at (j := 14) zbX3_gatherParts_0 rfl)
theorem dX3_gatherParts_15 : decode cX3_gatherParts 15 = .ok (.iload_n 3, 1) := dq_29 (zby_at (j := 15) zbX3_gatherParts_0 rfl)
theorem zbX3_gatherParts_1 : zby cX3_gatherParts 16 20 = [2, 130, 126, 21, 7, 122, 4, 126, 153, 0, 15, 22, 5, 22, 5, 4, 21, 7, 120, 121] := by decide +kernel
theorem dX3_gatherParts_16 : decode cX3_gatherParts 16 = .ok (.iconst (-1), 1) := dq_2 (zby_at (j := 0) zbX3_gatherParts_1 rfl)
theorem dX3_gatherParts_17 : decode cX3_gatherParts 17 = .ok (.ixor, 1) := dq_130 (zby_at (j := 1) zbX3_gatherParts_1 rfl)
theorem dX3_gatherParts_18 : decode cX3_gatherParts 18 = .ok (.iand, 1) := dq_126 (zby_at (j := 2) zbX3_gatherParts_1 rfl)
theorem dX3_gatherParts_19 : decode cX3_gatherParts 19 = .ok (.iload 7, 2) := dq_21 (zby_at (j := 3) zbX3_gatherParts_1 rfl) (zby_at (j := 4) zbX3_gatherParts_1 rfl)
theorem dX3_gatherParts_21 : decode cX3_gatherParts 21 = .ok (.ishr, 1) := dq_122 (zby_at (j := 5) zbX3_gatherParts_1 rfl)
theorem dX3_gatherParts_22 : decode cX3_gatherParts 22 = .ok (.iconst 1, 1) := dq_4 (zby_at (j := 6) zbX3_gatherParts_1 rfl)
theorem dX3_gatherParts_23 : decode cX3_gatherParts 23 = .ok (.iand, 1) := dq_126 (zby_at (j := 7) zbX3_gatherParts_1 rfl)
theorem dX3_gatherParts_24 : decode cX3_gatherParts 24 = .ok (.ifCond .eq 15, 3) := dq_153 (zby_at (j := 8) zbX3_gatherParts_1 rfl) (zby_at (j := 9) zbX3_gatherParts_1 rfl) (zby_at (j := 10) zbX3_gatherParts_1 rfl) rfl
theorem dX3_gatherParts_27 : decode cX3_gatherParts 27 = .ok (.lload 5, 2) := dq_22 (zby_at (j := 11) zbX3_gatherParts_1 rfl) (zby_at (j := 12) zbX3_gatherParts_1 rfl)
theorem dX3_gatherParts_29 : decode cX3_gatherParts 29 = .ok (.lload 5, 2) := dq_22 (zby_at (j := 13) zbX3_gatherParts_1 rfl) (zby_at (j := 14) zbX3_gatherParts_1 rfl)
theorem dX3_gatherParts_31 : decode cX3_gatherParts 31 = .ok (.iconst 1, 1) := dq_4 (zby_at (j := 15) zbX3_gatherParts_1 rfl)
theorem zbX3_gatherParts_2 : zby cX3_gatherParts 32 20 = [21, 7, 120, 121, 129, 55, 5, 132, 7, 1, 167, 255, 220, 3, 54, 7, 3, 54, 8, 3] := by decide +kernel
theorem dX3_gatherParts_32 : decode cX3_gatherParts 32 = .ok (.iload 7, 2) := dq_21 (zby_at (j := 0) zbX3_gatherParts_2 rfl) (zby_at (j := 1) zbX3_gatherParts_2 rfl)
theorem dX3_gatherParts_34 : decode cX3_gatherParts 34 = .ok (.ishl, 1) := dq_120 (zby_at (j := 2) zbX3_gatherParts_2 rfl)
theorem dX3_gatherParts_35 : decode cX3_gatherParts 35 = .ok (.lshl, 1) := dq_121 (zby_at (j := 3) zbX3_gatherParts_2 rfl)
theorem dX3_gatherParts_36 : decode cX3_gatherParts 36 = .ok (.lor, 1) := dq_129 (zby_at (j := 4) zbX3_gatherParts_2 rfl)
theorem dX3_gatherParts_37 : decode cX3_gatherParts 37 = .ok (.lstore 5, 2) := dq_55 (zby_at (j := 5) zbX3_gatherParts_2 rfl) (zby_at (j := 6) zbX3_gatherParts_2 rfl)
theorem dX3_gatherParts_39 : decode cX3_gatherParts 39 = .ok (.iinc 7 1, 3) := dq_132 (zby_at (j := 7) zbX3_gatherParts_2 rfl) (zby_at (j := 8) zbX3_gatherParts_2 rfl) (zby_at (j := 9) zbX3_gatherParts_2 rfl) rfl
theorem dX3_gatherParts_42 : decode cX3_gatherParts 42 = .ok (.goto (-36), 3) := dq_167 (zby_at (j := 10) zbX3_gatherParts_2 rfl) (zby_at (j := 11) zbX3_gatherParts_2 rfl) (zby_at (j := 12) zbX3_gatherParts_2 rfl) rfl
theorem dX3_gatherParts_45 : decode cX3_gatherParts 45 = .ok (.iconst 0, 1) := dq_3 (zby_at (j := 13) zbX3_gatherParts_2 rfl)
theorem dX3_gatherParts_46 : decode cX3_gatherParts 46 = .ok (.istore 7, 2) := dq_54 (zby_at (j := 14) zbX3_gatherParts_2 rfl) (zby_at (j := 15) zbX3_gatherParts_2 rfl)
theorem zbX3_gatherParts_3 : zby cX3_gatherParts 48 20 = [3, 54, 8, 3, 54, 9, 21, 9, 16, 64, 162, 0, 64, 31, 21, 8, 125, 22, 5, 127] := by decide +kernel
theorem dX3_gatherParts_48 : decode cX3_gatherParts 48 = .ok (.iconst 0, 1) := dq_3 (zby_at (j := 0) zbX3_gatherParts_3 rfl)
theorem dX3_gatherParts_49 : decode cX3_gatherParts 49 = .ok (.istore 8, 2) := dq_54 (zby_at (j := 1) zbX3_gatherParts_3 rfl) (zby_at (j := 2) zbX3_gatherParts_3 rfl)
theorem dX3_gatherParts_51 : decode cX3_gatherParts 51 = .ok (.iconst 0, 1) := dq_3 (zby_at (j := 3) zbX3_gatherParts_3 rfl)
theorem dX3_gatherParts_52 : decode cX3_gatherParts 52 = .ok (.istore 9, 2) := dq_54 (zby_at (j := 4) zbX3_gatherParts_3 rfl) (zby_at (j := 5) zbX3_gatherParts_3 rfl)
theorem dX3_gatherParts_54 : decode cX3_gatherParts 54 = .ok (.iload 9, 2) := dq_21 (zby_at (j := 6) zbX3_gatherParts_3 rfl) (zby_at (j := 7) zbX3_gatherParts_3 rfl)
theorem dX3_gatherParts_56 : decode cX3_gatherParts 56 = .ok (.bipush 64, 2) := dq_16 (zby_at (j := 8) zbX3_gatherParts_3 rfl) (zby_at (j := 9) zbX3_gatherParts_3 rfl) rfl
theorem dX3_gatherParts_58 : decode cX3_gatherParts 58 = .ok (.if_icmp .ge 64, 3) := dq_162 (zby_at (j := 10) zbX3_gatherParts_3 rfl) (zby_at (j := 11) zbX3_gatherParts_3 rfl) (zby_at (j := 12) zbX3_gatherParts_3 rfl) rfl
theorem dX3_gatherParts_61 : decode cX3_gatherParts 61 = .ok (.lload_n 1, 1) := dq_31 (zby_at (j := 13) zbX3_gatherParts_3 rfl)
theorem dX3_gatherParts_62 : decode cX3_gatherParts 62 = .ok (.iload 8, 2) := dq_21 (zby_at (j := 14) zbX3_gatherParts_3 rfl) (zby_at (j := 15) zbX3_gatherParts_3 rfl)
theorem zbX3_gatherParts_4 : zby cX3_gatherParts 64 20 = [125, 22, 5, 127, 55, 10, 21, 7, 16, 64, 162, 0, 26, 42, 22, 10, 21, 7, 182, 0] := by decide +kernel
theorem dX3_gatherParts_64 : decode cX3_gatherParts 64 = .ok (.lushr, 1) := dq_125 (zby_at (j := 0) zbX3_gatherParts_4 rfl)
theorem dX3_gatherParts_65 : decode cX3_gatherParts 65 = .ok (.lload 5, 2) := dq_22 (zby_at (j := 1) zbX3_gatherParts_4 rfl) (zby_at (j := 2) zbX3_gatherParts_4 rfl)
theorem dX3_gatherParts_67 : decode cX3_gatherParts 67 = .ok (.land, 1) := dq_127 (zby_at (j := 3) zbX3_gatherParts_4 rfl)
theorem dX3_gatherParts_68 : decode cX3_gatherParts 68 = .ok (.lstore 10, 2) := dq_55 (zby_at (j := 4) zbX3_gatherParts_4 rfl) (zby_at (j := 5) zbX3_gatherParts_4 rfl)
theorem dX3_gatherParts_70 : decode cX3_gatherParts 70 = .ok (.iload 7, 2) := dq_21 (zby_at (j := 6) zbX3_gatherParts_4 rfl) (zby_at (j := 7) zbX3_gatherParts_4 rfl)
theorem dX3_gatherParts_72 : decode cX3_gatherParts 72 = .ok (.bipush 64, 2) := dq_16 (zby_at (j := 8) zbX3_gatherParts_4 rfl) (zby_at (j := 9) zbX3_gatherParts_4 rfl) rfl
theorem dX3_gatherParts_74 : decode cX3_gatherParts 74 = .ok (.if_icmp .ge 26, 3) := dq_162 (zby_at (j := 10) zbX3_gatherParts_4 rfl) (zby_at (j := 11) zbX3_gatherParts_4 rfl) (zby_at (j := 12) zbX3_gatherParts_4 rfl) rfl
theorem dX3_gatherParts_77 : decode cX3_gatherParts 77 = .ok (.aload_n 0, 1) := dq_42 (zby_at (j := 13) zbX3_gatherParts_4 rfl)
theorem dX3_gatherParts_78 : decode cX3_gatherParts 78 = .ok (.lload 10, 2) := dq_22 (zby_at (j := 14) zbX3_gatherParts_4 rfl) (zby_at (j := 15) zbX3_gatherParts_4 rfl)
theorem zbX3_gatherParts_5 : zby cX3_gatherParts 80 20 = [21, 7, 182, 0, 44, 154, 0, 15, 42, 180, 0, 11, 21, 7, 22, 10, 80, 132, 7, 1] := by decide +kernel
theorem dX3_gatherParts_80 : decode cX3_gatherParts 80 = .ok (.iload 7, 2) := dq_21 (zby_at (j := 0) zbX3_gatherParts_5 rfl) (zby_at (j := 1) zbX3_gatherParts_5 rfl)
theorem dX3_gatherParts_82 : decode cX3_gatherParts 82 = .ok (.invokevirtual 44, 3) := dq_182 (zby_at (j := 2) zbX3_gatherParts_5 rfl) (zby_at (j := 3) zbX3_gatherParts_5 rfl) (zby_at (j := 4) zbX3_gatherParts_5 rfl)
theorem dX3_gatherParts_85 : decode cX3_gatherParts 85 = .ok (.ifCond .ne 15, 3) := dq_154 (zby_at (j := 5) zbX3_gatherParts_5 rfl) (zby_at (j := 6) zbX3_gatherParts_5 rfl) (zby_at (j := 7) zbX3_gatherParts_5 rfl) rfl
theorem dX3_gatherParts_88 : decode cX3_gatherParts 88 = .ok (.aload_n 0, 1) := dq_42 (zby_at (j := 8) zbX3_gatherParts_5 rfl)
theorem dX3_gatherParts_89 : decode cX3_gatherParts 89 = .ok (.getfield 11, 3) := dq_180 (zby_at (j := 9) zbX3_gatherParts_5 rfl) (zby_at (j := 10) zbX3_gatherParts_5 rfl) (zby_at (j := 11) zbX3_gatherParts_5 rfl)
theorem dX3_gatherParts_92 : decode cX3_gatherParts 92 = .ok (.iload 7, 2) := dq_21 (zby_at (j := 12) zbX3_gatherParts_5 rfl) (zby_at (j := 13) zbX3_gatherParts_5 rfl)
theorem dX3_gatherParts_94 : decode cX3_gatherParts 94 = .ok (.lload 10, 2) := dq_22 (zby_at (j := 14) zbX3_gatherParts_5 rfl) (zby_at (j := 15) zbX3_gatherParts_5 rfl)
theorem zbX3_gatherParts_6 : zby cX3_gatherParts 96 20 = [80, 132, 7, 1, 21, 8, 29, 100, 29, 126, 54, 8, 21, 8, 154, 0, 6, 167, 0, 9] := by decide +kernel
theorem dX3_gatherParts_96 : decode cX3_gatherParts 96 = .ok (.lastore, 1) := dq_80 (zby_at (j := 0) zbX3_gatherParts_6 rfl)
theorem dX3_gatherParts_97 : decode cX3_gatherParts 97 = .ok (.iinc 7 1, 3) := dq_132 (zby_at (j := 1) zbX3_gatherParts_6 rfl) (zby_at (j := 2) zbX3_gatherParts_6 rfl) (zby_at (j := 3) zbX3_gatherParts_6 rfl) rfl
theorem dX3_gatherParts_100 : decode cX3_gatherParts 100 = .ok (.iload 8, 2) := dq_21 (zby_at (j := 4) zbX3_gatherParts_6 rfl) (zby_at (j := 5) zbX3_gatherParts_6 rfl)
theorem dX3_gatherParts_102 : decode cX3_gatherParts 102 = .ok (.iload_n 3, 1) := dq_29 (zby_at (j := 6) zbX3_gatherParts_6 rfl)
theorem dX3_gatherParts_103 : decode cX3_gatherParts 103 = .ok (.isub, 1) := dq_100 (zby_at (j := 7) zbX3_gatherParts_6 rfl)
theorem dX3_gatherParts_104 : decode cX3_gatherParts 104 = .ok (.iload_n 3, 1) := dq_29 (zby_at (j := 8) zbX3_gatherParts_6 rfl)
theorem dX3_gatherParts_105 : decode cX3_gatherParts 105 = .ok (.iand, 1) := dq_126 (zby_at (j := 9) zbX3_gatherParts_6 rfl)
theorem dX3_gatherParts_106 : decode cX3_gatherParts 106 = .ok (.istore 8, 2) := dq_54 (zby_at (j := 10) zbX3_gatherParts_6 rfl) (zby_at (j := 11) zbX3_gatherParts_6 rfl)
theorem dX3_gatherParts_108 : decode cX3_gatherParts 108 = .ok (.iload 8, 2) := dq_21 (zby_at (j := 12) zbX3_gatherParts_6 rfl) (zby_at (j := 13) zbX3_gatherParts_6 rfl)
theorem dX3_gatherParts_110 : decode cX3_gatherParts 110 = .ok (.ifCond .ne 6, 3) := dq_154 (zby_at (j := 14) zbX3_gatherParts_6 rfl) (zby_at (j := 15) zbX3_gatherParts_6 rfl) (zby_at (j := 16) zbX3_gatherParts_6 rfl) rfl
theorem zbX3_gatherParts_7 : zby cX3_gatherParts 112 20 = [6, 167, 0, 9, 132, 9, 1, 167, 255, 191, 21, 7, 172] := by decide +kernel
theorem dX3_gatherParts_113 : decode cX3_gatherParts 113 = .ok (.goto 9, 3) := dq_167 (zby_at (j := 1) zbX3_gatherParts_7 rfl) (zby_at (j := 2) zbX3_gatherParts_7 rfl) (zby_at (j := 3) zbX3_gatherParts_7 rfl) rfl
theorem dX3_gatherParts_116 : decode cX3_gatherParts 116 = .ok (.iinc 9 1, 3) := dq_132 (zby_at (j := 4) zbX3_gatherParts_7 rfl) (zby_at (j := 5) zbX3_gatherParts_7 rfl) (zby_at (j := 6) zbX3_gatherParts_7 rfl) rfl
theorem dX3_gatherParts_119 : decode cX3_gatherParts 119 = .ok (.goto (-65), 3) := dq_167 (zby_at (j := 7) zbX3_gatherParts_7 rfl) (zby_at (j := 8) zbX3_gatherParts_7 rfl) (zby_at (j := 9) zbX3_gatherParts_7 rfl) rfl
theorem dX3_gatherParts_122 : decode cX3_gatherParts 122 = .ok (.iload 7, 2) := dq_21 (zby_at (j := 10) zbX3_gatherParts_7 rfl) (zby_at (j := 11) zbX3_gatherParts_7 rfl)
theorem dX3_gatherParts_124 : decode cX3_gatherParts 124 = .ok (.ireturn, 1) := dq_172 (zby_at (j := 12) zbX3_gatherParts_7 rfl)
theorem zbX3_isGathered_0 : zby cX3_isGathered 0 20 = [3, 54, 4, 21, 4, 29, 162, 0, 30, 21, 4, 16, 64, 162, 0, 23, 42, 180, 0, 11] := by decide +kernel
theorem dX3_isGathered_0 : decode cX3_isGathered 0 = .ok (.iconst 0, 1) := dq_3 (zby_at (j := 0) zbX3_isGathered_0 rfl)
theorem dX3_isGathered_1 : decode cX3_isGathered 1 = .ok (.istore 4, 2) := dq_54 (zby_at (j := 1) zbX3_isGathered_0 rfl) (zby_at (j := 2) zbX3_isGathered_0 rfl)
theorem dX3_isGathered_3 : decode cX3_isGathered 3 = .ok (.iload 4, 2) := dq_21 (zby_at (j := 3) zbX3_isGathered_0 rfl) (zby_at (j := 4) zbX3_isGathered_0 rfl)
theorem dX3_isGathered_5 : decode cX3_isGathered 5 = .ok (.iload_n 3, 1) := dq_29 (zby_at (j := 5) zbX3_isGathered_0 rfl)
theorem dX3_isGathered_6 : decode cX3_isGathered 6 = .ok (.if_icmp .ge 30, 3) := dq_162 (zby_at (j := 6) zbX3_isGathered_0 rfl) (zby_at (j := 7) zbX3_isGathered_0 rfl) (zby_at (j := 8) zbX3_isGathered_0 rfl) rfl
theorem dX3_isGathered_9 : decode cX3_isGathered 9 = .ok (.iload 4, 2) := dq_21 (zby_at (j := 9) zbX3_isGathered_0 rfl) (zby_at (j := 10) zbX3_isGathered_0 rfl)
theorem dX3_isGathered_11 : decode cX3_isGathered 11 = .ok (.bipush 64, 2) := dq_16 (zby_at (j := 11) zbX3_isGathered_0 rfl) (zby_at (j := 12) zbX3_isGathered_0 rfl) rfl
theorem dX3_isGathered_13 : decode cX3_isGathered 13 = .ok (.if_icmp .ge 23, 3) := dq_162 (zby_at (j := 13) zbX3_isGathered_0 rfl) (zby_at (j := 14) zbX3_isGathered_0 rfl) (zby_at (j := 15) zbX3_isGathered_0 rfl) rfl
theorem zbX3_isGathered_1 : zby cX3_isGathered 16 20 = [42, 180, 0, 11, 21, 4, 47, 31, 148, 154, 0, 5, 4, 172, 132, 4, 1, 167, 255, 226] := by decide +kernel
theorem dX3_isGathered_16 : decode cX3_isGathered 16 = .ok (.aload_n 0, 1) := dq_42 (zby_at (j := 0) zbX3_isGathered_1 rfl)
theorem dX3_isGathered_17 : decode cX3_isGathered 17 = .ok (.getfield 11, 3) := dq_180 (zby_at (j := 1) zbX3_isGathered_1 rfl) (zby_at (j := 2) zbX3_isGathered_1 rfl) (zby_at (j := 3) zbX3_isGathered_1 rfl)
theorem dX3_isGathered_20 : decode cX3_isGathered 20 = .ok (.iload 4, 2) := dq_21 (zby_at (j := 4) zbX3_isGathered_1 rfl) (zby_at (j := 5) zbX3_isGathered_1 rfl)
theorem dX3_isGathered_22 : decode cX3_isGathered 22 = .ok (.laload, 1) := dq_47 (zby_at (j := 6) zbX3_isGathered_1 rfl)
theorem dX3_isGathered_23 : decode cX3_isGathered 23 = .ok (.lload_n 1, 1) := dq_31 (zby_at (j := 7) zbX3_isGathered_1 rfl)
theorem dX3_isGathered_24 : decode cX3_isGathered 24 = .ok (.lcmp, 1) := dq_148 (zby_at (j := 8) zbX3_isGathered_1 rfl)
theorem dX3_isGathered_25 : decode cX3_isGathered 25 = .ok (.ifCond .ne 5, 3) := dq_154 (zby_at (j := 9) zbX3_isGathered_1 rfl) (zby_at (j := 10) zbX3_isGathered_1 rfl) (zby_at (j := 11) zbX3_isGathered_1 rfl) rfl
theorem dX3_isGathered_28 : decode cX3_isGathered 28 = .ok (.iconst 1, 1) := dq_4 (zby_at (j := 12) zbX3_isGathered_1 rfl)
theorem dX3_isGathered_29 : decode cX3_isGathered 29 = .ok (.ireturn, 1) := dq_172 (zby_at (j := 13) zbX3_isGathered_1 rfl)
theorem dX3_isGathered_30 : decode cX3_isGathered 30 = .ok (.iinc 4 1, 3) := dq_132 (zby_at (j := 14) zbX3_isGathered_1 rfl) (zby_at (j := 15) zbX3_isGathered_1 rfl) (zby_at (j := 16) zbX3_isGathered_1 rfl) rfl
theorem zbX3_isGathered_2 : zby cX3_isGathered 32 20 = [1, 167, 255, 226, 3, 172] := by decide +kernel
theorem dX3_isGathered_33 : decode cX3_isGathered 33 = .ok (.goto (-30), 3) := dq_167 (zby_at (j := 1) zbX3_isGathered_2 rfl) (zby_at (j := 2) zbX3_isGathered_2 rfl) (zby_at (j := 3) zbX3_isGathered_2 rfl) rfl
theorem dX3_isGathered_36 : decode cX3_isGathered 36 = .ok (.iconst 0, 1) := dq_3 (zby_at (j := 4) zbX3_isGathered_2 rfl)
theorem dX3_isGathered_37 : decode cX3_isGathered 37 = .ok (.ireturn, 1) := dq_172 (zby_at (j := 5) zbX3_isGathered_2 rfl)
theorem zbX3_partsWith_0 : zby cX3_partsWith 0 20 = [27, 155, 0, 21, 27, 16, 6, 162, 0, 15, 178, 0, 48, 27, 47, 20, 0, 51, 131, 167] := by decide +kernel
theorem dX3_partsWith_0 : decode cX3_partsWith 0 = .ok (.iload_n 1, 1) := dq_27 (zby_at (j := 0) zbX3_partsWith_0 rfl)
theorem dX3_partsWith_1 : decode cX3_partsWith 1 = .ok (.ifCond .lt 21, 3) := dq_155 (zby_at (j := 1) zbX3_partsWith_0 rfl) (zby_at (j := 2) zbX3_partsWith_0 rfl) (zby_at (j := 3) zbX3_partsWith_0 rfl) rfl
theorem dX3_partsWith_4 : decode cX3_partsWith 4 = .ok (.iload_n 1, 1) := dq_27 (zby_at (j := 4) zbX3_partsWith_0 rfl)
theorem dX3_partsWith_5 : decode cX3_partsWith 5 = .ok (.bipush 6, 2) := dq_16 (zby_at (j := 5) zbX3_partsWith_0 rfl) (zby_at (j := 6) zbX3_partsWith_0 rfl) rfl
theorem dX3_partsWith_7 : decode cX3_partsWith 7 = .ok (.if_icmp .ge 15, 3) := dq_162 (zby_at (j := 7) zbX3_partsWith_0 rfl) (zby_at (j := 8) zbX3_partsWith_0 rfl) (zby_at (j := 9) zbX3_partsWith_0 rfl) rfl
theorem dX3_partsWith_10 : decode cX3_partsWith 10 = .ok (.getstatic 48, 3) := dq_178 (zby_at (j := 10) zbX3_partsWith_0 rfl) (zby_at (j := 11) zbX3_partsWith_0 rfl) (zby_at (j := 12) zbX3_partsWith_0 rfl)
theorem dX3_partsWith_13 : decode cX3_partsWith 13 = .ok (.iload_n 1, 1) := dq_27 (zby_at (j := 13) zbX3_partsWith_0 rfl)
theorem dX3_partsWith_14 : decode cX3_partsWith 14 = .ok (.laload, 1) := dq_47 (zby_at (j := 14) zbX3_partsWith_0 rfl)
theorem dX3_partsWith_15 : decode cX3_partsWith 15 = .ok (.ldc2_w 51, 3) := dq_20 (zby_at (j := 15) zbX3_partsWith_0 rfl) (zby_at (j := 16) zbX3_partsWith_0 rfl) (zby_at (j := 17) zbX3_partsWith_0 rfl)
theorem zbX3_partsWith_1 : zby cX3_partsWith 16 20 = [0, 51, 131, 167, 0, 4, 9, 66, 3, 54, 5, 3, 54, 6, 21, 6, 28, 162, 0, 33] := by decide +kernel
theorem dX3_partsWith_18 : decode cX3_partsWith 18 = .ok (.lxor, 1) := dq_131 (zby_at (j := 2) zbX3_partsWith_1 rfl)
theorem dX3_partsWith_19 : decode cX3_partsWith 19 = .ok (.goto 4, 3) := dq_167 (zby_at (j := 3) zbX3_partsWith_1 rfl) (zby_at (j := 4) zbX3_partsWith_1 rfl) (zby_at (j := 5) zbX3_partsWith_1 rfl) rfl
theorem dX3_partsWith_22 : decode cX3_partsWith 22 = .ok (.lconst 0, 1) := dq_9 (zby_at (j := 6) zbX3_partsWith_1 rfl)
theorem dX3_partsWith_23 : decode cX3_partsWith 23 = .ok (.lstore_n 3, 1) := dq_66 (zby_at (j := 7) zbX3_partsWith_1 rfl)
theorem dX3_partsWith_24 : decode cX3_partsWith 24 = .ok (.iconst 0, 1) := dq_3 (zby_at (j := 8) zbX3_partsWith_1 rfl)
theorem dX3_partsWith_25 : decode cX3_partsWith 25 = .ok (.istore 5, 2) := dq_54 (zby_at (j := 9) zbX3_partsWith_1 rfl) (zby_at (j := 10) zbX3_partsWith_1 rfl)
theorem dX3_partsWith_27 : decode cX3_partsWith 27 = .ok (.iconst 0, 1) := dq_3 (zby_at (j := 11) zbX3_partsWith_1 rfl)
theorem dX3_partsWith_28 : decode cX3_partsWith 28 = .ok (.istore 6, 2) := dq_54 (zby_at (j := 12) zbX3_partsWith_1 rfl) (zby_at (j := 13) zbX3_partsWith_1 rfl)
theorem dX3_partsWith_30 : decode cX3_partsWith 30 = .ok (.iload 6, 2) := dq_21 (zby_at (j := 14) zbX3_partsWith_1 rfl) (zby_at (j := 15) zbX3_partsWith_1 rfl)
theorem zbX3_partsWith_2 : zby cX3_partsWith 32 20 = [28, 162, 0, 33, 21, 6, 16, 64, 162, 0, 26, 42, 180, 0, 11, 21, 6, 47, 33, 127] := by decide +kernel
theorem dX3_partsWith_32 : decode cX3_partsWith 32 = .ok (.iload_n 2, 1) := dq_28 (zby_at (j := 0) zbX3_partsWith_2 rfl)
theorem dX3_partsWith_33 : decode cX3_partsWith 33 = .ok (.if_icmp .ge 33, 3) := dq_162 (zby_at (j := 1) zbX3_partsWith_2 rfl) (zby_at (j := 2) zbX3_partsWith_2 rfl) (zby_at (j := 3) zbX3_partsWith_2 rfl) rfl
theorem dX3_partsWith_36 : decode cX3_partsWith 36 = .ok (.iload 6, 2) := dq_21 (zby_at (j := 4) zbX3_partsWith_2 rfl) (zby_at (j := 5) zbX3_partsWith_2 rfl)
theorem dX3_partsWith_38 : decode cX3_partsWith 38 = .ok (.bipush 64, 2) := dq_16 (zby_at (j := 6) zbX3_partsWith_2 rfl) (zby_at (j := 7) zbX3_partsWith_2 rfl) rfl
theorem dX3_partsWith_40 : decode cX3_partsWith 40 = .ok (.if_icmp .ge 26, 3) := dq_162 (zby_at (j := 8) zbX3_partsWith_2 rfl) (zby_at (j := 9) zbX3_partsWith_2 rfl) (zby_at (j := 10) zbX3_partsWith_2 rfl) rfl
theorem dX3_partsWith_43 : decode cX3_partsWith 43 = .ok (.aload_n 0, 1) := dq_42 (zby_at (j := 11) zbX3_partsWith_2 rfl)
theorem dX3_partsWith_44 : decode cX3_partsWith 44 = .ok (.getfield 11, 3) := dq_180 (zby_at (j := 12) zbX3_partsWith_2 rfl) (zby_at (j := 13) zbX3_partsWith_2 rfl) (zby_at (j := 14) zbX3_partsWith_2 rfl)
theorem dX3_partsWith_47 : decode cX3_partsWith 47 = .ok (.iload 6, 2) := dq_21 (zby_at (j := 15) zbX3_partsWith_2 rfl) (zby_at (j := 16) zbX3_partsWith_2 rfl)
theorem zbX3_partsWith_3 : zby cX3_partsWith 48 20 = [6, 47, 33, 127, 9, 148, 153, 0, 6, 132, 5, 1, 132, 6, 1, 167, 255, 223, 21, 5] := by decide +kernel
theorem dX3_partsWith_49 : decode cX3_partsWith 49 = .ok (.laload, 1) := dq_47 (zby_at (j := 1) zbX3_partsWith_3 rfl)
theorem dX3_partsWith_50 : decode cX3_partsWith 50 = .ok (.lload_n 3, 1) := dq_33 (zby_at (j := 2) zbX3_partsWith_3 rfl)
theorem dX3_partsWith_51 : decode cX3_partsWith 51 = .ok (.land, 1) := dq_127 (zby_at (j := 3) zbX3_partsWith_3 rfl)
theorem dX3_partsWith_52 : decode cX3_partsWith 52 = .ok (.lconst 0, 1) := dq_9 (zby_at (j := 4) zbX3_partsWith_3 rfl)
theorem dX3_partsWith_53 : decode cX3_partsWith 53 = .ok (.lcmp, 1) := dq_148 (zby_at (j := 5) zbX3_partsWith_3 rfl)
theorem dX3_partsWith_54 : decode cX3_partsWith 54 = .ok (.ifCond .eq 6, 3) := dq_153 (zby_at (j := 6) zbX3_partsWith_3 rfl) (zby_at (j := 7) zbX3_partsWith_3 rfl) (zby_at (j := 8) zbX3_partsWith_3 rfl) rfl
theorem dX3_partsWith_57 : decode cX3_partsWith 57 = .ok (.iinc 5 1, 3) := dq_132 (zby_at (j := 9) zbX3_partsWith_3 rfl) (zby_at (j := 10) zbX3_partsWith_3 rfl) (zby_at (j := 11) zbX3_partsWith_3 rfl) rfl
theorem dX3_partsWith_60 : decode cX3_partsWith 60 = .ok (.iinc 6 1, 3) := dq_132 (zby_at (j := 12) zbX3_partsWith_3 rfl) (zby_at (j := 13) zbX3_partsWith_3 rfl) (zby_at (j := 14) zbX3_partsWith_3 rfl) rfl
theorem dX3_partsWith_63 : decode cX3_partsWith 63 = .ok (.goto (-33), 3) := dq_167 (zby_at (j := 15) zbX3_partsWith_3 rfl) (zby_at (j := 16) zbX3_partsWith_3 rfl) (zby_at (j := 17) zbX3_partsWith_3 rfl) rfl
theorem zbX3_partsWith_4 : zby cX3_partsWith 64 20 = [255, 223, 21, 5, 172] := by decide +kernel
theorem dX3_partsWith_66 : decode cX3_partsWith 66 = .ok (.iload 5, 2) := dq_21 (zby_at (j := 2) zbX3_partsWith_4 rfl) (zby_at (j := 3) zbX3_partsWith_4 rfl)
theorem dX3_partsWith_68 : decode cX3_partsWith 68 = .ok (.ireturn, 1) := dq_172 (zby_at (j := 4) zbX3_partsWith_4 rfl)
theorem zbX3_siftAll_0 : zby cX3_siftAll 0 20 = [3, 54, 4, 3, 54, 5, 21, 5, 43, 180, 0, 53, 162, 0, 89, 21, 5, 16, 10, 162] := by decide +kernel
theorem dX3_siftAll_0 : decode cX3_siftAll 0 = .ok (.iconst 0, 1) := dq_3 (zby_at (j := 0) zbX3_siftAll_0 rfl)
theorem dX3_siftAll_1 : decode cX3_siftAll 1 = .ok (.istore 4, 2) := dq_54 (zby_at (j := 1) zbX3_siftAll_0 rfl) (zby_at (j := 2) zbX3_siftAll_0 rfl)
theorem dX3_siftAll_3 : decode cX3_siftAll 3 = .ok (.iconst 0, 1) := dq_3 (zby_at (j := 3) zbX3_siftAll_0 rfl)
theorem dX3_siftAll_4 : decode cX3_siftAll 4 = .ok (.istore 5, 2) := dq_54 (zby_at (j := 4) zbX3_siftAll_0 rfl) (zby_at (j := 5) zbX3_siftAll_0 rfl)
theorem dX3_siftAll_6 : decode cX3_siftAll 6 = .ok (.iload 5, 2) := dq_21 (zby_at (j := 6) zbX3_siftAll_0 rfl) (zby_at (j := 7) zbX3_siftAll_0 rfl)
theorem dX3_siftAll_8 : decode cX3_siftAll 8 = .ok (.aload_n 1, 1) := dq_43 (zby_at (j := 8) zbX3_siftAll_0 rfl)
theorem dX3_siftAll_9 : decode cX3_siftAll 9 = .ok (.getfield 53, 3) := dq_180 (zby_at (j := 9) zbX3_siftAll_0 rfl) (zby_at (j := 10) zbX3_siftAll_0 rfl) (zby_at (j := 11) zbX3_siftAll_0 rfl)
theorem dX3_siftAll_12 : decode cX3_siftAll 12 = .ok (.if_icmp .ge 89, 3) := dq_162 (zby_at (j := 12) zbX3_siftAll_0 rfl) (zby_at (j := 13) zbX3_siftAll_0 rfl) (zby_at (j := 14) zbX3_siftAll_0 rfl) rfl
theorem dX3_siftAll_15 : decode cX3_siftAll 15 = .ok (.iload 5, 2) := dq_21 (zby_at (j := 15) zbX3_siftAll_0 rfl) (zby_at (j := 16) zbX3_siftAll_0 rfl)
theorem zbX3_siftAll_1 : zby cX3_siftAll 16 20 = [5, 16, 10, 162, 0, 82, 18, 40, 54, 4, 3, 54, 6, 3, 54, 7, 21, 7, 43, 180] := by decide +kernel
theorem dX3_siftAll_17 : decode cX3_siftAll 17 = .ok (.bipush 10, 2) := dq_16 (zby_at (j := 1) zbX3_siftAll_1 rfl) (zby_at (j := 2) zbX3_siftAll_1 rfl) rfl
theorem dX3_siftAll_19 : decode cX3_siftAll 19 = .ok (.if_icmp .ge 82, 3) := dq_162 (zby_at (j := 3) zbX3_siftAll_1 rfl) (zby_at (j := 4) zbX3_siftAll_1 rfl) (zby_at (j := 5) zbX3_siftAll_1 rfl) rfl
theorem dX3_siftAll_22 : decode cX3_siftAll 22 = .ok (.ldc 40, 2) := dq_18 (zby_at (j := 6) zbX3_siftAll_1 rfl) (zby_at (j := 7) zbX3_siftAll_1 rfl)
theorem dX3_siftAll_24 : decode cX3_siftAll 24 = .ok (.istore 4, 2) := dq_54 (zby_at (j := 8) zbX3_siftAll_1 rfl) (zby_at (j := 9) zbX3_siftAll_1 rfl)
theorem dX3_siftAll_26 : decode cX3_siftAll 26 = .ok (.iconst 0, 1) := dq_3 (zby_at (j := 10) zbX3_siftAll_1 rfl)
theorem dX3_siftAll_27 : decode cX3_siftAll 27 = .ok (.istore 6, 2) := dq_54 (zby_at (j := 11) zbX3_siftAll_1 rfl) (zby_at (j := 12) zbX3_siftAll_1 rfl)
theorem dX3_siftAll_29 : decode cX3_siftAll 29 = .ok (.iconst 0, 1) := dq_3 (zby_at (j := 13) zbX3_siftAll_1 rfl)
theorem dX3_siftAll_30 : decode cX3_siftAll 30 = .ok (.istore 7, 2) := dq_54 (zby_at (j := 14) zbX3_siftAll_1 rfl) (zby_at (j := 15) zbX3_siftAll_1 rfl)
theorem zbX3_siftAll_2 : zby cX3_siftAll 32 20 = [21, 7, 43, 180, 0, 53, 162, 0, 48, 21, 7, 16, 10, 162, 0, 41, 43, 21, 5, 21] := by decide +kernel
theorem dX3_siftAll_32 : decode cX3_siftAll 32 = .ok (.iload 7, 2) := dq_21 (zby_at (j := 0) zbX3_siftAll_2 rfl) (zby_at (j := 1) zbX3_siftAll_2 rfl)
theorem dX3_siftAll_34 : decode cX3_siftAll 34 = .ok (.aload_n 1, 1) := dq_43 (zby_at (j := 2) zbX3_siftAll_2 rfl)
theorem dX3_siftAll_35 : decode cX3_siftAll 35 = .ok (.getfield 53, 3) := dq_180 (zby_at (j := 3) zbX3_siftAll_2 rfl) (zby_at (j := 4) zbX3_siftAll_2 rfl) (zby_at (j := 5) zbX3_siftAll_2 rfl)
theorem dX3_siftAll_38 : decode cX3_siftAll 38 = .ok (.if_icmp .ge 48, 3) := dq_162 (zby_at (j := 6) zbX3_siftAll_2 rfl) (zby_at (j := 7) zbX3_siftAll_2 rfl) (zby_at (j := 8) zbX3_siftAll_2 rfl) rfl
theorem dX3_siftAll_41 : decode cX3_siftAll 41 = .ok (.iload 7, 2) := dq_21 (zby_at (j := 9) zbX3_siftAll_2 rfl) (zby_at (j := 10) zbX3_siftAll_2 rfl)
theorem dX3_siftAll_43 : decode cX3_siftAll 43 = .ok (.bipush 10, 2) := dq_16 (zby_at (j := 11) zbX3_siftAll_2 rfl) (zby_at (j := 12) zbX3_siftAll_2 rfl) rfl
theorem dX3_siftAll_45 : decode cX3_siftAll 45 = .ok (.if_icmp .ge 41, 3) := dq_162 (zby_at (j := 13) zbX3_siftAll_2 rfl) (zby_at (j := 14) zbX3_siftAll_2 rfl) (zby_at (j := 15) zbX3_siftAll_2 rfl) rfl
theorem zbX3_siftAll_3 : zby cX3_siftAll 48 20 = [43, 21, 5, 21, 7, 182, 0, 59, 87, 45, 43, 44, 182, 0, 62, 54, 8, 21, 8, 21] := by decide +kernel
theorem dX3_siftAll_48 : decode cX3_siftAll 48 = .ok (.aload_n 1, 1) := dq_43 (zby_at (j := 0) zbX3_siftAll_3 rfl)
theorem dX3_siftAll_49 : decode cX3_siftAll 49 = .ok (.iload 5, 2) := dq_21 (zby_at (j := 1) zbX3_siftAll_3 rfl) (zby_at (j := 2) zbX3_siftAll_3 rfl)
theorem dX3_siftAll_51 : decode cX3_siftAll 51 = .ok (.iload 7, 2) := dq_21 (zby_at (j := 3) zbX3_siftAll_3 rfl) (zby_at (j := 4) zbX3_siftAll_3 rfl)
theorem dX3_siftAll_53 : decode cX3_siftAll 53 = .ok (.invokevirtual 59, 3) := dq_182 (zby_at (j := 5) zbX3_siftAll_3 rfl) (zby_at (j := 6) zbX3_siftAll_3 rfl) (zby_at (j := 7) zbX3_siftAll_3 rfl)
theorem dX3_siftAll_56 : decode cX3_siftAll 56 = .ok (.pop, 1) := dq_87 (zby_at (j := 8) zbX3_siftAll_3 rfl)
theorem dX3_siftAll_57 : decode cX3_siftAll 57 = .ok (.aload_n 3, 1) := dq_45 (zby_at (j := 9) zbX3_siftAll_3 rfl)
theorem dX3_siftAll_58 : decode cX3_siftAll 58 = .ok (.aload_n 1, 1) := dq_43 (zby_at (j := 10) zbX3_siftAll_3 rfl)
theorem dX3_siftAll_59 : decode cX3_siftAll 59 = .ok (.aload_n 2, 1) := dq_44 (zby_at (j := 11) zbX3_siftAll_3 rfl)
theorem dX3_siftAll_60 : decode cX3_siftAll 60 = .ok (.invokevirtual 62, 3) := dq_182 (zby_at (j := 12) zbX3_siftAll_3 rfl) (zby_at (j := 13) zbX3_siftAll_3 rfl) (zby_at (j := 14) zbX3_siftAll_3 rfl)
theorem dX3_siftAll_63 : decode cX3_siftAll 63 = .ok (.istore 8, 2) := dq_54 (zby_at (j := 15) zbX3_siftAll_3 rfl) (zby_at (j := 16) zbX3_siftAll_3 rfl)
theorem zbX3_siftAll_4 : zby cX3_siftAll 64 20 = [8, 21, 8, 21, 4, 162, 0, 11, 21, 8, 54, 4, 21, 7, 54, 6, 132, 7, 1, 167] := by decide +kernel
theorem dX3_siftAll_65 : decode cX3_siftAll 65 = .ok (.iload 8, 2) := dq_21 (zby_at (j := 1) zbX3_siftAll_4 rfl) (zby_at (j := 2) zbX3_siftAll_4 rfl)
theorem dX3_siftAll_67 : decode cX3_siftAll 67 = .ok (.iload 4, 2) := dq_21 (zby_at (j := 3) zbX3_siftAll_4 rfl) (zby_at (j := 4) zbX3_siftAll_4 rfl)
theorem dX3_siftAll_69 : decode cX3_siftAll 69 = .ok (.if_icmp .ge 11, 3) := dq_162 (zby_at (j := 5) zbX3_siftAll_4 rfl) (zby_at (j := 6) zbX3_siftAll_4 rfl) (zby_at (j := 7) zbX3_siftAll_4 rfl) rfl
theorem dX3_siftAll_72 : decode cX3_siftAll 72 = .ok (.iload 8, 2) := dq_21 (zby_at (j := 8) zbX3_siftAll_4 rfl) (zby_at (j := 9) zbX3_siftAll_4 rfl)
theorem dX3_siftAll_74 : decode cX3_siftAll 74 = .ok (.istore 4, 2) := dq_54 (zby_at (j := 10) zbX3_siftAll_4 rfl) (zby_at (j := 11) zbX3_siftAll_4 rfl)
theorem dX3_siftAll_76 : decode cX3_siftAll 76 = .ok (.iload 7, 2) := dq_21 (zby_at (j := 12) zbX3_siftAll_4 rfl) (zby_at (j := 13) zbX3_siftAll_4 rfl)
theorem dX3_siftAll_78 : decode cX3_siftAll 78 = .ok (.istore 6, 2) := dq_54 (zby_at (j := 14) zbX3_siftAll_4 rfl) (zby_at (j := 15) zbX3_siftAll_4 rfl)
theorem zbX3_siftAll_5 : zby cX3_siftAll 80 20 = [132, 7, 1, 167, 255, 205, 43, 21, 5, 21, 6, 182, 0, 59, 87, 132, 5, 1, 167, 255] := by decide +kernel
theorem dX3_siftAll_80 : decode cX3_siftAll 80 = .ok (.iinc 7 1, 3) := dq_132 (zby_at (j := 0) zbX3_siftAll_5 rfl) (zby_at (j := 1) zbX3_siftAll_5 rfl) (zby_at (j := 2) zbX3_siftAll_5 rfl) rfl
theorem dX3_siftAll_83 : decode cX3_siftAll 83 = .ok (.goto (-51), 3) := dq_167 (zby_at (j := 3) zbX3_siftAll_5 rfl) (zby_at (j := 4) zbX3_siftAll_5 rfl) (zby_at (j := 5) zbX3_siftAll_5 rfl) rfl
theorem dX3_siftAll_86 : decode cX3_siftAll 86 = .ok (.aload_n 1, 1) := dq_43 (zby_at (j := 6) zbX3_siftAll_5 rfl)
theorem dX3_siftAll_87 : decode cX3_siftAll 87 = .ok (.iload 5, 2) := dq_21 (zby_at (j := 7) zbX3_siftAll_5 rfl) (zby_at (j := 8) zbX3_siftAll_5 rfl)
theorem dX3_siftAll_89 : decode cX3_siftAll 89 = .ok (.iload 6, 2) := dq_21 (zby_at (j := 9) zbX3_siftAll_5 rfl) (zby_at (j := 10) zbX3_siftAll_5 rfl)
theorem dX3_siftAll_91 : decode cX3_siftAll 91 = .ok (.invokevirtual 59, 3) := dq_182 (zby_at (j := 11) zbX3_siftAll_5 rfl) (zby_at (j := 12) zbX3_siftAll_5 rfl) (zby_at (j := 13) zbX3_siftAll_5 rfl)
theorem dX3_siftAll_94 : decode cX3_siftAll 94 = .ok (.pop, 1) := dq_87 (zby_at (j := 14) zbX3_siftAll_5 rfl)
theorem dX3_siftAll_95 : decode cX3_siftAll 95 = .ok (.iinc 5 1, 3) := dq_132 (zby_at (j := 15) zbX3_siftAll_5 rfl) (zby_at (j := 16) zbX3_siftAll_5 rfl) (zby_at (j := 17) zbX3_siftAll_5 rfl) rfl
theorem zbX3_siftAll_6 : zby cX3_siftAll 96 20 = [5, 1, 167, 255, 164, 21, 4, 172] := by decide +kernel
theorem dX3_siftAll_98 : decode cX3_siftAll 98 = .ok (.goto (-92), 3) := dq_167 (zby_at (j := 2) zbX3_siftAll_6 rfl) (zby_at (j := 3) zbX3_siftAll_6 rfl) (zby_at (j := 4) zbX3_siftAll_6 rfl) rfl
theorem dX3_siftAll_101 : decode cX3_siftAll 101 = .ok (.iload 4, 2) := dq_21 (zby_at (j := 5) zbX3_siftAll_6 rfl) (zby_at (j := 6) zbX3_siftAll_6 rfl)
theorem dX3_siftAll_103 : decode cX3_siftAll 103 = .ok (.ireturn, 1) := dq_172 (zby_at (j := 7) zbX3_siftAll_6 rfl)
theorem zbX4_init_0 : zby cX4_init 0 20 = [42, 183, 0, 3, 42, 16, 12, 188, 10, 181, 0, 9, 42, 3, 181, 0, 15, 42, 3, 181] := by decide +kernel
theorem dX4_init_0 : decode cX4_init 0 = .ok (.aload_n 0, 1) := dq_42 (zby_at (j := 0) zbX4_init_0 rfl)
theorem dX4_init_1 : decode cX4_init 1 = .ok (.invokespecial 3, 3) := dq_183 (zby_at (j := 1) zbX4_init_0 rfl) (zby_at (j := 2) zbX4_init_0 rfl) (zby_at (j := 3) zbX4_init_0 rfl)
theorem dX4_init_4 : decode cX4_init 4 = .ok (.aload_n 0, 1) := dq_42 (zby_at (j := 4) zbX4_init_0 rfl)
theorem dX4_init_5 : decode cX4_init 5 = .ok (.bipush 12, 2) := dq_16 (zby_at (j := 5) zbX4_init_0 rfl) (zby_at (j := 6) zbX4_init_0 rfl) rfl
theorem dX4_init_7 : decode cX4_init 7 = .ok (.newarray .int, 2) := dq_188_10 (zby_at (j := 7) zbX4_init_0 rfl) (zby_at (j := 8) zbX4_init_0 rfl)
theorem dX4_init_9 : decode cX4_init 9 = .ok (.putfield 9, 3) := dq_181 (zby_at (j := 9) zbX4_init_0 rfl) (zby_at (j := 10) zbX4_init_0 rfl) (zby_at (j := 11) zbX4_init_0 rfl)
theorem dX4_init_12 : decode cX4_init 12 = .ok (.aload_n 0, 1) := dq_42 (zby_at (j := 12) zbX4_init_0 rfl)
theorem dX4_init_13 : decode cX4_init 13 = .ok (.iconst 0, 1) := dq_3 (zby_at (j := 13) zbX4_init_0 rfl)
theorem dX4_init_14 : decode cX4_init 14 = .ok (.putfield 15, 3) := dq_181 (zby_at (j := 14) zbX4_init_0 rfl) (zby_at (j := 15) zbX4_init_0 rfl) (zby_at (j := 16) zbX4_init_0 rfl)
theorem zbX4_init_1 : zby cX4_init 16 20 = [15, 42, 3, 181, 0, 19, 177] := by decide +kernel
theorem dX4_init_17 : decode cX4_init 17 = .ok (.aload_n 0, 1) := dq_42 (zby_at (j := 1) zbX4_init_1 rfl)
theorem dX4_init_18 : decode cX4_init 18 = .ok (.iconst 0, 1) := dq_3 (zby_at (j := 2) zbX4_init_1 rfl)
theorem dX4_init_19 : decode cX4_init 19 = .ok (.putfield 19, 3) := dq_181 (zby_at (j := 3) zbX4_init_1 rfl) (zby_at (j := 4) zbX4_init_1 rfl) (zby_at (j := 5) zbX4_init_1 rfl)
theorem dX4_init_22 : decode cX4_init 22 = .ok (.return_, 1) := dq_177 (zby_at (j := 6) zbX4_init_1 rfl)
theorem zbX4_load_0 : zby cX4_load 0 20 = [42, 3, 181, 0, 15, 42, 3, 181, 0, 19, 43, 3, 182, 0, 22, 61, 3, 62, 29, 16] := by decide +kernel
theorem dX4_load_0 : decode cX4_load 0 = .ok (.aload_n 0, 1) := dq_42 (zby_at (j := 0) zbX4_load_0 rfl)
theorem dX4_load_1 : decode cX4_load 1 = .ok (.iconst 0, 1) := dq_3 (zby_at (j := 1) zbX4_load_0 rfl)
theorem dX4_load_2 : decode cX4_load 2 = .ok (.putfield 15, 3) := dq_181 (zby_at (j := 2) zbX4_load_0 rfl) (zby_at (j := 3) zbX4_load_0 rfl) (zby_at (j := 4) zbX4_load_0 rfl)
theorem dX4_load_5 : decode cX4_load 5 = .ok (.aload_n 0, 1) := dq_42 (zby_at (j := 5) zbX4_load_0 rfl)
theorem dX4_load_6 : decode cX4_load 6 = .ok (.iconst 0, 1) := dq_3 (zby_at (j := 6) zbX4_load_0 rfl)
theorem dX4_load_7 : decode cX4_load 7 = .ok (.putfield 19, 3) := dq_181 (zby_at (j := 7) zbX4_load_0 rfl) (zby_at (j := 8) zbX4_load_0 rfl) (zby_at (j := 9) zbX4_load_0 rfl)
theorem dX4_load_10 : decode cX4_load 10 = .ok (.aload_n 1, 1) := dq_43 (zby_at (j := 10) zbX4_load_0 rfl)
theorem dX4_load_11 : decode cX4_load 11 = .ok (.iconst 0, 1) := dq_3 (zby_at (j := 11) zbX4_load_0 rfl)
theorem dX4_load_12 : decode cX4_load 12 = .ok (.invokevirtual 22, 3) := dq_182 (zby_at (j := 12) zbX4_load_0 rfl) (zby_at (j := 13) zbX4_load_0 rfl) (zby_at (j := 14) zbX4_load_0 rfl)
theorem dX4_load_15 : decode cX4_load 15 = .ok (.istore_n 2, 1) := dq_61 (zby_at (j := 15) zbX4_load_0 rfl)
theorem zbX4_load_1 : zby cX4_load 16 20 = [3, 62, 29, 16, 12, 162, 0, 48, 28, 155, 0, 44, 42, 180, 0, 9, 29, 28, 79, 42] := by decide +kernel
theorem dX4_load_16 : decode cX4_load 16 = .ok (.iconst 0, 1) := dq_3 (zby_at (j := 0) zbX4_load_1 rfl)
theorem dX4_load_17 : decode cX4_load 17 = .ok (.istore_n 3, 1) := dq_62 (zby_at (j := 1) zbX4_load_1 rfl)
theorem dX4_load_18 : decode cX4_load 18 = .ok (.iload_n 3, 1) := dq_29 (zby_at (j := 2) zbX4_load_1 rfl)
theorem dX4_load_19 : decode cX4_load 19 = .ok (.bipush 12, 2) := dq_16 (zby_at (j := 3) zbX4_load_1 rfl) (zby_at (j := 4) zbX4_load_1 rfl) rfl
theorem dX4_load_21 : decode cX4_load 21 = .ok (.if_icmp .ge 48, 3) := dq_162 (zby_at (j := 5) zbX4_load_1 rfl) (zby_at (j := 6) zbX4_load_1 rfl) (zby_at (j := 7) zbX4_load_1 rfl) rfl
theorem dX4_load_24 : decode cX4_load 24 = .ok (.iload_n 2, 1) := dq_28 (zby_at (j := 8) zbX4_load_1 rfl)
theorem dX4_load_25 : decode cX4_load 25 = .ok (.ifCond .lt 44, 3) := dq_155 (zby_at (j := 9) zbX4_load_1 rfl) (zby_at (j := 10) zbX4_load_1 rfl) (zby_at (j := 11) zbX4_load_1 rfl) rfl
theorem dX4_load_28 : decode cX4_load 28 = .ok (.aload_n 0, 1) := dq_42 (zby_at (j := 12) zbX4_load_1 rfl)
theorem dX4_load_29 : decode cX4_load 29 = .ok (.getfield 9, 3) := dq_180 (zby_at (j := 13) zbX4_load_1 rfl) (zby_at (j := 14) zbX4_load_1 rfl) (zby_at (j := 15) zbX4_load_1 rfl)
theorem zbX4_load_2 : zby cX4_load 32 20 = [29, 28, 79, 42, 89, 180, 0, 15, 4, 96, 181, 0, 15, 42, 89, 180, 0, 19, 28, 128] := by decide +kernel
theorem dX4_load_32 : decode cX4_load 32 = .ok (.iload_n 3, 1) := dq_29 (zby_at (j := 0) zbX4_load_2 rfl)
theorem dX4_load_33 : decode cX4_load 33 = .ok (.iload_n 2, 1) := dq_28 (zby_at (j := 1) zbX4_load_2 rfl)
theorem dX4_load_34 : decode cX4_load 34 = .ok (.iastore, 1) := dq_79 (zby_at (j := 2) zbX4_load_2 rfl)
theorem dX4_load_35 : decode cX4_load 35 = .ok (.aload_n 0, 1) := dq_42 (zby_at (j := 3) zbX4_load_2 rfl)
theorem dX4_load_36 : decode cX4_load 36 = .ok (.dup, 1) := dq_89 (zby_at (j := 4) zbX4_load_2 rfl)
theorem dX4_load_37 : decode cX4_load 37 = .ok (.getfield 15, 3) := dq_180 (zby_at (j := 5) zbX4_load_2 rfl) (zby_at (j := 6) zbX4_load_2 rfl) (zby_at (j := 7) zbX4_load_2 rfl)
theorem dX4_load_40 : decode cX4_load 40 = .ok (.iconst 1, 1) := dq_4 (zby_at (j := 8) zbX4_load_2 rfl)
theorem dX4_load_41 : decode cX4_load 41 = .ok (.iadd, 1) := dq_96 (zby_at (j := 9) zbX4_load_2 rfl)
theorem dX4_load_42 : decode cX4_load 42 = .ok (.putfield 15, 3) := dq_181 (zby_at (j := 10) zbX4_load_2 rfl) (zby_at (j := 11) zbX4_load_2 rfl) (zby_at (j := 12) zbX4_load_2 rfl)
theorem dX4_load_45 : decode cX4_load 45 = .ok (.aload_n 0, 1) := dq_42 (zby_at (j := 13) zbX4_load_2 rfl)
theorem dX4_load_46 : decode cX4_load 46 = .ok (.dup, 1) := dq_89 (zby_at (j := 14) zbX4_load_2 rfl)
theorem dX4_load_47 : decode cX4_load 47 = .ok (.getfield 19, 3) := dq_180 (zby_at (j := 15) zbX4_load_2 rfl) (zby_at (j := 16) zbX4_load_2 rfl) (zby_at (j := 17) zbX4_load_2 rfl)
theorem zbX4_load_3 : zby cX4_load 48 20 = [0, 19, 28, 128, 181, 0, 19, 43, 28, 4, 96, 182, 0, 22, 61, 132, 3, 1, 167, 255] := by decide +kernel
theorem dX4_load_50 : decode cX4_load 50 = .ok (.iload_n 2, 1) := dq_28 (zby_at (j := 2) zbX4_load_3 rfl)
theorem dX4_load_51 : decode cX4_load 51 = .ok (.ior, 1) := dq_128 (zby_at (j := 3) zbX4_load_3 rfl)
theorem dX4_load_52 : decode cX4_load 52 = .ok (.putfield 19, 3) := dq_181 (zby_at (j := 4) zbX4_load_3 rfl) (zby_at (j := 5) zbX4_load_3 rfl) (zby_at (j := 6) zbX4_load_3 rfl)
theorem dX4_load_55 : decode cX4_load 55 = .ok (.aload_n 1, 1) := dq_43 (zby_at (j := 7) zbX4_load_3 rfl)
theorem dX4_load_56 : decode cX4_load 56 = .ok (.iload_n 2, 1) := dq_28 (zby_at (j := 8) zbX4_load_3 rfl)
theorem dX4_load_57 : decode cX4_load 57 = .ok (.iconst 1, 1) := dq_4 (zby_at (j := 9) zbX4_load_3 rfl)
theorem dX4_load_58 : decode cX4_load 58 = .ok (.iadd, 1) := dq_96 (zby_at (j := 10) zbX4_load_3 rfl)
theorem dX4_load_59 : decode cX4_load 59 = .ok (.invokevirtual 22, 3) := dq_182 (zby_at (j := 11) zbX4_load_3 rfl) (zby_at (j := 12) zbX4_load_3 rfl) (zby_at (j := 13) zbX4_load_3 rfl)
theorem dX4_load_62 : decode cX4_load 62 = .ok (.istore_n 2, 1) := dq_61 (zby_at (j := 14) zbX4_load_3 rfl)
theorem dX4_load_63 : decode cX4_load 63 = .ok (.iinc 3 1, 3) := dq_132 (zby_at (j := 15) zbX4_load_3 rfl) (zby_at (j := 16) zbX4_load_3 rfl) (zby_at (j := 17) zbX4_load_3 rfl) rfl
theorem zbX4_load_4 : zby cX4_load 64 20 = [3, 1, 167, 255, 208, 177] := by decide +kernel
theorem dX4_load_66 : decode cX4_load 66 = .ok (.goto (-48), 3) := dq_167 (zby_at (j := 2) zbX4_load_4 rfl) (zby_at (j := 3) zbX4_load_4 rfl) (zby_at (j := 4) zbX4_load_4 rfl) rfl
theorem dX4_load_69 : decode cX4_load 69 = .ok (.return_, 1) := dq_177 (zby_at (j := 5) zbX4_load_4 rfl)
theorem zbX4_fewestForAll_0 : zby cX4_fewestForAll 0 20 = [42, 180, 0, 9, 42, 180, 0, 15, 42, 180, 0, 19, 3, 3, 184, 0, 28, 172] := by decide +kernel
theorem dX4_fewestForAll_0 : decode cX4_fewestForAll 0 = .ok (.aload_n 0, 1) := dq_42 (zby_at (j := 0) zbX4_fewestForAll_0 rfl)
theorem dX4_fewestForAll_1 : decode cX4_fewestForAll 1 = .ok (.getfield 9, 3) := dq_180 (zby_at (j := 1) zbX4_fewestForAll_0 rfl) (zby_at (j := 2) zbX4_fewestForAll_0 rfl) (zby_at (j := 3) zbX4_fewestForAll_0 rfl)
theorem dX4_fewestForAll_4 : decode cX4_fewestForAll 4 = .ok (.aload_n 0, 1) := dq_42 (zby_at (j := 4) zbX4_fewestForAll_0 rfl)
theorem dX4_fewestForAll_5 : decode cX4_fewestForAll 5 = .ok (.getfield 15, 3) := dq_180 (zby_at (j := 5) zbX4_fewestForAll_0 rfl) (zby_at (j := 6) zbX4_fewestForAll_0 rfl) (zby_at (j := 7) zbX4_fewestForAll_0 rfl)
theorem dX4_fewestForAll_8 : decode cX4_fewestForAll 8 = .ok (.aload_n 0, 1) := dq_42 (zby_at (j := 8) zbX4_fewestForAll_0 rfl)
theorem dX4_fewestForAll_9 : decode cX4_fewestForAll 9 = .ok (.getfield 19, 3) := dq_180 (zby_at (j := 9) zbX4_fewestForAll_0 rfl) (zby_at (j := 10) zbX4_fewestForAll_0 rfl) (zby_at (j := 11) zbX4_fewestForAll_0 rfl)
theorem dX4_fewestForAll_12 : decode cX4_fewestForAll 12 = .ok (.iconst 0, 1) := dq_3 (zby_at (j := 12) zbX4_fewestForAll_0 rfl)
theorem dX4_fewestForAll_13 : decode cX4_fewestForAll 13 = .ok (.iconst 0, 1) := dq_3 (zby_at (j := 13) zbX4_fewestForAll_0 rfl)
theorem dX4_fewestForAll_14 : decode cX4_fewestForAll 14 = .ok (.invokestatic 28, 3) := dq_184 (zby_at (j := 14) zbX4_fewestForAll_0 rfl) (zby_at (j := 15) zbX4_fewestForAll_0 rfl) (zby_at (j := 16) zbX4_fewestForAll_0 rfl)
theorem zbX4_fewestForAll_1 : zby cX4_fewestForAll 16 20 = [28, 172] := by decide +kernel
theorem dX4_fewestForAll_17 : decode cX4_fewestForAll 17 = .ok (.ireturn, 1) := dq_172 (zby_at (j := 1) zbX4_fewestForAll_1 rfl)
theorem zbX4_mostDisjoint_0 : zby cX4_mostDisjoint 0 20 = [42, 180, 0, 9, 42, 180, 0, 15, 3, 3, 184, 0, 32, 172] := by decide +kernel
theorem dX4_mostDisjoint_0 : decode cX4_mostDisjoint 0 = .ok (.aload_n 0, 1) := dq_42 (zby_at (j := 0) zbX4_mostDisjoint_0 rfl)
theorem dX4_mostDisjoint_1 : decode cX4_mostDisjoint 1 = .ok (.getfield 9, 3) := dq_180 (zby_at (j := 1) zbX4_mostDisjoint_0 rfl) (zby_at (j := 2) zbX4_mostDisjoint_0 rfl) (zby_at (j := 3) zbX4_mostDisjoint_0 rfl)
theorem dX4_mostDisjoint_4 : decode cX4_mostDisjoint 4 = .ok (.aload_n 0, 1) := dq_42 (zby_at (j := 4) zbX4_mostDisjoint_0 rfl)
theorem dX4_mostDisjoint_5 : decode cX4_mostDisjoint 5 = .ok (.getfield 15, 3) := dq_180 (zby_at (j := 5) zbX4_mostDisjoint_0 rfl) (zby_at (j := 6) zbX4_mostDisjoint_0 rfl) (zby_at (j := 7) zbX4_mostDisjoint_0 rfl)
theorem dX4_mostDisjoint_8 : decode cX4_mostDisjoint 8 = .ok (.iconst 0, 1) := dq_3 (zby_at (j := 8) zbX4_mostDisjoint_0 rfl)
theorem dX4_mostDisjoint_9 : decode cX4_mostDisjoint 9 = .ok (.iconst 0, 1) := dq_3 (zby_at (j := 9) zbX4_mostDisjoint_0 rfl)
theorem dX4_mostDisjoint_10 : decode cX4_mostDisjoint 10 = .ok (.invokestatic 32, 3) := dq_184 (zby_at (j := 10) zbX4_mostDisjoint_0 rfl) (zby_at (j := 11) zbX4_mostDisjoint_0 rfl) (zby_at (j := 12) zbX4_mostDisjoint_0 rfl)
theorem dX4_mostDisjoint_13 : decode cX4_mostDisjoint 13 = .ok (.ireturn, 1) := dq_172 (zby_at (j := 13) zbX4_mostDisjoint_0 rfl)
theorem zbX4_fewestFrom_0 : zby cX4_fewestFrom 0 20 = [21, 4, 28, 160, 0, 5, 3, 172, 29, 155, 0, 14, 29, 27, 162, 0, 9, 29, 42, 190] := by decide +kernel
theorem dX4_fewestFrom_0 : decode cX4_fewestFrom 0 = .ok (.iload 4, 2) := dq_21 (zby_at (j := 0) zbX4_fewestFrom_0 rfl) (zby_at (j := 1) zbX4_fewestFrom_0 rfl)
theorem dX4_fewestFrom_2 : decode cX4_fewestFrom 2 = .ok (.iload_n 2, 1) := dq_28 (zby_at (j := 2) zbX4_fewestFrom_0 rfl)
theorem dX4_fewestFrom_3 : decode cX4_fewestFrom 3 = .ok (.if_icmp .ne 5, 3) := dq_160 (zby_at (j := 3) zbX4_fewestFrom_0 rfl) (zby_at (j := 4) zbX4_fewestFrom_0 rfl) (zby_at (j := 5) zbX4_fewestFrom_0 rfl) rfl
theorem dX4_fewestFrom_6 : decode cX4_fewestFrom 6 = .ok (.iconst 0, 1) := dq_3 (zby_at (j := 6) zbX4_fewestFrom_0 rfl)
theorem dX4_fewestFrom_7 : decode cX4_fewestFrom 7 = .ok (.ireturn, 1) := dq_172 (zby_at (j := 7) zbX4_fewestFrom_0 rfl)
theorem dX4_fewestFrom_8 : decode cX4_fewestFrom 8 = .ok (.iload_n 3, 1) := dq_29 (zby_at (j := 8) zbX4_fewestFrom_0 rfl)
theorem dX4_fewestFrom_9 : decode cX4_fewestFrom 9 = .ok (.ifCond .lt 14, 3) := dq_155 (zby_at (j := 9) zbX4_fewestFrom_0 rfl) (zby_at (j := 10) zbX4_fewestFrom_0 rfl) (zby_at (j := 11) zbX4_fewestFrom_0 rfl) rfl
theorem dX4_fewestFrom_12 : decode cX4_fewestFrom 12 = .ok (.iload_n 3, 1) := dq_29 (zby_at (j := 12) zbX4_fewestFrom_0 rfl)
theorem dX4_fewestFrom_13 : decode cX4_fewestFrom 13 = .ok (.iload_n 1, 1) := dq_27 (zby_at (j := 13) zbX4_fewestFrom_0 rfl)
theorem dX4_fewestFrom_14 : decode cX4_fewestFrom 14 = .ok (.if_icmp .ge 9, 3) := dq_162 (zby_at (j := 14) zbX4_fewestFrom_0 rfl) (zby_at (j := 15) zbX4_fewestFrom_0 rfl) (zby_at (j := 16) zbX4_fewestFrom_0 rfl) rfl
theorem zbX4_fewestFrom_1 : zby cX4_fewestFrom 16 20 = [9, 29, 42, 190, 161, 0, 6, 16, 13, 172, 42, 27, 28, 29, 4, 96, 21, 4, 184, 0] := by decide +kernel
theorem dX4_fewestFrom_17 : decode cX4_fewestFrom 17 = .ok (.iload_n 3, 1) := dq_29 (zby_at (j := 1) zbX4_fewestFrom_1 rfl)
theorem dX4_fewestFrom_18 : decode cX4_fewestFrom 18 = .ok (.aload_n 0, 1) := dq_42 (zby_at (j := 2) zbX4_fewestFrom_1 rfl)
theorem dX4_fewestFrom_19 : decode cX4_fewestFrom 19 = .ok (.arraylength, 1) := dq_190 (zby_at (j := 3) zbX4_fewestFrom_1 rfl)
theorem dX4_fewestFrom_20 : decode cX4_fewestFrom 20 = .ok (.if_icmp .lt 6, 3) := dq_161 (zby_at (j := 4) zbX4_fewestFrom_1 rfl) (zby_at (j := 5) zbX4_fewestFrom_1 rfl) (zby_at (j := 6) zbX4_fewestFrom_1 rfl) rfl
theorem dX4_fewestFrom_23 : decode cX4_fewestFrom 23 = .ok (.bipush 13, 2) := dq_16 (zby_at (j := 7) zbX4_fewestFrom_1 rfl) (zby_at (j := 8) zbX4_fewestFrom_1 rfl) rfl
theorem dX4_fewestFrom_25 : decode cX4_fewestFrom 25 = .ok (.ireturn, 1) := dq_172 (zby_at (j := 9) zbX4_fewestFrom_1 rfl)
theorem dX4_fewestFrom_26 : decode cX4_fewestFrom 26 = .ok (.aload_n 0, 1) := dq_42 (zby_at (j := 10) zbX4_fewestFrom_1 rfl)
theorem dX4_fewestFrom_27 : decode cX4_fewestFrom 27 = .ok (.iload_n 1, 1) := dq_27 (zby_at (j := 11) zbX4_fewestFrom_1 rfl)
theorem dX4_fewestFrom_28 : decode cX4_fewestFrom 28 = .ok (.iload_n 2, 1) := dq_28 (zby_at (j := 12) zbX4_fewestFrom_1 rfl)
theorem dX4_fewestFrom_29 : decode cX4_fewestFrom 29 = .ok (.iload_n 3, 1) := dq_29 (zby_at (j := 13) zbX4_fewestFrom_1 rfl)
theorem dX4_fewestFrom_30 : decode cX4_fewestFrom 30 = .ok (.iconst 1, 1) := dq_4 (zby_at (j := 14) zbX4_fewestFrom_1 rfl)
theorem dX4_fewestFrom_31 : decode cX4_fewestFrom 31 = .ok (.iadd, 1) := dq_96 (zby_at (j := 15) zbX4_fewestFrom_1 rfl)
theorem zbX4_fewestFrom_2 : zby cX4_fewestFrom 32 20 = [21, 4, 184, 0, 28, 54, 5, 21, 5, 4, 42, 27, 28, 29, 4, 96, 21, 4, 42, 29] := by decide +kernel
theorem dX4_fewestFrom_32 : decode cX4_fewestFrom 32 = .ok (.iload 4, 2) := dq_21 (zby_at (j := 0) zbX4_fewestFrom_2 rfl) (zby_at (j := 1) zbX4_fewestFrom_2 rfl)
theorem dX4_fewestFrom_34 : decode cX4_fewestFrom 34 = .ok (.invokestatic 28, 3) := dq_184 (zby_at (j := 2) zbX4_fewestFrom_2 rfl) (zby_at (j := 3) zbX4_fewestFrom_2 rfl) (zby_at (j := 4) zbX4_fewestFrom_2 rfl)
theorem dX4_fewestFrom_37 : decode cX4_fewestFrom 37 = .ok (.istore 5, 2) := dq_54 (zby_at (j := 5) zbX4_fewestFrom_2 rfl) (zby_at (j := 6) zbX4_fewestFrom_2 rfl)
theorem dX4_fewestFrom_39 : decode cX4_fewestFrom 39 = .ok (.iload 5, 2) := dq_21 (zby_at (j := 7) zbX4_fewestFrom_2 rfl) (zby_at (j := 8) zbX4_fewestFrom_2 rfl)
theorem dX4_fewestFrom_41 : decode cX4_fewestFrom 41 = .ok (.iconst 1, 1) := dq_4 (zby_at (j := 9) zbX4_fewestFrom_2 rfl)
theorem dX4_fewestFrom_42 : decode cX4_fewestFrom 42 = .ok (.aload_n 0, 1) := dq_42 (zby_at (j := 10) zbX4_fewestFrom_2 rfl)
theorem dX4_fewestFrom_43 : decode cX4_fewestFrom 43 = .ok (.iload_n 1, 1) := dq_27 (zby_at (j := 11) zbX4_fewestFrom_2 rfl)
theorem dX4_fewestFrom_44 : decode cX4_fewestFrom 44 = .ok (.iload_n 2, 1) := dq_28 (zby_at (j := 12) zbX4_fewestFrom_2 rfl)
theorem dX4_fewestFrom_45 : decode cX4_fewestFrom 45 = .ok (.iload_n 3, 1) := dq_29 (zby_at (j := 13) zbX4_fewestFrom_2 rfl)
theorem dX4_fewestFrom_46 : decode cX4_fewestFrom 46 = .ok (.iconst 1, 1) := dq_4 (zby_at (j := 14) zbX4_fewestFrom_2 rfl)
theorem dX4_fewestFrom_47 : decode cX4_fewestFrom 47 = .ok (.iadd, 1) := dq_96 (zby_at (j := 15) zbX4_fewestFrom_2 rfl)
theorem zbX4_fewestFrom_3 : zby cX4_fewestFrom 48 20 = [21, 4, 42, 29, 46, 128, 184, 0, 28, 96, 184, 0, 36, 172] := by decide +kernel
theorem dX4_fewestFrom_48 : decode cX4_fewestFrom 48 = .ok (.iload 4, 2) := dq_21 (zby_at (j := 0) zbX4_fewestFrom_3 rfl) (zby_at (j := 1) zbX4_fewestFrom_3 rfl)
theorem dX4_fewestFrom_50 : decode cX4_fewestFrom 50 = .ok (.aload_n 0, 1) := dq_42 (zby_at (j := 2) zbX4_fewestFrom_3 rfl)
theorem dX4_fewestFrom_51 : decode cX4_fewestFrom 51 = .ok (.iload_n 3, 1) := dq_29 (zby_at (j := 3) zbX4_fewestFrom_3 rfl)
theorem dX4_fewestFrom_52 : decode cX4_fewestFrom 52 = .ok (.iaload, 1) := dq_46 (zby_at (j := 4) zbX4_fewestFrom_3 rfl)
theorem dX4_fewestFrom_53 : decode cX4_fewestFrom 53 = .ok (.ior, 1) := dq_128 (zby_at (j := 5) zbX4_fewestFrom_3 rfl)
theorem dX4_fewestFrom_54 : decode cX4_fewestFrom 54 = .ok (.invokestatic 28, 3) := dq_184 (zby_at (j := 6) zbX4_fewestFrom_3 rfl) (zby_at (j := 7) zbX4_fewestFrom_3 rfl) (zby_at (j := 8) zbX4_fewestFrom_3 rfl)
theorem dX4_fewestFrom_57 : decode cX4_fewestFrom 57 = .ok (.iadd, 1) := dq_96 (zby_at (j := 9) zbX4_fewestFrom_3 rfl)
theorem dX4_fewestFrom_58 : decode cX4_fewestFrom 58 = .ok (.invokestatic 36, 3) := dq_184 (zby_at (j := 10) zbX4_fewestFrom_3 rfl) (zby_at (j := 11) zbX4_fewestFrom_3 rfl) (zby_at (j := 12) zbX4_fewestFrom_3 rfl)
theorem dX4_fewestFrom_61 : decode cX4_fewestFrom 61 = .ok (.ireturn, 1) := dq_172 (zby_at (j := 13) zbX4_fewestFrom_3 rfl)
theorem zbX4_mostFrom_0 : zby cX4_mostFrom 0 20 = [28, 155, 0, 14, 28, 27, 162, 0, 9, 28, 42, 190, 161, 0, 5, 3, 172, 42, 27, 28] := by decide +kernel
theorem dX4_mostFrom_0 : decode cX4_mostFrom 0 = .ok (.iload_n 2, 1) := dq_28 (zby_at (j := 0) zbX4_mostFrom_0 rfl)
theorem dX4_mostFrom_1 : decode cX4_mostFrom 1 = .ok (.ifCond .lt 14, 3) := dq_155 (zby_at (j := 1) zbX4_mostFrom_0 rfl) (zby_at (j := 2) zbX4_mostFrom_0 rfl) (zby_at (j := 3) zbX4_mostFrom_0 rfl) rfl
theorem dX4_mostFrom_4 : decode cX4_mostFrom 4 = .ok (.iload_n 2, 1) := dq_28 (zby_at (j := 4) zbX4_mostFrom_0 rfl)
theorem dX4_mostFrom_5 : decode cX4_mostFrom 5 = .ok (.iload_n 1, 1) := dq_27 (zby_at (j := 5) zbX4_mostFrom_0 rfl)
theorem dX4_mostFrom_6 : decode cX4_mostFrom 6 = .ok (.if_icmp .ge 9, 3) := dq_162 (zby_at (j := 6) zbX4_mostFrom_0 rfl) (zby_at (j := 7) zbX4_mostFrom_0 rfl) (zby_at (j := 8) zbX4_mostFrom_0 rfl) rfl
theorem dX4_mostFrom_9 : decode cX4_mostFrom 9 = .ok (.iload_n 2, 1) := dq_28 (zby_at (j := 9) zbX4_mostFrom_0 rfl)
theorem dX4_mostFrom_10 : decode cX4_mostFrom 10 = .ok (.aload_n 0, 1) := dq_42 (zby_at (j := 10) zbX4_mostFrom_0 rfl)
theorem dX4_mostFrom_11 : decode cX4_mostFrom 11 = .ok (.arraylength, 1) := dq_190 (zby_at (j := 11) zbX4_mostFrom_0 rfl)
theorem dX4_mostFrom_12 : decode cX4_mostFrom 12 = .ok (.if_icmp .lt 5, 3) := dq_161 (zby_at (j := 12) zbX4_mostFrom_0 rfl) (zby_at (j := 13) zbX4_mostFrom_0 rfl) (zby_at (j := 14) zbX4_mostFrom_0 rfl) rfl
theorem dX4_mostFrom_15 : decode cX4_mostFrom 15 = .ok (.iconst 0, 1) := dq_3 (zby_at (j := 15) zbX4_mostFrom_0 rfl)
theorem zbX4_mostFrom_1 : zby cX4_mostFrom 16 20 = [172, 42, 27, 28, 4, 96, 29, 184, 0, 32, 54, 4, 42, 28, 46, 29, 126, 153, 0, 6] := by decide +kernel
theorem dX4_mostFrom_16 : decode cX4_mostFrom 16 = .ok (.ireturn, 1) := dq_172 (zby_at (j := 0) zbX4_mostFrom_1 rfl)
theorem dX4_mostFrom_17 : decode cX4_mostFrom 17 = .ok (.aload_n 0, 1) := dq_42 (zby_at (j := 1) zbX4_mostFrom_1 rfl)
theorem dX4_mostFrom_18 : decode cX4_mostFrom 18 = .ok (.iload_n 1, 1) := dq_27 (zby_at (j := 2) zbX4_mostFrom_1 rfl)
theorem dX4_mostFrom_19 : decode cX4_mostFrom 19 = .ok (.iload_n 2, 1) := dq_28 (zby_at (j := 3) zbX4_mostFrom_1 rfl)
theorem dX4_mostFrom_20 : decode cX4_mostFrom 20 = .ok (.iconst 1, 1) := dq_4 (zby_at (j := 4) zbX4_mostFrom_1 rfl)
theorem dX4_mostFrom_21 : decode cX4_mostFrom 21 = .ok (.iadd, 1) := dq_96 (zby_at (j := 5) zbX4_mostFrom_1 rfl)
theorem dX4_mostFrom_22 : decode cX4_mostFrom 22 = .ok (.iload_n 3, 1) := dq_29 (zby_at (j := 6) zbX4_mostFrom_1 rfl)
theorem dX4_mostFrom_23 : decode cX4_mostFrom 23 = .ok (.invokestatic 32, 3) := dq_184 (zby_at (j := 7) zbX4_mostFrom_1 rfl) (zby_at (j := 8) zbX4_mostFrom_1 rfl) (zby_at (j := 9) zbX4_mostFrom_1 rfl)
theorem dX4_mostFrom_26 : decode cX4_mostFrom 26 = .ok (.istore 4, 2) := dq_54 (zby_at (j := 10) zbX4_mostFrom_1 rfl) (zby_at (j := 11) zbX4_mostFrom_1 rfl)
theorem dX4_mostFrom_28 : decode cX4_mostFrom 28 = .ok (.aload_n 0, 1) := dq_42 (zby_at (j := 12) zbX4_mostFrom_1 rfl)
theorem dX4_mostFrom_29 : decode cX4_mostFrom 29 = .ok (.iload_n 2, 1) := dq_28 (zby_at (j := 13) zbX4_mostFrom_1 rfl)
theorem dX4_mostFrom_30 : decode cX4_mostFrom 30 = .ok (.iaload, 1) := dq_46 (zby_at (j := 14) zbX4_mostFrom_1 rfl)
theorem dX4_mostFrom_31 : decode cX4_mostFrom 31 = .ok (.iload_n 3, 1) := dq_29 (zby_at (j := 15) zbX4_mostFrom_1 rfl)
theorem zbX4_mostFrom_2 : zby cX4_mostFrom 32 20 = [126, 153, 0, 6, 21, 4, 172, 21, 4, 4, 42, 27, 28, 4, 96, 29, 42, 28, 46, 128] := by decide +kernel
theorem dX4_mostFrom_32 : decode cX4_mostFrom 32 = .ok (.iand, 1) := dq_126 (zby_at (j := 0) zbX4_mostFrom_2 rfl)
theorem dX4_mostFrom_33 : decode cX4_mostFrom 33 = .ok (.ifCond .eq 6, 3) := dq_153 (zby_at (j := 1) zbX4_mostFrom_2 rfl) (zby_at (j := 2) zbX4_mostFrom_2 rfl) (zby_at (j := 3) zbX4_mostFrom_2 rfl) rfl
theorem dX4_mostFrom_36 : decode cX4_mostFrom 36 = .ok (.iload 4, 2) := dq_21 (zby_at (j := 4) zbX4_mostFrom_2 rfl) (zby_at (j := 5) zbX4_mostFrom_2 rfl)
theorem dX4_mostFrom_38 : decode cX4_mostFrom 38 = .ok (.ireturn, 1) := dq_172 (zby_at (j := 6) zbX4_mostFrom_2 rfl)
theorem dX4_mostFrom_39 : decode cX4_mostFrom 39 = .ok (.iload 4, 2) := dq_21 (zby_at (j := 7) zbX4_mostFrom_2 rfl) (zby_at (j := 8) zbX4_mostFrom_2 rfl)
theorem dX4_mostFrom_41 : decode cX4_mostFrom 41 = .ok (.iconst 1, 1) := dq_4 (zby_at (j := 9) zbX4_mostFrom_2 rfl)
theorem dX4_mostFrom_42 : decode cX4_mostFrom 42 = .ok (.aload_n 0, 1) := dq_42 (zby_at (j := 10) zbX4_mostFrom_2 rfl)
theorem dX4_mostFrom_43 : decode cX4_mostFrom 43 = .ok (.iload_n 1, 1) := dq_27 (zby_at (j := 11) zbX4_mostFrom_2 rfl)
theorem dX4_mostFrom_44 : decode cX4_mostFrom 44 = .ok (.iload_n 2, 1) := dq_28 (zby_at (j := 12) zbX4_mostFrom_2 rfl)
theorem dX4_mostFrom_45 : decode cX4_mostFrom 45 = .ok (.iconst 1, 1) := dq_4 (zby_at (j := 13) zbX4_mostFrom_2 rfl)
theorem dX4_mostFrom_46 : decode cX4_mostFrom 46 = .ok (.iadd, 1) := dq_96 (zby_at (j := 14) zbX4_mostFrom_2 rfl)
theorem dX4_mostFrom_47 : decode cX4_mostFrom 47 = .ok (.iload_n 3, 1) := dq_29 (zby_at (j := 15) zbX4_mostFrom_2 rfl)
theorem zbX4_mostFrom_3 : zby cX4_mostFrom 48 20 = [42, 28, 46, 128, 184, 0, 32, 96, 184, 0, 42, 172] := by decide +kernel
theorem dX4_mostFrom_48 : decode cX4_mostFrom 48 = .ok (.aload_n 0, 1) := dq_42 (zby_at (j := 0) zbX4_mostFrom_3 rfl)
theorem dX4_mostFrom_49 : decode cX4_mostFrom 49 = .ok (.iload_n 2, 1) := dq_28 (zby_at (j := 1) zbX4_mostFrom_3 rfl)
theorem dX4_mostFrom_50 : decode cX4_mostFrom 50 = .ok (.iaload, 1) := dq_46 (zby_at (j := 2) zbX4_mostFrom_3 rfl)
theorem dX4_mostFrom_51 : decode cX4_mostFrom 51 = .ok (.ior, 1) := dq_128 (zby_at (j := 3) zbX4_mostFrom_3 rfl)
theorem dX4_mostFrom_52 : decode cX4_mostFrom 52 = .ok (.invokestatic 32, 3) := dq_184 (zby_at (j := 4) zbX4_mostFrom_3 rfl) (zby_at (j := 5) zbX4_mostFrom_3 rfl) (zby_at (j := 6) zbX4_mostFrom_3 rfl)
theorem dX4_mostFrom_55 : decode cX4_mostFrom 55 = .ok (.iadd, 1) := dq_96 (zby_at (j := 7) zbX4_mostFrom_3 rfl)
theorem dX4_mostFrom_56 : decode cX4_mostFrom 56 = .ok (.invokestatic 42, 3) := dq_184 (zby_at (j := 8) zbX4_mostFrom_3 rfl) (zby_at (j := 9) zbX4_mostFrom_3 rfl) (zby_at (j := 10) zbX4_mostFrom_3 rfl)
theorem dX4_mostFrom_59 : decode cX4_mostFrom 59 = .ok (.ireturn, 1) := dq_172 (zby_at (j := 11) zbX4_mostFrom_3 rfl)
theorem zbX5_init_0 : zby cX5_init 0 20 = [42, 183, 0, 3, 42, 3, 181, 0, 9, 42, 2, 181, 0, 15, 42, 3, 181, 0, 18, 42] := by decide +kernel
theorem dX5_init_0 : decode cX5_init 0 = .ok (.aload_n 0, 1) := dq_42 (zby_at (j := 0) zbX5_init_0 rfl)
theorem dX5_init_1 : decode cX5_init 1 = .ok (.invokespecial 3, 3) := dq_183 (zby_at (j := 1) zbX5_init_0 rfl) (zby_at (j := 2) zbX5_init_0 rfl) (zby_at (j := 3) zbX5_init_0 rfl)
theorem dX5_init_4 : decode cX5_init 4 = .ok (.aload_n 0, 1) := dq_42 (zby_at (j := 4) zbX5_init_0 rfl)
theorem dX5_init_5 : decode cX5_init 5 = .ok (.iconst 0, 1) := dq_3 (zby_at (j := 5) zbX5_init_0 rfl)
theorem dX5_init_6 : decode cX5_init 6 = .ok (.putfield 9, 3) := dq_181 (zby_at (j := 6) zbX5_init_0 rfl) (zby_at (j := 7) zbX5_init_0 rfl) (zby_at (j := 8) zbX5_init_0 rfl)
theorem dX5_init_9 : decode cX5_init 9 = .ok (.aload_n 0, 1) := dq_42 (zby_at (j := 9) zbX5_init_0 rfl)
theorem dX5_init_10 : decode cX5_init 10 = .ok (.iconst (-1), 1) := dq_2 (zby_at (j := 10) zbX5_init_0 rfl)
theorem dX5_init_11 : decode cX5_init 11 = .ok (.putfield 15, 3) := dq_181 (zby_at (j := 11) zbX5_init_0 rfl) (zby_at (j := 12) zbX5_init_0 rfl) (zby_at (j := 13) zbX5_init_0 rfl)
theorem dX5_init_14 : decode cX5_init 14 = .ok (.aload_n 0, 1) := dq_42 (zby_at (j := 14) zbX5_init_0 rfl)
theorem dX5_init_15 : decode cX5_init 15 = .ok (.iconst 0, 1) := dq_3 (zby_at (j := 15) zbX5_init_0 rfl)
theorem zbX5_init_1 : zby cX5_init 16 20 = [181, 0, 18, 42, 17, 2, 89, 188, 10, 181, 0, 21, 42, 17, 2, 89, 188, 10, 181, 0] := by decide +kernel
theorem dX5_init_16 : decode cX5_init 16 = .ok (.putfield 18, 3) := dq_181 (zby_at (j := 0) zbX5_init_1 rfl) (zby_at (j := 1) zbX5_init_1 rfl) (zby_at (j := 2) zbX5_init_1 rfl)
theorem dX5_init_19 : decode cX5_init 19 = .ok (.aload_n 0, 1) := dq_42 (zby_at (j := 3) zbX5_init_1 rfl)
theorem dX5_init_20 : decode cX5_init 20 = .ok (.sipush 601, 3) := dq_17 (zby_at (j := 4) zbX5_init_1 rfl) (zby_at (j := 5) zbX5_init_1 rfl) (zby_at (j := 6) zbX5_init_1 rfl) rfl
theorem dX5_init_23 : decode cX5_init 23 = .ok (.newarray .int, 2) := dq_188_10 (zby_at (j := 7) zbX5_init_1 rfl) (zby_at (j := 8) zbX5_init_1 rfl)
theorem dX5_init_25 : decode cX5_init 25 = .ok (.putfield 21, 3) := dq_181 (zby_at (j := 9) zbX5_init_1 rfl) (zby_at (j := 10) zbX5_init_1 rfl) (zby_at (j := 11) zbX5_init_1 rfl)
theorem dX5_init_28 : decode cX5_init 28 = .ok (.aload_n 0, 1) := dq_42 (zby_at (j := 12) zbX5_init_1 rfl)
theorem dX5_init_29 : decode cX5_init 29 = .ok (.sipush 601, 3) := dq_17 (zby_at (j := 13) zbX5_init_1 rfl) (zby_at (j := 14) zbX5_init_1 rfl) (zby_at (j := 15) zbX5_init_1 rfl) rfl
theorem zbX5_init_2 : zby cX5_init 32 20 = [188, 10, 181, 0, 25, 42, 3, 188, 8, 181, 0, 28, 42, 3, 181, 0, 32, 42, 3, 181] := by decide +kernel
theorem dX5_init_32 : decode cX5_init 32 = .ok (.newarray .int, 2) := dq_188_10 (zby_at (j := 0) zbX5_init_2 rfl) (zby_at (j := 1) zbX5_init_2 rfl)
theorem dX5_init_34 : decode cX5_init 34 = .ok (.putfield 25, 3) := dq_181 (zby_at (j := 2) zbX5_init_2 rfl) (zby_at (j := 3) zbX5_init_2 rfl) (zby_at (j := 4) zbX5_init_2 rfl)
theorem dX5_init_37 : decode cX5_init 37 = .ok (.aload_n 0, 1) := dq_42 (zby_at (j := 5) zbX5_init_2 rfl)
theorem dX5_init_38 : decode cX5_init 38 = .ok (.iconst 0, 1) := dq_3 (zby_at (j := 6) zbX5_init_2 rfl)
theorem dX5_init_39 : decode cX5_init 39 = .ok (.newarray .byte, 2) := dq_188_8 (zby_at (j := 7) zbX5_init_2 rfl) (zby_at (j := 8) zbX5_init_2 rfl)
theorem dX5_init_41 : decode cX5_init 41 = .ok (.putfield 28, 3) := dq_181 (zby_at (j := 9) zbX5_init_2 rfl) (zby_at (j := 10) zbX5_init_2 rfl) (zby_at (j := 11) zbX5_init_2 rfl)
theorem dX5_init_44 : decode cX5_init 44 = .ok (.aload_n 0, 1) := dq_42 (zby_at (j := 12) zbX5_init_2 rfl)
theorem dX5_init_45 : decode cX5_init 45 = .ok (.iconst 0, 1) := dq_3 (zby_at (j := 13) zbX5_init_2 rfl)
theorem dX5_init_46 : decode cX5_init 46 = .ok (.putfield 32, 3) := dq_181 (zby_at (j := 14) zbX5_init_2 rfl) (zby_at (j := 15) zbX5_init_2 rfl) (zby_at (j := 16) zbX5_init_2 rfl)
theorem zbX5_init_3 : zby cX5_init 48 20 = [32, 42, 3, 181, 0, 35, 42, 3, 181, 0, 38, 42, 3, 181, 0, 41, 42, 17, 2, 89] := by decide +kernel
theorem dX5_init_49 : decode cX5_init 49 = .ok (.aload_n 0, 1) := dq_42 (zby_at (j := 1) zbX5_init_3 rfl)
theorem dX5_init_50 : decode cX5_init 50 = .ok (.iconst 0, 1) := dq_3 (zby_at (j := 2) zbX5_init_3 rfl)
theorem dX5_init_51 : decode cX5_init 51 = .ok (.putfield 35, 3) := dq_181 (zby_at (j := 3) zbX5_init_3 rfl) (zby_at (j := 4) zbX5_init_3 rfl) (zby_at (j := 5) zbX5_init_3 rfl)
theorem dX5_init_54 : decode cX5_init 54 = .ok (.aload_n 0, 1) := dq_42 (zby_at (j := 6) zbX5_init_3 rfl)
theorem dX5_init_55 : decode cX5_init 55 = .ok (.iconst 0, 1) := dq_3 (zby_at (j := 7) zbX5_init_3 rfl)
theorem dX5_init_56 : decode cX5_init 56 = .ok (.putfield 38, 3) := dq_181 (zby_at (j := 8) zbX5_init_3 rfl) (zby_at (j := 9) zbX5_init_3 rfl) (zby_at (j := 10) zbX5_init_3 rfl)
theorem dX5_init_59 : decode cX5_init 59 = .ok (.aload_n 0, 1) := dq_42 (zby_at (j := 11) zbX5_init_3 rfl)
theorem dX5_init_60 : decode cX5_init 60 = .ok (.iconst 0, 1) := dq_3 (zby_at (j := 12) zbX5_init_3 rfl)
theorem dX5_init_61 : decode cX5_init 61 = .ok (.putfield 41, 3) := dq_181 (zby_at (j := 13) zbX5_init_3 rfl) (zby_at (j := 14) zbX5_init_3 rfl) (zby_at (j := 15) zbX5_init_3 rfl)
theorem zbX5_init_4 : zby cX5_init 64 20 = [42, 17, 2, 89, 188, 10, 181, 0, 44, 42, 17, 2, 89, 188, 10, 181, 0, 47, 42, 17] := by decide +kernel
theorem dX5_init_64 : decode cX5_init 64 = .ok (.aload_n 0, 1) := dq_42 (zby_at (j := 0) zbX5_init_4 rfl)
theorem dX5_init_65 : decode cX5_init 65 = .ok (.sipush 601, 3) := dq_17 (zby_at (j := 1) zbX5_init_4 rfl) (zby_at (j := 2) zbX5_init_4 rfl) (zby_at (j := 3) zbX5_init_4 rfl) rfl
theorem dX5_init_68 : decode cX5_init 68 = .ok (.newarray .int, 2) := dq_188_10 (zby_at (j := 4) zbX5_init_4 rfl) (zby_at (j := 5) zbX5_init_4 rfl)
theorem dX5_init_70 : decode cX5_init 70 = .ok (.putfield 44, 3) := dq_181 (zby_at (j := 6) zbX5_init_4 rfl) (zby_at (j := 7) zbX5_init_4 rfl) (zby_at (j := 8) zbX5_init_4 rfl)
theorem dX5_init_73 : decode cX5_init 73 = .ok (.aload_n 0, 1) := dq_42 (zby_at (j := 9) zbX5_init_4 rfl)
theorem dX5_init_74 : decode cX5_init 74 = .ok (.sipush 601, 3) := dq_17 (zby_at (j := 10) zbX5_init_4 rfl) (zby_at (j := 11) zbX5_init_4 rfl) (zby_at (j := 12) zbX5_init_4 rfl) rfl
theorem dX5_init_77 : decode cX5_init 77 = .ok (.newarray .int, 2) := dq_188_10 (zby_at (j := 13) zbX5_init_4 rfl) (zby_at (j := 14) zbX5_init_4 rfl)
theorem dX5_init_79 : decode cX5_init 79 = .ok (.putfield 47, 3) := dq_181 (zby_at (j := 15) zbX5_init_4 rfl) (zby_at (j := 16) zbX5_init_4 rfl) (zby_at (j := 17) zbX5_init_4 rfl)
theorem zbX5_init_5 : zby cX5_init 80 20 = [0, 47, 42, 17, 2, 89, 188, 10, 181, 0, 50, 42, 17, 2, 89, 188, 10, 181, 0, 53] := by decide +kernel
theorem dX5_init_82 : decode cX5_init 82 = .ok (.aload_n 0, 1) := dq_42 (zby_at (j := 2) zbX5_init_5 rfl)
theorem dX5_init_83 : decode cX5_init 83 = .ok (.sipush 601, 3) := dq_17 (zby_at (j := 3) zbX5_init_5 rfl) (zby_at (j := 4) zbX5_init_5 rfl) (zby_at (j := 5) zbX5_init_5 rfl) rfl
theorem dX5_init_86 : decode cX5_init 86 = .ok (.newarray .int, 2) := dq_188_10 (zby_at (j := 6) zbX5_init_5 rfl) (zby_at (j := 7) zbX5_init_5 rfl)
theorem dX5_init_88 : decode cX5_init 88 = .ok (.putfield 50, 3) := dq_181 (zby_at (j := 8) zbX5_init_5 rfl) (zby_at (j := 9) zbX5_init_5 rfl) (zby_at (j := 10) zbX5_init_5 rfl)
theorem dX5_init_91 : decode cX5_init 91 = .ok (.aload_n 0, 1) := dq_42 (zby_at (j := 11) zbX5_init_5 rfl)
theorem dX5_init_92 : decode cX5_init 92 = .ok (.sipush 601, 3) := dq_17 (zby_at (j := 12) zbX5_init_5 rfl) (zby_at (j := 13) zbX5_init_5 rfl) (zby_at (j := 14) zbX5_init_5 rfl) rfl
theorem dX5_init_95 : decode cX5_init 95 = .ok (.newarray .int, 2) := dq_188_10 (zby_at (j := 15) zbX5_init_5 rfl) (zby_at (j := 16) zbX5_init_5 rfl)
theorem zbX5_init_6 : zby cX5_init 96 20 = [10, 181, 0, 53, 177] := by decide +kernel
theorem dX5_init_97 : decode cX5_init 97 = .ok (.putfield 53, 3) := dq_181 (zby_at (j := 1) zbX5_init_6 rfl) (zby_at (j := 2) zbX5_init_6 rfl) (zby_at (j := 3) zbX5_init_6 rfl)
theorem dX5_init_100 : decode cX5_init 100 = .ok (.return_, 1) := dq_177 (zby_at (j := 4) zbX5_init_6 rfl)
theorem zbX5_readWorld_0 : zby cX5_readWorld 0 20 = [42, 43, 28, 182, 0, 56, 3, 54, 4, 21, 4, 17, 2, 89, 162, 0, 41, 42, 180, 0] := by decide +kernel
theorem dX5_readWorld_0 : decode cX5_readWorld 0 = .ok (.aload_n 0, 1) := dq_42 (zby_at (j := 0) zbX5_readWorld_0 rfl)
theorem dX5_readWorld_1 : decode cX5_readWorld 1 = .ok (.aload_n 1, 1) := dq_43 (zby_at (j := 1) zbX5_readWorld_0 rfl)
theorem dX5_readWorld_2 : decode cX5_readWorld 2 = .ok (.iload_n 2, 1) := dq_28 (zby_at (j := 2) zbX5_readWorld_0 rfl)
theorem dX5_readWorld_3 : decode cX5_readWorld 3 = .ok (.invokevirtual 56, 3) := dq_182 (zby_at (j := 3) zbX5_readWorld_0 rfl) (zby_at (j := 4) zbX5_readWorld_0 rfl) (zby_at (j := 5) zbX5_readWorld_0 rfl)
theorem dX5_readWorld_6 : decode cX5_readWorld 6 = .ok (.iconst 0, 1) := dq_3 (zby_at (j := 6) zbX5_readWorld_0 rfl)
theorem dX5_readWorld_7 : decode cX5_readWorld 7 = .ok (.istore 4, 2) := dq_54 (zby_at (j := 7) zbX5_readWorld_0 rfl) (zby_at (j := 8) zbX5_readWorld_0 rfl)
theorem dX5_readWorld_9 : decode cX5_readWorld 9 = .ok (.iload 4, 2) := dq_21 (zby_at (j := 9) zbX5_readWorld_0 rfl) (zby_at (j := 10) zbX5_readWorld_0 rfl)
theorem dX5_readWorld_11 : decode cX5_readWorld 11 = .ok (.sipush 601, 3) := dq_17 (zby_at (j := 11) zbX5_readWorld_0 rfl) (zby_at (j := 12) zbX5_readWorld_0 rfl) (zby_at (j := 13) zbX5_readWorld_0 rfl) rfl
theorem dX5_readWorld_14 : decode cX5_readWorld 14 = .ok (.if_icmp .ge 41, 3) := dq_162 (zby_at (j := 14) zbX5_readWorld_0 rfl) (zby_at (j := 15) zbX5_readWorld_0 rfl) (zby_at (j := 16) zbX5_readWorld_0 rfl) rfl
theorem zbX5_readWorld_1 : zby cX5_readWorld 16 20 = [41, 42, 180, 0, 44, 42, 180, 0, 41, 46, 153, 0, 29, 42, 45, 182, 0, 60, 154, 0] := by decide +kernel
theorem dX5_readWorld_17 : decode cX5_readWorld 17 = .ok (.aload_n 0, 1) := dq_42 (zby_at (j := 1) zbX5_readWorld_1 rfl)
theorem dX5_readWorld_18 : decode cX5_readWorld 18 = .ok (.getfield 44, 3) := dq_180 (zby_at (j := 2) zbX5_readWorld_1 rfl) (zby_at (j := 3) zbX5_readWorld_1 rfl) (zby_at (j := 4) zbX5_readWorld_1 rfl)
theorem dX5_readWorld_21 : decode cX5_readWorld 21 = .ok (.aload_n 0, 1) := dq_42 (zby_at (j := 5) zbX5_readWorld_1 rfl)
theorem dX5_readWorld_22 : decode cX5_readWorld 22 = .ok (.getfield 41, 3) := dq_180 (zby_at (j := 6) zbX5_readWorld_1 rfl) (zby_at (j := 7) zbX5_readWorld_1 rfl) (zby_at (j := 8) zbX5_readWorld_1 rfl)
theorem dX5_readWorld_25 : decode cX5_readWorld 25 = .ok (.iaload, 1) := dq_46 (zby_at (j := 9) zbX5_readWorld_1 rfl)
theorem dX5_readWorld_26 : decode cX5_readWorld 26 = .ok (.ifCond .eq 29, 3) := dq_153 (zby_at (j := 10) zbX5_readWorld_1 rfl) (zby_at (j := 11) zbX5_readWorld_1 rfl) (zby_at (j := 12) zbX5_readWorld_1 rfl) rfl
theorem dX5_readWorld_29 : decode cX5_readWorld 29 = .ok (.aload_n 0, 1) := dq_42 (zby_at (j := 13) zbX5_readWorld_1 rfl)
theorem dX5_readWorld_30 : decode cX5_readWorld 30 = .ok (.aload_n 3, 1) := dq_45 (zby_at (j := 14) zbX5_readWorld_1 rfl)
theorem dX5_readWorld_31 : decode cX5_readWorld 31 = .ok (.invokevirtual 60, 3) := dq_182 (zby_at (j := 15) zbX5_readWorld_1 rfl) (zby_at (j := 16) zbX5_readWorld_1 rfl) (zby_at (j := 17) zbX5_readWorld_1 rfl)
theorem zbX5_readWorld_2 : zby cX5_readWorld 32 20 = [0, 60, 154, 0, 5, 3, 172, 45, 89, 180, 0, 64, 4, 96, 181, 0, 64, 132, 4, 1] := by decide +kernel
theorem dX5_readWorld_34 : decode cX5_readWorld 34 = .ok (.ifCond .ne 5, 3) := dq_154 (zby_at (j := 2) zbX5_readWorld_2 rfl) (zby_at (j := 3) zbX5_readWorld_2 rfl) (zby_at (j := 4) zbX5_readWorld_2 rfl) rfl
theorem dX5_readWorld_37 : decode cX5_readWorld 37 = .ok (.iconst 0, 1) := dq_3 (zby_at (j := 5) zbX5_readWorld_2 rfl)
theorem dX5_readWorld_38 : decode cX5_readWorld 38 = .ok (.ireturn, 1) := dq_172 (zby_at (j := 6) zbX5_readWorld_2 rfl)
theorem dX5_readWorld_39 : decode cX5_readWorld 39 = .ok (.aload_n 3, 1) := dq_45 (zby_at (j := 7) zbX5_readWorld_2 rfl)
theorem dX5_readWorld_40 : decode cX5_readWorld 40 = .ok (.dup, 1) := dq_89 (zby_at (j := 8) zbX5_readWorld_2 rfl)
theorem dX5_readWorld_41 : decode cX5_readWorld 41 = .ok (.getfield 64, 3) := dq_180 (zby_at (j := 9) zbX5_readWorld_2 rfl) (zby_at (j := 10) zbX5_readWorld_2 rfl) (zby_at (j := 11) zbX5_readWorld_2 rfl)
theorem dX5_readWorld_44 : decode cX5_readWorld 44 = .ok (.iconst 1, 1) := dq_4 (zby_at (j := 12) zbX5_readWorld_2 rfl)
theorem dX5_readWorld_45 : decode cX5_readWorld 45 = .ok (.iadd, 1) := dq_96 (zby_at (j := 13) zbX5_readWorld_2 rfl)
theorem dX5_readWorld_46 : decode cX5_readWorld 46 = .ok (.putfield 64, 3) := dq_181 (zby_at (j := 14) zbX5_readWorld_2 rfl) (zby_at (j := 15) zbX5_readWorld_2 rfl) (zby_at (j := 16) zbX5_readWorld_2 rfl)
theorem zbX5_readWorld_3 : zby cX5_readWorld 48 20 = [64, 132, 4, 1, 167, 255, 213, 4, 172] := by decide +kernel
theorem dX5_readWorld_49 : decode cX5_readWorld 49 = .ok (.iinc 4 1, 3) := dq_132 (zby_at (j := 1) zbX5_readWorld_3 rfl) (zby_at (j := 2) zbX5_readWorld_3 rfl) (zby_at (j := 3) zbX5_readWorld_3 rfl) rfl
theorem dX5_readWorld_52 : decode cX5_readWorld 52 = .ok (.goto (-43), 3) := dq_167 (zby_at (j := 4) zbX5_readWorld_3 rfl) (zby_at (j := 5) zbX5_readWorld_3 rfl) (zby_at (j := 6) zbX5_readWorld_3 rfl) rfl
theorem dX5_readWorld_55 : decode cX5_readWorld 55 = .ok (.iconst 1, 1) := dq_4 (zby_at (j := 7) zbX5_readWorld_3 rfl)
theorem dX5_readWorld_56 : decode cX5_readWorld 56 = .ok (.ireturn, 1) := dq_172 (zby_at (j := 8) zbX5_readWorld_3 rfl)
theorem zbX5_readSum_0 : zby cX5_readSum 0 20 = [42, 43, 28, 182, 0, 56, 42, 29, 181, 0, 35, 42, 3, 182, 0, 69, 153, 0, 26, 42] := by decide +kernel
theorem dX5_readSum_0 : decode cX5_readSum 0 = .ok (.aload_n 0, 1) := dq_42 (zby_at (j := 0) zbX5_readSum_0 rfl)
theorem dX5_readSum_1 : decode cX5_readSum 1 = .ok (.aload_n 1, 1) := dq_43 (zby_at (j := 1) zbX5_readSum_0 rfl)
theorem dX5_readSum_2 : decode cX5_readSum 2 = .ok (.iload_n 2, 1) := dq_28 (zby_at (j := 2) zbX5_readSum_0 rfl)
theorem dX5_readSum_3 : decode cX5_readSum 3 = .ok (.invokevirtual 56, 3) := dq_182 (zby_at (j := 3) zbX5_readSum_0 rfl) (zby_at (j := 4) zbX5_readSum_0 rfl) (zby_at (j := 5) zbX5_readSum_0 rfl)
theorem dX5_readSum_6 : decode cX5_readSum 6 = .ok (.aload_n 0, 1) := dq_42 (zby_at (j := 6) zbX5_readSum_0 rfl)
theorem dX5_readSum_7 : decode cX5_readSum 7 = .ok (.iload_n 3, 1) := dq_29 (zby_at (j := 7) zbX5_readSum_0 rfl)
theorem dX5_readSum_8 : decode cX5_readSum 8 = .ok (.putfield 35, 3) := dq_181 (zby_at (j := 8) zbX5_readSum_0 rfl) (zby_at (j := 9) zbX5_readSum_0 rfl) (zby_at (j := 10) zbX5_readSum_0 rfl)
theorem dX5_readSum_11 : decode cX5_readSum 11 = .ok (.aload_n 0, 1) := dq_42 (zby_at (j := 11) zbX5_readSum_0 rfl)
theorem dX5_readSum_12 : decode cX5_readSum 12 = .ok (.iconst 0, 1) := dq_3 (zby_at (j := 12) zbX5_readSum_0 rfl)
theorem dX5_readSum_13 : decode cX5_readSum 13 = .ok (.invokevirtual 69, 3) := dq_182 (zby_at (j := 13) zbX5_readSum_0 rfl) (zby_at (j := 14) zbX5_readSum_0 rfl) (zby_at (j := 15) zbX5_readSum_0 rfl)
theorem zbX5_readSum_1 : zby cX5_readSum 16 20 = [153, 0, 26, 42, 3, 182, 0, 73, 153, 0, 18, 42, 16, 6, 21, 4, 182, 0, 76, 153] := by decide +kernel
theorem dX5_readSum_16 : decode cX5_readSum 16 = .ok (.ifCond .eq 26, 3) := dq_153 (zby_at (j := 0) zbX5_readSum_1 rfl) (zby_at (j := 1) zbX5_readSum_1 rfl) (zby_at (j := 2) zbX5_readSum_1 rfl) rfl
theorem dX5_readSum_19 : decode cX5_readSum 19 = .ok (.aload_n 0, 1) := dq_42 (zby_at (j := 3) zbX5_readSum_1 rfl)
theorem dX5_readSum_20 : decode cX5_readSum 20 = .ok (.iconst 0, 1) := dq_3 (zby_at (j := 4) zbX5_readSum_1 rfl)
theorem dX5_readSum_21 : decode cX5_readSum 21 = .ok (.invokevirtual 73, 3) := dq_182 (zby_at (j := 5) zbX5_readSum_1 rfl) (zby_at (j := 6) zbX5_readSum_1 rfl) (zby_at (j := 7) zbX5_readSum_1 rfl)
theorem dX5_readSum_24 : decode cX5_readSum 24 = .ok (.ifCond .eq 18, 3) := dq_153 (zby_at (j := 8) zbX5_readSum_1 rfl) (zby_at (j := 9) zbX5_readSum_1 rfl) (zby_at (j := 10) zbX5_readSum_1 rfl) rfl
theorem dX5_readSum_27 : decode cX5_readSum 27 = .ok (.aload_n 0, 1) := dq_42 (zby_at (j := 11) zbX5_readSum_1 rfl)
theorem dX5_readSum_28 : decode cX5_readSum 28 = .ok (.bipush 6, 2) := dq_16 (zby_at (j := 12) zbX5_readSum_1 rfl) (zby_at (j := 13) zbX5_readSum_1 rfl) rfl
theorem dX5_readSum_30 : decode cX5_readSum 30 = .ok (.iload 4, 2) := dq_21 (zby_at (j := 14) zbX5_readSum_1 rfl) (zby_at (j := 15) zbX5_readSum_1 rfl)
theorem zbX5_readSum_2 : zby cX5_readSum 32 20 = [182, 0, 76, 153, 0, 7, 4, 167, 0, 4, 3, 172] := by decide +kernel
theorem dX5_readSum_32 : decode cX5_readSum 32 = .ok (.invokevirtual 76, 3) := dq_182 (zby_at (j := 0) zbX5_readSum_2 rfl) (zby_at (j := 1) zbX5_readSum_2 rfl) (zby_at (j := 2) zbX5_readSum_2 rfl)
theorem dX5_readSum_35 : decode cX5_readSum 35 = .ok (.ifCond .eq 7, 3) := dq_153 (zby_at (j := 3) zbX5_readSum_2 rfl) (zby_at (j := 4) zbX5_readSum_2 rfl) (zby_at (j := 5) zbX5_readSum_2 rfl) rfl
theorem dX5_readSum_38 : decode cX5_readSum 38 = .ok (.iconst 1, 1) := dq_4 (zby_at (j := 6) zbX5_readSum_2 rfl)
theorem dX5_readSum_39 : decode cX5_readSum 39 = .ok (.goto 4, 3) := dq_167 (zby_at (j := 7) zbX5_readSum_2 rfl) (zby_at (j := 8) zbX5_readSum_2 rfl) (zby_at (j := 9) zbX5_readSum_2 rfl) rfl
theorem dX5_readSum_42 : decode cX5_readSum 42 = .ok (.iconst 0, 1) := dq_3 (zby_at (j := 10) zbX5_readSum_2 rfl)
theorem dX5_readSum_43 : decode cX5_readSum 43 = .ok (.ireturn, 1) := dq_172 (zby_at (j := 11) zbX5_readSum_2 rfl)
theorem zbX5_open_0 : zby cX5_open 0 20 = [42, 43, 181, 0, 28, 42, 3, 28, 43, 190, 17, 2, 88, 184, 0, 80, 184, 0, 80, 184] := by decide +kernel
theorem dX5_open_0 : decode cX5_open 0 = .ok (.aload_n 0, 1) := dq_42 (zby_at (j := 0) zbX5_open_0 rfl)
theorem dX5_open_1 : decode cX5_open 1 = .ok (.aload_n 1, 1) := dq_43 (zby_at (j := 1) zbX5_open_0 rfl)
theorem dX5_open_2 : decode cX5_open 2 = .ok (.putfield 28, 3) := dq_181 (zby_at (j := 2) zbX5_open_0 rfl) (zby_at (j := 3) zbX5_open_0 rfl) (zby_at (j := 4) zbX5_open_0 rfl)
theorem dX5_open_5 : decode cX5_open 5 = .ok (.aload_n 0, 1) := dq_42 (zby_at (j := 5) zbX5_open_0 rfl)
theorem dX5_open_6 : decode cX5_open 6 = .ok (.iconst 0, 1) := dq_3 (zby_at (j := 6) zbX5_open_0 rfl)
theorem dX5_open_7 : decode cX5_open 7 = .ok (.iload_n 2, 1) := dq_28 (zby_at (j := 7) zbX5_open_0 rfl)
theorem dX5_open_8 : decode cX5_open 8 = .ok (.aload_n 1, 1) := dq_43 (zby_at (j := 8) zbX5_open_0 rfl)
theorem dX5_open_9 : decode cX5_open 9 = .ok (.arraylength, 1) := dq_190 (zby_at (j := 9) zbX5_open_0 rfl)
theorem dX5_open_10 : decode cX5_open 10 = .ok (.sipush 600, 3) := dq_17 (zby_at (j := 10) zbX5_open_0 rfl) (zby_at (j := 11) zbX5_open_0 rfl) (zby_at (j := 12) zbX5_open_0 rfl) rfl
theorem dX5_open_13 : decode cX5_open 13 = .ok (.invokestatic 80, 3) := dq_184 (zby_at (j := 13) zbX5_open_0 rfl) (zby_at (j := 14) zbX5_open_0 rfl) (zby_at (j := 15) zbX5_open_0 rfl)
theorem zbX5_open_1 : zby cX5_open 16 20 = [184, 0, 80, 184, 0, 86, 181, 0, 32, 42, 3, 181, 0, 9, 42, 2, 181, 0, 15, 42] := by decide +kernel
theorem dX5_open_16 : decode cX5_open 16 = .ok (.invokestatic 80, 3) := dq_184 (zby_at (j := 0) zbX5_open_1 rfl) (zby_at (j := 1) zbX5_open_1 rfl) (zby_at (j := 2) zbX5_open_1 rfl)
theorem dX5_open_19 : decode cX5_open 19 = .ok (.invokestatic 86, 3) := dq_184 (zby_at (j := 3) zbX5_open_1 rfl) (zby_at (j := 4) zbX5_open_1 rfl) (zby_at (j := 5) zbX5_open_1 rfl)
theorem dX5_open_22 : decode cX5_open 22 = .ok (.putfield 32, 3) := dq_181 (zby_at (j := 6) zbX5_open_1 rfl) (zby_at (j := 7) zbX5_open_1 rfl) (zby_at (j := 8) zbX5_open_1 rfl)
theorem dX5_open_25 : decode cX5_open 25 = .ok (.aload_n 0, 1) := dq_42 (zby_at (j := 9) zbX5_open_1 rfl)
theorem dX5_open_26 : decode cX5_open 26 = .ok (.iconst 0, 1) := dq_3 (zby_at (j := 10) zbX5_open_1 rfl)
theorem dX5_open_27 : decode cX5_open 27 = .ok (.putfield 9, 3) := dq_181 (zby_at (j := 11) zbX5_open_1 rfl) (zby_at (j := 12) zbX5_open_1 rfl) (zby_at (j := 13) zbX5_open_1 rfl)
theorem dX5_open_30 : decode cX5_open 30 = .ok (.aload_n 0, 1) := dq_42 (zby_at (j := 14) zbX5_open_1 rfl)
theorem dX5_open_31 : decode cX5_open 31 = .ok (.iconst (-1), 1) := dq_2 (zby_at (j := 15) zbX5_open_1 rfl)
theorem zbX5_open_2 : zby cX5_open 32 20 = [181, 0, 15, 42, 3, 181, 0, 18, 42, 3, 181, 0, 35, 42, 3, 181, 0, 38, 42, 3] := by decide +kernel
theorem dX5_open_32 : decode cX5_open 32 = .ok (.putfield 15, 3) := dq_181 (zby_at (j := 0) zbX5_open_2 rfl) (zby_at (j := 1) zbX5_open_2 rfl) (zby_at (j := 2) zbX5_open_2 rfl)
theorem dX5_open_35 : decode cX5_open 35 = .ok (.aload_n 0, 1) := dq_42 (zby_at (j := 3) zbX5_open_2 rfl)
theorem dX5_open_36 : decode cX5_open 36 = .ok (.iconst 0, 1) := dq_3 (zby_at (j := 4) zbX5_open_2 rfl)
theorem dX5_open_37 : decode cX5_open 37 = .ok (.putfield 18, 3) := dq_181 (zby_at (j := 5) zbX5_open_2 rfl) (zby_at (j := 6) zbX5_open_2 rfl) (zby_at (j := 7) zbX5_open_2 rfl)
theorem dX5_open_40 : decode cX5_open 40 = .ok (.aload_n 0, 1) := dq_42 (zby_at (j := 8) zbX5_open_2 rfl)
theorem dX5_open_41 : decode cX5_open 41 = .ok (.iconst 0, 1) := dq_3 (zby_at (j := 9) zbX5_open_2 rfl)
theorem dX5_open_42 : decode cX5_open 42 = .ok (.putfield 35, 3) := dq_181 (zby_at (j := 10) zbX5_open_2 rfl) (zby_at (j := 11) zbX5_open_2 rfl) (zby_at (j := 12) zbX5_open_2 rfl)
theorem dX5_open_45 : decode cX5_open 45 = .ok (.aload_n 0, 1) := dq_42 (zby_at (j := 13) zbX5_open_2 rfl)
theorem dX5_open_46 : decode cX5_open 46 = .ok (.iconst 0, 1) := dq_3 (zby_at (j := 14) zbX5_open_2 rfl)
theorem dX5_open_47 : decode cX5_open 47 = .ok (.putfield 38, 3) := dq_181 (zby_at (j := 15) zbX5_open_2 rfl) (zby_at (j := 16) zbX5_open_2 rfl) (zby_at (j := 17) zbX5_open_2 rfl)
theorem zbX5_open_3 : zby cX5_open 48 20 = [0, 38, 42, 3, 181, 0, 41, 42, 182, 0, 89, 177] := by decide +kernel
theorem dX5_open_50 : decode cX5_open 50 = .ok (.aload_n 0, 1) := dq_42 (zby_at (j := 2) zbX5_open_3 rfl)
theorem dX5_open_51 : decode cX5_open 51 = .ok (.iconst 0, 1) := dq_3 (zby_at (j := 3) zbX5_open_3 rfl)
theorem dX5_open_52 : decode cX5_open 52 = .ok (.putfield 41, 3) := dq_181 (zby_at (j := 4) zbX5_open_3 rfl) (zby_at (j := 5) zbX5_open_3 rfl) (zby_at (j := 6) zbX5_open_3 rfl)
theorem dX5_open_55 : decode cX5_open 55 = .ok (.aload_n 0, 1) := dq_42 (zby_at (j := 7) zbX5_open_3 rfl)
theorem dX5_open_56 : decode cX5_open 56 = .ok (.invokevirtual 89, 3) := dq_182 (zby_at (j := 8) zbX5_open_3 rfl) (zby_at (j := 9) zbX5_open_3 rfl) (zby_at (j := 10) zbX5_open_3 rfl)
theorem dX5_open_59 : decode cX5_open 59 = .ok (.return_, 1) := dq_177 (zby_at (j := 11) zbX5_open_3 rfl)
theorem zbX5_split_0 : zby cX5_split 0 20 = [3, 60, 3, 61, 28, 42, 180, 0, 32, 162, 0, 133, 27, 17, 2, 88, 162, 0, 126, 42] := by decide +kernel
theorem dX5_split_0 : decode cX5_split 0 = .ok (.iconst 0, 1) := dq_3 (zby_at (j := 0) zbX5_split_0 rfl)
theorem dX5_split_1 : decode cX5_split 1 = .ok (.istore_n 1, 1) := dq_60 (zby_at (j := 1) zbX5_split_0 rfl)
theorem dX5_split_2 : decode cX5_split 2 = .ok (.iconst 0, 1) := dq_3 (zby_at (j := 2) zbX5_split_0 rfl)
theorem dX5_split_3 : decode cX5_split 3 = .ok (.istore_n 2, 1) := dq_61 (zby_at (j := 3) zbX5_split_0 rfl)
theorem dX5_split_4 : decode cX5_split 4 = .ok (.iload_n 2, 1) := dq_28 (zby_at (j := 4) zbX5_split_0 rfl)
theorem dX5_split_5 : decode cX5_split 5 = .ok (.aload_n 0, 1) := dq_42 (zby_at (j := 5) zbX5_split_0 rfl)
theorem dX5_split_6 : decode cX5_split 6 = .ok (.getfield 32, 3) := dq_180 (zby_at (j := 6) zbX5_split_0 rfl) (zby_at (j := 7) zbX5_split_0 rfl) (zby_at (j := 8) zbX5_split_0 rfl)
theorem dX5_split_9 : decode cX5_split 9 = .ok (.if_icmp .ge 133, 3) := dq_162 (zby_at (j := 9) zbX5_split_0 rfl) (zby_at (j := 10) zbX5_split_0 rfl) (zby_at (j := 11) zbX5_split_0 rfl) rfl
theorem dX5_split_12 : decode cX5_split 12 = .ok (.iload_n 1, 1) := dq_27 (zby_at (j := 12) zbX5_split_0 rfl)
theorem dX5_split_13 : decode cX5_split 13 = .ok (.sipush 600, 3) := dq_17 (zby_at (j := 13) zbX5_split_0 rfl) (zby_at (j := 14) zbX5_split_0 rfl) (zby_at (j := 15) zbX5_split_0 rfl) rfl
theorem zbX5_split_1 : zby cX5_split 16 20 = [162, 0, 126, 42, 180, 0, 28, 28, 51, 16, 32, 159, 0, 14, 42, 180, 0, 28, 28, 51] := by decide +kernel
theorem dX5_split_16 : decode cX5_split 16 = .ok (.if_icmp .ge 126, 3) := dq_162 (zby_at (j := 0) zbX5_split_1 rfl) (zby_at (j := 1) zbX5_split_1 rfl) (zby_at (j := 2) zbX5_split_1 rfl) rfl
theorem dX5_split_19 : decode cX5_split 19 = .ok (.aload_n 0, 1) := dq_42 (zby_at (j := 3) zbX5_split_1 rfl)
theorem dX5_split_20 : decode cX5_split 20 = .ok (.getfield 28, 3) := dq_180 (zby_at (j := 4) zbX5_split_1 rfl) (zby_at (j := 5) zbX5_split_1 rfl) (zby_at (j := 6) zbX5_split_1 rfl)
theorem dX5_split_23 : decode cX5_split 23 = .ok (.iload_n 2, 1) := dq_28 (zby_at (j := 7) zbX5_split_1 rfl)
theorem dX5_split_24 : decode cX5_split 24 = .ok (.baload, 1) := dq_51 (zby_at (j := 8) zbX5_split_1 rfl)
theorem dX5_split_25 : decode cX5_split 25 = .ok (.bipush 32, 2) := dq_16 (zby_at (j := 9) zbX5_split_1 rfl) (zby_at (j := 10) zbX5_split_1 rfl) rfl
theorem dX5_split_27 : decode cX5_split 27 = .ok (.if_icmp .eq 14, 3) := dq_159 (zby_at (j := 11) zbX5_split_1 rfl) (zby_at (j := 12) zbX5_split_1 rfl) (zby_at (j := 13) zbX5_split_1 rfl) rfl
theorem dX5_split_30 : decode cX5_split 30 = .ok (.aload_n 0, 1) := dq_42 (zby_at (j := 14) zbX5_split_1 rfl)
theorem dX5_split_31 : decode cX5_split 31 = .ok (.getfield 28, 3) := dq_180 (zby_at (j := 15) zbX5_split_1 rfl) (zby_at (j := 16) zbX5_split_1 rfl) (zby_at (j := 17) zbX5_split_1 rfl)
theorem zbX5_split_2 : zby cX5_split 32 20 = [0, 28, 28, 51, 16, 10, 160, 0, 9, 132, 2, 1, 167, 255, 216, 42, 180, 0, 50, 27] := by decide +kernel
theorem dX5_split_34 : decode cX5_split 34 = .ok (.iload_n 2, 1) := dq_28 (zby_at (j := 2) zbX5_split_2 rfl)
theorem dX5_split_35 : decode cX5_split 35 = .ok (.baload, 1) := dq_51 (zby_at (j := 3) zbX5_split_2 rfl)
theorem dX5_split_36 : decode cX5_split 36 = .ok (.bipush 10, 2) := dq_16 (zby_at (j := 4) zbX5_split_2 rfl) (zby_at (j := 5) zbX5_split_2 rfl) rfl
theorem dX5_split_38 : decode cX5_split 38 = .ok (.if_icmp .ne 9, 3) := dq_160 (zby_at (j := 6) zbX5_split_2 rfl) (zby_at (j := 7) zbX5_split_2 rfl) (zby_at (j := 8) zbX5_split_2 rfl) rfl
theorem dX5_split_41 : decode cX5_split 41 = .ok (.iinc 2 1, 3) := dq_132 (zby_at (j := 9) zbX5_split_2 rfl) (zby_at (j := 10) zbX5_split_2 rfl) (zby_at (j := 11) zbX5_split_2 rfl) rfl
theorem dX5_split_44 : decode cX5_split 44 = .ok (.goto (-40), 3) := dq_167 (zby_at (j := 12) zbX5_split_2 rfl) (zby_at (j := 13) zbX5_split_2 rfl) (zby_at (j := 14) zbX5_split_2 rfl) rfl
theorem dX5_split_47 : decode cX5_split 47 = .ok (.aload_n 0, 1) := dq_42 (zby_at (j := 15) zbX5_split_2 rfl)
theorem zbX5_split_3 : zby cX5_split 48 20 = [180, 0, 50, 27, 28, 79, 42, 180, 0, 28, 28, 51, 184, 0, 92, 153, 0, 13, 42, 27] := by decide +kernel
theorem dX5_split_48 : decode cX5_split 48 = .ok (.getfield 50, 3) := dq_180 (zby_at (j := 0) zbX5_split_3 rfl) (zby_at (j := 1) zbX5_split_3 rfl) (zby_at (j := 2) zbX5_split_3 rfl)
theorem dX5_split_51 : decode cX5_split 51 = .ok (.iload_n 1, 1) := dq_27 (zby_at (j := 3) zbX5_split_3 rfl)
theorem dX5_split_52 : decode cX5_split 52 = .ok (.iload_n 2, 1) := dq_28 (zby_at (j := 4) zbX5_split_3 rfl)
theorem dX5_split_53 : decode cX5_split 53 = .ok (.iastore, 1) := dq_79 (zby_at (j := 5) zbX5_split_3 rfl)
theorem dX5_split_54 : decode cX5_split 54 = .ok (.aload_n 0, 1) := dq_42 (zby_at (j := 6) zbX5_split_3 rfl)
theorem dX5_split_55 : decode cX5_split 55 = .ok (.getfield 28, 3) := dq_180 (zby_at (j := 7) zbX5_split_3 rfl) (zby_at (j := 8) zbX5_split_3 rfl) (zby_at (j := 9) zbX5_split_3 rfl)
theorem dX5_split_58 : decode cX5_split 58 = .ok (.iload_n 2, 1) := dq_28 (zby_at (j := 10) zbX5_split_3 rfl)
theorem dX5_split_59 : decode cX5_split 59 = .ok (.baload, 1) := dq_51 (zby_at (j := 11) zbX5_split_3 rfl)
theorem dX5_split_60 : decode cX5_split 60 = .ok (.invokestatic 92, 3) := dq_184 (zby_at (j := 12) zbX5_split_3 rfl) (zby_at (j := 13) zbX5_split_3 rfl) (zby_at (j := 14) zbX5_split_3 rfl)
theorem dX5_split_63 : decode cX5_split 63 = .ok (.ifCond .eq 13, 3) := dq_153 (zby_at (j := 15) zbX5_split_3 rfl) (zby_at (j := 16) zbX5_split_3 rfl) (zby_at (j := 17) zbX5_split_3 rfl) rfl
theorem zbX5_split_4 : zby cX5_split 64 20 = [0, 13, 42, 27, 28, 182, 0, 95, 61, 167, 0, 56, 42, 180, 0, 28, 28, 51, 184, 0] := by decide +kernel
theorem dX5_split_66 : decode cX5_split 66 = .ok (.aload_n 0, 1) := dq_42 (zby_at (j := 2) zbX5_split_4 rfl)
theorem dX5_split_67 : decode cX5_split 67 = .ok (.iload_n 1, 1) := dq_27 (zby_at (j := 3) zbX5_split_4 rfl)
theorem dX5_split_68 : decode cX5_split 68 = .ok (.iload_n 2, 1) := dq_28 (zby_at (j := 4) zbX5_split_4 rfl)
theorem dX5_split_69 : decode cX5_split 69 = .ok (.invokevirtual 95, 3) := dq_182 (zby_at (j := 5) zbX5_split_4 rfl) (zby_at (j := 6) zbX5_split_4 rfl) (zby_at (j := 7) zbX5_split_4 rfl)
theorem dX5_split_72 : decode cX5_split 72 = .ok (.istore_n 2, 1) := dq_61 (zby_at (j := 8) zbX5_split_4 rfl)
theorem dX5_split_73 : decode cX5_split 73 = .ok (.goto 56, 3) := dq_167 (zby_at (j := 9) zbX5_split_4 rfl) (zby_at (j := 10) zbX5_split_4 rfl) (zby_at (j := 11) zbX5_split_4 rfl) rfl
theorem dX5_split_76 : decode cX5_split 76 = .ok (.aload_n 0, 1) := dq_42 (zby_at (j := 12) zbX5_split_4 rfl)
theorem dX5_split_77 : decode cX5_split 77 = .ok (.getfield 28, 3) := dq_180 (zby_at (j := 13) zbX5_split_4 rfl) (zby_at (j := 14) zbX5_split_4 rfl) (zby_at (j := 15) zbX5_split_4 rfl)
theorem zbX5_split_5 : zby cX5_split 80 20 = [28, 51, 184, 0, 98, 153, 0, 13, 42, 27, 28, 182, 0, 101, 61, 167, 0, 34, 42, 180] := by decide +kernel
theorem dX5_split_80 : decode cX5_split 80 = .ok (.iload_n 2, 1) := dq_28 (zby_at (j := 0) zbX5_split_5 rfl)
theorem dX5_split_81 : decode cX5_split 81 = .ok (.baload, 1) := dq_51 (zby_at (j := 1) zbX5_split_5 rfl)
theorem dX5_split_82 : decode cX5_split 82 = .ok (.invokestatic 98, 3) := dq_184 (zby_at (j := 2) zbX5_split_5 rfl) (zby_at (j := 3) zbX5_split_5 rfl) (zby_at (j := 4) zbX5_split_5 rfl)
theorem dX5_split_85 : decode cX5_split 85 = .ok (.ifCond .eq 13, 3) := dq_153 (zby_at (j := 5) zbX5_split_5 rfl) (zby_at (j := 6) zbX5_split_5 rfl) (zby_at (j := 7) zbX5_split_5 rfl) rfl
theorem dX5_split_88 : decode cX5_split 88 = .ok (.aload_n 0, 1) := dq_42 (zby_at (j := 8) zbX5_split_5 rfl)
theorem dX5_split_89 : decode cX5_split 89 = .ok (.iload_n 1, 1) := dq_27 (zby_at (j := 9) zbX5_split_5 rfl)
theorem dX5_split_90 : decode cX5_split 90 = .ok (.iload_n 2, 1) := dq_28 (zby_at (j := 10) zbX5_split_5 rfl)
theorem dX5_split_91 : decode cX5_split 91 = .ok (.invokevirtual 101, 3) := dq_182 (zby_at (j := 11) zbX5_split_5 rfl) (zby_at (j := 12) zbX5_split_5 rfl) (zby_at (j := 13) zbX5_split_5 rfl)
theorem dX5_split_94 : decode cX5_split 94 = .ok (.istore_n 2, 1) := dq_61 (zby_at (j := 14) zbX5_split_5 rfl)
theorem dX5_split_95 : decode cX5_split 95 = .ok (.goto 34, 3) := dq_167 (zby_at (j := 15) zbX5_split_5 rfl) (zby_at (j := 16) zbX5_split_5 rfl) (zby_at (j := 17) zbX5_split_5 rfl) rfl
theorem zbX5_split_6 : zby cX5_split 96 20 = [0, 34, 42, 180, 0, 44, 27, 42, 180, 0, 28, 28, 51, 184, 0, 104, 153, 0, 12, 42] := by decide +kernel
theorem dX5_split_98 : decode cX5_split 98 = .ok (.aload_n 0, 1) := dq_42 (zby_at (j := 2) zbX5_split_6 rfl)
theorem dX5_split_99 : decode cX5_split 99 = .ok (.getfield 44, 3) := dq_180 (zby_at (j := 3) zbX5_split_6 rfl) (zby_at (j := 4) zbX5_split_6 rfl) (zby_at (j := 5) zbX5_split_6 rfl)
theorem dX5_split_102 : decode cX5_split 102 = .ok (.iload_n 1, 1) := dq_27 (zby_at (j := 6) zbX5_split_6 rfl)
theorem dX5_split_103 : decode cX5_split 103 = .ok (.aload_n 0, 1) := dq_42 (zby_at (j := 7) zbX5_split_6 rfl)
theorem dX5_split_104 : decode cX5_split 104 = .ok (.getfield 28, 3) := dq_180 (zby_at (j := 8) zbX5_split_6 rfl) (zby_at (j := 9) zbX5_split_6 rfl) (zby_at (j := 10) zbX5_split_6 rfl)
theorem dX5_split_107 : decode cX5_split 107 = .ok (.iload_n 2, 1) := dq_28 (zby_at (j := 11) zbX5_split_6 rfl)
theorem dX5_split_108 : decode cX5_split 108 = .ok (.baload, 1) := dq_51 (zby_at (j := 12) zbX5_split_6 rfl)
theorem dX5_split_109 : decode cX5_split 109 = .ok (.invokestatic 104, 3) := dq_184 (zby_at (j := 13) zbX5_split_6 rfl) (zby_at (j := 14) zbX5_split_6 rfl) (zby_at (j := 15) zbX5_split_6 rfl)
theorem zbX5_split_7 : zby cX5_split 112 20 = [153, 0, 12, 42, 180, 0, 28, 28, 51, 167, 0, 4, 4, 79, 132, 2, 1, 42, 180, 0] := by decide +kernel
theorem dX5_split_112 : decode cX5_split 112 = .ok (.ifCond .eq 12, 3) := dq_153 (zby_at (j := 0) zbX5_split_7 rfl) (zby_at (j := 1) zbX5_split_7 rfl) (zby_at (j := 2) zbX5_split_7 rfl) rfl
theorem dX5_split_115 : decode cX5_split 115 = .ok (.aload_n 0, 1) := dq_42 (zby_at (j := 3) zbX5_split_7 rfl)
theorem dX5_split_116 : decode cX5_split 116 = .ok (.getfield 28, 3) := dq_180 (zby_at (j := 4) zbX5_split_7 rfl) (zby_at (j := 5) zbX5_split_7 rfl) (zby_at (j := 6) zbX5_split_7 rfl)
theorem dX5_split_119 : decode cX5_split 119 = .ok (.iload_n 2, 1) := dq_28 (zby_at (j := 7) zbX5_split_7 rfl)
theorem dX5_split_120 : decode cX5_split 120 = .ok (.baload, 1) := dq_51 (zby_at (j := 8) zbX5_split_7 rfl)
theorem dX5_split_121 : decode cX5_split 121 = .ok (.goto 4, 3) := dq_167 (zby_at (j := 9) zbX5_split_7 rfl) (zby_at (j := 10) zbX5_split_7 rfl) (zby_at (j := 11) zbX5_split_7 rfl) rfl
theorem dX5_split_124 : decode cX5_split 124 = .ok (.iconst 1, 1) := dq_4 (zby_at (j := 12) zbX5_split_7 rfl)
theorem dX5_split_125 : decode cX5_split 125 = .ok (.iastore, 1) := dq_79 (zby_at (j := 13) zbX5_split_7 rfl)
theorem dX5_split_126 : decode cX5_split 126 = .ok (.iinc 2 1, 3) := dq_132 (zby_at (j := 14) zbX5_split_7 rfl) (zby_at (j := 15) zbX5_split_7 rfl) (zby_at (j := 16) zbX5_split_7 rfl) rfl
theorem zbX5_split_8 : zby cX5_split 128 20 = [1, 42, 180, 0, 53, 27, 28, 79, 132, 1, 1, 167, 255, 121, 42, 180, 0, 44, 27, 3] := by decide +kernel
theorem dX5_split_129 : decode cX5_split 129 = .ok (.aload_n 0, 1) := dq_42 (zby_at (j := 1) zbX5_split_8 rfl)
theorem dX5_split_130 : decode cX5_split 130 = .ok (.getfield 53, 3) := dq_180 (zby_at (j := 2) zbX5_split_8 rfl) (zby_at (j := 3) zbX5_split_8 rfl) (zby_at (j := 4) zbX5_split_8 rfl)
theorem dX5_split_133 : decode cX5_split 133 = .ok (.iload_n 1, 1) := dq_27 (zby_at (j := 5) zbX5_split_8 rfl)
theorem dX5_split_134 : decode cX5_split 134 = .ok (.iload_n 2, 1) := dq_28 (zby_at (j := 6) zbX5_split_8 rfl)
theorem dX5_split_135 : decode cX5_split 135 = .ok (.iastore, 1) := dq_79 (zby_at (j := 7) zbX5_split_8 rfl)
theorem dX5_split_136 : decode cX5_split 136 = .ok (.iinc 1 1, 3) := dq_132 (zby_at (j := 8) zbX5_split_8 rfl) (zby_at (j := 9) zbX5_split_8 rfl) (zby_at (j := 10) zbX5_split_8 rfl) rfl
theorem dX5_split_139 : decode cX5_split 139 = .ok (.goto (-135), 3) := dq_167 (zby_at (j := 11) zbX5_split_8 rfl) (zby_at (j := 12) zbX5_split_8 rfl) (zby_at (j := 13) zbX5_split_8 rfl) rfl
theorem dX5_split_142 : decode cX5_split 142 = .ok (.aload_n 0, 1) := dq_42 (zby_at (j := 14) zbX5_split_8 rfl)
theorem dX5_split_143 : decode cX5_split 143 = .ok (.getfield 44, 3) := dq_180 (zby_at (j := 15) zbX5_split_8 rfl) (zby_at (j := 16) zbX5_split_8 rfl) (zby_at (j := 17) zbX5_split_8 rfl)
theorem zbX5_split_9 : zby cX5_split 144 20 = [0, 44, 27, 3, 79, 42, 180, 0, 50, 27, 42, 180, 0, 32, 79, 42, 180, 0, 53, 27] := by decide +kernel
theorem dX5_split_146 : decode cX5_split 146 = .ok (.iload_n 1, 1) := dq_27 (zby_at (j := 2) zbX5_split_9 rfl)
theorem dX5_split_147 : decode cX5_split 147 = .ok (.iconst 0, 1) := dq_3 (zby_at (j := 3) zbX5_split_9 rfl)
theorem dX5_split_148 : decode cX5_split 148 = .ok (.iastore, 1) := dq_79 (zby_at (j := 4) zbX5_split_9 rfl)
theorem dX5_split_149 : decode cX5_split 149 = .ok (.aload_n 0, 1) := dq_42 (zby_at (j := 5) zbX5_split_9 rfl)
theorem dX5_split_150 : decode cX5_split 150 = .ok (.getfield 50, 3) := dq_180 (zby_at (j := 6) zbX5_split_9 rfl) (zby_at (j := 7) zbX5_split_9 rfl) (zby_at (j := 8) zbX5_split_9 rfl)
theorem dX5_split_153 : decode cX5_split 153 = .ok (.iload_n 1, 1) := dq_27 (zby_at (j := 9) zbX5_split_9 rfl)
theorem dX5_split_154 : decode cX5_split 154 = .ok (.aload_n 0, 1) := dq_42 (zby_at (j := 10) zbX5_split_9 rfl)
theorem dX5_split_155 : decode cX5_split 155 = .ok (.getfield 32, 3) := dq_180 (zby_at (j := 11) zbX5_split_9 rfl) (zby_at (j := 12) zbX5_split_9 rfl) (zby_at (j := 13) zbX5_split_9 rfl)
theorem dX5_split_158 : decode cX5_split 158 = .ok (.iastore, 1) := dq_79 (zby_at (j := 14) zbX5_split_9 rfl)
theorem dX5_split_159 : decode cX5_split 159 = .ok (.aload_n 0, 1) := dq_42 (zby_at (j := 15) zbX5_split_9 rfl)
theorem zbX5_split_10 : zby cX5_split 160 20 = [180, 0, 53, 27, 42, 180, 0, 32, 79, 177] := by decide +kernel
theorem dX5_split_160 : decode cX5_split 160 = .ok (.getfield 53, 3) := dq_180 (zby_at (j := 0) zbX5_split_10 rfl) (zby_at (j := 1) zbX5_split_10 rfl) (zby_at (j := 2) zbX5_split_10 rfl)
theorem dX5_split_163 : decode cX5_split 163 = .ok (.iload_n 1, 1) := dq_27 (zby_at (j := 3) zbX5_split_10 rfl)
theorem dX5_split_164 : decode cX5_split 164 = .ok (.aload_n 0, 1) := dq_42 (zby_at (j := 4) zbX5_split_10 rfl)
theorem dX5_split_165 : decode cX5_split 165 = .ok (.getfield 32, 3) := dq_180 (zby_at (j := 5) zbX5_split_10 rfl) (zby_at (j := 6) zbX5_split_10 rfl) (zby_at (j := 7) zbX5_split_10 rfl)
theorem dX5_split_168 : decode cX5_split 168 = .ok (.iastore, 1) := dq_79 (zby_at (j := 8) zbX5_split_10 rfl)
theorem dX5_split_169 : decode cX5_split 169 = .ok (.return_, 1) := dq_177 (zby_at (j := 9) zbX5_split_10 rfl)
theorem zbX5_splitWord_0 : zby cX5_splitWord 0 20 = [28, 62, 29, 42, 180, 0, 32, 162, 0, 21, 42, 180, 0, 28, 29, 51, 184, 0, 92, 153] := by decide +kernel
theorem dX5_splitWord_0 : decode cX5_splitWord 0 = .ok (.iload_n 2, 1) := dq_28 (zby_at (j := 0) zbX5_splitWord_0 rfl)
theorem dX5_splitWord_1 : decode cX5_splitWord 1 = .ok (.istore_n 3, 1) := dq_62 (zby_at (j := 1) zbX5_splitWord_0 rfl)
theorem dX5_splitWord_2 : decode cX5_splitWord 2 = .ok (.iload_n 3, 1) := dq_29 (zby_at (j := 2) zbX5_splitWord_0 rfl)
theorem dX5_splitWord_3 : decode cX5_splitWord 3 = .ok (.aload_n 0, 1) := dq_42 (zby_at (j := 3) zbX5_splitWord_0 rfl)
theorem dX5_splitWord_4 : decode cX5_splitWord 4 = .ok (.getfield 32, 3) := dq_180 (zby_at (j := 4) zbX5_splitWord_0 rfl) (zby_at (j := 5) zbX5_splitWord_0 rfl) (zby_at (j := 6) zbX5_splitWord_0 rfl)
theorem dX5_splitWord_7 : decode cX5_splitWord 7 = .ok (.if_icmp .ge 21, 3) := dq_162 (zby_at (j := 7) zbX5_splitWord_0 rfl) (zby_at (j := 8) zbX5_splitWord_0 rfl) (zby_at (j := 9) zbX5_splitWord_0 rfl) rfl
theorem dX5_splitWord_10 : decode cX5_splitWord 10 = .ok (.aload_n 0, 1) := dq_42 (zby_at (j := 10) zbX5_splitWord_0 rfl)
theorem dX5_splitWord_11 : decode cX5_splitWord 11 = .ok (.getfield 28, 3) := dq_180 (zby_at (j := 11) zbX5_splitWord_0 rfl) (zby_at (j := 12) zbX5_splitWord_0 rfl) (zby_at (j := 13) zbX5_splitWord_0 rfl)
theorem dX5_splitWord_14 : decode cX5_splitWord 14 = .ok (.iload_n 3, 1) := dq_29 (zby_at (j := 14) zbX5_splitWord_0 rfl)
theorem dX5_splitWord_15 : decode cX5_splitWord 15 = .ok (.baload, 1) := dq_51 (zby_at (j := 15) zbX5_splitWord_0 rfl)
theorem zbX5_splitWord_1 : zby cX5_splitWord 16 20 = [184, 0, 92, 153, 0, 9, 132, 3, 1, 167, 255, 233, 42, 180, 0, 44, 27, 5, 79, 42] := by decide +kernel
theorem dX5_splitWord_16 : decode cX5_splitWord 16 = .ok (.invokestatic 92, 3) := dq_184 (zby_at (j := 0) zbX5_splitWord_1 rfl) (zby_at (j := 1) zbX5_splitWord_1 rfl) (zby_at (j := 2) zbX5_splitWord_1 rfl)
theorem dX5_splitWord_19 : decode cX5_splitWord 19 = .ok (.ifCond .eq 9, 3) := dq_153 (zby_at (j := 3) zbX5_splitWord_1 rfl) (zby_at (j := 4) zbX5_splitWord_1 rfl) (zby_at (j := 5) zbX5_splitWord_1 rfl) rfl
theorem dX5_splitWord_22 : decode cX5_splitWord 22 = .ok (.iinc 3 1, 3) := dq_132 (zby_at (j := 6) zbX5_splitWord_1 rfl) (zby_at (j := 7) zbX5_splitWord_1 rfl) (zby_at (j := 8) zbX5_splitWord_1 rfl) rfl
theorem dX5_splitWord_25 : decode cX5_splitWord 25 = .ok (.goto (-23), 3) := dq_167 (zby_at (j := 9) zbX5_splitWord_1 rfl) (zby_at (j := 10) zbX5_splitWord_1 rfl) (zby_at (j := 11) zbX5_splitWord_1 rfl) rfl
theorem dX5_splitWord_28 : decode cX5_splitWord 28 = .ok (.aload_n 0, 1) := dq_42 (zby_at (j := 12) zbX5_splitWord_1 rfl)
theorem dX5_splitWord_29 : decode cX5_splitWord 29 = .ok (.getfield 44, 3) := dq_180 (zby_at (j := 13) zbX5_splitWord_1 rfl) (zby_at (j := 14) zbX5_splitWord_1 rfl) (zby_at (j := 15) zbX5_splitWord_1 rfl)
theorem zbX5_splitWord_2 : zby cX5_splitWord 32 20 = [27, 5, 79, 42, 180, 0, 47, 27, 42, 28, 29, 182, 0, 107, 79, 29, 172] := by decide +kernel
theorem dX5_splitWord_32 : decode cX5_splitWord 32 = .ok (.iload_n 1, 1) := dq_27 (zby_at (j := 0) zbX5_splitWord_2 rfl)
theorem dX5_splitWord_33 : decode cX5_splitWord 33 = .ok (.iconst 2, 1) := dq_5 (zby_at (j := 1) zbX5_splitWord_2 rfl)
theorem dX5_splitWord_34 : decode cX5_splitWord 34 = .ok (.iastore, 1) := dq_79 (zby_at (j := 2) zbX5_splitWord_2 rfl)
theorem dX5_splitWord_35 : decode cX5_splitWord 35 = .ok (.aload_n 0, 1) := dq_42 (zby_at (j := 3) zbX5_splitWord_2 rfl)
theorem dX5_splitWord_36 : decode cX5_splitWord 36 = .ok (.getfield 47, 3) := dq_180 (zby_at (j := 4) zbX5_splitWord_2 rfl) (zby_at (j := 5) zbX5_splitWord_2 rfl) (zby_at (j := 6) zbX5_splitWord_2 rfl)
theorem dX5_splitWord_39 : decode cX5_splitWord 39 = .ok (.iload_n 1, 1) := dq_27 (zby_at (j := 7) zbX5_splitWord_2 rfl)
theorem dX5_splitWord_40 : decode cX5_splitWord 40 = .ok (.aload_n 0, 1) := dq_42 (zby_at (j := 8) zbX5_splitWord_2 rfl)
theorem dX5_splitWord_41 : decode cX5_splitWord 41 = .ok (.iload_n 2, 1) := dq_28 (zby_at (j := 9) zbX5_splitWord_2 rfl)
theorem dX5_splitWord_42 : decode cX5_splitWord 42 = .ok (.iload_n 3, 1) := dq_29 (zby_at (j := 10) zbX5_splitWord_2 rfl)
theorem dX5_splitWord_43 : decode cX5_splitWord 43 = .ok (.invokevirtual 107, 3) := dq_182 (zby_at (j := 11) zbX5_splitWord_2 rfl) (zby_at (j := 12) zbX5_splitWord_2 rfl) (zby_at (j := 13) zbX5_splitWord_2 rfl)
theorem dX5_splitWord_46 : decode cX5_splitWord 46 = .ok (.iastore, 1) := dq_79 (zby_at (j := 14) zbX5_splitWord_2 rfl)
theorem dX5_splitWord_47 : decode cX5_splitWord 47 = .ok (.iload_n 3, 1) := dq_29 (zby_at (j := 15) zbX5_splitWord_2 rfl)
theorem zbX5_splitWord_3 : zby cX5_splitWord 48 20 = [172] := by decide +kernel
theorem dX5_splitWord_48 : decode cX5_splitWord 48 = .ok (.ireturn, 1) := dq_172 (zby_at (j := 0) zbX5_splitWord_3 rfl)
theorem zbX5_splitNumber_0 : zby cX5_splitNumber 0 20 = [28, 62, 3, 54, 4, 29, 42, 180, 0, 32, 162, 0, 43, 42, 180, 0, 28, 29, 51, 184] := by decide +kernel
theorem dX5_splitNumber_0 : decode cX5_splitNumber 0 = .ok (.iload_n 2, 1) := dq_28 (zby_at (j := 0) zbX5_splitNumber_0 rfl)
theorem dX5_splitNumber_1 : decode cX5_splitNumber 1 = .ok (.istore_n 3, 1) := dq_62 (zby_at (j := 1) zbX5_splitNumber_0 rfl)
theorem dX5_splitNumber_2 : decode cX5_splitNumber 2 = .ok (.iconst 0, 1) := dq_3 (zby_at (j := 2) zbX5_splitNumber_0 rfl)
theorem dX5_splitNumber_3 : decode cX5_splitNumber 3 = .ok (.istore 4, 2) := dq_54 (zby_at (j := 3) zbX5_splitNumber_0 rfl) (zby_at (j := 4) zbX5_splitNumber_0 rfl)
theorem dX5_splitNumber_5 : decode cX5_splitNumber 5 = .ok (.iload_n 3, 1) := dq_29 (zby_at (j := 5) zbX5_splitNumber_0 rfl)
theorem dX5_splitNumber_6 : decode cX5_splitNumber 6 = .ok (.aload_n 0, 1) := dq_42 (zby_at (j := 6) zbX5_splitNumber_0 rfl)
theorem dX5_splitNumber_7 : decode cX5_splitNumber 7 = .ok (.getfield 32, 3) := dq_180 (zby_at (j := 7) zbX5_splitNumber_0 rfl) (zby_at (j := 8) zbX5_splitNumber_0 rfl) (zby_at (j := 9) zbX5_splitNumber_0 rfl)
theorem dX5_splitNumber_10 : decode cX5_splitNumber 10 = .ok (.if_icmp .ge 43, 3) := dq_162 (zby_at (j := 10) zbX5_splitNumber_0 rfl) (zby_at (j := 11) zbX5_splitNumber_0 rfl) (zby_at (j := 12) zbX5_splitNumber_0 rfl) rfl
theorem dX5_splitNumber_13 : decode cX5_splitNumber 13 = .ok (.aload_n 0, 1) := dq_42 (zby_at (j := 13) zbX5_splitNumber_0 rfl)
theorem dX5_splitNumber_14 : decode cX5_splitNumber 14 = .ok (.getfield 28, 3) := dq_180 (zby_at (j := 14) zbX5_splitNumber_0 rfl) (zby_at (j := 15) zbX5_splitNumber_0 rfl) (zby_at (j := 16) zbX5_splitNumber_0 rfl)
theorem zbX5_splitNumber_1 : zby cX5_splitNumber 16 20 = [28, 29, 51, 184, 0, 98, 153, 0, 31, 18, 110, 21, 4, 16, 10, 104, 42, 180, 0, 28] := by decide +kernel
theorem dX5_splitNumber_17 : decode cX5_splitNumber 17 = .ok (.iload_n 3, 1) := dq_29 (zby_at (j := 1) zbX5_splitNumber_1 rfl)
theorem dX5_splitNumber_18 : decode cX5_splitNumber 18 = .ok (.baload, 1) := dq_51 (zby_at (j := 2) zbX5_splitNumber_1 rfl)
theorem dX5_splitNumber_19 : decode cX5_splitNumber 19 = .ok (.invokestatic 98, 3) := dq_184 (zby_at (j := 3) zbX5_splitNumber_1 rfl) (zby_at (j := 4) zbX5_splitNumber_1 rfl) (zby_at (j := 5) zbX5_splitNumber_1 rfl)
theorem dX5_splitNumber_22 : decode cX5_splitNumber 22 = .ok (.ifCond .eq 31, 3) := dq_153 (zby_at (j := 6) zbX5_splitNumber_1 rfl) (zby_at (j := 7) zbX5_splitNumber_1 rfl) (zby_at (j := 8) zbX5_splitNumber_1 rfl) rfl
theorem dX5_splitNumber_25 : decode cX5_splitNumber 25 = .ok (.ldc 110, 2) := dq_18 (zby_at (j := 9) zbX5_splitNumber_1 rfl) (zby_at (j := 10) zbX5_splitNumber_1 rfl)
theorem dX5_splitNumber_27 : decode cX5_splitNumber 27 = .ok (.iload 4, 2) := dq_21 (zby_at (j := 11) zbX5_splitNumber_1 rfl) (zby_at (j := 12) zbX5_splitNumber_1 rfl)
theorem dX5_splitNumber_29 : decode cX5_splitNumber 29 = .ok (.bipush 10, 2) := dq_16 (zby_at (j := 13) zbX5_splitNumber_1 rfl) (zby_at (j := 14) zbX5_splitNumber_1 rfl) rfl
theorem dX5_splitNumber_31 : decode cX5_splitNumber 31 = .ok (.imul, 1) := dq_104 (zby_at (j := 15) zbX5_splitNumber_1 rfl)
theorem zbX5_splitNumber_2 : zby cX5_splitNumber 32 20 = [42, 180, 0, 28, 29, 51, 96, 16, 48, 100, 184, 0, 80, 54, 4, 132, 3, 1, 167, 255] := by decide +kernel
theorem dX5_splitNumber_32 : decode cX5_splitNumber 32 = .ok (.aload_n 0, 1) := dq_42 (zby_at (j := 0) zbX5_splitNumber_2 rfl)
theorem dX5_splitNumber_33 : decode cX5_splitNumber 33 = .ok (.getfield 28, 3) := dq_180 (zby_at (j := 1) zbX5_splitNumber_2 rfl) (zby_at (j := 2) zbX5_splitNumber_2 rfl) (zby_at (j := 3) zbX5_splitNumber_2 rfl)
theorem dX5_splitNumber_36 : decode cX5_splitNumber 36 = .ok (.iload_n 3, 1) := dq_29 (zby_at (j := 4) zbX5_splitNumber_2 rfl)
theorem dX5_splitNumber_37 : decode cX5_splitNumber 37 = .ok (.baload, 1) := dq_51 (zby_at (j := 5) zbX5_splitNumber_2 rfl)
theorem dX5_splitNumber_38 : decode cX5_splitNumber 38 = .ok (.iadd, 1) := dq_96 (zby_at (j := 6) zbX5_splitNumber_2 rfl)
theorem dX5_splitNumber_39 : decode cX5_splitNumber 39 = .ok (.bipush 48, 2) := dq_16 (zby_at (j := 7) zbX5_splitNumber_2 rfl) (zby_at (j := 8) zbX5_splitNumber_2 rfl) rfl
theorem dX5_splitNumber_41 : decode cX5_splitNumber 41 = .ok (.isub, 1) := dq_100 (zby_at (j := 9) zbX5_splitNumber_2 rfl)
theorem dX5_splitNumber_42 : decode cX5_splitNumber 42 = .ok (.invokestatic 80, 3) := dq_184 (zby_at (j := 10) zbX5_splitNumber_2 rfl) (zby_at (j := 11) zbX5_splitNumber_2 rfl) (zby_at (j := 12) zbX5_splitNumber_2 rfl)
theorem dX5_splitNumber_45 : decode cX5_splitNumber 45 = .ok (.istore 4, 2) := dq_54 (zby_at (j := 13) zbX5_splitNumber_2 rfl) (zby_at (j := 14) zbX5_splitNumber_2 rfl)
theorem dX5_splitNumber_47 : decode cX5_splitNumber 47 = .ok (.iinc 3 1, 3) := dq_132 (zby_at (j := 15) zbX5_splitNumber_2 rfl) (zby_at (j := 16) zbX5_splitNumber_2 rfl) (zby_at (j := 17) zbX5_splitNumber_2 rfl) rfl
theorem zbX5_splitNumber_3 : zby cX5_splitNumber 48 20 = [3, 1, 167, 255, 211, 42, 180, 0, 44, 27, 6, 79, 42, 180, 0, 47, 27, 21, 4, 79] := by decide +kernel
theorem dX5_splitNumber_50 : decode cX5_splitNumber 50 = .ok (.goto (-45), 3) := dq_167 (zby_at (j := 2) zbX5_splitNumber_3 rfl) (zby_at (j := 3) zbX5_splitNumber_3 rfl) (zby_at (j := 4) zbX5_splitNumber_3 rfl) rfl
theorem dX5_splitNumber_53 : decode cX5_splitNumber 53 = .ok (.aload_n 0, 1) := dq_42 (zby_at (j := 5) zbX5_splitNumber_3 rfl)
theorem dX5_splitNumber_54 : decode cX5_splitNumber 54 = .ok (.getfield 44, 3) := dq_180 (zby_at (j := 6) zbX5_splitNumber_3 rfl) (zby_at (j := 7) zbX5_splitNumber_3 rfl) (zby_at (j := 8) zbX5_splitNumber_3 rfl)
theorem dX5_splitNumber_57 : decode cX5_splitNumber 57 = .ok (.iload_n 1, 1) := dq_27 (zby_at (j := 9) zbX5_splitNumber_3 rfl)
theorem dX5_splitNumber_58 : decode cX5_splitNumber 58 = .ok (.iconst 3, 1) := dq_6 (zby_at (j := 10) zbX5_splitNumber_3 rfl)
theorem dX5_splitNumber_59 : decode cX5_splitNumber 59 = .ok (.iastore, 1) := dq_79 (zby_at (j := 11) zbX5_splitNumber_3 rfl)
theorem dX5_splitNumber_60 : decode cX5_splitNumber 60 = .ok (.aload_n 0, 1) := dq_42 (zby_at (j := 12) zbX5_splitNumber_3 rfl)
theorem dX5_splitNumber_61 : decode cX5_splitNumber 61 = .ok (.getfield 47, 3) := dq_180 (zby_at (j := 13) zbX5_splitNumber_3 rfl) (zby_at (j := 14) zbX5_splitNumber_3 rfl) (zby_at (j := 15) zbX5_splitNumber_3 rfl)
theorem zbX5_splitNumber_4 : zby cX5_splitNumber 64 20 = [27, 21, 4, 79, 29, 172] := by decide +kernel
theorem dX5_splitNumber_64 : decode cX5_splitNumber 64 = .ok (.iload_n 1, 1) := dq_27 (zby_at (j := 0) zbX5_splitNumber_4 rfl)
theorem dX5_splitNumber_65 : decode cX5_splitNumber 65 = .ok (.iload 4, 2) := dq_21 (zby_at (j := 1) zbX5_splitNumber_4 rfl) (zby_at (j := 2) zbX5_splitNumber_4 rfl)
theorem dX5_splitNumber_67 : decode cX5_splitNumber 67 = .ok (.iastore, 1) := dq_79 (zby_at (j := 3) zbX5_splitNumber_4 rfl)
theorem dX5_splitNumber_68 : decode cX5_splitNumber 68 = .ok (.iload_n 3, 1) := dq_29 (zby_at (j := 4) zbX5_splitNumber_4 rfl)
theorem dX5_splitNumber_69 : decode cX5_splitNumber 69 = .ok (.ireturn, 1) := dq_172 (zby_at (j := 5) zbX5_splitNumber_4 rfl)
theorem zbX5_isLetter_0 : zby cX5_isLetter 0 20 = [26, 16, 97, 161, 0, 13, 26, 16, 122, 163, 0, 7, 4, 167, 0, 4, 3, 172] := by decide +kernel
theorem dX5_isLetter_0 : decode cX5_isLetter 0 = .ok (.iload_n 0, 1) := dq_26 (zby_at (j := 0) zbX5_isLetter_0 rfl)
theorem dX5_isLetter_1 : decode cX5_isLetter 1 = .ok (.bipush 97, 2) := dq_16 (zby_at (j := 1) zbX5_isLetter_0 rfl) (zby_at (j := 2) zbX5_isLetter_0 rfl) rfl
theorem dX5_isLetter_3 : decode cX5_isLetter 3 = .ok (.if_icmp .lt 13, 3) := dq_161 (zby_at (j := 3) zbX5_isLetter_0 rfl) (zby_at (j := 4) zbX5_isLetter_0 rfl) (zby_at (j := 5) zbX5_isLetter_0 rfl) rfl
theorem dX5_isLetter_6 : decode cX5_isLetter 6 = .ok (.iload_n 0, 1) := dq_26 (zby_at (j := 6) zbX5_isLetter_0 rfl)
theorem dX5_isLetter_7 : decode cX5_isLetter 7 = .ok (.bipush 122, 2) := dq_16 (zby_at (j := 7) zbX5_isLetter_0 rfl) (zby_at (j := 8) zbX5_isLetter_0 rfl) rfl
theorem dX5_isLetter_9 : decode cX5_isLetter 9 = .ok (.if_icmp .gt 7, 3) := dq_163 (zby_at (j := 9) zbX5_isLetter_0 rfl) (zby_at (j := 10) zbX5_isLetter_0 rfl) (zby_at (j := 11) zbX5_isLetter_0 rfl) rfl
theorem dX5_isLetter_12 : decode cX5_isLetter 12 = .ok (.iconst 1, 1) := dq_4 (zby_at (j := 12) zbX5_isLetter_0 rfl)
theorem dX5_isLetter_13 : decode cX5_isLetter 13 = .ok (.goto 4, 3) := dq_167 (zby_at (j := 13) zbX5_isLetter_0 rfl) (zby_at (j := 14) zbX5_isLetter_0 rfl) (zby_at (j := 15) zbX5_isLetter_0 rfl) rfl
theorem zbX5_isLetter_1 : zby cX5_isLetter 16 20 = [3, 172] := by decide +kernel
theorem dX5_isLetter_16 : decode cX5_isLetter 16 = .ok (.iconst 0, 1) := dq_3 (zby_at (j := 0) zbX5_isLetter_1 rfl)
theorem dX5_isLetter_17 : decode cX5_isLetter 17 = .ok (.ireturn, 1) := dq_172 (zby_at (j := 1) zbX5_isLetter_1 rfl)
theorem zbX5_isDigit_0 : zby cX5_isDigit 0 20 = [26, 16, 48, 161, 0, 13, 26, 16, 57, 163, 0, 7, 4, 167, 0, 4, 3, 172] := by decide +kernel
theorem dX5_isDigit_0 : decode cX5_isDigit 0 = .ok (.iload_n 0, 1) := dq_26 (zby_at (j := 0) zbX5_isDigit_0 rfl)
theorem dX5_isDigit_1 : decode cX5_isDigit 1 = .ok (.bipush 48, 2) := dq_16 (zby_at (j := 1) zbX5_isDigit_0 rfl) (zby_at (j := 2) zbX5_isDigit_0 rfl) rfl
theorem dX5_isDigit_3 : decode cX5_isDigit 3 = .ok (.if_icmp .lt 13, 3) := dq_161 (zby_at (j := 3) zbX5_isDigit_0 rfl) (zby_at (j := 4) zbX5_isDigit_0 rfl) (zby_at (j := 5) zbX5_isDigit_0 rfl) rfl
theorem dX5_isDigit_6 : decode cX5_isDigit 6 = .ok (.iload_n 0, 1) := dq_26 (zby_at (j := 6) zbX5_isDigit_0 rfl)
theorem dX5_isDigit_7 : decode cX5_isDigit 7 = .ok (.bipush 57, 2) := dq_16 (zby_at (j := 7) zbX5_isDigit_0 rfl) (zby_at (j := 8) zbX5_isDigit_0 rfl) rfl
theorem dX5_isDigit_9 : decode cX5_isDigit 9 = .ok (.if_icmp .gt 7, 3) := dq_163 (zby_at (j := 9) zbX5_isDigit_0 rfl) (zby_at (j := 10) zbX5_isDigit_0 rfl) (zby_at (j := 11) zbX5_isDigit_0 rfl) rfl
theorem dX5_isDigit_12 : decode cX5_isDigit 12 = .ok (.iconst 1, 1) := dq_4 (zby_at (j := 12) zbX5_isDigit_0 rfl)
theorem dX5_isDigit_13 : decode cX5_isDigit 13 = .ok (.goto 4, 3) := dq_167 (zby_at (j := 13) zbX5_isDigit_0 rfl) (zby_at (j := 14) zbX5_isDigit_0 rfl) (zby_at (j := 15) zbX5_isDigit_0 rfl) rfl
theorem zbX5_isDigit_1 : zby cX5_isDigit 16 20 = [3, 172] := by decide +kernel
theorem dX5_isDigit_16 : decode cX5_isDigit 16 = .ok (.iconst 0, 1) := dq_3 (zby_at (j := 0) zbX5_isDigit_1 rfl)
theorem dX5_isDigit_17 : decode cX5_isDigit 17 = .ok (.ireturn, 1) := dq_172 (zby_at (j := 1) zbX5_isDigit_1 rfl)
theorem zbX5_isSign_0 : zby cX5_isSign 0 20 = [26, 16, 59, 159, 0, 46, 26, 16, 61, 159, 0, 40, 26, 16, 40, 159, 0, 34, 26, 16] := by decide +kernel
theorem dX5_isSign_0 : decode cX5_isSign 0 = .ok (.iload_n 0, 1) := dq_26 (zby_at (j := 0) zbX5_isSign_0 rfl)
theorem dX5_isSign_1 : decode cX5_isSign 1 = .ok (.bipush 59, 2) := dq_16 (zby_at (j := 1) zbX5_isSign_0 rfl) (zby_at (j := 2) zbX5_isSign_0 rfl) rfl
theorem dX5_isSign_3 : decode cX5_isSign 3 = .ok (.if_icmp .eq 46, 3) := dq_159 (zby_at (j := 3) zbX5_isSign_0 rfl) (zby_at (j := 4) zbX5_isSign_0 rfl) (zby_at (j := 5) zbX5_isSign_0 rfl) rfl
theorem dX5_isSign_6 : decode cX5_isSign 6 = .ok (.iload_n 0, 1) := dq_26 (zby_at (j := 6) zbX5_isSign_0 rfl)
theorem dX5_isSign_7 : decode cX5_isSign 7 = .ok (.bipush 61, 2) := dq_16 (zby_at (j := 7) zbX5_isSign_0 rfl) (zby_at (j := 8) zbX5_isSign_0 rfl) rfl
theorem dX5_isSign_9 : decode cX5_isSign 9 = .ok (.if_icmp .eq 40, 3) := dq_159 (zby_at (j := 9) zbX5_isSign_0 rfl) (zby_at (j := 10) zbX5_isSign_0 rfl) (zby_at (j := 11) zbX5_isSign_0 rfl) rfl
theorem dX5_isSign_12 : decode cX5_isSign 12 = .ok (.iload_n 0, 1) := dq_26 (zby_at (j := 12) zbX5_isSign_0 rfl)
theorem dX5_isSign_13 : decode cX5_isSign 13 = .ok (.bipush 40, 2) := dq_16 (zby_at (j := 13) zbX5_isSign_0 rfl) (zby_at (j := 14) zbX5_isSign_0 rfl) rfl
theorem dX5_isSign_15 : decode cX5_isSign 15 = .ok (.if_icmp .eq 34, 3) := dq_159 (zby_at (j := 15) zbX5_isSign_0 rfl) (zby_at (j := 16) zbX5_isSign_0 rfl) (zby_at (j := 17) zbX5_isSign_0 rfl) rfl
theorem zbX5_isSign_1 : zby cX5_isSign 16 20 = [0, 34, 26, 16, 41, 159, 0, 28, 26, 16, 123, 159, 0, 22, 26, 16, 125, 159, 0, 16] := by decide +kernel
theorem dX5_isSign_18 : decode cX5_isSign 18 = .ok (.iload_n 0, 1) := dq_26 (zby_at (j := 2) zbX5_isSign_1 rfl)
theorem dX5_isSign_19 : decode cX5_isSign 19 = .ok (.bipush 41, 2) := dq_16 (zby_at (j := 3) zbX5_isSign_1 rfl) (zby_at (j := 4) zbX5_isSign_1 rfl) rfl
theorem dX5_isSign_21 : decode cX5_isSign 21 = .ok (.if_icmp .eq 28, 3) := dq_159 (zby_at (j := 5) zbX5_isSign_1 rfl) (zby_at (j := 6) zbX5_isSign_1 rfl) (zby_at (j := 7) zbX5_isSign_1 rfl) rfl
theorem dX5_isSign_24 : decode cX5_isSign 24 = .ok (.iload_n 0, 1) := dq_26 (zby_at (j := 8) zbX5_isSign_1 rfl)
theorem dX5_isSign_25 : decode cX5_isSign 25 = .ok (.bipush 123, 2) := dq_16 (zby_at (j := 9) zbX5_isSign_1 rfl) (zby_at (j := 10) zbX5_isSign_1 rfl) rfl
theorem dX5_isSign_27 : decode cX5_isSign 27 = .ok (.if_icmp .eq 22, 3) := dq_159 (zby_at (j := 11) zbX5_isSign_1 rfl) (zby_at (j := 12) zbX5_isSign_1 rfl) (zby_at (j := 13) zbX5_isSign_1 rfl) rfl
theorem dX5_isSign_30 : decode cX5_isSign 30 = .ok (.iload_n 0, 1) := dq_26 (zby_at (j := 14) zbX5_isSign_1 rfl)
theorem dX5_isSign_31 : decode cX5_isSign 31 = .ok (.bipush 125, 2) := dq_16 (zby_at (j := 15) zbX5_isSign_1 rfl) (zby_at (j := 16) zbX5_isSign_1 rfl) rfl
theorem zbX5_isSign_2 : zby cX5_isSign 32 20 = [125, 159, 0, 16, 26, 16, 44, 159, 0, 10, 26, 184, 0, 111, 155, 0, 7, 4, 167, 0] := by decide +kernel
theorem dX5_isSign_33 : decode cX5_isSign 33 = .ok (.if_icmp .eq 16, 3) := dq_159 (zby_at (j := 1) zbX5_isSign_2 rfl) (zby_at (j := 2) zbX5_isSign_2 rfl) (zby_at (j := 3) zbX5_isSign_2 rfl) rfl
theorem dX5_isSign_36 : decode cX5_isSign 36 = .ok (.iload_n 0, 1) := dq_26 (zby_at (j := 4) zbX5_isSign_2 rfl)
theorem dX5_isSign_37 : decode cX5_isSign 37 = .ok (.bipush 44, 2) := dq_16 (zby_at (j := 5) zbX5_isSign_2 rfl) (zby_at (j := 6) zbX5_isSign_2 rfl) rfl
theorem dX5_isSign_39 : decode cX5_isSign 39 = .ok (.if_icmp .eq 10, 3) := dq_159 (zby_at (j := 7) zbX5_isSign_2 rfl) (zby_at (j := 8) zbX5_isSign_2 rfl) (zby_at (j := 9) zbX5_isSign_2 rfl) rfl
theorem dX5_isSign_42 : decode cX5_isSign 42 = .ok (.iload_n 0, 1) := dq_26 (zby_at (j := 10) zbX5_isSign_2 rfl)
theorem dX5_isSign_43 : decode cX5_isSign 43 = .ok (.invokestatic 111, 3) := dq_184 (zby_at (j := 11) zbX5_isSign_2 rfl) (zby_at (j := 12) zbX5_isSign_2 rfl) (zby_at (j := 13) zbX5_isSign_2 rfl)
theorem dX5_isSign_46 : decode cX5_isSign 46 = .ok (.ifCond .lt 7, 3) := dq_155 (zby_at (j := 14) zbX5_isSign_2 rfl) (zby_at (j := 15) zbX5_isSign_2 rfl) (zby_at (j := 16) zbX5_isSign_2 rfl) rfl
theorem zbX5_isSign_3 : zby cX5_isSign 48 20 = [7, 4, 167, 0, 4, 3, 172] := by decide +kernel
theorem dX5_isSign_49 : decode cX5_isSign 49 = .ok (.iconst 1, 1) := dq_4 (zby_at (j := 1) zbX5_isSign_3 rfl)
theorem dX5_isSign_50 : decode cX5_isSign 50 = .ok (.goto 4, 3) := dq_167 (zby_at (j := 2) zbX5_isSign_3 rfl) (zby_at (j := 3) zbX5_isSign_3 rfl) (zby_at (j := 4) zbX5_isSign_3 rfl) rfl
theorem dX5_isSign_53 : decode cX5_isSign 53 = .ok (.iconst 0, 1) := dq_3 (zby_at (j := 5) zbX5_isSign_3 rfl)
theorem dX5_isSign_54 : decode cX5_isSign 54 = .ok (.ireturn, 1) := dq_172 (zby_at (j := 6) zbX5_isSign_3 rfl)
theorem zbX5_combination_0 : zby cX5_combination 0 20 = [26, 170, 0, 0, 0, 0, 0, 82, 0, 0, 0, 35, 0, 0, 0, 47, 0, 0, 0, 79] := by decide +kernel
theorem dX5_combination_0 : decode cX5_combination 0 = .ok (.iload_n 0, 1) := dq_26 (zby_at (j := 0) zbX5_combination_0 rfl)
theorem dX5_combination_1 : decode cX5_combination 1 = .ok (.tableswitch 82 35 47 #[79, 82, 77, 71, 82, 82, 82, 73, 67, 82, 69, 82, 75], 67) := by decide +kernel
theorem zbX5_combination_4 : zby cX5_combination 64 20 = [0, 0, 0, 75, 3, 172, 4, 172, 5, 172, 6, 172, 7, 172, 8, 172, 16, 6, 172, 2] := by decide +kernel
theorem dX5_combination_68 : decode cX5_combination 68 = .ok (.iconst 0, 1) := dq_3 (zby_at (j := 4) zbX5_combination_4 rfl)
theorem dX5_combination_69 : decode cX5_combination 69 = .ok (.ireturn, 1) := dq_172 (zby_at (j := 5) zbX5_combination_4 rfl)
theorem dX5_combination_70 : decode cX5_combination 70 = .ok (.iconst 1, 1) := dq_4 (zby_at (j := 6) zbX5_combination_4 rfl)
theorem dX5_combination_71 : decode cX5_combination 71 = .ok (.ireturn, 1) := dq_172 (zby_at (j := 7) zbX5_combination_4 rfl)
theorem dX5_combination_72 : decode cX5_combination 72 = .ok (.iconst 2, 1) := dq_5 (zby_at (j := 8) zbX5_combination_4 rfl)
theorem dX5_combination_73 : decode cX5_combination 73 = .ok (.ireturn, 1) := dq_172 (zby_at (j := 9) zbX5_combination_4 rfl)
theorem dX5_combination_74 : decode cX5_combination 74 = .ok (.iconst 3, 1) := dq_6 (zby_at (j := 10) zbX5_combination_4 rfl)
theorem dX5_combination_75 : decode cX5_combination 75 = .ok (.ireturn, 1) := dq_172 (zby_at (j := 11) zbX5_combination_4 rfl)
theorem dX5_combination_76 : decode cX5_combination 76 = .ok (.iconst 4, 1) := dq_7 (zby_at (j := 12) zbX5_combination_4 rfl)
theorem dX5_combination_77 : decode cX5_combination 77 = .ok (.ireturn, 1) := dq_172 (zby_at (j := 13) zbX5_combination_4 rfl)
theorem dX5_combination_78 : decode cX5_combination 78 = .ok (.iconst 5, 1) := dq_8 (zby_at (j := 14) zbX5_combination_4 rfl)
theorem dX5_combination_79 : decode cX5_combination 79 = .ok (.ireturn, 1) := dq_172 (zby_at (j := 15) zbX5_combination_4 rfl)
theorem zbX5_combination_5 : zby cX5_combination 80 20 = [16, 6, 172, 2, 172] := by decide +kernel
theorem dX5_combination_80 : decode cX5_combination 80 = .ok (.bipush 6, 2) := dq_16 (zby_at (j := 0) zbX5_combination_5 rfl) (zby_at (j := 1) zbX5_combination_5 rfl) rfl
theorem dX5_combination_82 : decode cX5_combination 82 = .ok (.ireturn, 1) := dq_172 (zby_at (j := 2) zbX5_combination_5 rfl)
theorem dX5_combination_83 : decode cX5_combination 83 = .ok (.iconst (-1), 1) := dq_2 (zby_at (j := 3) zbX5_combination_5 rfl)
theorem dX5_combination_84 : decode cX5_combination 84 = .ok (.ireturn, 1) := dq_172 (zby_at (j := 4) zbX5_combination_5 rfl)
theorem zbX5_wordValue_0 : zby cX5_wordValue 0 20 = [42, 18, 117, 27, 28, 182, 0, 118, 153, 0, 5, 4, 172, 42, 18, 122, 27, 28, 182, 0] := by decide +kernel
theorem dX5_wordValue_0 : decode cX5_wordValue 0 = .ok (.aload_n 0, 1) := dq_42 (zby_at (j := 0) zbX5_wordValue_0 rfl)
theorem dX5_wordValue_1 : decode cX5_wordValue 1 = .ok (.ldc 117, 2) := dq_18 (zby_at (j := 1) zbX5_wordValue_0 rfl) (zby_at (j := 2) zbX5_wordValue_0 rfl)
theorem dX5_wordValue_3 : decode cX5_wordValue 3 = .ok (.iload_n 1, 1) := dq_27 (zby_at (j := 3) zbX5_wordValue_0 rfl)
theorem dX5_wordValue_4 : decode cX5_wordValue 4 = .ok (.iload_n 2, 1) := dq_28 (zby_at (j := 4) zbX5_wordValue_0 rfl)
theorem dX5_wordValue_5 : decode cX5_wordValue 5 = .ok (.invokevirtual 118, 3) := dq_182 (zby_at (j := 5) zbX5_wordValue_0 rfl) (zby_at (j := 6) zbX5_wordValue_0 rfl) (zby_at (j := 7) zbX5_wordValue_0 rfl)
theorem dX5_wordValue_8 : decode cX5_wordValue 8 = .ok (.ifCond .eq 5, 3) := dq_153 (zby_at (j := 8) zbX5_wordValue_0 rfl) (zby_at (j := 9) zbX5_wordValue_0 rfl) (zby_at (j := 10) zbX5_wordValue_0 rfl) rfl
theorem dX5_wordValue_11 : decode cX5_wordValue 11 = .ok (.iconst 1, 1) := dq_4 (zby_at (j := 11) zbX5_wordValue_0 rfl)
theorem dX5_wordValue_12 : decode cX5_wordValue 12 = .ok (.ireturn, 1) := dq_172 (zby_at (j := 12) zbX5_wordValue_0 rfl)
theorem dX5_wordValue_13 : decode cX5_wordValue 13 = .ok (.aload_n 0, 1) := dq_42 (zby_at (j := 13) zbX5_wordValue_0 rfl)
theorem dX5_wordValue_14 : decode cX5_wordValue 14 = .ok (.ldc 122, 2) := dq_18 (zby_at (j := 14) zbX5_wordValue_0 rfl) (zby_at (j := 15) zbX5_wordValue_0 rfl)
theorem zbX5_wordValue_1 : zby cX5_wordValue 16 20 = [27, 28, 182, 0, 118, 153, 0, 5, 5, 172, 42, 18, 124, 27, 28, 182, 0, 118, 153, 0] := by decide +kernel
theorem dX5_wordValue_16 : decode cX5_wordValue 16 = .ok (.iload_n 1, 1) := dq_27 (zby_at (j := 0) zbX5_wordValue_1 rfl)
theorem dX5_wordValue_17 : decode cX5_wordValue 17 = .ok (.iload_n 2, 1) := dq_28 (zby_at (j := 1) zbX5_wordValue_1 rfl)
theorem dX5_wordValue_18 : decode cX5_wordValue 18 = .ok (.invokevirtual 118, 3) := dq_182 (zby_at (j := 2) zbX5_wordValue_1 rfl) (zby_at (j := 3) zbX5_wordValue_1 rfl) (zby_at (j := 4) zbX5_wordValue_1 rfl)
theorem dX5_wordValue_21 : decode cX5_wordValue 21 = .ok (.ifCond .eq 5, 3) := dq_153 (zby_at (j := 5) zbX5_wordValue_1 rfl) (zby_at (j := 6) zbX5_wordValue_1 rfl) (zby_at (j := 7) zbX5_wordValue_1 rfl) rfl
theorem dX5_wordValue_24 : decode cX5_wordValue 24 = .ok (.iconst 2, 1) := dq_5 (zby_at (j := 8) zbX5_wordValue_1 rfl)
theorem dX5_wordValue_25 : decode cX5_wordValue 25 = .ok (.ireturn, 1) := dq_172 (zby_at (j := 9) zbX5_wordValue_1 rfl)
theorem dX5_wordValue_26 : decode cX5_wordValue 26 = .ok (.aload_n 0, 1) := dq_42 (zby_at (j := 10) zbX5_wordValue_1 rfl)
theorem dX5_wordValue_27 : decode cX5_wordValue 27 = .ok (.ldc 124, 2) := dq_18 (zby_at (j := 11) zbX5_wordValue_1 rfl) (zby_at (j := 12) zbX5_wordValue_1 rfl)
theorem dX5_wordValue_29 : decode cX5_wordValue 29 = .ok (.iload_n 1, 1) := dq_27 (zby_at (j := 13) zbX5_wordValue_1 rfl)
theorem dX5_wordValue_30 : decode cX5_wordValue 30 = .ok (.iload_n 2, 1) := dq_28 (zby_at (j := 14) zbX5_wordValue_1 rfl)
theorem dX5_wordValue_31 : decode cX5_wordValue 31 = .ok (.invokevirtual 118, 3) := dq_182 (zby_at (j := 15) zbX5_wordValue_1 rfl) (zby_at (j := 16) zbX5_wordValue_1 rfl) (zby_at (j := 17) zbX5_wordValue_1 rfl)
theorem zbX5_wordValue_2 : zby cX5_wordValue 32 20 = [0, 118, 153, 0, 5, 6, 172, 42, 18, 126, 27, 28, 182, 0, 118, 153, 0, 5, 7, 172] := by decide +kernel
theorem dX5_wordValue_34 : decode cX5_wordValue 34 = .ok (.ifCond .eq 5, 3) := dq_153 (zby_at (j := 2) zbX5_wordValue_2 rfl) (zby_at (j := 3) zbX5_wordValue_2 rfl) (zby_at (j := 4) zbX5_wordValue_2 rfl) rfl
theorem dX5_wordValue_37 : decode cX5_wordValue 37 = .ok (.iconst 3, 1) := dq_6 (zby_at (j := 5) zbX5_wordValue_2 rfl)
theorem dX5_wordValue_38 : decode cX5_wordValue 38 = .ok (.ireturn, 1) := dq_172 (zby_at (j := 6) zbX5_wordValue_2 rfl)
theorem dX5_wordValue_39 : decode cX5_wordValue 39 = .ok (.aload_n 0, 1) := dq_42 (zby_at (j := 7) zbX5_wordValue_2 rfl)
theorem dX5_wordValue_40 : decode cX5_wordValue 40 = .ok (.ldc 126, 2) := dq_18 (zby_at (j := 8) zbX5_wordValue_2 rfl) (zby_at (j := 9) zbX5_wordValue_2 rfl)
theorem dX5_wordValue_42 : decode cX5_wordValue 42 = .ok (.iload_n 1, 1) := dq_27 (zby_at (j := 10) zbX5_wordValue_2 rfl)
theorem dX5_wordValue_43 : decode cX5_wordValue 43 = .ok (.iload_n 2, 1) := dq_28 (zby_at (j := 11) zbX5_wordValue_2 rfl)
theorem dX5_wordValue_44 : decode cX5_wordValue 44 = .ok (.invokevirtual 118, 3) := dq_182 (zby_at (j := 12) zbX5_wordValue_2 rfl) (zby_at (j := 13) zbX5_wordValue_2 rfl) (zby_at (j := 14) zbX5_wordValue_2 rfl)
theorem dX5_wordValue_47 : decode cX5_wordValue 47 = .ok (.ifCond .eq 5, 3) := dq_153 (zby_at (j := 15) zbX5_wordValue_2 rfl) (zby_at (j := 16) zbX5_wordValue_2 rfl) (zby_at (j := 17) zbX5_wordValue_2 rfl) rfl
theorem zbX5_wordValue_3 : zby cX5_wordValue 48 20 = [0, 5, 7, 172, 42, 18, 128, 27, 28, 182, 0, 118, 153, 0, 5, 8, 172, 42, 18, 130] := by decide +kernel
theorem dX5_wordValue_50 : decode cX5_wordValue 50 = .ok (.iconst 4, 1) := dq_7 (zby_at (j := 2) zbX5_wordValue_3 rfl)
theorem dX5_wordValue_51 : decode cX5_wordValue 51 = .ok (.ireturn, 1) := dq_172 (zby_at (j := 3) zbX5_wordValue_3 rfl)
theorem dX5_wordValue_52 : decode cX5_wordValue 52 = .ok (.aload_n 0, 1) := dq_42 (zby_at (j := 4) zbX5_wordValue_3 rfl)
theorem dX5_wordValue_53 : decode cX5_wordValue 53 = .ok (.ldc 128, 2) := dq_18 (zby_at (j := 5) zbX5_wordValue_3 rfl) (zby_at (j := 6) zbX5_wordValue_3 rfl)
theorem dX5_wordValue_55 : decode cX5_wordValue 55 = .ok (.iload_n 1, 1) := dq_27 (zby_at (j := 7) zbX5_wordValue_3 rfl)
theorem dX5_wordValue_56 : decode cX5_wordValue 56 = .ok (.iload_n 2, 1) := dq_28 (zby_at (j := 8) zbX5_wordValue_3 rfl)
theorem dX5_wordValue_57 : decode cX5_wordValue 57 = .ok (.invokevirtual 118, 3) := dq_182 (zby_at (j := 9) zbX5_wordValue_3 rfl) (zby_at (j := 10) zbX5_wordValue_3 rfl) (zby_at (j := 11) zbX5_wordValue_3 rfl)
theorem dX5_wordValue_60 : decode cX5_wordValue 60 = .ok (.ifCond .eq 5, 3) := dq_153 (zby_at (j := 12) zbX5_wordValue_3 rfl) (zby_at (j := 13) zbX5_wordValue_3 rfl) (zby_at (j := 14) zbX5_wordValue_3 rfl) rfl
theorem dX5_wordValue_63 : decode cX5_wordValue 63 = .ok (.iconst 5, 1) := dq_8 (zby_at (j := 15) zbX5_wordValue_3 rfl)
theorem zbX5_wordValue_4 : zby cX5_wordValue 64 20 = [172, 42, 18, 130, 27, 28, 182, 0, 118, 153, 0, 6, 16, 10, 172, 42, 18, 131, 27, 28] := by decide +kernel
theorem dX5_wordValue_64 : decode cX5_wordValue 64 = .ok (.ireturn, 1) := dq_172 (zby_at (j := 0) zbX5_wordValue_4 rfl)
theorem dX5_wordValue_65 : decode cX5_wordValue 65 = .ok (.aload_n 0, 1) := dq_42 (zby_at (j := 1) zbX5_wordValue_4 rfl)
theorem dX5_wordValue_66 : decode cX5_wordValue 66 = .ok (.ldc 130, 2) := dq_18 (zby_at (j := 2) zbX5_wordValue_4 rfl) (zby_at (j := 3) zbX5_wordValue_4 rfl)
theorem dX5_wordValue_68 : decode cX5_wordValue 68 = .ok (.iload_n 1, 1) := dq_27 (zby_at (j := 4) zbX5_wordValue_4 rfl)
theorem dX5_wordValue_69 : decode cX5_wordValue 69 = .ok (.iload_n 2, 1) := dq_28 (zby_at (j := 5) zbX5_wordValue_4 rfl)
theorem dX5_wordValue_70 : decode cX5_wordValue 70 = .ok (.invokevirtual 118, 3) := dq_182 (zby_at (j := 6) zbX5_wordValue_4 rfl) (zby_at (j := 7) zbX5_wordValue_4 rfl) (zby_at (j := 8) zbX5_wordValue_4 rfl)
theorem dX5_wordValue_73 : decode cX5_wordValue 73 = .ok (.ifCond .eq 6, 3) := dq_153 (zby_at (j := 9) zbX5_wordValue_4 rfl) (zby_at (j := 10) zbX5_wordValue_4 rfl) (zby_at (j := 11) zbX5_wordValue_4 rfl) rfl
theorem dX5_wordValue_76 : decode cX5_wordValue 76 = .ok (.bipush 10, 2) := dq_16 (zby_at (j := 12) zbX5_wordValue_4 rfl) (zby_at (j := 13) zbX5_wordValue_4 rfl) rfl
theorem dX5_wordValue_78 : decode cX5_wordValue 78 = .ok (.ireturn, 1) := dq_172 (zby_at (j := 14) zbX5_wordValue_4 rfl)
theorem dX5_wordValue_79 : decode cX5_wordValue 79 = .ok (.aload_n 0, 1) := dq_42 (zby_at (j := 15) zbX5_wordValue_4 rfl)
theorem zbX5_wordValue_5 : zby cX5_wordValue 80 20 = [18, 131, 27, 28, 182, 0, 118, 153, 0, 6, 16, 11, 172, 42, 18, 132, 27, 28, 182, 0] := by decide +kernel
theorem dX5_wordValue_80 : decode cX5_wordValue 80 = .ok (.ldc 131, 2) := dq_18 (zby_at (j := 0) zbX5_wordValue_5 rfl) (zby_at (j := 1) zbX5_wordValue_5 rfl)
theorem dX5_wordValue_82 : decode cX5_wordValue 82 = .ok (.iload_n 1, 1) := dq_27 (zby_at (j := 2) zbX5_wordValue_5 rfl)
theorem dX5_wordValue_83 : decode cX5_wordValue 83 = .ok (.iload_n 2, 1) := dq_28 (zby_at (j := 3) zbX5_wordValue_5 rfl)
theorem dX5_wordValue_84 : decode cX5_wordValue 84 = .ok (.invokevirtual 118, 3) := dq_182 (zby_at (j := 4) zbX5_wordValue_5 rfl) (zby_at (j := 5) zbX5_wordValue_5 rfl) (zby_at (j := 6) zbX5_wordValue_5 rfl)
theorem dX5_wordValue_87 : decode cX5_wordValue 87 = .ok (.ifCond .eq 6, 3) := dq_153 (zby_at (j := 7) zbX5_wordValue_5 rfl) (zby_at (j := 8) zbX5_wordValue_5 rfl) (zby_at (j := 9) zbX5_wordValue_5 rfl) rfl
theorem dX5_wordValue_90 : decode cX5_wordValue 90 = .ok (.bipush 11, 2) := dq_16 (zby_at (j := 10) zbX5_wordValue_5 rfl) (zby_at (j := 11) zbX5_wordValue_5 rfl) rfl
theorem dX5_wordValue_92 : decode cX5_wordValue 92 = .ok (.ireturn, 1) := dq_172 (zby_at (j := 12) zbX5_wordValue_5 rfl)
theorem dX5_wordValue_93 : decode cX5_wordValue 93 = .ok (.aload_n 0, 1) := dq_42 (zby_at (j := 13) zbX5_wordValue_5 rfl)
theorem dX5_wordValue_94 : decode cX5_wordValue 94 = .ok (.ldc 132, 2) := dq_18 (zby_at (j := 14) zbX5_wordValue_5 rfl) (zby_at (j := 15) zbX5_wordValue_5 rfl)
theorem zbX5_wordValue_6 : zby cX5_wordValue 96 20 = [27, 28, 182, 0, 118, 153, 0, 6, 16, 12, 172, 42, 18, 134, 27, 28, 182, 0, 118, 153] := by decide +kernel
theorem dX5_wordValue_96 : decode cX5_wordValue 96 = .ok (.iload_n 1, 1) := dq_27 (zby_at (j := 0) zbX5_wordValue_6 rfl)
theorem dX5_wordValue_97 : decode cX5_wordValue 97 = .ok (.iload_n 2, 1) := dq_28 (zby_at (j := 1) zbX5_wordValue_6 rfl)
theorem dX5_wordValue_98 : decode cX5_wordValue 98 = .ok (.invokevirtual 118, 3) := dq_182 (zby_at (j := 2) zbX5_wordValue_6 rfl) (zby_at (j := 3) zbX5_wordValue_6 rfl) (zby_at (j := 4) zbX5_wordValue_6 rfl)
theorem dX5_wordValue_101 : decode cX5_wordValue 101 = .ok (.ifCond .eq 6, 3) := dq_153 (zby_at (j := 5) zbX5_wordValue_6 rfl) (zby_at (j := 6) zbX5_wordValue_6 rfl) (zby_at (j := 7) zbX5_wordValue_6 rfl) rfl
theorem dX5_wordValue_104 : decode cX5_wordValue 104 = .ok (.bipush 12, 2) := dq_16 (zby_at (j := 8) zbX5_wordValue_6 rfl) (zby_at (j := 9) zbX5_wordValue_6 rfl) rfl
theorem dX5_wordValue_106 : decode cX5_wordValue 106 = .ok (.ireturn, 1) := dq_172 (zby_at (j := 10) zbX5_wordValue_6 rfl)
theorem dX5_wordValue_107 : decode cX5_wordValue 107 = .ok (.aload_n 0, 1) := dq_42 (zby_at (j := 11) zbX5_wordValue_6 rfl)
theorem dX5_wordValue_108 : decode cX5_wordValue 108 = .ok (.ldc 134, 2) := dq_18 (zby_at (j := 12) zbX5_wordValue_6 rfl) (zby_at (j := 13) zbX5_wordValue_6 rfl)
theorem dX5_wordValue_110 : decode cX5_wordValue 110 = .ok (.iload_n 1, 1) := dq_27 (zby_at (j := 14) zbX5_wordValue_6 rfl)
theorem dX5_wordValue_111 : decode cX5_wordValue 111 = .ok (.iload_n 2, 1) := dq_28 (zby_at (j := 15) zbX5_wordValue_6 rfl)
theorem zbX5_wordValue_7 : zby cX5_wordValue 112 20 = [182, 0, 118, 153, 0, 6, 16, 13, 172, 42, 18, 136, 27, 28, 182, 0, 118, 153, 0, 6] := by decide +kernel
theorem dX5_wordValue_112 : decode cX5_wordValue 112 = .ok (.invokevirtual 118, 3) := dq_182 (zby_at (j := 0) zbX5_wordValue_7 rfl) (zby_at (j := 1) zbX5_wordValue_7 rfl) (zby_at (j := 2) zbX5_wordValue_7 rfl)
theorem dX5_wordValue_115 : decode cX5_wordValue 115 = .ok (.ifCond .eq 6, 3) := dq_153 (zby_at (j := 3) zbX5_wordValue_7 rfl) (zby_at (j := 4) zbX5_wordValue_7 rfl) (zby_at (j := 5) zbX5_wordValue_7 rfl) rfl
theorem dX5_wordValue_118 : decode cX5_wordValue 118 = .ok (.bipush 13, 2) := dq_16 (zby_at (j := 6) zbX5_wordValue_7 rfl) (zby_at (j := 7) zbX5_wordValue_7 rfl) rfl
theorem dX5_wordValue_120 : decode cX5_wordValue 120 = .ok (.ireturn, 1) := dq_172 (zby_at (j := 8) zbX5_wordValue_7 rfl)
theorem dX5_wordValue_121 : decode cX5_wordValue 121 = .ok (.aload_n 0, 1) := dq_42 (zby_at (j := 9) zbX5_wordValue_7 rfl)
theorem dX5_wordValue_122 : decode cX5_wordValue 122 = .ok (.ldc 136, 2) := dq_18 (zby_at (j := 10) zbX5_wordValue_7 rfl) (zby_at (j := 11) zbX5_wordValue_7 rfl)
theorem dX5_wordValue_124 : decode cX5_wordValue 124 = .ok (.iload_n 1, 1) := dq_27 (zby_at (j := 12) zbX5_wordValue_7 rfl)
theorem dX5_wordValue_125 : decode cX5_wordValue 125 = .ok (.iload_n 2, 1) := dq_28 (zby_at (j := 13) zbX5_wordValue_7 rfl)
theorem dX5_wordValue_126 : decode cX5_wordValue 126 = .ok (.invokevirtual 118, 3) := dq_182 (zby_at (j := 14) zbX5_wordValue_7 rfl) (zby_at (j := 15) zbX5_wordValue_7 rfl) (zby_at (j := 16) zbX5_wordValue_7 rfl)
theorem zbX5_wordValue_8 : zby cX5_wordValue 128 20 = [118, 153, 0, 6, 16, 14, 172, 42, 18, 138, 27, 28, 182, 0, 118, 153, 0, 6, 16, 15] := by decide +kernel
theorem dX5_wordValue_129 : decode cX5_wordValue 129 = .ok (.ifCond .eq 6, 3) := dq_153 (zby_at (j := 1) zbX5_wordValue_8 rfl) (zby_at (j := 2) zbX5_wordValue_8 rfl) (zby_at (j := 3) zbX5_wordValue_8 rfl) rfl
theorem dX5_wordValue_132 : decode cX5_wordValue 132 = .ok (.bipush 14, 2) := dq_16 (zby_at (j := 4) zbX5_wordValue_8 rfl) (zby_at (j := 5) zbX5_wordValue_8 rfl) rfl
theorem dX5_wordValue_134 : decode cX5_wordValue 134 = .ok (.ireturn, 1) := dq_172 (zby_at (j := 6) zbX5_wordValue_8 rfl)
theorem dX5_wordValue_135 : decode cX5_wordValue 135 = .ok (.aload_n 0, 1) := dq_42 (zby_at (j := 7) zbX5_wordValue_8 rfl)
theorem dX5_wordValue_136 : decode cX5_wordValue 136 = .ok (.ldc 138, 2) := dq_18 (zby_at (j := 8) zbX5_wordValue_8 rfl) (zby_at (j := 9) zbX5_wordValue_8 rfl)
theorem dX5_wordValue_138 : decode cX5_wordValue 138 = .ok (.iload_n 1, 1) := dq_27 (zby_at (j := 10) zbX5_wordValue_8 rfl)
theorem dX5_wordValue_139 : decode cX5_wordValue 139 = .ok (.iload_n 2, 1) := dq_28 (zby_at (j := 11) zbX5_wordValue_8 rfl)
theorem dX5_wordValue_140 : decode cX5_wordValue 140 = .ok (.invokevirtual 118, 3) := dq_182 (zby_at (j := 12) zbX5_wordValue_8 rfl) (zby_at (j := 13) zbX5_wordValue_8 rfl) (zby_at (j := 14) zbX5_wordValue_8 rfl)
theorem dX5_wordValue_143 : decode cX5_wordValue 143 = .ok (.ifCond .eq 6, 3) := dq_153 (zby_at (j := 15) zbX5_wordValue_8 rfl) (zby_at (j := 16) zbX5_wordValue_8 rfl) (zby_at (j := 17) zbX5_wordValue_8 rfl) rfl
theorem zbX5_wordValue_9 : zby cX5_wordValue 144 20 = [0, 6, 16, 15, 172, 2, 172] := by decide +kernel
theorem dX5_wordValue_146 : decode cX5_wordValue 146 = .ok (.bipush 15, 2) := dq_16 (zby_at (j := 2) zbX5_wordValue_9 rfl) (zby_at (j := 3) zbX5_wordValue_9 rfl) rfl
theorem dX5_wordValue_148 : decode cX5_wordValue 148 = .ok (.ireturn, 1) := dq_172 (zby_at (j := 4) zbX5_wordValue_9 rfl)
theorem dX5_wordValue_149 : decode cX5_wordValue 149 = .ok (.iconst (-1), 1) := dq_2 (zby_at (j := 5) zbX5_wordValue_9 rfl)
theorem dX5_wordValue_150 : decode cX5_wordValue 150 = .ok (.ireturn, 1) := dq_172 (zby_at (j := 6) zbX5_wordValue_9 rfl)
theorem zbX5_spells_0 : zby cX5_spells 0 20 = [29, 28, 100, 43, 182, 0, 140, 160, 0, 15, 28, 155, 0, 11, 29, 42, 180, 0, 32, 164] := by decide +kernel
theorem dX5_spells_0 : decode cX5_spells 0 = .ok (.iload_n 3, 1) := dq_29 (zby_at (j := 0) zbX5_spells_0 rfl)
theorem dX5_spells_1 : decode cX5_spells 1 = .ok (.iload_n 2, 1) := dq_28 (zby_at (j := 1) zbX5_spells_0 rfl)
theorem dX5_spells_2 : decode cX5_spells 2 = .ok (.isub, 1) := dq_100 (zby_at (j := 2) zbX5_spells_0 rfl)
theorem dX5_spells_3 : decode cX5_spells 3 = .ok (.aload_n 1, 1) := dq_43 (zby_at (j := 3) zbX5_spells_0 rfl)
theorem dX5_spells_4 : decode cX5_spells 4 = .ok (.invokevirtual 140, 3) := dq_182 (zby_at (j := 4) zbX5_spells_0 rfl) (zby_at (j := 5) zbX5_spells_0 rfl) (zby_at (j := 6) zbX5_spells_0 rfl)
theorem dX5_spells_7 : decode cX5_spells 7 = .ok (.if_icmp .ne 15, 3) := dq_160 (zby_at (j := 7) zbX5_spells_0 rfl) (zby_at (j := 8) zbX5_spells_0 rfl) (zby_at (j := 9) zbX5_spells_0 rfl) rfl
theorem dX5_spells_10 : decode cX5_spells 10 = .ok (.iload_n 2, 1) := dq_28 (zby_at (j := 10) zbX5_spells_0 rfl)
theorem dX5_spells_11 : decode cX5_spells 11 = .ok (.ifCond .lt 11, 3) := dq_155 (zby_at (j := 11) zbX5_spells_0 rfl) (zby_at (j := 12) zbX5_spells_0 rfl) (zby_at (j := 13) zbX5_spells_0 rfl) rfl
theorem dX5_spells_14 : decode cX5_spells 14 = .ok (.iload_n 3, 1) := dq_29 (zby_at (j := 14) zbX5_spells_0 rfl)
theorem dX5_spells_15 : decode cX5_spells 15 = .ok (.aload_n 0, 1) := dq_42 (zby_at (j := 15) zbX5_spells_0 rfl)
theorem zbX5_spells_1 : zby cX5_spells 16 20 = [180, 0, 32, 164, 0, 5, 3, 172, 3, 54, 4, 21, 4, 43, 182, 0, 140, 162, 0, 29] := by decide +kernel
theorem dX5_spells_16 : decode cX5_spells 16 = .ok (.getfield 32, 3) := dq_180 (zby_at (j := 0) zbX5_spells_1 rfl) (zby_at (j := 1) zbX5_spells_1 rfl) (zby_at (j := 2) zbX5_spells_1 rfl)
theorem dX5_spells_19 : decode cX5_spells 19 = .ok (.if_icmp .le 5, 3) := dq_164 (zby_at (j := 3) zbX5_spells_1 rfl) (zby_at (j := 4) zbX5_spells_1 rfl) (zby_at (j := 5) zbX5_spells_1 rfl) rfl
theorem dX5_spells_22 : decode cX5_spells 22 = .ok (.iconst 0, 1) := dq_3 (zby_at (j := 6) zbX5_spells_1 rfl)
theorem dX5_spells_23 : decode cX5_spells 23 = .ok (.ireturn, 1) := dq_172 (zby_at (j := 7) zbX5_spells_1 rfl)
theorem dX5_spells_24 : decode cX5_spells 24 = .ok (.iconst 0, 1) := dq_3 (zby_at (j := 8) zbX5_spells_1 rfl)
theorem dX5_spells_25 : decode cX5_spells 25 = .ok (.istore 4, 2) := dq_54 (zby_at (j := 9) zbX5_spells_1 rfl) (zby_at (j := 10) zbX5_spells_1 rfl)
theorem dX5_spells_27 : decode cX5_spells 27 = .ok (.iload 4, 2) := dq_21 (zby_at (j := 11) zbX5_spells_1 rfl) (zby_at (j := 12) zbX5_spells_1 rfl)
theorem dX5_spells_29 : decode cX5_spells 29 = .ok (.aload_n 1, 1) := dq_43 (zby_at (j := 13) zbX5_spells_1 rfl)
theorem dX5_spells_30 : decode cX5_spells 30 = .ok (.invokevirtual 140, 3) := dq_182 (zby_at (j := 14) zbX5_spells_1 rfl) (zby_at (j := 15) zbX5_spells_1 rfl) (zby_at (j := 16) zbX5_spells_1 rfl)
theorem zbX5_spells_2 : zby cX5_spells 32 20 = [140, 162, 0, 29, 42, 180, 0, 28, 28, 21, 4, 96, 51, 43, 21, 4, 182, 0, 145, 159] := by decide +kernel
theorem dX5_spells_33 : decode cX5_spells 33 = .ok (.if_icmp .ge 29, 3) := dq_162 (zby_at (j := 1) zbX5_spells_2 rfl) (zby_at (j := 2) zbX5_spells_2 rfl) (zby_at (j := 3) zbX5_spells_2 rfl) rfl
theorem dX5_spells_36 : decode cX5_spells 36 = .ok (.aload_n 0, 1) := dq_42 (zby_at (j := 4) zbX5_spells_2 rfl)
theorem dX5_spells_37 : decode cX5_spells 37 = .ok (.getfield 28, 3) := dq_180 (zby_at (j := 5) zbX5_spells_2 rfl) (zby_at (j := 6) zbX5_spells_2 rfl) (zby_at (j := 7) zbX5_spells_2 rfl)
theorem dX5_spells_40 : decode cX5_spells 40 = .ok (.iload_n 2, 1) := dq_28 (zby_at (j := 8) zbX5_spells_2 rfl)
theorem dX5_spells_41 : decode cX5_spells 41 = .ok (.iload 4, 2) := dq_21 (zby_at (j := 9) zbX5_spells_2 rfl) (zby_at (j := 10) zbX5_spells_2 rfl)
theorem dX5_spells_43 : decode cX5_spells 43 = .ok (.iadd, 1) := dq_96 (zby_at (j := 11) zbX5_spells_2 rfl)
theorem dX5_spells_44 : decode cX5_spells 44 = .ok (.baload, 1) := dq_51 (zby_at (j := 12) zbX5_spells_2 rfl)
theorem dX5_spells_45 : decode cX5_spells 45 = .ok (.aload_n 1, 1) := dq_43 (zby_at (j := 13) zbX5_spells_2 rfl)
theorem dX5_spells_46 : decode cX5_spells 46 = .ok (.iload 4, 2) := dq_21 (zby_at (j := 14) zbX5_spells_2 rfl) (zby_at (j := 15) zbX5_spells_2 rfl)
theorem zbX5_spells_3 : zby cX5_spells 48 20 = [182, 0, 145, 159, 0, 5, 3, 172, 132, 4, 1, 167, 255, 224, 4, 172] := by decide +kernel
theorem dX5_spells_48 : decode cX5_spells 48 = .ok (.invokevirtual 145, 3) := dq_182 (zby_at (j := 0) zbX5_spells_3 rfl) (zby_at (j := 1) zbX5_spells_3 rfl) (zby_at (j := 2) zbX5_spells_3 rfl)
theorem dX5_spells_51 : decode cX5_spells 51 = .ok (.if_icmp .eq 5, 3) := dq_159 (zby_at (j := 3) zbX5_spells_3 rfl) (zby_at (j := 4) zbX5_spells_3 rfl) (zby_at (j := 5) zbX5_spells_3 rfl) rfl
theorem dX5_spells_54 : decode cX5_spells 54 = .ok (.iconst 0, 1) := dq_3 (zby_at (j := 6) zbX5_spells_3 rfl)
theorem dX5_spells_55 : decode cX5_spells 55 = .ok (.ireturn, 1) := dq_172 (zby_at (j := 7) zbX5_spells_3 rfl)
theorem dX5_spells_56 : decode cX5_spells 56 = .ok (.iinc 4 1, 3) := dq_132 (zby_at (j := 8) zbX5_spells_3 rfl) (zby_at (j := 9) zbX5_spells_3 rfl) (zby_at (j := 10) zbX5_spells_3 rfl) rfl
theorem dX5_spells_59 : decode cX5_spells 59 = .ok (.goto (-32), 3) := dq_167 (zby_at (j := 11) zbX5_spells_3 rfl) (zby_at (j := 12) zbX5_spells_3 rfl) (zby_at (j := 13) zbX5_spells_3 rfl) rfl
theorem dX5_spells_62 : decode cX5_spells 62 = .ok (.iconst 1, 1) := dq_4 (zby_at (j := 14) zbX5_spells_3 rfl)
theorem dX5_spells_63 : decode cX5_spells 63 = .ok (.ireturn, 1) := dq_172 (zby_at (j := 15) zbX5_spells_3 rfl)
theorem zbX5_advance_0 : zby cX5_advance 0 20 = [27, 154, 0, 24, 42, 28, 181, 0, 9, 42, 42, 180, 0, 50, 42, 180, 0, 41, 46, 181] := by decide +kernel
theorem dX5_advance_0 : decode cX5_advance 0 = .ok (.iload_n 1, 1) := dq_27 (zby_at (j := 0) zbX5_advance_0 rfl)
theorem dX5_advance_1 : decode cX5_advance 1 = .ok (.ifCond .ne 24, 3) := dq_154 (zby_at (j := 1) zbX5_advance_0 rfl) (zby_at (j := 2) zbX5_advance_0 rfl) (zby_at (j := 3) zbX5_advance_0 rfl) rfl
theorem dX5_advance_4 : decode cX5_advance 4 = .ok (.aload_n 0, 1) := dq_42 (zby_at (j := 4) zbX5_advance_0 rfl)
theorem dX5_advance_5 : decode cX5_advance 5 = .ok (.iload_n 2, 1) := dq_28 (zby_at (j := 5) zbX5_advance_0 rfl)
theorem dX5_advance_6 : decode cX5_advance 6 = .ok (.putfield 9, 3) := dq_181 (zby_at (j := 6) zbX5_advance_0 rfl) (zby_at (j := 7) zbX5_advance_0 rfl) (zby_at (j := 8) zbX5_advance_0 rfl)
theorem dX5_advance_9 : decode cX5_advance 9 = .ok (.aload_n 0, 1) := dq_42 (zby_at (j := 9) zbX5_advance_0 rfl)
theorem dX5_advance_10 : decode cX5_advance 10 = .ok (.aload_n 0, 1) := dq_42 (zby_at (j := 10) zbX5_advance_0 rfl)
theorem dX5_advance_11 : decode cX5_advance 11 = .ok (.getfield 50, 3) := dq_180 (zby_at (j := 11) zbX5_advance_0 rfl) (zby_at (j := 12) zbX5_advance_0 rfl) (zby_at (j := 13) zbX5_advance_0 rfl)
theorem dX5_advance_14 : decode cX5_advance 14 = .ok (.aload_n 0, 1) := dq_42 (zby_at (j := 14) zbX5_advance_0 rfl)
theorem dX5_advance_15 : decode cX5_advance 15 = .ok (.getfield 41, 3) := dq_180 (zby_at (j := 15) zbX5_advance_0 rfl) (zby_at (j := 16) zbX5_advance_0 rfl) (zby_at (j := 17) zbX5_advance_0 rfl)
theorem zbX5_advance_1 : zby cX5_advance 16 20 = [0, 41, 46, 181, 0, 15, 167, 0, 35, 42, 180, 0, 44, 42, 180, 0, 41, 46, 153, 0] := by decide +kernel
theorem dX5_advance_18 : decode cX5_advance 18 = .ok (.iaload, 1) := dq_46 (zby_at (j := 2) zbX5_advance_1 rfl)
theorem dX5_advance_19 : decode cX5_advance 19 = .ok (.putfield 15, 3) := dq_181 (zby_at (j := 3) zbX5_advance_1 rfl) (zby_at (j := 4) zbX5_advance_1 rfl) (zby_at (j := 5) zbX5_advance_1 rfl)
theorem dX5_advance_22 : decode cX5_advance 22 = .ok (.goto 35, 3) := dq_167 (zby_at (j := 6) zbX5_advance_1 rfl) (zby_at (j := 7) zbX5_advance_1 rfl) (zby_at (j := 8) zbX5_advance_1 rfl) rfl
theorem dX5_advance_25 : decode cX5_advance 25 = .ok (.aload_n 0, 1) := dq_42 (zby_at (j := 9) zbX5_advance_1 rfl)
theorem dX5_advance_26 : decode cX5_advance 26 = .ok (.getfield 44, 3) := dq_180 (zby_at (j := 10) zbX5_advance_1 rfl) (zby_at (j := 11) zbX5_advance_1 rfl) (zby_at (j := 12) zbX5_advance_1 rfl)
theorem dX5_advance_29 : decode cX5_advance 29 = .ok (.aload_n 0, 1) := dq_42 (zby_at (j := 13) zbX5_advance_1 rfl)
theorem dX5_advance_30 : decode cX5_advance 30 = .ok (.getfield 41, 3) := dq_180 (zby_at (j := 14) zbX5_advance_1 rfl) (zby_at (j := 15) zbX5_advance_1 rfl) (zby_at (j := 16) zbX5_advance_1 rfl)
theorem zbX5_advance_2 : zby cX5_advance 32 20 = [41, 46, 153, 0, 23, 42, 180, 0, 41, 17, 2, 88, 162, 0, 13, 42, 89, 180, 0, 41] := by decide +kernel
theorem dX5_advance_33 : decode cX5_advance 33 = .ok (.iaload, 1) := dq_46 (zby_at (j := 1) zbX5_advance_2 rfl)
theorem dX5_advance_34 : decode cX5_advance 34 = .ok (.ifCond .eq 23, 3) := dq_153 (zby_at (j := 2) zbX5_advance_2 rfl) (zby_at (j := 3) zbX5_advance_2 rfl) (zby_at (j := 4) zbX5_advance_2 rfl) rfl
theorem dX5_advance_37 : decode cX5_advance 37 = .ok (.aload_n 0, 1) := dq_42 (zby_at (j := 5) zbX5_advance_2 rfl)
theorem dX5_advance_38 : decode cX5_advance 38 = .ok (.getfield 41, 3) := dq_180 (zby_at (j := 6) zbX5_advance_2 rfl) (zby_at (j := 7) zbX5_advance_2 rfl) (zby_at (j := 8) zbX5_advance_2 rfl)
theorem dX5_advance_41 : decode cX5_advance 41 = .ok (.sipush 600, 3) := dq_17 (zby_at (j := 9) zbX5_advance_2 rfl) (zby_at (j := 10) zbX5_advance_2 rfl) (zby_at (j := 11) zbX5_advance_2 rfl) rfl
theorem dX5_advance_44 : decode cX5_advance 44 = .ok (.if_icmp .ge 13, 3) := dq_162 (zby_at (j := 12) zbX5_advance_2 rfl) (zby_at (j := 13) zbX5_advance_2 rfl) (zby_at (j := 14) zbX5_advance_2 rfl) rfl
theorem dX5_advance_47 : decode cX5_advance 47 = .ok (.aload_n 0, 1) := dq_42 (zby_at (j := 15) zbX5_advance_2 rfl)
theorem zbX5_advance_3 : zby cX5_advance 48 20 = [89, 180, 0, 41, 4, 96, 181, 0, 41, 27, 172] := by decide +kernel
theorem dX5_advance_48 : decode cX5_advance 48 = .ok (.dup, 1) := dq_89 (zby_at (j := 0) zbX5_advance_3 rfl)
theorem dX5_advance_49 : decode cX5_advance 49 = .ok (.getfield 41, 3) := dq_180 (zby_at (j := 1) zbX5_advance_3 rfl) (zby_at (j := 2) zbX5_advance_3 rfl) (zby_at (j := 3) zbX5_advance_3 rfl)
theorem dX5_advance_52 : decode cX5_advance 52 = .ok (.iconst 1, 1) := dq_4 (zby_at (j := 4) zbX5_advance_3 rfl)
theorem dX5_advance_53 : decode cX5_advance 53 = .ok (.iadd, 1) := dq_96 (zby_at (j := 5) zbX5_advance_3 rfl)
theorem dX5_advance_54 : decode cX5_advance 54 = .ok (.putfield 41, 3) := dq_181 (zby_at (j := 6) zbX5_advance_3 rfl) (zby_at (j := 7) zbX5_advance_3 rfl) (zby_at (j := 8) zbX5_advance_3 rfl)
theorem dX5_advance_57 : decode cX5_advance 57 = .ok (.iload_n 1, 1) := dq_27 (zby_at (j := 9) zbX5_advance_3 rfl)
theorem dX5_advance_58 : decode cX5_advance 58 = .ok (.ireturn, 1) := dq_172 (zby_at (j := 10) zbX5_advance_3 rfl)
theorem zbX5_fail_0 : zby cX5_fail 0 20 = [42, 3, 27, 182, 0, 149, 172] := by decide +kernel
theorem dX5_fail_0 : decode cX5_fail 0 = .ok (.aload_n 0, 1) := dq_42 (zby_at (j := 0) zbX5_fail_0 rfl)
theorem dX5_fail_1 : decode cX5_fail 1 = .ok (.iconst 0, 1) := dq_3 (zby_at (j := 1) zbX5_fail_0 rfl)
theorem dX5_fail_2 : decode cX5_fail 2 = .ok (.iload_n 1, 1) := dq_27 (zby_at (j := 2) zbX5_fail_0 rfl)
theorem dX5_fail_3 : decode cX5_fail 3 = .ok (.invokevirtual 149, 3) := dq_182 (zby_at (j := 3) zbX5_fail_0 rfl) (zby_at (j := 4) zbX5_fail_0 rfl) (zby_at (j := 5) zbX5_fail_0 rfl)
theorem dX5_fail_6 : decode cX5_fail 6 = .ok (.ireturn, 1) := dq_172 (zby_at (j := 6) zbX5_fail_0 rfl)
theorem zbX5_pass_0 : zby cX5_pass 0 20 = [42, 42, 180, 0, 44, 42, 180, 0, 41, 46, 27, 160, 0, 7, 4, 167, 0, 4, 3, 4] := by decide +kernel
theorem dX5_pass_0 : decode cX5_pass 0 = .ok (.aload_n 0, 1) := dq_42 (zby_at (j := 0) zbX5_pass_0 rfl)
theorem dX5_pass_1 : decode cX5_pass 1 = .ok (.aload_n 0, 1) := dq_42 (zby_at (j := 1) zbX5_pass_0 rfl)
theorem dX5_pass_2 : decode cX5_pass 2 = .ok (.getfield 44, 3) := dq_180 (zby_at (j := 2) zbX5_pass_0 rfl) (zby_at (j := 3) zbX5_pass_0 rfl) (zby_at (j := 4) zbX5_pass_0 rfl)
theorem dX5_pass_5 : decode cX5_pass 5 = .ok (.aload_n 0, 1) := dq_42 (zby_at (j := 5) zbX5_pass_0 rfl)
theorem dX5_pass_6 : decode cX5_pass 6 = .ok (.getfield 41, 3) := dq_180 (zby_at (j := 6) zbX5_pass_0 rfl) (zby_at (j := 7) zbX5_pass_0 rfl) (zby_at (j := 8) zbX5_pass_0 rfl)
theorem dX5_pass_9 : decode cX5_pass 9 = .ok (.iaload, 1) := dq_46 (zby_at (j := 9) zbX5_pass_0 rfl)
theorem dX5_pass_10 : decode cX5_pass 10 = .ok (.iload_n 1, 1) := dq_27 (zby_at (j := 10) zbX5_pass_0 rfl)
theorem dX5_pass_11 : decode cX5_pass 11 = .ok (.if_icmp .ne 7, 3) := dq_160 (zby_at (j := 11) zbX5_pass_0 rfl) (zby_at (j := 12) zbX5_pass_0 rfl) (zby_at (j := 13) zbX5_pass_0 rfl) rfl
theorem dX5_pass_14 : decode cX5_pass 14 = .ok (.iconst 1, 1) := dq_4 (zby_at (j := 14) zbX5_pass_0 rfl)
theorem dX5_pass_15 : decode cX5_pass 15 = .ok (.goto 4, 3) := dq_167 (zby_at (j := 15) zbX5_pass_0 rfl) (zby_at (j := 16) zbX5_pass_0 rfl) (zby_at (j := 17) zbX5_pass_0 rfl) rfl
theorem zbX5_pass_1 : zby cX5_pass 16 20 = [0, 4, 3, 4, 182, 0, 149, 172] := by decide +kernel
theorem dX5_pass_18 : decode cX5_pass 18 = .ok (.iconst 0, 1) := dq_3 (zby_at (j := 2) zbX5_pass_1 rfl)
theorem dX5_pass_19 : decode cX5_pass 19 = .ok (.iconst 1, 1) := dq_4 (zby_at (j := 3) zbX5_pass_1 rfl)
theorem dX5_pass_20 : decode cX5_pass 20 = .ok (.invokevirtual 149, 3) := dq_182 (zby_at (j := 4) zbX5_pass_1 rfl) (zby_at (j := 5) zbX5_pass_1 rfl) (zby_at (j := 6) zbX5_pass_1 rfl)
theorem dX5_pass_23 : decode cX5_pass 23 = .ok (.ireturn, 1) := dq_172 (zby_at (j := 7) zbX5_pass_1 rfl)
theorem zbX5_passNumber_0 : zby cX5_passNumber 0 20 = [42, 180, 0, 44, 42, 180, 0, 41, 46, 6, 159, 0, 9, 42, 4, 182, 0, 153, 172, 42] := by decide +kernel
theorem dX5_passNumber_0 : decode cX5_passNumber 0 = .ok (.aload_n 0, 1) := dq_42 (zby_at (j := 0) zbX5_passNumber_0 rfl)
theorem dX5_passNumber_1 : decode cX5_passNumber 1 = .ok (.getfield 44, 3) := dq_180 (zby_at (j := 1) zbX5_passNumber_0 rfl) (zby_at (j := 2) zbX5_passNumber_0 rfl) (zby_at (j := 3) zbX5_passNumber_0 rfl)
theorem dX5_passNumber_4 : decode cX5_passNumber 4 = .ok (.aload_n 0, 1) := dq_42 (zby_at (j := 4) zbX5_passNumber_0 rfl)
theorem dX5_passNumber_5 : decode cX5_passNumber 5 = .ok (.getfield 41, 3) := dq_180 (zby_at (j := 5) zbX5_passNumber_0 rfl) (zby_at (j := 6) zbX5_passNumber_0 rfl) (zby_at (j := 7) zbX5_passNumber_0 rfl)
theorem dX5_passNumber_8 : decode cX5_passNumber 8 = .ok (.iaload, 1) := dq_46 (zby_at (j := 8) zbX5_passNumber_0 rfl)
theorem dX5_passNumber_9 : decode cX5_passNumber 9 = .ok (.iconst 3, 1) := dq_6 (zby_at (j := 9) zbX5_passNumber_0 rfl)
theorem dX5_passNumber_10 : decode cX5_passNumber 10 = .ok (.if_icmp .eq 9, 3) := dq_159 (zby_at (j := 10) zbX5_passNumber_0 rfl) (zby_at (j := 11) zbX5_passNumber_0 rfl) (zby_at (j := 12) zbX5_passNumber_0 rfl) rfl
theorem dX5_passNumber_13 : decode cX5_passNumber 13 = .ok (.aload_n 0, 1) := dq_42 (zby_at (j := 13) zbX5_passNumber_0 rfl)
theorem dX5_passNumber_14 : decode cX5_passNumber 14 = .ok (.iconst 1, 1) := dq_4 (zby_at (j := 14) zbX5_passNumber_0 rfl)
theorem dX5_passNumber_15 : decode cX5_passNumber 15 = .ok (.invokevirtual 153, 3) := dq_182 (zby_at (j := 15) zbX5_passNumber_0 rfl) (zby_at (j := 16) zbX5_passNumber_0 rfl) (zby_at (j := 17) zbX5_passNumber_0 rfl)
theorem zbX5_passNumber_1 : zby cX5_passNumber 16 20 = [0, 153, 172, 42, 42, 180, 0, 47, 42, 180, 0, 41, 46, 27, 161, 0, 20, 42, 180, 0] := by decide +kernel
theorem dX5_passNumber_18 : decode cX5_passNumber 18 = .ok (.ireturn, 1) := dq_172 (zby_at (j := 2) zbX5_passNumber_1 rfl)
theorem dX5_passNumber_19 : decode cX5_passNumber 19 = .ok (.aload_n 0, 1) := dq_42 (zby_at (j := 3) zbX5_passNumber_1 rfl)
theorem dX5_passNumber_20 : decode cX5_passNumber 20 = .ok (.aload_n 0, 1) := dq_42 (zby_at (j := 4) zbX5_passNumber_1 rfl)
theorem dX5_passNumber_21 : decode cX5_passNumber 21 = .ok (.getfield 47, 3) := dq_180 (zby_at (j := 5) zbX5_passNumber_1 rfl) (zby_at (j := 6) zbX5_passNumber_1 rfl) (zby_at (j := 7) zbX5_passNumber_1 rfl)
theorem dX5_passNumber_24 : decode cX5_passNumber 24 = .ok (.aload_n 0, 1) := dq_42 (zby_at (j := 8) zbX5_passNumber_1 rfl)
theorem dX5_passNumber_25 : decode cX5_passNumber 25 = .ok (.getfield 41, 3) := dq_180 (zby_at (j := 9) zbX5_passNumber_1 rfl) (zby_at (j := 10) zbX5_passNumber_1 rfl) (zby_at (j := 11) zbX5_passNumber_1 rfl)
theorem dX5_passNumber_28 : decode cX5_passNumber 28 = .ok (.iaload, 1) := dq_46 (zby_at (j := 12) zbX5_passNumber_1 rfl)
theorem dX5_passNumber_29 : decode cX5_passNumber 29 = .ok (.iload_n 1, 1) := dq_27 (zby_at (j := 13) zbX5_passNumber_1 rfl)
theorem dX5_passNumber_30 : decode cX5_passNumber 30 = .ok (.if_icmp .lt 20, 3) := dq_161 (zby_at (j := 14) zbX5_passNumber_1 rfl) (zby_at (j := 15) zbX5_passNumber_1 rfl) (zby_at (j := 16) zbX5_passNumber_1 rfl) rfl
theorem zbX5_passNumber_2 : zby cX5_passNumber 32 20 = [20, 42, 180, 0, 47, 42, 180, 0, 41, 46, 28, 163, 0, 7, 4, 167, 0, 4, 3, 5] := by decide +kernel
theorem dX5_passNumber_33 : decode cX5_passNumber 33 = .ok (.aload_n 0, 1) := dq_42 (zby_at (j := 1) zbX5_passNumber_2 rfl)
theorem dX5_passNumber_34 : decode cX5_passNumber 34 = .ok (.getfield 47, 3) := dq_180 (zby_at (j := 2) zbX5_passNumber_2 rfl) (zby_at (j := 3) zbX5_passNumber_2 rfl) (zby_at (j := 4) zbX5_passNumber_2 rfl)
theorem dX5_passNumber_37 : decode cX5_passNumber 37 = .ok (.aload_n 0, 1) := dq_42 (zby_at (j := 5) zbX5_passNumber_2 rfl)
theorem dX5_passNumber_38 : decode cX5_passNumber 38 = .ok (.getfield 41, 3) := dq_180 (zby_at (j := 6) zbX5_passNumber_2 rfl) (zby_at (j := 7) zbX5_passNumber_2 rfl) (zby_at (j := 8) zbX5_passNumber_2 rfl)
theorem dX5_passNumber_41 : decode cX5_passNumber 41 = .ok (.iaload, 1) := dq_46 (zby_at (j := 9) zbX5_passNumber_2 rfl)
theorem dX5_passNumber_42 : decode cX5_passNumber 42 = .ok (.iload_n 2, 1) := dq_28 (zby_at (j := 10) zbX5_passNumber_2 rfl)
theorem dX5_passNumber_43 : decode cX5_passNumber 43 = .ok (.if_icmp .gt 7, 3) := dq_163 (zby_at (j := 11) zbX5_passNumber_2 rfl) (zby_at (j := 12) zbX5_passNumber_2 rfl) (zby_at (j := 13) zbX5_passNumber_2 rfl) rfl
theorem dX5_passNumber_46 : decode cX5_passNumber 46 = .ok (.iconst 1, 1) := dq_4 (zby_at (j := 14) zbX5_passNumber_2 rfl)
theorem dX5_passNumber_47 : decode cX5_passNumber 47 = .ok (.goto 4, 3) := dq_167 (zby_at (j := 15) zbX5_passNumber_2 rfl) (zby_at (j := 16) zbX5_passNumber_2 rfl) (zby_at (j := 17) zbX5_passNumber_2 rfl) rfl
theorem zbX5_passNumber_3 : zby cX5_passNumber 48 20 = [0, 4, 3, 5, 182, 0, 149, 172] := by decide +kernel
theorem dX5_passNumber_50 : decode cX5_passNumber 50 = .ok (.iconst 0, 1) := dq_3 (zby_at (j := 2) zbX5_passNumber_3 rfl)
theorem dX5_passNumber_51 : decode cX5_passNumber 51 = .ok (.iconst 2, 1) := dq_5 (zby_at (j := 3) zbX5_passNumber_3 rfl)
theorem dX5_passNumber_52 : decode cX5_passNumber 52 = .ok (.invokevirtual 149, 3) := dq_182 (zby_at (j := 4) zbX5_passNumber_3 rfl) (zby_at (j := 5) zbX5_passNumber_3 rfl) (zby_at (j := 6) zbX5_passNumber_3 rfl)
theorem dX5_passNumber_55 : decode cX5_passNumber 55 = .ok (.ireturn, 1) := dq_172 (zby_at (j := 7) zbX5_passNumber_3 rfl)
theorem zbX5_passed_0 : zby cX5_passed 0 20 = [42, 180, 0, 41, 158, 0, 17, 42, 180, 0, 47, 42, 180, 0, 41, 4, 100, 46, 167, 0] := by decide +kernel
theorem dX5_passed_0 : decode cX5_passed 0 = .ok (.aload_n 0, 1) := dq_42 (zby_at (j := 0) zbX5_passed_0 rfl)
theorem dX5_passed_1 : decode cX5_passed 1 = .ok (.getfield 41, 3) := dq_180 (zby_at (j := 1) zbX5_passed_0 rfl) (zby_at (j := 2) zbX5_passed_0 rfl) (zby_at (j := 3) zbX5_passed_0 rfl)
theorem dX5_passed_4 : decode cX5_passed 4 = .ok (.ifCond .le 17, 3) := dq_158 (zby_at (j := 4) zbX5_passed_0 rfl) (zby_at (j := 5) zbX5_passed_0 rfl) (zby_at (j := 6) zbX5_passed_0 rfl) rfl
theorem dX5_passed_7 : decode cX5_passed 7 = .ok (.aload_n 0, 1) := dq_42 (zby_at (j := 7) zbX5_passed_0 rfl)
theorem dX5_passed_8 : decode cX5_passed 8 = .ok (.getfield 47, 3) := dq_180 (zby_at (j := 8) zbX5_passed_0 rfl) (zby_at (j := 9) zbX5_passed_0 rfl) (zby_at (j := 10) zbX5_passed_0 rfl)
theorem dX5_passed_11 : decode cX5_passed 11 = .ok (.aload_n 0, 1) := dq_42 (zby_at (j := 11) zbX5_passed_0 rfl)
theorem dX5_passed_12 : decode cX5_passed 12 = .ok (.getfield 41, 3) := dq_180 (zby_at (j := 12) zbX5_passed_0 rfl) (zby_at (j := 13) zbX5_passed_0 rfl) (zby_at (j := 14) zbX5_passed_0 rfl)
theorem dX5_passed_15 : decode cX5_passed 15 = .ok (.iconst 1, 1) := dq_4 (zby_at (j := 15) zbX5_passed_0 rfl)
theorem zbX5_passed_1 : zby cX5_passed 16 20 = [100, 46, 167, 0, 4, 3, 172] := by decide +kernel
theorem dX5_passed_16 : decode cX5_passed 16 = .ok (.isub, 1) := dq_100 (zby_at (j := 0) zbX5_passed_1 rfl)
theorem dX5_passed_17 : decode cX5_passed 17 = .ok (.iaload, 1) := dq_46 (zby_at (j := 1) zbX5_passed_1 rfl)
theorem dX5_passed_18 : decode cX5_passed 18 = .ok (.goto 4, 3) := dq_167 (zby_at (j := 2) zbX5_passed_1 rfl) (zby_at (j := 3) zbX5_passed_1 rfl) (zby_at (j := 4) zbX5_passed_1 rfl) rfl
theorem dX5_passed_21 : decode cX5_passed 21 = .ok (.iconst 0, 1) := dq_3 (zby_at (j := 5) zbX5_passed_1 rfl)
theorem dX5_passed_22 : decode cX5_passed 22 = .ok (.ireturn, 1) := dq_172 (zby_at (j := 6) zbX5_passed_1 rfl)
theorem zbX5_emit_0 : zby cX5_emit 0 20 = [42, 180, 0, 18, 155, 0, 43, 42, 180, 0, 18, 17, 2, 89, 162, 0, 33, 42, 180, 0] := by decide +kernel
theorem dX5_emit_0 : decode cX5_emit 0 = .ok (.aload_n 0, 1) := dq_42 (zby_at (j := 0) zbX5_emit_0 rfl)
theorem dX5_emit_1 : decode cX5_emit 1 = .ok (.getfield 18, 3) := dq_180 (zby_at (j := 1) zbX5_emit_0 rfl) (zby_at (j := 2) zbX5_emit_0 rfl) (zby_at (j := 3) zbX5_emit_0 rfl)
theorem dX5_emit_4 : decode cX5_emit 4 = .ok (.ifCond .lt 43, 3) := dq_155 (zby_at (j := 4) zbX5_emit_0 rfl) (zby_at (j := 5) zbX5_emit_0 rfl) (zby_at (j := 6) zbX5_emit_0 rfl) rfl
theorem dX5_emit_7 : decode cX5_emit 7 = .ok (.aload_n 0, 1) := dq_42 (zby_at (j := 7) zbX5_emit_0 rfl)
theorem dX5_emit_8 : decode cX5_emit 8 = .ok (.getfield 18, 3) := dq_180 (zby_at (j := 8) zbX5_emit_0 rfl) (zby_at (j := 9) zbX5_emit_0 rfl) (zby_at (j := 10) zbX5_emit_0 rfl)
theorem dX5_emit_11 : decode cX5_emit 11 = .ok (.sipush 601, 3) := dq_17 (zby_at (j := 11) zbX5_emit_0 rfl) (zby_at (j := 12) zbX5_emit_0 rfl) (zby_at (j := 13) zbX5_emit_0 rfl) rfl
theorem dX5_emit_14 : decode cX5_emit 14 = .ok (.if_icmp .ge 33, 3) := dq_162 (zby_at (j := 14) zbX5_emit_0 rfl) (zby_at (j := 15) zbX5_emit_0 rfl) (zby_at (j := 16) zbX5_emit_0 rfl) rfl
theorem zbX5_emit_1 : zby cX5_emit 16 20 = [33, 42, 180, 0, 21, 42, 180, 0, 18, 27, 79, 42, 180, 0, 25, 42, 180, 0, 18, 28] := by decide +kernel
theorem dX5_emit_17 : decode cX5_emit 17 = .ok (.aload_n 0, 1) := dq_42 (zby_at (j := 1) zbX5_emit_1 rfl)
theorem dX5_emit_18 : decode cX5_emit 18 = .ok (.getfield 21, 3) := dq_180 (zby_at (j := 2) zbX5_emit_1 rfl) (zby_at (j := 3) zbX5_emit_1 rfl) (zby_at (j := 4) zbX5_emit_1 rfl)
theorem dX5_emit_21 : decode cX5_emit 21 = .ok (.aload_n 0, 1) := dq_42 (zby_at (j := 5) zbX5_emit_1 rfl)
theorem dX5_emit_22 : decode cX5_emit 22 = .ok (.getfield 18, 3) := dq_180 (zby_at (j := 6) zbX5_emit_1 rfl) (zby_at (j := 7) zbX5_emit_1 rfl) (zby_at (j := 8) zbX5_emit_1 rfl)
theorem dX5_emit_25 : decode cX5_emit 25 = .ok (.iload_n 1, 1) := dq_27 (zby_at (j := 9) zbX5_emit_1 rfl)
theorem dX5_emit_26 : decode cX5_emit 26 = .ok (.iastore, 1) := dq_79 (zby_at (j := 10) zbX5_emit_1 rfl)
theorem dX5_emit_27 : decode cX5_emit 27 = .ok (.aload_n 0, 1) := dq_42 (zby_at (j := 11) zbX5_emit_1 rfl)
theorem dX5_emit_28 : decode cX5_emit 28 = .ok (.getfield 25, 3) := dq_180 (zby_at (j := 12) zbX5_emit_1 rfl) (zby_at (j := 13) zbX5_emit_1 rfl) (zby_at (j := 14) zbX5_emit_1 rfl)
theorem dX5_emit_31 : decode cX5_emit 31 = .ok (.aload_n 0, 1) := dq_42 (zby_at (j := 15) zbX5_emit_1 rfl)
theorem zbX5_emit_2 : zby cX5_emit 32 20 = [180, 0, 18, 28, 79, 42, 89, 180, 0, 18, 4, 96, 181, 0, 18, 4, 172] := by decide +kernel
theorem dX5_emit_32 : decode cX5_emit 32 = .ok (.getfield 18, 3) := dq_180 (zby_at (j := 0) zbX5_emit_2 rfl) (zby_at (j := 1) zbX5_emit_2 rfl) (zby_at (j := 2) zbX5_emit_2 rfl)
theorem dX5_emit_35 : decode cX5_emit 35 = .ok (.iload_n 2, 1) := dq_28 (zby_at (j := 3) zbX5_emit_2 rfl)
theorem dX5_emit_36 : decode cX5_emit 36 = .ok (.iastore, 1) := dq_79 (zby_at (j := 4) zbX5_emit_2 rfl)
theorem dX5_emit_37 : decode cX5_emit 37 = .ok (.aload_n 0, 1) := dq_42 (zby_at (j := 5) zbX5_emit_2 rfl)
theorem dX5_emit_38 : decode cX5_emit 38 = .ok (.dup, 1) := dq_89 (zby_at (j := 6) zbX5_emit_2 rfl)
theorem dX5_emit_39 : decode cX5_emit 39 = .ok (.getfield 18, 3) := dq_180 (zby_at (j := 7) zbX5_emit_2 rfl) (zby_at (j := 8) zbX5_emit_2 rfl) (zby_at (j := 9) zbX5_emit_2 rfl)
theorem dX5_emit_42 : decode cX5_emit 42 = .ok (.iconst 1, 1) := dq_4 (zby_at (j := 10) zbX5_emit_2 rfl)
theorem dX5_emit_43 : decode cX5_emit 43 = .ok (.iadd, 1) := dq_96 (zby_at (j := 11) zbX5_emit_2 rfl)
theorem dX5_emit_44 : decode cX5_emit 44 = .ok (.putfield 18, 3) := dq_181 (zby_at (j := 12) zbX5_emit_2 rfl) (zby_at (j := 13) zbX5_emit_2 rfl) (zby_at (j := 14) zbX5_emit_2 rfl)
theorem dX5_emit_47 : decode cX5_emit 47 = .ok (.iconst 1, 1) := dq_4 (zby_at (j := 15) zbX5_emit_2 rfl)
theorem zbX5_emit_3 : zby cX5_emit 48 20 = [172] := by decide +kernel
theorem dX5_emit_48 : decode cX5_emit 48 = .ok (.ireturn, 1) := dq_172 (zby_at (j := 0) zbX5_emit_3 rfl)
theorem zbX5_readLine_0 : zby cX5_readLine 0 20 = [42, 180, 0, 44, 42, 180, 0, 41, 46, 5, 160, 0, 15, 42, 180, 0, 47, 42, 180, 0] := by decide +kernel
theorem dX5_readLine_0 : decode cX5_readLine 0 = .ok (.aload_n 0, 1) := dq_42 (zby_at (j := 0) zbX5_readLine_0 rfl)
theorem dX5_readLine_1 : decode cX5_readLine 1 = .ok (.getfield 44, 3) := dq_180 (zby_at (j := 1) zbX5_readLine_0 rfl) (zby_at (j := 2) zbX5_readLine_0 rfl) (zby_at (j := 3) zbX5_readLine_0 rfl)
theorem dX5_readLine_4 : decode cX5_readLine 4 = .ok (.aload_n 0, 1) := dq_42 (zby_at (j := 4) zbX5_readLine_0 rfl)
theorem dX5_readLine_5 : decode cX5_readLine 5 = .ok (.getfield 41, 3) := dq_180 (zby_at (j := 5) zbX5_readLine_0 rfl) (zby_at (j := 6) zbX5_readLine_0 rfl) (zby_at (j := 7) zbX5_readLine_0 rfl)
theorem dX5_readLine_8 : decode cX5_readLine 8 = .ok (.iaload, 1) := dq_46 (zby_at (j := 8) zbX5_readLine_0 rfl)
theorem dX5_readLine_9 : decode cX5_readLine 9 = .ok (.iconst 2, 1) := dq_5 (zby_at (j := 9) zbX5_readLine_0 rfl)
theorem dX5_readLine_10 : decode cX5_readLine 10 = .ok (.if_icmp .ne 15, 3) := dq_160 (zby_at (j := 10) zbX5_readLine_0 rfl) (zby_at (j := 11) zbX5_readLine_0 rfl) (zby_at (j := 12) zbX5_readLine_0 rfl) rfl
theorem dX5_readLine_13 : decode cX5_readLine 13 = .ok (.aload_n 0, 1) := dq_42 (zby_at (j := 13) zbX5_readLine_0 rfl)
theorem dX5_readLine_14 : decode cX5_readLine 14 = .ok (.getfield 47, 3) := dq_180 (zby_at (j := 14) zbX5_readLine_0 rfl) (zby_at (j := 15) zbX5_readLine_0 rfl) (zby_at (j := 16) zbX5_readLine_0 rfl)
theorem zbX5_readLine_1 : zby cX5_readLine 16 20 = [47, 42, 180, 0, 41, 46, 167, 0, 4, 2, 61, 43, 180, 0, 64, 154, 0, 7, 4, 167] := by decide +kernel
theorem dX5_readLine_17 : decode cX5_readLine 17 = .ok (.aload_n 0, 1) := dq_42 (zby_at (j := 1) zbX5_readLine_1 rfl)
theorem dX5_readLine_18 : decode cX5_readLine 18 = .ok (.getfield 41, 3) := dq_180 (zby_at (j := 2) zbX5_readLine_1 rfl) (zby_at (j := 3) zbX5_readLine_1 rfl) (zby_at (j := 4) zbX5_readLine_1 rfl)
theorem dX5_readLine_21 : decode cX5_readLine 21 = .ok (.iaload, 1) := dq_46 (zby_at (j := 5) zbX5_readLine_1 rfl)
theorem dX5_readLine_22 : decode cX5_readLine 22 = .ok (.goto 4, 3) := dq_167 (zby_at (j := 6) zbX5_readLine_1 rfl) (zby_at (j := 7) zbX5_readLine_1 rfl) (zby_at (j := 8) zbX5_readLine_1 rfl) rfl
theorem dX5_readLine_25 : decode cX5_readLine 25 = .ok (.iconst (-1), 1) := dq_2 (zby_at (j := 9) zbX5_readLine_1 rfl)
theorem dX5_readLine_26 : decode cX5_readLine 26 = .ok (.istore_n 2, 1) := dq_61 (zby_at (j := 10) zbX5_readLine_1 rfl)
theorem dX5_readLine_27 : decode cX5_readLine 27 = .ok (.aload_n 1, 1) := dq_43 (zby_at (j := 11) zbX5_readLine_1 rfl)
theorem dX5_readLine_28 : decode cX5_readLine 28 = .ok (.getfield 64, 3) := dq_180 (zby_at (j := 12) zbX5_readLine_1 rfl) (zby_at (j := 13) zbX5_readLine_1 rfl) (zby_at (j := 14) zbX5_readLine_1 rfl)
theorem dX5_readLine_31 : decode cX5_readLine 31 = .ok (.ifCond .ne 7, 3) := dq_154 (zby_at (j := 15) zbX5_readLine_1 rfl) (zby_at (j := 16) zbX5_readLine_1 rfl) (zby_at (j := 17) zbX5_readLine_1 rfl) rfl
theorem zbX5_readLine_2 : zby cX5_readLine 32 20 = [0, 7, 4, 167, 0, 4, 3, 62, 29, 28, 4, 160, 0, 7, 4, 167, 0, 4, 3, 160] := by decide +kernel
theorem dX5_readLine_34 : decode cX5_readLine 34 = .ok (.iconst 1, 1) := dq_4 (zby_at (j := 2) zbX5_readLine_2 rfl)
theorem dX5_readLine_35 : decode cX5_readLine 35 = .ok (.goto 4, 3) := dq_167 (zby_at (j := 3) zbX5_readLine_2 rfl) (zby_at (j := 4) zbX5_readLine_2 rfl) (zby_at (j := 5) zbX5_readLine_2 rfl) rfl
theorem dX5_readLine_38 : decode cX5_readLine 38 = .ok (.iconst 0, 1) := dq_3 (zby_at (j := 6) zbX5_readLine_2 rfl)
theorem dX5_readLine_39 : decode cX5_readLine 39 = .ok (.istore_n 3, 1) := dq_62 (zby_at (j := 7) zbX5_readLine_2 rfl)
theorem dX5_readLine_40 : decode cX5_readLine 40 = .ok (.iload_n 3, 1) := dq_29 (zby_at (j := 8) zbX5_readLine_2 rfl)
theorem dX5_readLine_41 : decode cX5_readLine 41 = .ok (.iload_n 2, 1) := dq_28 (zby_at (j := 9) zbX5_readLine_2 rfl)
theorem dX5_readLine_42 : decode cX5_readLine 42 = .ok (.iconst 1, 1) := dq_4 (zby_at (j := 10) zbX5_readLine_2 rfl)
theorem dX5_readLine_43 : decode cX5_readLine 43 = .ok (.if_icmp .ne 7, 3) := dq_160 (zby_at (j := 11) zbX5_readLine_2 rfl) (zby_at (j := 12) zbX5_readLine_2 rfl) (zby_at (j := 13) zbX5_readLine_2 rfl) rfl
theorem dX5_readLine_46 : decode cX5_readLine 46 = .ok (.iconst 1, 1) := dq_4 (zby_at (j := 14) zbX5_readLine_2 rfl)
theorem dX5_readLine_47 : decode cX5_readLine 47 = .ok (.goto 4, 3) := dq_167 (zby_at (j := 15) zbX5_readLine_2 rfl) (zby_at (j := 16) zbX5_readLine_2 rfl) (zby_at (j := 17) zbX5_readLine_2 rfl) rfl
theorem zbX5_readLine_3 : zby cX5_readLine 48 20 = [0, 4, 3, 160, 0, 13, 28, 4, 161, 0, 8, 28, 7, 164, 0, 9, 42, 4, 182, 0] := by decide +kernel
theorem dX5_readLine_50 : decode cX5_readLine 50 = .ok (.iconst 0, 1) := dq_3 (zby_at (j := 2) zbX5_readLine_3 rfl)
theorem dX5_readLine_51 : decode cX5_readLine 51 = .ok (.if_icmp .ne 13, 3) := dq_160 (zby_at (j := 3) zbX5_readLine_3 rfl) (zby_at (j := 4) zbX5_readLine_3 rfl) (zby_at (j := 5) zbX5_readLine_3 rfl) rfl
theorem dX5_readLine_54 : decode cX5_readLine 54 = .ok (.iload_n 2, 1) := dq_28 (zby_at (j := 6) zbX5_readLine_3 rfl)
theorem dX5_readLine_55 : decode cX5_readLine 55 = .ok (.iconst 1, 1) := dq_4 (zby_at (j := 7) zbX5_readLine_3 rfl)
theorem dX5_readLine_56 : decode cX5_readLine 56 = .ok (.if_icmp .lt 8, 3) := dq_161 (zby_at (j := 8) zbX5_readLine_3 rfl) (zby_at (j := 9) zbX5_readLine_3 rfl) (zby_at (j := 10) zbX5_readLine_3 rfl) rfl
theorem dX5_readLine_59 : decode cX5_readLine 59 = .ok (.iload_n 2, 1) := dq_28 (zby_at (j := 11) zbX5_readLine_3 rfl)
theorem dX5_readLine_60 : decode cX5_readLine 60 = .ok (.iconst 4, 1) := dq_7 (zby_at (j := 12) zbX5_readLine_3 rfl)
theorem dX5_readLine_61 : decode cX5_readLine 61 = .ok (.if_icmp .le 9, 3) := dq_164 (zby_at (j := 13) zbX5_readLine_3 rfl) (zby_at (j := 14) zbX5_readLine_3 rfl) (zby_at (j := 15) zbX5_readLine_3 rfl) rfl
theorem zbX5_readLine_4 : zby cX5_readLine 64 20 = [42, 4, 182, 0, 153, 172, 28, 6, 160, 0, 20, 43, 180, 0, 156, 42, 180, 0, 35, 161] := by decide +kernel
theorem dX5_readLine_64 : decode cX5_readLine 64 = .ok (.aload_n 0, 1) := dq_42 (zby_at (j := 0) zbX5_readLine_4 rfl)
theorem dX5_readLine_65 : decode cX5_readLine 65 = .ok (.iconst 1, 1) := dq_4 (zby_at (j := 1) zbX5_readLine_4 rfl)
theorem dX5_readLine_66 : decode cX5_readLine 66 = .ok (.invokevirtual 153, 3) := dq_182 (zby_at (j := 2) zbX5_readLine_4 rfl) (zby_at (j := 3) zbX5_readLine_4 rfl) (zby_at (j := 4) zbX5_readLine_4 rfl)
theorem dX5_readLine_69 : decode cX5_readLine 69 = .ok (.ireturn, 1) := dq_172 (zby_at (j := 5) zbX5_readLine_4 rfl)
theorem dX5_readLine_70 : decode cX5_readLine 70 = .ok (.iload_n 2, 1) := dq_28 (zby_at (j := 6) zbX5_readLine_4 rfl)
theorem dX5_readLine_71 : decode cX5_readLine 71 = .ok (.iconst 3, 1) := dq_6 (zby_at (j := 7) zbX5_readLine_4 rfl)
theorem dX5_readLine_72 : decode cX5_readLine 72 = .ok (.if_icmp .ne 20, 3) := dq_160 (zby_at (j := 8) zbX5_readLine_4 rfl) (zby_at (j := 9) zbX5_readLine_4 rfl) (zby_at (j := 10) zbX5_readLine_4 rfl) rfl
theorem dX5_readLine_75 : decode cX5_readLine 75 = .ok (.aload_n 1, 1) := dq_43 (zby_at (j := 11) zbX5_readLine_4 rfl)
theorem dX5_readLine_76 : decode cX5_readLine 76 = .ok (.getfield 156, 3) := dq_180 (zby_at (j := 12) zbX5_readLine_4 rfl) (zby_at (j := 13) zbX5_readLine_4 rfl) (zby_at (j := 14) zbX5_readLine_4 rfl)
theorem dX5_readLine_79 : decode cX5_readLine 79 = .ok (.aload_n 0, 1) := dq_42 (zby_at (j := 15) zbX5_readLine_4 rfl)
theorem zbX5_readLine_5 : zby cX5_readLine 80 20 = [180, 0, 35, 161, 0, 9, 42, 6, 182, 0, 153, 172, 42, 5, 182, 0, 73, 87, 42, 180] := by decide +kernel
theorem dX5_readLine_80 : decode cX5_readLine 80 = .ok (.getfield 35, 3) := dq_180 (zby_at (j := 0) zbX5_readLine_5 rfl) (zby_at (j := 1) zbX5_readLine_5 rfl) (zby_at (j := 2) zbX5_readLine_5 rfl)
theorem dX5_readLine_83 : decode cX5_readLine 83 = .ok (.if_icmp .lt 9, 3) := dq_161 (zby_at (j := 3) zbX5_readLine_5 rfl) (zby_at (j := 4) zbX5_readLine_5 rfl) (zby_at (j := 5) zbX5_readLine_5 rfl) rfl
theorem dX5_readLine_86 : decode cX5_readLine 86 = .ok (.aload_n 0, 1) := dq_42 (zby_at (j := 6) zbX5_readLine_5 rfl)
theorem dX5_readLine_87 : decode cX5_readLine 87 = .ok (.iconst 3, 1) := dq_6 (zby_at (j := 7) zbX5_readLine_5 rfl)
theorem dX5_readLine_88 : decode cX5_readLine 88 = .ok (.invokevirtual 153, 3) := dq_182 (zby_at (j := 8) zbX5_readLine_5 rfl) (zby_at (j := 9) zbX5_readLine_5 rfl) (zby_at (j := 10) zbX5_readLine_5 rfl)
theorem dX5_readLine_91 : decode cX5_readLine 91 = .ok (.ireturn, 1) := dq_172 (zby_at (j := 11) zbX5_readLine_5 rfl)
theorem dX5_readLine_92 : decode cX5_readLine 92 = .ok (.aload_n 0, 1) := dq_42 (zby_at (j := 12) zbX5_readLine_5 rfl)
theorem dX5_readLine_93 : decode cX5_readLine 93 = .ok (.iconst 2, 1) := dq_5 (zby_at (j := 13) zbX5_readLine_5 rfl)
theorem dX5_readLine_94 : decode cX5_readLine 94 = .ok (.invokevirtual 73, 3) := dq_182 (zby_at (j := 14) zbX5_readLine_5 rfl) (zby_at (j := 15) zbX5_readLine_5 rfl) (zby_at (j := 16) zbX5_readLine_5 rfl)
theorem zbX5_readLine_6 : zby cX5_readLine 96 20 = [73, 87, 42, 180, 0, 47, 42, 180, 0, 41, 46, 54, 4, 28, 170, 0, 0, 0, 0, 56] := by decide +kernel
theorem dX5_readLine_97 : decode cX5_readLine 97 = .ok (.pop, 1) := dq_87 (zby_at (j := 1) zbX5_readLine_6 rfl)
theorem dX5_readLine_98 : decode cX5_readLine 98 = .ok (.aload_n 0, 1) := dq_42 (zby_at (j := 2) zbX5_readLine_6 rfl)
theorem dX5_readLine_99 : decode cX5_readLine 99 = .ok (.getfield 47, 3) := dq_180 (zby_at (j := 3) zbX5_readLine_6 rfl) (zby_at (j := 4) zbX5_readLine_6 rfl) (zby_at (j := 5) zbX5_readLine_6 rfl)
theorem dX5_readLine_102 : decode cX5_readLine 102 = .ok (.aload_n 0, 1) := dq_42 (zby_at (j := 6) zbX5_readLine_6 rfl)
theorem dX5_readLine_103 : decode cX5_readLine 103 = .ok (.getfield 41, 3) := dq_180 (zby_at (j := 7) zbX5_readLine_6 rfl) (zby_at (j := 8) zbX5_readLine_6 rfl) (zby_at (j := 9) zbX5_readLine_6 rfl)
theorem dX5_readLine_106 : decode cX5_readLine 106 = .ok (.iaload, 1) := dq_46 (zby_at (j := 10) zbX5_readLine_6 rfl)
theorem dX5_readLine_107 : decode cX5_readLine 107 = .ok (.istore 4, 2) := dq_54 (zby_at (j := 11) zbX5_readLine_6 rfl) (zby_at (j := 12) zbX5_readLine_6 rfl)
theorem dX5_readLine_109 : decode cX5_readLine 109 = .ok (.iload_n 2, 1) := dq_28 (zby_at (j := 13) zbX5_readLine_6 rfl)
theorem dX5_readLine_110 : decode cX5_readLine 110 = .ok (.tableswitch 56 1 3 #[26, 36, 46], 26) := by decide +kernel
theorem zbX5_readLine_8 : zby cX5_readLine 128 20 = [0, 0, 0, 36, 0, 0, 0, 46, 42, 43, 182, 0, 159, 54, 5, 167, 0, 68, 42, 43] := by decide +kernel
theorem dX5_readLine_136 : decode cX5_readLine 136 = .ok (.aload_n 0, 1) := dq_42 (zby_at (j := 8) zbX5_readLine_8 rfl)
theorem dX5_readLine_137 : decode cX5_readLine 137 = .ok (.aload_n 1, 1) := dq_43 (zby_at (j := 9) zbX5_readLine_8 rfl)
theorem dX5_readLine_138 : decode cX5_readLine 138 = .ok (.invokevirtual 159, 3) := dq_182 (zby_at (j := 10) zbX5_readLine_8 rfl) (zby_at (j := 11) zbX5_readLine_8 rfl) (zby_at (j := 12) zbX5_readLine_8 rfl)
theorem dX5_readLine_141 : decode cX5_readLine 141 = .ok (.istore 5, 2) := dq_54 (zby_at (j := 13) zbX5_readLine_8 rfl) (zby_at (j := 14) zbX5_readLine_8 rfl)
theorem dX5_readLine_143 : decode cX5_readLine 143 = .ok (.goto 68, 3) := dq_167 (zby_at (j := 15) zbX5_readLine_8 rfl) (zby_at (j := 16) zbX5_readLine_8 rfl) (zby_at (j := 17) zbX5_readLine_8 rfl) rfl
theorem zbX5_readLine_9 : zby cX5_readLine 144 20 = [0, 68, 42, 43, 182, 0, 162, 54, 5, 167, 0, 58, 42, 43, 182, 0, 165, 54, 5, 167] := by decide +kernel
theorem dX5_readLine_146 : decode cX5_readLine 146 = .ok (.aload_n 0, 1) := dq_42 (zby_at (j := 2) zbX5_readLine_9 rfl)
theorem dX5_readLine_147 : decode cX5_readLine 147 = .ok (.aload_n 1, 1) := dq_43 (zby_at (j := 3) zbX5_readLine_9 rfl)
theorem dX5_readLine_148 : decode cX5_readLine 148 = .ok (.invokevirtual 162, 3) := dq_182 (zby_at (j := 4) zbX5_readLine_9 rfl) (zby_at (j := 5) zbX5_readLine_9 rfl) (zby_at (j := 6) zbX5_readLine_9 rfl)
theorem dX5_readLine_151 : decode cX5_readLine 151 = .ok (.istore 5, 2) := dq_54 (zby_at (j := 7) zbX5_readLine_9 rfl) (zby_at (j := 8) zbX5_readLine_9 rfl)
theorem dX5_readLine_153 : decode cX5_readLine 153 = .ok (.goto 58, 3) := dq_167 (zby_at (j := 9) zbX5_readLine_9 rfl) (zby_at (j := 10) zbX5_readLine_9 rfl) (zby_at (j := 11) zbX5_readLine_9 rfl) rfl
theorem dX5_readLine_156 : decode cX5_readLine 156 = .ok (.aload_n 0, 1) := dq_42 (zby_at (j := 12) zbX5_readLine_9 rfl)
theorem dX5_readLine_157 : decode cX5_readLine 157 = .ok (.aload_n 1, 1) := dq_43 (zby_at (j := 13) zbX5_readLine_9 rfl)
theorem dX5_readLine_158 : decode cX5_readLine 158 = .ok (.invokevirtual 165, 3) := dq_182 (zby_at (j := 14) zbX5_readLine_9 rfl) (zby_at (j := 15) zbX5_readLine_9 rfl) (zby_at (j := 16) zbX5_readLine_9 rfl)
theorem zbX5_readLine_10 : zby cX5_readLine 160 20 = [165, 54, 5, 167, 0, 48, 42, 3, 16, 9, 182, 0, 168, 153, 0, 35, 42, 16, 61, 182] := by decide +kernel
theorem dX5_readLine_161 : decode cX5_readLine 161 = .ok (.istore 5, 2) := dq_54 (zby_at (j := 1) zbX5_readLine_10 rfl) (zby_at (j := 2) zbX5_readLine_10 rfl)
theorem dX5_readLine_163 : decode cX5_readLine 163 = .ok (.goto 48, 3) := dq_167 (zby_at (j := 3) zbX5_readLine_10 rfl) (zby_at (j := 4) zbX5_readLine_10 rfl) (zby_at (j := 5) zbX5_readLine_10 rfl) rfl
theorem dX5_readLine_166 : decode cX5_readLine 166 = .ok (.aload_n 0, 1) := dq_42 (zby_at (j := 6) zbX5_readLine_10 rfl)
theorem dX5_readLine_167 : decode cX5_readLine 167 = .ok (.iconst 0, 1) := dq_3 (zby_at (j := 7) zbX5_readLine_10 rfl)
theorem dX5_readLine_168 : decode cX5_readLine 168 = .ok (.bipush 9, 2) := dq_16 (zby_at (j := 8) zbX5_readLine_10 rfl) (zby_at (j := 9) zbX5_readLine_10 rfl) rfl
theorem dX5_readLine_170 : decode cX5_readLine 170 = .ok (.invokevirtual 168, 3) := dq_182 (zby_at (j := 10) zbX5_readLine_10 rfl) (zby_at (j := 11) zbX5_readLine_10 rfl) (zby_at (j := 12) zbX5_readLine_10 rfl)
theorem dX5_readLine_173 : decode cX5_readLine 173 = .ok (.ifCond .eq 35, 3) := dq_153 (zby_at (j := 13) zbX5_readLine_10 rfl) (zby_at (j := 14) zbX5_readLine_10 rfl) (zby_at (j := 15) zbX5_readLine_10 rfl) rfl
theorem zbX5_readLine_11 : zby cX5_readLine 176 20 = [42, 16, 61, 182, 0, 73, 153, 0, 26, 42, 3, 182, 0, 69, 153, 0, 18, 42, 16, 6] := by decide +kernel
theorem dX5_readLine_176 : decode cX5_readLine 176 = .ok (.aload_n 0, 1) := dq_42 (zby_at (j := 0) zbX5_readLine_11 rfl)
theorem dX5_readLine_177 : decode cX5_readLine 177 = .ok (.bipush 61, 2) := dq_16 (zby_at (j := 1) zbX5_readLine_11 rfl) (zby_at (j := 2) zbX5_readLine_11 rfl) rfl
theorem dX5_readLine_179 : decode cX5_readLine 179 = .ok (.invokevirtual 73, 3) := dq_182 (zby_at (j := 3) zbX5_readLine_11 rfl) (zby_at (j := 4) zbX5_readLine_11 rfl) (zby_at (j := 5) zbX5_readLine_11 rfl)
theorem dX5_readLine_182 : decode cX5_readLine 182 = .ok (.ifCond .eq 26, 3) := dq_153 (zby_at (j := 6) zbX5_readLine_11 rfl) (zby_at (j := 7) zbX5_readLine_11 rfl) (zby_at (j := 8) zbX5_readLine_11 rfl) rfl
theorem dX5_readLine_185 : decode cX5_readLine 185 = .ok (.aload_n 0, 1) := dq_42 (zby_at (j := 9) zbX5_readLine_11 rfl)
theorem dX5_readLine_186 : decode cX5_readLine 186 = .ok (.iconst 0, 1) := dq_3 (zby_at (j := 10) zbX5_readLine_11 rfl)
theorem dX5_readLine_187 : decode cX5_readLine 187 = .ok (.invokevirtual 69, 3) := dq_182 (zby_at (j := 11) zbX5_readLine_11 rfl) (zby_at (j := 12) zbX5_readLine_11 rfl) (zby_at (j := 13) zbX5_readLine_11 rfl)
theorem dX5_readLine_190 : decode cX5_readLine 190 = .ok (.ifCond .eq 18, 3) := dq_153 (zby_at (j := 14) zbX5_readLine_11 rfl) (zby_at (j := 15) zbX5_readLine_11 rfl) (zby_at (j := 16) zbX5_readLine_11 rfl) rfl
theorem zbX5_readLine_12 : zby cX5_readLine 192 20 = [18, 42, 16, 6, 21, 4, 182, 0, 76, 153, 0, 7, 4, 167, 0, 4, 3, 54, 5, 21] := by decide +kernel
theorem dX5_readLine_193 : decode cX5_readLine 193 = .ok (.aload_n 0, 1) := dq_42 (zby_at (j := 1) zbX5_readLine_12 rfl)
theorem dX5_readLine_194 : decode cX5_readLine 194 = .ok (.bipush 6, 2) := dq_16 (zby_at (j := 2) zbX5_readLine_12 rfl) (zby_at (j := 3) zbX5_readLine_12 rfl) rfl
theorem dX5_readLine_196 : decode cX5_readLine 196 = .ok (.iload 4, 2) := dq_21 (zby_at (j := 4) zbX5_readLine_12 rfl) (zby_at (j := 5) zbX5_readLine_12 rfl)
theorem dX5_readLine_198 : decode cX5_readLine 198 = .ok (.invokevirtual 76, 3) := dq_182 (zby_at (j := 6) zbX5_readLine_12 rfl) (zby_at (j := 7) zbX5_readLine_12 rfl) (zby_at (j := 8) zbX5_readLine_12 rfl)
theorem dX5_readLine_201 : decode cX5_readLine 201 = .ok (.ifCond .eq 7, 3) := dq_153 (zby_at (j := 9) zbX5_readLine_12 rfl) (zby_at (j := 10) zbX5_readLine_12 rfl) (zby_at (j := 11) zbX5_readLine_12 rfl) rfl
theorem dX5_readLine_204 : decode cX5_readLine 204 = .ok (.iconst 1, 1) := dq_4 (zby_at (j := 12) zbX5_readLine_12 rfl)
theorem dX5_readLine_205 : decode cX5_readLine 205 = .ok (.goto 4, 3) := dq_167 (zby_at (j := 13) zbX5_readLine_12 rfl) (zby_at (j := 14) zbX5_readLine_12 rfl) (zby_at (j := 15) zbX5_readLine_12 rfl) rfl
theorem zbX5_readLine_13 : zby cX5_readLine 208 20 = [3, 54, 5, 21, 5, 153, 0, 16, 42, 16, 59, 182, 0, 73, 153, 0, 7, 4, 167, 0] := by decide +kernel
theorem dX5_readLine_208 : decode cX5_readLine 208 = .ok (.iconst 0, 1) := dq_3 (zby_at (j := 0) zbX5_readLine_13 rfl)
theorem dX5_readLine_209 : decode cX5_readLine 209 = .ok (.istore 5, 2) := dq_54 (zby_at (j := 1) zbX5_readLine_13 rfl) (zby_at (j := 2) zbX5_readLine_13 rfl)
theorem dX5_readLine_211 : decode cX5_readLine 211 = .ok (.iload 5, 2) := dq_21 (zby_at (j := 3) zbX5_readLine_13 rfl) (zby_at (j := 4) zbX5_readLine_13 rfl)
theorem dX5_readLine_213 : decode cX5_readLine 213 = .ok (.ifCond .eq 16, 3) := dq_153 (zby_at (j := 5) zbX5_readLine_13 rfl) (zby_at (j := 6) zbX5_readLine_13 rfl) (zby_at (j := 7) zbX5_readLine_13 rfl) rfl
theorem dX5_readLine_216 : decode cX5_readLine 216 = .ok (.aload_n 0, 1) := dq_42 (zby_at (j := 8) zbX5_readLine_13 rfl)
theorem dX5_readLine_217 : decode cX5_readLine 217 = .ok (.bipush 59, 2) := dq_16 (zby_at (j := 9) zbX5_readLine_13 rfl) (zby_at (j := 10) zbX5_readLine_13 rfl) rfl
theorem dX5_readLine_219 : decode cX5_readLine 219 = .ok (.invokevirtual 73, 3) := dq_182 (zby_at (j := 11) zbX5_readLine_13 rfl) (zby_at (j := 12) zbX5_readLine_13 rfl) (zby_at (j := 13) zbX5_readLine_13 rfl)
theorem dX5_readLine_222 : decode cX5_readLine 222 = .ok (.ifCond .eq 7, 3) := dq_153 (zby_at (j := 14) zbX5_readLine_13 rfl) (zby_at (j := 15) zbX5_readLine_13 rfl) (zby_at (j := 16) zbX5_readLine_13 rfl) rfl
theorem zbX5_readLine_14 : zby cX5_readLine 224 20 = [7, 4, 167, 0, 4, 3, 172] := by decide +kernel
theorem dX5_readLine_225 : decode cX5_readLine 225 = .ok (.iconst 1, 1) := dq_4 (zby_at (j := 1) zbX5_readLine_14 rfl)
theorem dX5_readLine_226 : decode cX5_readLine 226 = .ok (.goto 4, 3) := dq_167 (zby_at (j := 2) zbX5_readLine_14 rfl) (zby_at (j := 3) zbX5_readLine_14 rfl) (zby_at (j := 4) zbX5_readLine_14 rfl) rfl
theorem dX5_readLine_229 : decode cX5_readLine 229 = .ok (.iconst 0, 1) := dq_3 (zby_at (j := 5) zbX5_readLine_14 rfl)
theorem dX5_readLine_230 : decode cX5_readLine 230 = .ok (.ireturn, 1) := dq_172 (zby_at (j := 6) zbX5_readLine_14 rfl)
theorem zbX5_readNames_0 : zby cX5_readNames 0 20 = [42, 4, 16, 10, 182, 0, 168, 154, 0, 5, 3, 172, 42, 42, 182, 0, 171, 181, 0, 35] := by decide +kernel
theorem dX5_readNames_0 : decode cX5_readNames 0 = .ok (.aload_n 0, 1) := dq_42 (zby_at (j := 0) zbX5_readNames_0 rfl)
theorem dX5_readNames_1 : decode cX5_readNames 1 = .ok (.iconst 1, 1) := dq_4 (zby_at (j := 1) zbX5_readNames_0 rfl)
theorem dX5_readNames_2 : decode cX5_readNames 2 = .ok (.bipush 10, 2) := dq_16 (zby_at (j := 2) zbX5_readNames_0 rfl) (zby_at (j := 3) zbX5_readNames_0 rfl) rfl
theorem dX5_readNames_4 : decode cX5_readNames 4 = .ok (.invokevirtual 168, 3) := dq_182 (zby_at (j := 4) zbX5_readNames_0 rfl) (zby_at (j := 5) zbX5_readNames_0 rfl) (zby_at (j := 6) zbX5_readNames_0 rfl)
theorem dX5_readNames_7 : decode cX5_readNames 7 = .ok (.ifCond .ne 5, 3) := dq_154 (zby_at (j := 7) zbX5_readNames_0 rfl) (zby_at (j := 8) zbX5_readNames_0 rfl) (zby_at (j := 9) zbX5_readNames_0 rfl) rfl
theorem dX5_readNames_10 : decode cX5_readNames 10 = .ok (.iconst 0, 1) := dq_3 (zby_at (j := 10) zbX5_readNames_0 rfl)
theorem dX5_readNames_11 : decode cX5_readNames 11 = .ok (.ireturn, 1) := dq_172 (zby_at (j := 11) zbX5_readNames_0 rfl)
theorem dX5_readNames_12 : decode cX5_readNames 12 = .ok (.aload_n 0, 1) := dq_42 (zby_at (j := 12) zbX5_readNames_0 rfl)
theorem dX5_readNames_13 : decode cX5_readNames 13 = .ok (.aload_n 0, 1) := dq_42 (zby_at (j := 13) zbX5_readNames_0 rfl)
theorem dX5_readNames_14 : decode cX5_readNames 14 = .ok (.invokevirtual 171, 3) := dq_182 (zby_at (j := 14) zbX5_readNames_0 rfl) (zby_at (j := 15) zbX5_readNames_0 rfl) (zby_at (j := 16) zbX5_readNames_0 rfl)
theorem zbX5_readNames_1 : zby cX5_readNames 16 20 = [171, 181, 0, 35, 43, 42, 180, 0, 35, 181, 0, 174, 4, 172] := by decide +kernel
theorem dX5_readNames_17 : decode cX5_readNames 17 = .ok (.putfield 35, 3) := dq_181 (zby_at (j := 1) zbX5_readNames_1 rfl) (zby_at (j := 2) zbX5_readNames_1 rfl) (zby_at (j := 3) zbX5_readNames_1 rfl)
theorem dX5_readNames_20 : decode cX5_readNames 20 = .ok (.aload_n 1, 1) := dq_43 (zby_at (j := 4) zbX5_readNames_1 rfl)
theorem dX5_readNames_21 : decode cX5_readNames 21 = .ok (.aload_n 0, 1) := dq_42 (zby_at (j := 5) zbX5_readNames_1 rfl)
theorem dX5_readNames_22 : decode cX5_readNames 22 = .ok (.getfield 35, 3) := dq_180 (zby_at (j := 6) zbX5_readNames_1 rfl) (zby_at (j := 7) zbX5_readNames_1 rfl) (zby_at (j := 8) zbX5_readNames_1 rfl)
theorem dX5_readNames_25 : decode cX5_readNames 25 = .ok (.putfield 174, 3) := dq_181 (zby_at (j := 9) zbX5_readNames_1 rfl) (zby_at (j := 10) zbX5_readNames_1 rfl) (zby_at (j := 11) zbX5_readNames_1 rfl)
theorem dX5_readNames_28 : decode cX5_readNames 28 = .ok (.iconst 1, 1) := dq_4 (zby_at (j := 12) zbX5_readNames_1 rfl)
theorem dX5_readNames_29 : decode cX5_readNames 29 = .ok (.ireturn, 1) := dq_172 (zby_at (j := 13) zbX5_readNames_1 rfl)
theorem zbX5_readWeight_0 : zby cX5_readWeight 0 20 = [42, 180, 0, 44, 42, 180, 0, 41, 46, 5, 160, 0, 26, 42, 180, 0, 53, 42, 180, 0] := by decide +kernel
theorem dX5_readWeight_0 : decode cX5_readWeight 0 = .ok (.aload_n 0, 1) := dq_42 (zby_at (j := 0) zbX5_readWeight_0 rfl)
theorem dX5_readWeight_1 : decode cX5_readWeight 1 = .ok (.getfield 44, 3) := dq_180 (zby_at (j := 1) zbX5_readWeight_0 rfl) (zby_at (j := 2) zbX5_readWeight_0 rfl) (zby_at (j := 3) zbX5_readWeight_0 rfl)
theorem dX5_readWeight_4 : decode cX5_readWeight 4 = .ok (.aload_n 0, 1) := dq_42 (zby_at (j := 4) zbX5_readWeight_0 rfl)
theorem dX5_readWeight_5 : decode cX5_readWeight 5 = .ok (.getfield 41, 3) := dq_180 (zby_at (j := 5) zbX5_readWeight_0 rfl) (zby_at (j := 6) zbX5_readWeight_0 rfl) (zby_at (j := 7) zbX5_readWeight_0 rfl)
theorem dX5_readWeight_8 : decode cX5_readWeight 8 = .ok (.iaload, 1) := dq_46 (zby_at (j := 8) zbX5_readWeight_0 rfl)
theorem dX5_readWeight_9 : decode cX5_readWeight 9 = .ok (.iconst 2, 1) := dq_5 (zby_at (j := 9) zbX5_readWeight_0 rfl)
theorem dX5_readWeight_10 : decode cX5_readWeight 10 = .ok (.if_icmp .ne 26, 3) := dq_160 (zby_at (j := 10) zbX5_readWeight_0 rfl) (zby_at (j := 11) zbX5_readWeight_0 rfl) (zby_at (j := 12) zbX5_readWeight_0 rfl) rfl
theorem dX5_readWeight_13 : decode cX5_readWeight 13 = .ok (.aload_n 0, 1) := dq_42 (zby_at (j := 13) zbX5_readWeight_0 rfl)
theorem dX5_readWeight_14 : decode cX5_readWeight 14 = .ok (.getfield 53, 3) := dq_180 (zby_at (j := 14) zbX5_readWeight_0 rfl) (zby_at (j := 15) zbX5_readWeight_0 rfl) (zby_at (j := 16) zbX5_readWeight_0 rfl)
theorem zbX5_readWeight_1 : zby cX5_readWeight 16 20 = [53, 42, 180, 0, 41, 46, 42, 180, 0, 50, 42, 180, 0, 41, 46, 100, 4, 159, 0, 9] := by decide +kernel
theorem dX5_readWeight_17 : decode cX5_readWeight 17 = .ok (.aload_n 0, 1) := dq_42 (zby_at (j := 1) zbX5_readWeight_1 rfl)
theorem dX5_readWeight_18 : decode cX5_readWeight 18 = .ok (.getfield 41, 3) := dq_180 (zby_at (j := 2) zbX5_readWeight_1 rfl) (zby_at (j := 3) zbX5_readWeight_1 rfl) (zby_at (j := 4) zbX5_readWeight_1 rfl)
theorem dX5_readWeight_21 : decode cX5_readWeight 21 = .ok (.iaload, 1) := dq_46 (zby_at (j := 5) zbX5_readWeight_1 rfl)
theorem dX5_readWeight_22 : decode cX5_readWeight 22 = .ok (.aload_n 0, 1) := dq_42 (zby_at (j := 6) zbX5_readWeight_1 rfl)
theorem dX5_readWeight_23 : decode cX5_readWeight 23 = .ok (.getfield 50, 3) := dq_180 (zby_at (j := 7) zbX5_readWeight_1 rfl) (zby_at (j := 8) zbX5_readWeight_1 rfl) (zby_at (j := 9) zbX5_readWeight_1 rfl)
theorem dX5_readWeight_26 : decode cX5_readWeight 26 = .ok (.aload_n 0, 1) := dq_42 (zby_at (j := 10) zbX5_readWeight_1 rfl)
theorem dX5_readWeight_27 : decode cX5_readWeight 27 = .ok (.getfield 41, 3) := dq_180 (zby_at (j := 11) zbX5_readWeight_1 rfl) (zby_at (j := 12) zbX5_readWeight_1 rfl) (zby_at (j := 13) zbX5_readWeight_1 rfl)
theorem dX5_readWeight_30 : decode cX5_readWeight 30 = .ok (.iaload, 1) := dq_46 (zby_at (j := 14) zbX5_readWeight_1 rfl)
theorem dX5_readWeight_31 : decode cX5_readWeight 31 = .ok (.isub, 1) := dq_100 (zby_at (j := 15) zbX5_readWeight_1 rfl)
theorem zbX5_readWeight_2 : zby cX5_readWeight 32 20 = [4, 159, 0, 9, 42, 4, 182, 0, 153, 172, 42, 180, 0, 28, 42, 180, 0, 50, 42, 180] := by decide +kernel
theorem dX5_readWeight_32 : decode cX5_readWeight 32 = .ok (.iconst 1, 1) := dq_4 (zby_at (j := 0) zbX5_readWeight_2 rfl)
theorem dX5_readWeight_33 : decode cX5_readWeight 33 = .ok (.if_icmp .eq 9, 3) := dq_159 (zby_at (j := 1) zbX5_readWeight_2 rfl) (zby_at (j := 2) zbX5_readWeight_2 rfl) (zby_at (j := 3) zbX5_readWeight_2 rfl) rfl
theorem dX5_readWeight_36 : decode cX5_readWeight 36 = .ok (.aload_n 0, 1) := dq_42 (zby_at (j := 4) zbX5_readWeight_2 rfl)
theorem dX5_readWeight_37 : decode cX5_readWeight 37 = .ok (.iconst 1, 1) := dq_4 (zby_at (j := 5) zbX5_readWeight_2 rfl)
theorem dX5_readWeight_38 : decode cX5_readWeight 38 = .ok (.invokevirtual 153, 3) := dq_182 (zby_at (j := 6) zbX5_readWeight_2 rfl) (zby_at (j := 7) zbX5_readWeight_2 rfl) (zby_at (j := 8) zbX5_readWeight_2 rfl)
theorem dX5_readWeight_41 : decode cX5_readWeight 41 = .ok (.ireturn, 1) := dq_172 (zby_at (j := 9) zbX5_readWeight_2 rfl)
theorem dX5_readWeight_42 : decode cX5_readWeight 42 = .ok (.aload_n 0, 1) := dq_42 (zby_at (j := 10) zbX5_readWeight_2 rfl)
theorem dX5_readWeight_43 : decode cX5_readWeight 43 = .ok (.getfield 28, 3) := dq_180 (zby_at (j := 11) zbX5_readWeight_2 rfl) (zby_at (j := 12) zbX5_readWeight_2 rfl) (zby_at (j := 13) zbX5_readWeight_2 rfl)
theorem dX5_readWeight_46 : decode cX5_readWeight 46 = .ok (.aload_n 0, 1) := dq_42 (zby_at (j := 14) zbX5_readWeight_2 rfl)
theorem dX5_readWeight_47 : decode cX5_readWeight 47 = .ok (.getfield 50, 3) := dq_180 (zby_at (j := 15) zbX5_readWeight_2 rfl) (zby_at (j := 16) zbX5_readWeight_2 rfl) (zby_at (j := 17) zbX5_readWeight_2 rfl)
theorem zbX5_readWeight_3 : zby cX5_readWeight 48 20 = [0, 50, 42, 180, 0, 41, 46, 51, 16, 97, 100, 61, 28, 155, 0, 21, 28, 42, 180, 0] := by decide +kernel
theorem dX5_readWeight_50 : decode cX5_readWeight 50 = .ok (.aload_n 0, 1) := dq_42 (zby_at (j := 2) zbX5_readWeight_3 rfl)
theorem dX5_readWeight_51 : decode cX5_readWeight 51 = .ok (.getfield 41, 3) := dq_180 (zby_at (j := 3) zbX5_readWeight_3 rfl) (zby_at (j := 4) zbX5_readWeight_3 rfl) (zby_at (j := 5) zbX5_readWeight_3 rfl)
theorem dX5_readWeight_54 : decode cX5_readWeight 54 = .ok (.iaload, 1) := dq_46 (zby_at (j := 6) zbX5_readWeight_3 rfl)
theorem dX5_readWeight_55 : decode cX5_readWeight 55 = .ok (.baload, 1) := dq_51 (zby_at (j := 7) zbX5_readWeight_3 rfl)
theorem dX5_readWeight_56 : decode cX5_readWeight 56 = .ok (.bipush 97, 2) := dq_16 (zby_at (j := 8) zbX5_readWeight_3 rfl) (zby_at (j := 9) zbX5_readWeight_3 rfl) rfl
theorem dX5_readWeight_58 : decode cX5_readWeight 58 = .ok (.isub, 1) := dq_100 (zby_at (j := 10) zbX5_readWeight_3 rfl)
theorem dX5_readWeight_59 : decode cX5_readWeight 59 = .ok (.istore_n 2, 1) := dq_61 (zby_at (j := 11) zbX5_readWeight_3 rfl)
theorem dX5_readWeight_60 : decode cX5_readWeight 60 = .ok (.iload_n 2, 1) := dq_28 (zby_at (j := 12) zbX5_readWeight_3 rfl)
theorem dX5_readWeight_61 : decode cX5_readWeight 61 = .ok (.ifCond .lt 21, 3) := dq_155 (zby_at (j := 13) zbX5_readWeight_3 rfl) (zby_at (j := 14) zbX5_readWeight_3 rfl) (zby_at (j := 15) zbX5_readWeight_3 rfl) rfl
theorem zbX5_readWeight_4 : zby cX5_readWeight 64 20 = [28, 42, 180, 0, 35, 162, 0, 13, 28, 16, 10, 162, 0, 7, 4, 167, 0, 4, 3, 62] := by decide +kernel
theorem dX5_readWeight_64 : decode cX5_readWeight 64 = .ok (.iload_n 2, 1) := dq_28 (zby_at (j := 0) zbX5_readWeight_4 rfl)
theorem dX5_readWeight_65 : decode cX5_readWeight 65 = .ok (.aload_n 0, 1) := dq_42 (zby_at (j := 1) zbX5_readWeight_4 rfl)
theorem dX5_readWeight_66 : decode cX5_readWeight 66 = .ok (.getfield 35, 3) := dq_180 (zby_at (j := 2) zbX5_readWeight_4 rfl) (zby_at (j := 3) zbX5_readWeight_4 rfl) (zby_at (j := 4) zbX5_readWeight_4 rfl)
theorem dX5_readWeight_69 : decode cX5_readWeight 69 = .ok (.if_icmp .ge 13, 3) := dq_162 (zby_at (j := 5) zbX5_readWeight_4 rfl) (zby_at (j := 6) zbX5_readWeight_4 rfl) (zby_at (j := 7) zbX5_readWeight_4 rfl) rfl
theorem dX5_readWeight_72 : decode cX5_readWeight 72 = .ok (.iload_n 2, 1) := dq_28 (zby_at (j := 8) zbX5_readWeight_4 rfl)
theorem dX5_readWeight_73 : decode cX5_readWeight 73 = .ok (.bipush 10, 2) := dq_16 (zby_at (j := 9) zbX5_readWeight_4 rfl) (zby_at (j := 10) zbX5_readWeight_4 rfl) rfl
theorem dX5_readWeight_75 : decode cX5_readWeight 75 = .ok (.if_icmp .ge 7, 3) := dq_162 (zby_at (j := 11) zbX5_readWeight_4 rfl) (zby_at (j := 12) zbX5_readWeight_4 rfl) (zby_at (j := 13) zbX5_readWeight_4 rfl) rfl
theorem dX5_readWeight_78 : decode cX5_readWeight 78 = .ok (.iconst 1, 1) := dq_4 (zby_at (j := 14) zbX5_readWeight_4 rfl)
theorem dX5_readWeight_79 : decode cX5_readWeight 79 = .ok (.goto 4, 3) := dq_167 (zby_at (j := 15) zbX5_readWeight_4 rfl) (zby_at (j := 16) zbX5_readWeight_4 rfl) (zby_at (j := 17) zbX5_readWeight_4 rfl) rfl
theorem zbX5_readWeight_5 : zby cX5_readWeight 80 20 = [0, 4, 3, 62, 42, 29, 5, 182, 0, 149, 153, 0, 13, 42, 3, 16, 99, 182, 0, 168] := by decide +kernel
theorem dX5_readWeight_82 : decode cX5_readWeight 82 = .ok (.iconst 0, 1) := dq_3 (zby_at (j := 2) zbX5_readWeight_5 rfl)
theorem dX5_readWeight_83 : decode cX5_readWeight 83 = .ok (.istore_n 3, 1) := dq_62 (zby_at (j := 3) zbX5_readWeight_5 rfl)
theorem dX5_readWeight_84 : decode cX5_readWeight 84 = .ok (.aload_n 0, 1) := dq_42 (zby_at (j := 4) zbX5_readWeight_5 rfl)
theorem dX5_readWeight_85 : decode cX5_readWeight 85 = .ok (.iload_n 3, 1) := dq_29 (zby_at (j := 5) zbX5_readWeight_5 rfl)
theorem dX5_readWeight_86 : decode cX5_readWeight 86 = .ok (.iconst 2, 1) := dq_5 (zby_at (j := 6) zbX5_readWeight_5 rfl)
theorem dX5_readWeight_87 : decode cX5_readWeight 87 = .ok (.invokevirtual 149, 3) := dq_182 (zby_at (j := 7) zbX5_readWeight_5 rfl) (zby_at (j := 8) zbX5_readWeight_5 rfl) (zby_at (j := 9) zbX5_readWeight_5 rfl)
theorem dX5_readWeight_90 : decode cX5_readWeight 90 = .ok (.ifCond .eq 13, 3) := dq_153 (zby_at (j := 10) zbX5_readWeight_5 rfl) (zby_at (j := 11) zbX5_readWeight_5 rfl) (zby_at (j := 12) zbX5_readWeight_5 rfl) rfl
theorem dX5_readWeight_93 : decode cX5_readWeight 93 = .ok (.aload_n 0, 1) := dq_42 (zby_at (j := 13) zbX5_readWeight_5 rfl)
theorem dX5_readWeight_94 : decode cX5_readWeight 94 = .ok (.iconst 0, 1) := dq_3 (zby_at (j := 14) zbX5_readWeight_5 rfl)
theorem dX5_readWeight_95 : decode cX5_readWeight 95 = .ok (.bipush 99, 2) := dq_16 (zby_at (j := 15) zbX5_readWeight_5 rfl) (zby_at (j := 16) zbX5_readWeight_5 rfl) rfl
theorem zbX5_readWeight_6 : zby cX5_readWeight 96 20 = [99, 182, 0, 168, 154, 0, 5, 3, 172, 43, 180, 0, 175, 28, 42, 182, 0, 171, 79, 4] := by decide +kernel
theorem dX5_readWeight_97 : decode cX5_readWeight 97 = .ok (.invokevirtual 168, 3) := dq_182 (zby_at (j := 1) zbX5_readWeight_6 rfl) (zby_at (j := 2) zbX5_readWeight_6 rfl) (zby_at (j := 3) zbX5_readWeight_6 rfl)
theorem dX5_readWeight_100 : decode cX5_readWeight 100 = .ok (.ifCond .ne 5, 3) := dq_154 (zby_at (j := 4) zbX5_readWeight_6 rfl) (zby_at (j := 5) zbX5_readWeight_6 rfl) (zby_at (j := 6) zbX5_readWeight_6 rfl) rfl
theorem dX5_readWeight_103 : decode cX5_readWeight 103 = .ok (.iconst 0, 1) := dq_3 (zby_at (j := 7) zbX5_readWeight_6 rfl)
theorem dX5_readWeight_104 : decode cX5_readWeight 104 = .ok (.ireturn, 1) := dq_172 (zby_at (j := 8) zbX5_readWeight_6 rfl)
theorem dX5_readWeight_105 : decode cX5_readWeight 105 = .ok (.aload_n 1, 1) := dq_43 (zby_at (j := 9) zbX5_readWeight_6 rfl)
theorem dX5_readWeight_106 : decode cX5_readWeight 106 = .ok (.getfield 175, 3) := dq_180 (zby_at (j := 10) zbX5_readWeight_6 rfl) (zby_at (j := 11) zbX5_readWeight_6 rfl) (zby_at (j := 12) zbX5_readWeight_6 rfl)
theorem dX5_readWeight_109 : decode cX5_readWeight 109 = .ok (.iload_n 2, 1) := dq_28 (zby_at (j := 13) zbX5_readWeight_6 rfl)
theorem dX5_readWeight_110 : decode cX5_readWeight 110 = .ok (.aload_n 0, 1) := dq_42 (zby_at (j := 14) zbX5_readWeight_6 rfl)
theorem dX5_readWeight_111 : decode cX5_readWeight 111 = .ok (.invokevirtual 171, 3) := dq_182 (zby_at (j := 15) zbX5_readWeight_6 rfl) (zby_at (j := 16) zbX5_readWeight_6 rfl) (zby_at (j := 17) zbX5_readWeight_6 rfl)
theorem zbX5_readWeight_7 : zby cX5_readWeight 112 20 = [0, 171, 79, 4, 172] := by decide +kernel
theorem dX5_readWeight_114 : decode cX5_readWeight 114 = .ok (.iastore, 1) := dq_79 (zby_at (j := 2) zbX5_readWeight_7 rfl)
theorem dX5_readWeight_115 : decode cX5_readWeight 115 = .ok (.iconst 1, 1) := dq_4 (zby_at (j := 3) zbX5_readWeight_7 rfl)
theorem dX5_readWeight_116 : decode cX5_readWeight 116 = .ok (.ireturn, 1) := dq_172 (zby_at (j := 4) zbX5_readWeight_7 rfl)
theorem zbX5_readEdge_0 : zby cX5_readEdge 0 20 = [42, 3, 16, 7, 182, 0, 168, 154, 0, 5, 3, 172, 42, 182, 0, 171, 61, 42, 180, 0] := by decide +kernel
theorem dX5_readEdge_0 : decode cX5_readEdge 0 = .ok (.aload_n 0, 1) := dq_42 (zby_at (j := 0) zbX5_readEdge_0 rfl)
theorem dX5_readEdge_1 : decode cX5_readEdge 1 = .ok (.iconst 0, 1) := dq_3 (zby_at (j := 1) zbX5_readEdge_0 rfl)
theorem dX5_readEdge_2 : decode cX5_readEdge 2 = .ok (.bipush 7, 2) := dq_16 (zby_at (j := 2) zbX5_readEdge_0 rfl) (zby_at (j := 3) zbX5_readEdge_0 rfl) rfl
theorem dX5_readEdge_4 : decode cX5_readEdge 4 = .ok (.invokevirtual 168, 3) := dq_182 (zby_at (j := 4) zbX5_readEdge_0 rfl) (zby_at (j := 5) zbX5_readEdge_0 rfl) (zby_at (j := 6) zbX5_readEdge_0 rfl)
theorem dX5_readEdge_7 : decode cX5_readEdge 7 = .ok (.ifCond .ne 5, 3) := dq_154 (zby_at (j := 7) zbX5_readEdge_0 rfl) (zby_at (j := 8) zbX5_readEdge_0 rfl) (zby_at (j := 9) zbX5_readEdge_0 rfl) rfl
theorem dX5_readEdge_10 : decode cX5_readEdge 10 = .ok (.iconst 0, 1) := dq_3 (zby_at (j := 10) zbX5_readEdge_0 rfl)
theorem dX5_readEdge_11 : decode cX5_readEdge 11 = .ok (.ireturn, 1) := dq_172 (zby_at (j := 11) zbX5_readEdge_0 rfl)
theorem dX5_readEdge_12 : decode cX5_readEdge 12 = .ok (.aload_n 0, 1) := dq_42 (zby_at (j := 12) zbX5_readEdge_0 rfl)
theorem dX5_readEdge_13 : decode cX5_readEdge 13 = .ok (.invokevirtual 171, 3) := dq_182 (zby_at (j := 13) zbX5_readEdge_0 rfl) (zby_at (j := 14) zbX5_readEdge_0 rfl) (zby_at (j := 15) zbX5_readEdge_0 rfl)
theorem zbX5_readEdge_1 : zby cX5_readEdge 16 20 = [61, 42, 180, 0, 44, 42, 180, 0, 41, 46, 6, 160, 0, 22, 42, 180, 0, 47, 42, 180] := by decide +kernel
theorem dX5_readEdge_16 : decode cX5_readEdge 16 = .ok (.istore_n 2, 1) := dq_61 (zby_at (j := 0) zbX5_readEdge_1 rfl)
theorem dX5_readEdge_17 : decode cX5_readEdge 17 = .ok (.aload_n 0, 1) := dq_42 (zby_at (j := 1) zbX5_readEdge_1 rfl)
theorem dX5_readEdge_18 : decode cX5_readEdge 18 = .ok (.getfield 44, 3) := dq_180 (zby_at (j := 2) zbX5_readEdge_1 rfl) (zby_at (j := 3) zbX5_readEdge_1 rfl) (zby_at (j := 4) zbX5_readEdge_1 rfl)
theorem dX5_readEdge_21 : decode cX5_readEdge 21 = .ok (.aload_n 0, 1) := dq_42 (zby_at (j := 5) zbX5_readEdge_1 rfl)
theorem dX5_readEdge_22 : decode cX5_readEdge 22 = .ok (.getfield 41, 3) := dq_180 (zby_at (j := 6) zbX5_readEdge_1 rfl) (zby_at (j := 7) zbX5_readEdge_1 rfl) (zby_at (j := 8) zbX5_readEdge_1 rfl)
theorem dX5_readEdge_25 : decode cX5_readEdge 25 = .ok (.iaload, 1) := dq_46 (zby_at (j := 9) zbX5_readEdge_1 rfl)
theorem dX5_readEdge_26 : decode cX5_readEdge 26 = .ok (.iconst 3, 1) := dq_6 (zby_at (j := 10) zbX5_readEdge_1 rfl)
theorem dX5_readEdge_27 : decode cX5_readEdge 27 = .ok (.if_icmp .ne 22, 3) := dq_160 (zby_at (j := 11) zbX5_readEdge_1 rfl) (zby_at (j := 12) zbX5_readEdge_1 rfl) (zby_at (j := 13) zbX5_readEdge_1 rfl) rfl
theorem dX5_readEdge_30 : decode cX5_readEdge 30 = .ok (.aload_n 0, 1) := dq_42 (zby_at (j := 14) zbX5_readEdge_1 rfl)
theorem dX5_readEdge_31 : decode cX5_readEdge 31 = .ok (.getfield 47, 3) := dq_180 (zby_at (j := 15) zbX5_readEdge_1 rfl) (zby_at (j := 16) zbX5_readEdge_1 rfl) (zby_at (j := 17) zbX5_readEdge_1 rfl)
theorem zbX5_readEdge_2 : zby cX5_readEdge 32 20 = [0, 47, 42, 180, 0, 41, 46, 28, 160, 0, 9, 42, 5, 182, 0, 153, 172, 42, 3, 16] := by decide +kernel
theorem dX5_readEdge_34 : decode cX5_readEdge 34 = .ok (.aload_n 0, 1) := dq_42 (zby_at (j := 2) zbX5_readEdge_2 rfl)
theorem dX5_readEdge_35 : decode cX5_readEdge 35 = .ok (.getfield 41, 3) := dq_180 (zby_at (j := 3) zbX5_readEdge_2 rfl) (zby_at (j := 4) zbX5_readEdge_2 rfl) (zby_at (j := 5) zbX5_readEdge_2 rfl)
theorem dX5_readEdge_38 : decode cX5_readEdge 38 = .ok (.iaload, 1) := dq_46 (zby_at (j := 6) zbX5_readEdge_2 rfl)
theorem dX5_readEdge_39 : decode cX5_readEdge 39 = .ok (.iload_n 2, 1) := dq_28 (zby_at (j := 7) zbX5_readEdge_2 rfl)
theorem dX5_readEdge_40 : decode cX5_readEdge 40 = .ok (.if_icmp .ne 9, 3) := dq_160 (zby_at (j := 8) zbX5_readEdge_2 rfl) (zby_at (j := 9) zbX5_readEdge_2 rfl) (zby_at (j := 10) zbX5_readEdge_2 rfl) rfl
theorem dX5_readEdge_43 : decode cX5_readEdge 43 = .ok (.aload_n 0, 1) := dq_42 (zby_at (j := 11) zbX5_readEdge_2 rfl)
theorem dX5_readEdge_44 : decode cX5_readEdge 44 = .ok (.iconst 2, 1) := dq_5 (zby_at (j := 12) zbX5_readEdge_2 rfl)
theorem dX5_readEdge_45 : decode cX5_readEdge 45 = .ok (.invokevirtual 153, 3) := dq_182 (zby_at (j := 13) zbX5_readEdge_2 rfl) (zby_at (j := 14) zbX5_readEdge_2 rfl) (zby_at (j := 15) zbX5_readEdge_2 rfl)
theorem zbX5_readEdge_3 : zby cX5_readEdge 48 20 = [172, 42, 3, 16, 7, 182, 0, 168, 154, 0, 5, 3, 172, 43, 28, 42, 182, 0, 171, 182] := by decide +kernel
theorem dX5_readEdge_48 : decode cX5_readEdge 48 = .ok (.ireturn, 1) := dq_172 (zby_at (j := 0) zbX5_readEdge_3 rfl)
theorem dX5_readEdge_49 : decode cX5_readEdge 49 = .ok (.aload_n 0, 1) := dq_42 (zby_at (j := 1) zbX5_readEdge_3 rfl)
theorem dX5_readEdge_50 : decode cX5_readEdge 50 = .ok (.iconst 0, 1) := dq_3 (zby_at (j := 2) zbX5_readEdge_3 rfl)
theorem dX5_readEdge_51 : decode cX5_readEdge 51 = .ok (.bipush 7, 2) := dq_16 (zby_at (j := 3) zbX5_readEdge_3 rfl) (zby_at (j := 4) zbX5_readEdge_3 rfl) rfl
theorem dX5_readEdge_53 : decode cX5_readEdge 53 = .ok (.invokevirtual 168, 3) := dq_182 (zby_at (j := 5) zbX5_readEdge_3 rfl) (zby_at (j := 6) zbX5_readEdge_3 rfl) (zby_at (j := 7) zbX5_readEdge_3 rfl)
theorem dX5_readEdge_56 : decode cX5_readEdge 56 = .ok (.ifCond .ne 5, 3) := dq_154 (zby_at (j := 8) zbX5_readEdge_3 rfl) (zby_at (j := 9) zbX5_readEdge_3 rfl) (zby_at (j := 10) zbX5_readEdge_3 rfl) rfl
theorem dX5_readEdge_59 : decode cX5_readEdge 59 = .ok (.iconst 0, 1) := dq_3 (zby_at (j := 11) zbX5_readEdge_3 rfl)
theorem dX5_readEdge_60 : decode cX5_readEdge 60 = .ok (.ireturn, 1) := dq_172 (zby_at (j := 12) zbX5_readEdge_3 rfl)
theorem dX5_readEdge_61 : decode cX5_readEdge 61 = .ok (.aload_n 1, 1) := dq_43 (zby_at (j := 13) zbX5_readEdge_3 rfl)
theorem dX5_readEdge_62 : decode cX5_readEdge 62 = .ok (.iload_n 2, 1) := dq_28 (zby_at (j := 14) zbX5_readEdge_3 rfl)
theorem dX5_readEdge_63 : decode cX5_readEdge 63 = .ok (.aload_n 0, 1) := dq_42 (zby_at (j := 15) zbX5_readEdge_3 rfl)
theorem zbX5_readEdge_4 : zby cX5_readEdge 64 20 = [182, 0, 171, 182, 0, 178, 4, 172] := by decide +kernel
theorem dX5_readEdge_64 : decode cX5_readEdge 64 = .ok (.invokevirtual 171, 3) := dq_182 (zby_at (j := 0) zbX5_readEdge_4 rfl) (zby_at (j := 1) zbX5_readEdge_4 rfl) (zby_at (j := 2) zbX5_readEdge_4 rfl)
theorem dX5_readEdge_67 : decode cX5_readEdge 67 = .ok (.invokevirtual 178, 3) := dq_182 (zby_at (j := 3) zbX5_readEdge_4 rfl) (zby_at (j := 4) zbX5_readEdge_4 rfl) (zby_at (j := 5) zbX5_readEdge_4 rfl)
theorem dX5_readEdge_70 : decode cX5_readEdge 70 = .ok (.iconst 1, 1) := dq_4 (zby_at (j := 6) zbX5_readEdge_4 rfl)
theorem dX5_readEdge_71 : decode cX5_readEdge 71 = .ok (.ireturn, 1) := dq_172 (zby_at (j := 7) zbX5_readEdge_4 rfl)
theorem zbX5_sum_0 : zby cX5_sum 0 20 = [2, 61, 42, 27, 182, 0, 182, 154, 0, 5, 3, 172, 3, 62, 29, 17, 2, 89, 162, 0] := by decide +kernel
theorem dX5_sum_0 : decode cX5_sum 0 = .ok (.iconst (-1), 1) := dq_2 (zby_at (j := 0) zbX5_sum_0 rfl)
theorem dX5_sum_1 : decode cX5_sum 1 = .ok (.istore_n 2, 1) := dq_61 (zby_at (j := 1) zbX5_sum_0 rfl)
theorem dX5_sum_2 : decode cX5_sum 2 = .ok (.aload_n 0, 1) := dq_42 (zby_at (j := 2) zbX5_sum_0 rfl)
theorem dX5_sum_3 : decode cX5_sum 3 = .ok (.iload_n 1, 1) := dq_27 (zby_at (j := 3) zbX5_sum_0 rfl)
theorem dX5_sum_4 : decode cX5_sum 4 = .ok (.invokevirtual 182, 3) := dq_182 (zby_at (j := 4) zbX5_sum_0 rfl) (zby_at (j := 5) zbX5_sum_0 rfl) (zby_at (j := 6) zbX5_sum_0 rfl)
theorem dX5_sum_7 : decode cX5_sum 7 = .ok (.ifCond .ne 5, 3) := dq_154 (zby_at (j := 7) zbX5_sum_0 rfl) (zby_at (j := 8) zbX5_sum_0 rfl) (zby_at (j := 9) zbX5_sum_0 rfl) rfl
theorem dX5_sum_10 : decode cX5_sum 10 = .ok (.iconst 0, 1) := dq_3 (zby_at (j := 10) zbX5_sum_0 rfl)
theorem dX5_sum_11 : decode cX5_sum 11 = .ok (.ireturn, 1) := dq_172 (zby_at (j := 11) zbX5_sum_0 rfl)
theorem dX5_sum_12 : decode cX5_sum 12 = .ok (.iconst 0, 1) := dq_3 (zby_at (j := 12) zbX5_sum_0 rfl)
theorem dX5_sum_13 : decode cX5_sum 13 = .ok (.istore_n 3, 1) := dq_62 (zby_at (j := 13) zbX5_sum_0 rfl)
theorem dX5_sum_14 : decode cX5_sum 14 = .ok (.iload_n 3, 1) := dq_29 (zby_at (j := 14) zbX5_sum_0 rfl)
theorem dX5_sum_15 : decode cX5_sum 15 = .ok (.sipush 601, 3) := dq_17 (zby_at (j := 15) zbX5_sum_0 rfl) (zby_at (j := 16) zbX5_sum_0 rfl) (zby_at (j := 17) zbX5_sum_0 rfl) rfl
theorem zbX5_sum_1 : zby cX5_sum 16 20 = [2, 89, 162, 0, 133, 42, 180, 0, 44, 42, 180, 0, 41, 46, 184, 0, 111, 155, 0, 118] := by decide +kernel
theorem dX5_sum_18 : decode cX5_sum 18 = .ok (.if_icmp .ge 133, 3) := dq_162 (zby_at (j := 2) zbX5_sum_1 rfl) (zby_at (j := 3) zbX5_sum_1 rfl) (zby_at (j := 4) zbX5_sum_1 rfl) rfl
theorem dX5_sum_21 : decode cX5_sum 21 = .ok (.aload_n 0, 1) := dq_42 (zby_at (j := 5) zbX5_sum_1 rfl)
theorem dX5_sum_22 : decode cX5_sum 22 = .ok (.getfield 44, 3) := dq_180 (zby_at (j := 6) zbX5_sum_1 rfl) (zby_at (j := 7) zbX5_sum_1 rfl) (zby_at (j := 8) zbX5_sum_1 rfl)
theorem dX5_sum_25 : decode cX5_sum 25 = .ok (.aload_n 0, 1) := dq_42 (zby_at (j := 9) zbX5_sum_1 rfl)
theorem dX5_sum_26 : decode cX5_sum 26 = .ok (.getfield 41, 3) := dq_180 (zby_at (j := 10) zbX5_sum_1 rfl) (zby_at (j := 11) zbX5_sum_1 rfl) (zby_at (j := 12) zbX5_sum_1 rfl)
theorem dX5_sum_29 : decode cX5_sum 29 = .ok (.iaload, 1) := dq_46 (zby_at (j := 13) zbX5_sum_1 rfl)
theorem dX5_sum_30 : decode cX5_sum 30 = .ok (.invokestatic 111, 3) := dq_184 (zby_at (j := 14) zbX5_sum_1 rfl) (zby_at (j := 15) zbX5_sum_1 rfl) (zby_at (j := 16) zbX5_sum_1 rfl)
theorem zbX5_sum_2 : zby cX5_sum 32 20 = [111, 155, 0, 118, 42, 180, 0, 44, 42, 180, 0, 41, 46, 184, 0, 111, 54, 4, 21, 4] := by decide +kernel
theorem dX5_sum_33 : decode cX5_sum 33 = .ok (.ifCond .lt 118, 3) := dq_155 (zby_at (j := 1) zbX5_sum_2 rfl) (zby_at (j := 2) zbX5_sum_2 rfl) (zby_at (j := 3) zbX5_sum_2 rfl) rfl
theorem dX5_sum_36 : decode cX5_sum 36 = .ok (.aload_n 0, 1) := dq_42 (zby_at (j := 4) zbX5_sum_2 rfl)
theorem dX5_sum_37 : decode cX5_sum 37 = .ok (.getfield 44, 3) := dq_180 (zby_at (j := 5) zbX5_sum_2 rfl) (zby_at (j := 6) zbX5_sum_2 rfl) (zby_at (j := 7) zbX5_sum_2 rfl)
theorem dX5_sum_40 : decode cX5_sum 40 = .ok (.aload_n 0, 1) := dq_42 (zby_at (j := 8) zbX5_sum_2 rfl)
theorem dX5_sum_41 : decode cX5_sum 41 = .ok (.getfield 41, 3) := dq_180 (zby_at (j := 9) zbX5_sum_2 rfl) (zby_at (j := 10) zbX5_sum_2 rfl) (zby_at (j := 11) zbX5_sum_2 rfl)
theorem dX5_sum_44 : decode cX5_sum 44 = .ok (.iaload, 1) := dq_46 (zby_at (j := 12) zbX5_sum_2 rfl)
theorem dX5_sum_45 : decode cX5_sum 45 = .ok (.invokestatic 111, 3) := dq_184 (zby_at (j := 13) zbX5_sum_2 rfl) (zby_at (j := 14) zbX5_sum_2 rfl) (zby_at (j := 15) zbX5_sum_2 rfl)
theorem zbX5_sum_3 : zby cX5_sum 48 20 = [54, 4, 21, 4, 153, 0, 9, 21, 4, 4, 160, 0, 7, 4, 167, 0, 4, 3, 54, 5] := by decide +kernel
theorem dX5_sum_48 : decode cX5_sum 48 = .ok (.istore 4, 2) := dq_54 (zby_at (j := 0) zbX5_sum_3 rfl) (zby_at (j := 1) zbX5_sum_3 rfl)
theorem dX5_sum_50 : decode cX5_sum 50 = .ok (.iload 4, 2) := dq_21 (zby_at (j := 2) zbX5_sum_3 rfl) (zby_at (j := 3) zbX5_sum_3 rfl)
theorem dX5_sum_52 : decode cX5_sum 52 = .ok (.ifCond .eq 9, 3) := dq_153 (zby_at (j := 4) zbX5_sum_3 rfl) (zby_at (j := 5) zbX5_sum_3 rfl) (zby_at (j := 6) zbX5_sum_3 rfl) rfl
theorem dX5_sum_55 : decode cX5_sum 55 = .ok (.iload 4, 2) := dq_21 (zby_at (j := 7) zbX5_sum_3 rfl) (zby_at (j := 8) zbX5_sum_3 rfl)
theorem dX5_sum_57 : decode cX5_sum 57 = .ok (.iconst 1, 1) := dq_4 (zby_at (j := 9) zbX5_sum_3 rfl)
theorem dX5_sum_58 : decode cX5_sum 58 = .ok (.if_icmp .ne 7, 3) := dq_160 (zby_at (j := 10) zbX5_sum_3 rfl) (zby_at (j := 11) zbX5_sum_3 rfl) (zby_at (j := 12) zbX5_sum_3 rfl) rfl
theorem dX5_sum_61 : decode cX5_sum 61 = .ok (.iconst 1, 1) := dq_4 (zby_at (j := 13) zbX5_sum_3 rfl)
theorem dX5_sum_62 : decode cX5_sum 62 = .ok (.goto 4, 3) := dq_167 (zby_at (j := 14) zbX5_sum_3 rfl) (zby_at (j := 15) zbX5_sum_3 rfl) (zby_at (j := 16) zbX5_sum_3 rfl) rfl
theorem zbX5_sum_4 : zby cX5_sum 64 20 = [4, 3, 54, 5, 21, 5, 153, 0, 14, 28, 155, 0, 10, 42, 7, 28, 182, 0, 76, 87] := by decide +kernel
theorem dX5_sum_65 : decode cX5_sum 65 = .ok (.iconst 0, 1) := dq_3 (zby_at (j := 1) zbX5_sum_4 rfl)
theorem dX5_sum_66 : decode cX5_sum 66 = .ok (.istore 5, 2) := dq_54 (zby_at (j := 2) zbX5_sum_4 rfl) (zby_at (j := 3) zbX5_sum_4 rfl)
theorem dX5_sum_68 : decode cX5_sum 68 = .ok (.iload 5, 2) := dq_21 (zby_at (j := 4) zbX5_sum_4 rfl) (zby_at (j := 5) zbX5_sum_4 rfl)
theorem dX5_sum_70 : decode cX5_sum 70 = .ok (.ifCond .eq 14, 3) := dq_153 (zby_at (j := 6) zbX5_sum_4 rfl) (zby_at (j := 7) zbX5_sum_4 rfl) (zby_at (j := 8) zbX5_sum_4 rfl) rfl
theorem dX5_sum_73 : decode cX5_sum 73 = .ok (.iload_n 2, 1) := dq_28 (zby_at (j := 9) zbX5_sum_4 rfl)
theorem dX5_sum_74 : decode cX5_sum 74 = .ok (.ifCond .lt 10, 3) := dq_155 (zby_at (j := 10) zbX5_sum_4 rfl) (zby_at (j := 11) zbX5_sum_4 rfl) (zby_at (j := 12) zbX5_sum_4 rfl) rfl
theorem dX5_sum_77 : decode cX5_sum 77 = .ok (.aload_n 0, 1) := dq_42 (zby_at (j := 13) zbX5_sum_4 rfl)
theorem dX5_sum_78 : decode cX5_sum 78 = .ok (.iconst 4, 1) := dq_7 (zby_at (j := 14) zbX5_sum_4 rfl)
theorem dX5_sum_79 : decode cX5_sum 79 = .ok (.iload_n 2, 1) := dq_28 (zby_at (j := 15) zbX5_sum_4 rfl)
theorem zbX5_sum_5 : zby cX5_sum 80 20 = [182, 0, 76, 87, 42, 89, 180, 0, 38, 4, 96, 181, 0, 38, 42, 42, 180, 0, 38, 16] := by decide +kernel
theorem dX5_sum_80 : decode cX5_sum 80 = .ok (.invokevirtual 76, 3) := dq_182 (zby_at (j := 0) zbX5_sum_5 rfl) (zby_at (j := 1) zbX5_sum_5 rfl) (zby_at (j := 2) zbX5_sum_5 rfl)
theorem dX5_sum_83 : decode cX5_sum 83 = .ok (.pop, 1) := dq_87 (zby_at (j := 3) zbX5_sum_5 rfl)
theorem dX5_sum_84 : decode cX5_sum 84 = .ok (.aload_n 0, 1) := dq_42 (zby_at (j := 4) zbX5_sum_5 rfl)
theorem dX5_sum_85 : decode cX5_sum 85 = .ok (.dup, 1) := dq_89 (zby_at (j := 5) zbX5_sum_5 rfl)
theorem dX5_sum_86 : decode cX5_sum 86 = .ok (.getfield 38, 3) := dq_180 (zby_at (j := 6) zbX5_sum_5 rfl) (zby_at (j := 7) zbX5_sum_5 rfl) (zby_at (j := 8) zbX5_sum_5 rfl)
theorem dX5_sum_89 : decode cX5_sum 89 = .ok (.iconst 1, 1) := dq_4 (zby_at (j := 9) zbX5_sum_5 rfl)
theorem dX5_sum_90 : decode cX5_sum 90 = .ok (.iadd, 1) := dq_96 (zby_at (j := 10) zbX5_sum_5 rfl)
theorem dX5_sum_91 : decode cX5_sum 91 = .ok (.putfield 38, 3) := dq_181 (zby_at (j := 11) zbX5_sum_5 rfl) (zby_at (j := 12) zbX5_sum_5 rfl) (zby_at (j := 13) zbX5_sum_5 rfl)
theorem dX5_sum_94 : decode cX5_sum 94 = .ok (.aload_n 0, 1) := dq_42 (zby_at (j := 14) zbX5_sum_5 rfl)
theorem dX5_sum_95 : decode cX5_sum 95 = .ok (.aload_n 0, 1) := dq_42 (zby_at (j := 15) zbX5_sum_5 rfl)
theorem zbX5_sum_6 : zby cX5_sum 96 20 = [180, 0, 38, 16, 24, 163, 0, 7, 4, 167, 0, 4, 3, 6, 182, 0, 149, 153, 0, 11] := by decide +kernel
theorem dX5_sum_96 : decode cX5_sum 96 = .ok (.getfield 38, 3) := dq_180 (zby_at (j := 0) zbX5_sum_6 rfl) (zby_at (j := 1) zbX5_sum_6 rfl) (zby_at (j := 2) zbX5_sum_6 rfl)
theorem dX5_sum_99 : decode cX5_sum 99 = .ok (.bipush 24, 2) := dq_16 (zby_at (j := 3) zbX5_sum_6 rfl) (zby_at (j := 4) zbX5_sum_6 rfl) rfl
theorem dX5_sum_101 : decode cX5_sum 101 = .ok (.if_icmp .gt 7, 3) := dq_163 (zby_at (j := 5) zbX5_sum_6 rfl) (zby_at (j := 6) zbX5_sum_6 rfl) (zby_at (j := 7) zbX5_sum_6 rfl) rfl
theorem dX5_sum_104 : decode cX5_sum 104 = .ok (.iconst 1, 1) := dq_4 (zby_at (j := 8) zbX5_sum_6 rfl)
theorem dX5_sum_105 : decode cX5_sum 105 = .ok (.goto 4, 3) := dq_167 (zby_at (j := 9) zbX5_sum_6 rfl) (zby_at (j := 10) zbX5_sum_6 rfl) (zby_at (j := 11) zbX5_sum_6 rfl) rfl
theorem dX5_sum_108 : decode cX5_sum 108 = .ok (.iconst 0, 1) := dq_3 (zby_at (j := 12) zbX5_sum_6 rfl)
theorem dX5_sum_109 : decode cX5_sum 109 = .ok (.iconst 3, 1) := dq_6 (zby_at (j := 13) zbX5_sum_6 rfl)
theorem dX5_sum_110 : decode cX5_sum 110 = .ok (.invokevirtual 149, 3) := dq_182 (zby_at (j := 14) zbX5_sum_6 rfl) (zby_at (j := 15) zbX5_sum_6 rfl) (zby_at (j := 16) zbX5_sum_6 rfl)
theorem zbX5_sum_7 : zby cX5_sum 112 20 = [149, 153, 0, 11, 42, 27, 182, 0, 182, 154, 0, 5, 3, 172, 21, 5, 153, 0, 9, 21] := by decide +kernel
theorem dX5_sum_113 : decode cX5_sum 113 = .ok (.ifCond .eq 11, 3) := dq_153 (zby_at (j := 1) zbX5_sum_7 rfl) (zby_at (j := 2) zbX5_sum_7 rfl) (zby_at (j := 3) zbX5_sum_7 rfl) rfl
theorem dX5_sum_116 : decode cX5_sum 116 = .ok (.aload_n 0, 1) := dq_42 (zby_at (j := 4) zbX5_sum_7 rfl)
theorem dX5_sum_117 : decode cX5_sum 117 = .ok (.iload_n 1, 1) := dq_27 (zby_at (j := 5) zbX5_sum_7 rfl)
theorem dX5_sum_118 : decode cX5_sum 118 = .ok (.invokevirtual 182, 3) := dq_182 (zby_at (j := 6) zbX5_sum_7 rfl) (zby_at (j := 7) zbX5_sum_7 rfl) (zby_at (j := 8) zbX5_sum_7 rfl)
theorem dX5_sum_121 : decode cX5_sum 121 = .ok (.ifCond .ne 5, 3) := dq_154 (zby_at (j := 9) zbX5_sum_7 rfl) (zby_at (j := 10) zbX5_sum_7 rfl) (zby_at (j := 11) zbX5_sum_7 rfl) rfl
theorem dX5_sum_124 : decode cX5_sum 124 = .ok (.iconst 0, 1) := dq_3 (zby_at (j := 12) zbX5_sum_7 rfl)
theorem dX5_sum_125 : decode cX5_sum 125 = .ok (.ireturn, 1) := dq_172 (zby_at (j := 13) zbX5_sum_7 rfl)
theorem dX5_sum_126 : decode cX5_sum 126 = .ok (.iload 5, 2) := dq_21 (zby_at (j := 14) zbX5_sum_7 rfl) (zby_at (j := 15) zbX5_sum_7 rfl)
theorem zbX5_sum_8 : zby cX5_sum 128 20 = [153, 0, 9, 21, 4, 61, 167, 0, 11, 42, 7, 21, 4, 182, 0, 76, 87, 132, 3, 1] := by decide +kernel
theorem dX5_sum_128 : decode cX5_sum 128 = .ok (.ifCond .eq 9, 3) := dq_153 (zby_at (j := 0) zbX5_sum_8 rfl) (zby_at (j := 1) zbX5_sum_8 rfl) (zby_at (j := 2) zbX5_sum_8 rfl) rfl
theorem dX5_sum_131 : decode cX5_sum 131 = .ok (.iload 4, 2) := dq_21 (zby_at (j := 3) zbX5_sum_8 rfl) (zby_at (j := 4) zbX5_sum_8 rfl)
theorem dX5_sum_133 : decode cX5_sum 133 = .ok (.istore_n 2, 1) := dq_61 (zby_at (j := 5) zbX5_sum_8 rfl)
theorem dX5_sum_134 : decode cX5_sum 134 = .ok (.goto 11, 3) := dq_167 (zby_at (j := 6) zbX5_sum_8 rfl) (zby_at (j := 7) zbX5_sum_8 rfl) (zby_at (j := 8) zbX5_sum_8 rfl) rfl
theorem dX5_sum_137 : decode cX5_sum 137 = .ok (.aload_n 0, 1) := dq_42 (zby_at (j := 9) zbX5_sum_8 rfl)
theorem dX5_sum_138 : decode cX5_sum 138 = .ok (.iconst 4, 1) := dq_7 (zby_at (j := 10) zbX5_sum_8 rfl)
theorem dX5_sum_139 : decode cX5_sum 139 = .ok (.iload 4, 2) := dq_21 (zby_at (j := 11) zbX5_sum_8 rfl) (zby_at (j := 12) zbX5_sum_8 rfl)
theorem dX5_sum_141 : decode cX5_sum 141 = .ok (.invokevirtual 76, 3) := dq_182 (zby_at (j := 13) zbX5_sum_8 rfl) (zby_at (j := 14) zbX5_sum_8 rfl) (zby_at (j := 15) zbX5_sum_8 rfl)
theorem zbX5_sum_9 : zby cX5_sum 144 20 = [87, 132, 3, 1, 167, 255, 122, 28, 155, 0, 12, 42, 7, 28, 182, 0, 76, 153, 0, 7] := by decide +kernel
theorem dX5_sum_144 : decode cX5_sum 144 = .ok (.pop, 1) := dq_87 (zby_at (j := 0) zbX5_sum_9 rfl)
theorem dX5_sum_145 : decode cX5_sum 145 = .ok (.iinc 3 1, 3) := dq_132 (zby_at (j := 1) zbX5_sum_9 rfl) (zby_at (j := 2) zbX5_sum_9 rfl) (zby_at (j := 3) zbX5_sum_9 rfl) rfl
theorem dX5_sum_148 : decode cX5_sum 148 = .ok (.goto (-134), 3) := dq_167 (zby_at (j := 4) zbX5_sum_9 rfl) (zby_at (j := 5) zbX5_sum_9 rfl) (zby_at (j := 6) zbX5_sum_9 rfl) rfl
theorem dX5_sum_151 : decode cX5_sum 151 = .ok (.iload_n 2, 1) := dq_28 (zby_at (j := 7) zbX5_sum_9 rfl)
theorem dX5_sum_152 : decode cX5_sum 152 = .ok (.ifCond .lt 12, 3) := dq_155 (zby_at (j := 8) zbX5_sum_9 rfl) (zby_at (j := 9) zbX5_sum_9 rfl) (zby_at (j := 10) zbX5_sum_9 rfl) rfl
theorem dX5_sum_155 : decode cX5_sum 155 = .ok (.aload_n 0, 1) := dq_42 (zby_at (j := 11) zbX5_sum_9 rfl)
theorem dX5_sum_156 : decode cX5_sum 156 = .ok (.iconst 4, 1) := dq_7 (zby_at (j := 12) zbX5_sum_9 rfl)
theorem dX5_sum_157 : decode cX5_sum 157 = .ok (.iload_n 2, 1) := dq_28 (zby_at (j := 13) zbX5_sum_9 rfl)
theorem dX5_sum_158 : decode cX5_sum 158 = .ok (.invokevirtual 76, 3) := dq_182 (zby_at (j := 14) zbX5_sum_9 rfl) (zby_at (j := 15) zbX5_sum_9 rfl) (zby_at (j := 16) zbX5_sum_9 rfl)
theorem zbX5_sum_10 : zby cX5_sum 160 20 = [76, 153, 0, 7, 4, 167, 0, 4, 3, 172] := by decide +kernel
theorem dX5_sum_161 : decode cX5_sum 161 = .ok (.ifCond .eq 7, 3) := dq_153 (zby_at (j := 1) zbX5_sum_10 rfl) (zby_at (j := 2) zbX5_sum_10 rfl) (zby_at (j := 3) zbX5_sum_10 rfl) rfl
theorem dX5_sum_164 : decode cX5_sum 164 = .ok (.iconst 1, 1) := dq_4 (zby_at (j := 4) zbX5_sum_10 rfl)
theorem dX5_sum_165 : decode cX5_sum 165 = .ok (.goto 4, 3) := dq_167 (zby_at (j := 5) zbX5_sum_10 rfl) (zby_at (j := 6) zbX5_sum_10 rfl) (zby_at (j := 7) zbX5_sum_10 rfl) rfl
theorem dX5_sum_168 : decode cX5_sum 168 = .ok (.iconst 0, 1) := dq_3 (zby_at (j := 8) zbX5_sum_10 rfl)
theorem dX5_sum_169 : decode cX5_sum 169 = .ok (.ireturn, 1) := dq_172 (zby_at (j := 9) zbX5_sum_10 rfl)
theorem zbX5_part_0 : zby cX5_part 0 20 = [42, 180, 0, 44, 42, 180, 0, 41, 46, 171, 0, 0, 0, 0, 0, 135, 0, 0, 0, 4] := by decide +kernel
theorem dX5_part_0 : decode cX5_part 0 = .ok (.aload_n 0, 1) := dq_42 (zby_at (j := 0) zbX5_part_0 rfl)
theorem dX5_part_1 : decode cX5_part 1 = .ok (.getfield 44, 3) := dq_180 (zby_at (j := 1) zbX5_part_0 rfl) (zby_at (j := 2) zbX5_part_0 rfl) (zby_at (j := 3) zbX5_part_0 rfl)
theorem dX5_part_4 : decode cX5_part 4 = .ok (.aload_n 0, 1) := dq_42 (zby_at (j := 4) zbX5_part_0 rfl)
theorem dX5_part_5 : decode cX5_part 5 = .ok (.getfield 41, 3) := dq_180 (zby_at (j := 5) zbX5_part_0 rfl) (zby_at (j := 6) zbX5_part_0 rfl) (zby_at (j := 7) zbX5_part_0 rfl)
theorem dX5_part_8 : decode cX5_part 8 = .ok (.iaload, 1) := dq_46 (zby_at (j := 8) zbX5_part_0 rfl)
theorem dX5_part_9 : decode cX5_part 9 = .ok (.lookupswitch 135 #[(2, 120), (3, 43), (40, 76), (123, 71)], 43) := by decide +kernel
theorem zbX5_part_3 : zby cX5_part 48 20 = [0, 0, 0, 71, 42, 3, 16, 9, 182, 0, 168, 153, 0, 19, 42, 3, 42, 182, 0, 171] := by decide +kernel
theorem dX5_part_52 : decode cX5_part 52 = .ok (.aload_n 0, 1) := dq_42 (zby_at (j := 4) zbX5_part_3 rfl)
theorem dX5_part_53 : decode cX5_part 53 = .ok (.iconst 0, 1) := dq_3 (zby_at (j := 5) zbX5_part_3 rfl)
theorem dX5_part_54 : decode cX5_part 54 = .ok (.bipush 9, 2) := dq_16 (zby_at (j := 6) zbX5_part_3 rfl) (zby_at (j := 7) zbX5_part_3 rfl) rfl
theorem dX5_part_56 : decode cX5_part 56 = .ok (.invokevirtual 168, 3) := dq_182 (zby_at (j := 8) zbX5_part_3 rfl) (zby_at (j := 9) zbX5_part_3 rfl) (zby_at (j := 10) zbX5_part_3 rfl)
theorem dX5_part_59 : decode cX5_part 59 = .ok (.ifCond .eq 19, 3) := dq_153 (zby_at (j := 11) zbX5_part_3 rfl) (zby_at (j := 12) zbX5_part_3 rfl) (zby_at (j := 13) zbX5_part_3 rfl) rfl
theorem dX5_part_62 : decode cX5_part 62 = .ok (.aload_n 0, 1) := dq_42 (zby_at (j := 14) zbX5_part_3 rfl)
theorem dX5_part_63 : decode cX5_part 63 = .ok (.iconst 0, 1) := dq_3 (zby_at (j := 15) zbX5_part_3 rfl)
theorem zbX5_part_4 : zby cX5_part 64 20 = [42, 182, 0, 171, 182, 0, 76, 153, 0, 7, 4, 167, 0, 4, 3, 172, 42, 182, 0, 185] := by decide +kernel
theorem dX5_part_64 : decode cX5_part 64 = .ok (.aload_n 0, 1) := dq_42 (zby_at (j := 0) zbX5_part_4 rfl)
theorem dX5_part_65 : decode cX5_part 65 = .ok (.invokevirtual 171, 3) := dq_182 (zby_at (j := 1) zbX5_part_4 rfl) (zby_at (j := 2) zbX5_part_4 rfl) (zby_at (j := 3) zbX5_part_4 rfl)
theorem dX5_part_68 : decode cX5_part 68 = .ok (.invokevirtual 76, 3) := dq_182 (zby_at (j := 4) zbX5_part_4 rfl) (zby_at (j := 5) zbX5_part_4 rfl) (zby_at (j := 6) zbX5_part_4 rfl)
theorem dX5_part_71 : decode cX5_part 71 = .ok (.ifCond .eq 7, 3) := dq_153 (zby_at (j := 7) zbX5_part_4 rfl) (zby_at (j := 8) zbX5_part_4 rfl) (zby_at (j := 9) zbX5_part_4 rfl) rfl
theorem dX5_part_74 : decode cX5_part 74 = .ok (.iconst 1, 1) := dq_4 (zby_at (j := 10) zbX5_part_4 rfl)
theorem dX5_part_75 : decode cX5_part 75 = .ok (.goto 4, 3) := dq_167 (zby_at (j := 11) zbX5_part_4 rfl) (zby_at (j := 12) zbX5_part_4 rfl) (zby_at (j := 13) zbX5_part_4 rfl) rfl
theorem dX5_part_78 : decode cX5_part 78 = .ok (.iconst 0, 1) := dq_3 (zby_at (j := 14) zbX5_part_4 rfl)
theorem dX5_part_79 : decode cX5_part 79 = .ok (.ireturn, 1) := dq_172 (zby_at (j := 15) zbX5_part_4 rfl)
theorem zbX5_part_5 : zby cX5_part 80 20 = [42, 182, 0, 185, 172, 42, 27, 16, 6, 162, 0, 7, 4, 167, 0, 4, 3, 6, 182, 0] := by decide +kernel
theorem dX5_part_80 : decode cX5_part 80 = .ok (.aload_n 0, 1) := dq_42 (zby_at (j := 0) zbX5_part_5 rfl)
theorem dX5_part_81 : decode cX5_part 81 = .ok (.invokevirtual 185, 3) := dq_182 (zby_at (j := 1) zbX5_part_5 rfl) (zby_at (j := 2) zbX5_part_5 rfl) (zby_at (j := 3) zbX5_part_5 rfl)
theorem dX5_part_84 : decode cX5_part 84 = .ok (.ireturn, 1) := dq_172 (zby_at (j := 4) zbX5_part_5 rfl)
theorem dX5_part_85 : decode cX5_part 85 = .ok (.aload_n 0, 1) := dq_42 (zby_at (j := 5) zbX5_part_5 rfl)
theorem dX5_part_86 : decode cX5_part 86 = .ok (.iload_n 1, 1) := dq_27 (zby_at (j := 6) zbX5_part_5 rfl)
theorem dX5_part_87 : decode cX5_part 87 = .ok (.bipush 6, 2) := dq_16 (zby_at (j := 7) zbX5_part_5 rfl) (zby_at (j := 8) zbX5_part_5 rfl) rfl
theorem dX5_part_89 : decode cX5_part 89 = .ok (.if_icmp .ge 7, 3) := dq_162 (zby_at (j := 9) zbX5_part_5 rfl) (zby_at (j := 10) zbX5_part_5 rfl) (zby_at (j := 11) zbX5_part_5 rfl) rfl
theorem dX5_part_92 : decode cX5_part 92 = .ok (.iconst 1, 1) := dq_4 (zby_at (j := 12) zbX5_part_5 rfl)
theorem dX5_part_93 : decode cX5_part 93 = .ok (.goto 4, 3) := dq_167 (zby_at (j := 13) zbX5_part_5 rfl) (zby_at (j := 14) zbX5_part_5 rfl) (zby_at (j := 15) zbX5_part_5 rfl) rfl
theorem zbX5_part_6 : zby cX5_part 96 20 = [3, 6, 182, 0, 149, 153, 0, 26, 42, 27, 4, 96, 182, 0, 69, 153, 0, 16, 42, 16] := by decide +kernel
theorem dX5_part_96 : decode cX5_part 96 = .ok (.iconst 0, 1) := dq_3 (zby_at (j := 0) zbX5_part_6 rfl)
theorem dX5_part_97 : decode cX5_part 97 = .ok (.iconst 3, 1) := dq_6 (zby_at (j := 1) zbX5_part_6 rfl)
theorem dX5_part_98 : decode cX5_part 98 = .ok (.invokevirtual 149, 3) := dq_182 (zby_at (j := 2) zbX5_part_6 rfl) (zby_at (j := 3) zbX5_part_6 rfl) (zby_at (j := 4) zbX5_part_6 rfl)
theorem dX5_part_101 : decode cX5_part 101 = .ok (.ifCond .eq 26, 3) := dq_153 (zby_at (j := 5) zbX5_part_6 rfl) (zby_at (j := 6) zbX5_part_6 rfl) (zby_at (j := 7) zbX5_part_6 rfl) rfl
theorem dX5_part_104 : decode cX5_part 104 = .ok (.aload_n 0, 1) := dq_42 (zby_at (j := 8) zbX5_part_6 rfl)
theorem dX5_part_105 : decode cX5_part 105 = .ok (.iload_n 1, 1) := dq_27 (zby_at (j := 9) zbX5_part_6 rfl)
theorem dX5_part_106 : decode cX5_part 106 = .ok (.iconst 1, 1) := dq_4 (zby_at (j := 10) zbX5_part_6 rfl)
theorem dX5_part_107 : decode cX5_part 107 = .ok (.iadd, 1) := dq_96 (zby_at (j := 11) zbX5_part_6 rfl)
theorem dX5_part_108 : decode cX5_part 108 = .ok (.invokevirtual 69, 3) := dq_182 (zby_at (j := 12) zbX5_part_6 rfl) (zby_at (j := 13) zbX5_part_6 rfl) (zby_at (j := 14) zbX5_part_6 rfl)
theorem dX5_part_111 : decode cX5_part 111 = .ok (.ifCond .eq 16, 3) := dq_153 (zby_at (j := 15) zbX5_part_6 rfl) (zby_at (j := 16) zbX5_part_6 rfl) (zby_at (j := 17) zbX5_part_6 rfl) rfl
theorem zbX5_part_7 : zby cX5_part 112 20 = [0, 16, 42, 16, 41, 182, 0, 73, 153, 0, 7, 4, 167, 0, 4, 3, 172, 42, 42, 180] := by decide +kernel
theorem dX5_part_114 : decode cX5_part 114 = .ok (.aload_n 0, 1) := dq_42 (zby_at (j := 2) zbX5_part_7 rfl)
theorem dX5_part_115 : decode cX5_part 115 = .ok (.bipush 41, 2) := dq_16 (zby_at (j := 3) zbX5_part_7 rfl) (zby_at (j := 4) zbX5_part_7 rfl) rfl
theorem dX5_part_117 : decode cX5_part 117 = .ok (.invokevirtual 73, 3) := dq_182 (zby_at (j := 5) zbX5_part_7 rfl) (zby_at (j := 6) zbX5_part_7 rfl) (zby_at (j := 7) zbX5_part_7 rfl)
theorem dX5_part_120 : decode cX5_part 120 = .ok (.ifCond .eq 7, 3) := dq_153 (zby_at (j := 8) zbX5_part_7 rfl) (zby_at (j := 9) zbX5_part_7 rfl) (zby_at (j := 10) zbX5_part_7 rfl) rfl
theorem dX5_part_123 : decode cX5_part 123 = .ok (.iconst 1, 1) := dq_4 (zby_at (j := 11) zbX5_part_7 rfl)
theorem dX5_part_124 : decode cX5_part 124 = .ok (.goto 4, 3) := dq_167 (zby_at (j := 12) zbX5_part_7 rfl) (zby_at (j := 13) zbX5_part_7 rfl) (zby_at (j := 14) zbX5_part_7 rfl) rfl
theorem dX5_part_127 : decode cX5_part 127 = .ok (.iconst 0, 1) := dq_3 (zby_at (j := 15) zbX5_part_7 rfl)
theorem zbX5_part_8 : zby cX5_part 128 20 = [172, 42, 42, 180, 0, 47, 42, 180, 0, 41, 46, 27, 182, 0, 189, 172, 42, 4, 182, 0] := by decide +kernel
theorem dX5_part_128 : decode cX5_part 128 = .ok (.ireturn, 1) := dq_172 (zby_at (j := 0) zbX5_part_8 rfl)
theorem dX5_part_129 : decode cX5_part 129 = .ok (.aload_n 0, 1) := dq_42 (zby_at (j := 1) zbX5_part_8 rfl)
theorem dX5_part_130 : decode cX5_part 130 = .ok (.aload_n 0, 1) := dq_42 (zby_at (j := 2) zbX5_part_8 rfl)
theorem dX5_part_131 : decode cX5_part 131 = .ok (.getfield 47, 3) := dq_180 (zby_at (j := 3) zbX5_part_8 rfl) (zby_at (j := 4) zbX5_part_8 rfl) (zby_at (j := 5) zbX5_part_8 rfl)
theorem dX5_part_134 : decode cX5_part 134 = .ok (.aload_n 0, 1) := dq_42 (zby_at (j := 6) zbX5_part_8 rfl)
theorem dX5_part_135 : decode cX5_part 135 = .ok (.getfield 41, 3) := dq_180 (zby_at (j := 7) zbX5_part_8 rfl) (zby_at (j := 8) zbX5_part_8 rfl) (zby_at (j := 9) zbX5_part_8 rfl)
theorem dX5_part_138 : decode cX5_part 138 = .ok (.iaload, 1) := dq_46 (zby_at (j := 10) zbX5_part_8 rfl)
theorem dX5_part_139 : decode cX5_part 139 = .ok (.iload_n 1, 1) := dq_27 (zby_at (j := 11) zbX5_part_8 rfl)
theorem dX5_part_140 : decode cX5_part 140 = .ok (.invokevirtual 189, 3) := dq_182 (zby_at (j := 12) zbX5_part_8 rfl) (zby_at (j := 13) zbX5_part_8 rfl) (zby_at (j := 14) zbX5_part_8 rfl)
theorem dX5_part_143 : decode cX5_part 143 = .ok (.ireturn, 1) := dq_172 (zby_at (j := 15) zbX5_part_8 rfl)
theorem zbX5_part_9 : zby cX5_part 144 20 = [42, 4, 182, 0, 153, 172] := by decide +kernel
theorem dX5_part_144 : decode cX5_part 144 = .ok (.aload_n 0, 1) := dq_42 (zby_at (j := 0) zbX5_part_9 rfl)
theorem dX5_part_145 : decode cX5_part 145 = .ok (.iconst 1, 1) := dq_4 (zby_at (j := 1) zbX5_part_9 rfl)
theorem dX5_part_146 : decode cX5_part 146 = .ok (.invokevirtual 153, 3) := dq_182 (zby_at (j := 2) zbX5_part_9 rfl) (zby_at (j := 3) zbX5_part_9 rfl) (zby_at (j := 4) zbX5_part_9 rfl)
theorem dX5_part_149 : decode cX5_part 149 = .ok (.ireturn, 1) := dq_172 (zby_at (j := 5) zbX5_part_9 rfl)
theorem zbX5_wordPart_0 : zby cX5_wordPart 0 20 = [27, 8, 160, 0, 26, 42, 5, 182, 0, 73, 153, 0, 16, 42, 5, 3, 182, 0, 76, 153] := by decide +kernel
theorem dX5_wordPart_0 : decode cX5_wordPart 0 = .ok (.iload_n 1, 1) := dq_27 (zby_at (j := 0) zbX5_wordPart_0 rfl)
theorem dX5_wordPart_1 : decode cX5_wordPart 1 = .ok (.iconst 5, 1) := dq_8 (zby_at (j := 1) zbX5_wordPart_0 rfl)
theorem dX5_wordPart_2 : decode cX5_wordPart 2 = .ok (.if_icmp .ne 26, 3) := dq_160 (zby_at (j := 2) zbX5_wordPart_0 rfl) (zby_at (j := 3) zbX5_wordPart_0 rfl) (zby_at (j := 4) zbX5_wordPart_0 rfl) rfl
theorem dX5_wordPart_5 : decode cX5_wordPart 5 = .ok (.aload_n 0, 1) := dq_42 (zby_at (j := 5) zbX5_wordPart_0 rfl)
theorem dX5_wordPart_6 : decode cX5_wordPart 6 = .ok (.iconst 2, 1) := dq_5 (zby_at (j := 6) zbX5_wordPart_0 rfl)
theorem dX5_wordPart_7 : decode cX5_wordPart 7 = .ok (.invokevirtual 73, 3) := dq_182 (zby_at (j := 7) zbX5_wordPart_0 rfl) (zby_at (j := 8) zbX5_wordPart_0 rfl) (zby_at (j := 9) zbX5_wordPart_0 rfl)
theorem dX5_wordPart_10 : decode cX5_wordPart 10 = .ok (.ifCond .eq 16, 3) := dq_153 (zby_at (j := 10) zbX5_wordPart_0 rfl) (zby_at (j := 11) zbX5_wordPart_0 rfl) (zby_at (j := 12) zbX5_wordPart_0 rfl) rfl
theorem dX5_wordPart_13 : decode cX5_wordPart 13 = .ok (.aload_n 0, 1) := dq_42 (zby_at (j := 13) zbX5_wordPart_0 rfl)
theorem dX5_wordPart_14 : decode cX5_wordPart 14 = .ok (.iconst 2, 1) := dq_5 (zby_at (j := 14) zbX5_wordPart_0 rfl)
theorem dX5_wordPart_15 : decode cX5_wordPart 15 = .ok (.iconst 0, 1) := dq_3 (zby_at (j := 15) zbX5_wordPart_0 rfl)
theorem zbX5_wordPart_1 : zby cX5_wordPart 16 20 = [182, 0, 76, 153, 0, 7, 4, 167, 0, 4, 3, 172, 27, 16, 10, 162, 0, 9, 42, 4] := by decide +kernel
theorem dX5_wordPart_16 : decode cX5_wordPart 16 = .ok (.invokevirtual 76, 3) := dq_182 (zby_at (j := 0) zbX5_wordPart_1 rfl) (zby_at (j := 1) zbX5_wordPart_1 rfl) (zby_at (j := 2) zbX5_wordPart_1 rfl)
theorem dX5_wordPart_19 : decode cX5_wordPart 19 = .ok (.ifCond .eq 7, 3) := dq_153 (zby_at (j := 3) zbX5_wordPart_1 rfl) (zby_at (j := 4) zbX5_wordPart_1 rfl) (zby_at (j := 5) zbX5_wordPart_1 rfl) rfl
theorem dX5_wordPart_22 : decode cX5_wordPart 22 = .ok (.iconst 1, 1) := dq_4 (zby_at (j := 6) zbX5_wordPart_1 rfl)
theorem dX5_wordPart_23 : decode cX5_wordPart 23 = .ok (.goto 4, 3) := dq_167 (zby_at (j := 7) zbX5_wordPart_1 rfl) (zby_at (j := 8) zbX5_wordPart_1 rfl) (zby_at (j := 9) zbX5_wordPart_1 rfl) rfl
theorem dX5_wordPart_26 : decode cX5_wordPart 26 = .ok (.iconst 0, 1) := dq_3 (zby_at (j := 10) zbX5_wordPart_1 rfl)
theorem dX5_wordPart_27 : decode cX5_wordPart 27 = .ok (.ireturn, 1) := dq_172 (zby_at (j := 11) zbX5_wordPart_1 rfl)
theorem dX5_wordPart_28 : decode cX5_wordPart 28 = .ok (.iload_n 1, 1) := dq_27 (zby_at (j := 12) zbX5_wordPart_1 rfl)
theorem dX5_wordPart_29 : decode cX5_wordPart 29 = .ok (.bipush 10, 2) := dq_16 (zby_at (j := 13) zbX5_wordPart_1 rfl) (zby_at (j := 14) zbX5_wordPart_1 rfl) rfl
theorem dX5_wordPart_31 : decode cX5_wordPart 31 = .ok (.if_icmp .ge 9, 3) := dq_162 (zby_at (j := 15) zbX5_wordPart_1 rfl) (zby_at (j := 16) zbX5_wordPart_1 rfl) (zby_at (j := 17) zbX5_wordPart_1 rfl) rfl
theorem zbX5_wordPart_2 : zby cX5_wordPart 32 20 = [0, 9, 42, 4, 182, 0, 153, 172, 42, 28, 16, 6, 162, 0, 7, 4, 167, 0, 4, 3] := by decide +kernel
theorem dX5_wordPart_34 : decode cX5_wordPart 34 = .ok (.aload_n 0, 1) := dq_42 (zby_at (j := 2) zbX5_wordPart_2 rfl)
theorem dX5_wordPart_35 : decode cX5_wordPart 35 = .ok (.iconst 1, 1) := dq_4 (zby_at (j := 3) zbX5_wordPart_2 rfl)
theorem dX5_wordPart_36 : decode cX5_wordPart 36 = .ok (.invokevirtual 153, 3) := dq_182 (zby_at (j := 4) zbX5_wordPart_2 rfl) (zby_at (j := 5) zbX5_wordPart_2 rfl) (zby_at (j := 6) zbX5_wordPart_2 rfl)
theorem dX5_wordPart_39 : decode cX5_wordPart 39 = .ok (.ireturn, 1) := dq_172 (zby_at (j := 7) zbX5_wordPart_2 rfl)
theorem dX5_wordPart_40 : decode cX5_wordPart 40 = .ok (.aload_n 0, 1) := dq_42 (zby_at (j := 8) zbX5_wordPart_2 rfl)
theorem dX5_wordPart_41 : decode cX5_wordPart 41 = .ok (.iload_n 2, 1) := dq_28 (zby_at (j := 9) zbX5_wordPart_2 rfl)
theorem dX5_wordPart_42 : decode cX5_wordPart 42 = .ok (.bipush 6, 2) := dq_16 (zby_at (j := 10) zbX5_wordPart_2 rfl) (zby_at (j := 11) zbX5_wordPart_2 rfl) rfl
theorem dX5_wordPart_44 : decode cX5_wordPart 44 = .ok (.if_icmp .ge 7, 3) := dq_162 (zby_at (j := 12) zbX5_wordPart_2 rfl) (zby_at (j := 13) zbX5_wordPart_2 rfl) (zby_at (j := 14) zbX5_wordPart_2 rfl) rfl
theorem dX5_wordPart_47 : decode cX5_wordPart 47 = .ok (.iconst 1, 1) := dq_4 (zby_at (j := 15) zbX5_wordPart_2 rfl)
theorem zbX5_wordPart_3 : zby cX5_wordPart 48 20 = [167, 0, 4, 3, 6, 182, 0, 149, 153, 0, 29, 42, 28, 4, 96, 182, 0, 182, 153, 0] := by decide +kernel
theorem dX5_wordPart_48 : decode cX5_wordPart 48 = .ok (.goto 4, 3) := dq_167 (zby_at (j := 0) zbX5_wordPart_3 rfl) (zby_at (j := 1) zbX5_wordPart_3 rfl) (zby_at (j := 2) zbX5_wordPart_3 rfl) rfl
theorem dX5_wordPart_51 : decode cX5_wordPart 51 = .ok (.iconst 0, 1) := dq_3 (zby_at (j := 3) zbX5_wordPart_3 rfl)
theorem dX5_wordPart_52 : decode cX5_wordPart 52 = .ok (.iconst 3, 1) := dq_6 (zby_at (j := 4) zbX5_wordPart_3 rfl)
theorem dX5_wordPart_53 : decode cX5_wordPart 53 = .ok (.invokevirtual 149, 3) := dq_182 (zby_at (j := 5) zbX5_wordPart_3 rfl) (zby_at (j := 6) zbX5_wordPart_3 rfl) (zby_at (j := 7) zbX5_wordPart_3 rfl)
theorem dX5_wordPart_56 : decode cX5_wordPart 56 = .ok (.ifCond .eq 29, 3) := dq_153 (zby_at (j := 8) zbX5_wordPart_3 rfl) (zby_at (j := 9) zbX5_wordPart_3 rfl) (zby_at (j := 10) zbX5_wordPart_3 rfl) rfl
theorem dX5_wordPart_59 : decode cX5_wordPart 59 = .ok (.aload_n 0, 1) := dq_42 (zby_at (j := 11) zbX5_wordPart_3 rfl)
theorem dX5_wordPart_60 : decode cX5_wordPart 60 = .ok (.iload_n 2, 1) := dq_28 (zby_at (j := 12) zbX5_wordPart_3 rfl)
theorem dX5_wordPart_61 : decode cX5_wordPart 61 = .ok (.iconst 1, 1) := dq_4 (zby_at (j := 13) zbX5_wordPart_3 rfl)
theorem dX5_wordPart_62 : decode cX5_wordPart 62 = .ok (.iadd, 1) := dq_96 (zby_at (j := 14) zbX5_wordPart_3 rfl)
theorem dX5_wordPart_63 : decode cX5_wordPart 63 = .ok (.invokevirtual 182, 3) := dq_182 (zby_at (j := 15) zbX5_wordPart_3 rfl) (zby_at (j := 16) zbX5_wordPart_3 rfl) (zby_at (j := 17) zbX5_wordPart_3 rfl)
theorem zbX5_wordPart_4 : zby cX5_wordPart 64 20 = [0, 182, 153, 0, 19, 42, 8, 27, 16, 10, 100, 182, 0, 76, 153, 0, 7, 4, 167, 0] := by decide +kernel
theorem dX5_wordPart_66 : decode cX5_wordPart 66 = .ok (.ifCond .eq 19, 3) := dq_153 (zby_at (j := 2) zbX5_wordPart_4 rfl) (zby_at (j := 3) zbX5_wordPart_4 rfl) (zby_at (j := 4) zbX5_wordPart_4 rfl) rfl
theorem dX5_wordPart_69 : decode cX5_wordPart 69 = .ok (.aload_n 0, 1) := dq_42 (zby_at (j := 5) zbX5_wordPart_4 rfl)
theorem dX5_wordPart_70 : decode cX5_wordPart 70 = .ok (.iconst 5, 1) := dq_8 (zby_at (j := 6) zbX5_wordPart_4 rfl)
theorem dX5_wordPart_71 : decode cX5_wordPart 71 = .ok (.iload_n 1, 1) := dq_27 (zby_at (j := 7) zbX5_wordPart_4 rfl)
theorem dX5_wordPart_72 : decode cX5_wordPart 72 = .ok (.bipush 10, 2) := dq_16 (zby_at (j := 8) zbX5_wordPart_4 rfl) (zby_at (j := 9) zbX5_wordPart_4 rfl) rfl
theorem dX5_wordPart_74 : decode cX5_wordPart 74 = .ok (.isub, 1) := dq_100 (zby_at (j := 10) zbX5_wordPart_4 rfl)
theorem dX5_wordPart_75 : decode cX5_wordPart 75 = .ok (.invokevirtual 76, 3) := dq_182 (zby_at (j := 11) zbX5_wordPart_4 rfl) (zby_at (j := 12) zbX5_wordPart_4 rfl) (zby_at (j := 13) zbX5_wordPart_4 rfl)
theorem dX5_wordPart_78 : decode cX5_wordPart 78 = .ok (.ifCond .eq 7, 3) := dq_153 (zby_at (j := 14) zbX5_wordPart_4 rfl) (zby_at (j := 15) zbX5_wordPart_4 rfl) (zby_at (j := 16) zbX5_wordPart_4 rfl) rfl
theorem zbX5_wordPart_5 : zby cX5_wordPart 80 20 = [7, 4, 167, 0, 4, 3, 172] := by decide +kernel
theorem dX5_wordPart_81 : decode cX5_wordPart 81 = .ok (.iconst 1, 1) := dq_4 (zby_at (j := 1) zbX5_wordPart_5 rfl)
theorem dX5_wordPart_82 : decode cX5_wordPart 82 = .ok (.goto 4, 3) := dq_167 (zby_at (j := 2) zbX5_wordPart_5 rfl) (zby_at (j := 3) zbX5_wordPart_5 rfl) (zby_at (j := 4) zbX5_wordPart_5 rfl) rfl
theorem dX5_wordPart_85 : decode cX5_wordPart 85 = .ok (.iconst 0, 1) := dq_3 (zby_at (j := 5) zbX5_wordPart_5 rfl)
theorem dX5_wordPart_86 : decode cX5_wordPart 86 = .ok (.ireturn, 1) := dq_172 (zby_at (j := 6) zbX5_wordPart_5 rfl)
