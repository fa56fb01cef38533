theorem dX11_rowsInSlots_18 : decode cX11_rowsInSlots 18 = .ok (.ifCond .ne 6, 3) := dq_154 (zby_at (j := 2) zbX11_rowsInSlots_1 rfl) (zby_at (j := 3) zbX11_rowsInSlots_1 rfl) (zby_at (j := 4) zbX11_rowsInSlots_1 rfl) rfl
theorem dX11_rowsInSlots_21 : decode cX11_rowsInSlots 21 = .ok (.iinc 1 1, 3) := dq_132 (zby_at (j := 5) zbX11_rowsInSlots_1 rfl) (zby_at (j := 6) zbX11_rowsInSlots_1 rfl) (zby_at (j := 7) zbX11_rowsInSlots_1 rfl) rfl
theorem dX11_rowsInSlots_24 : decode cX11_rowsInSlots 24 = .ok (.iinc 2 1, 3) := dq_132 (zby_at (j := 8) zbX11_rowsInSlots_1 rfl) (zby_at (j := 9) zbX11_rowsInSlots_1 rfl) (zby_at (j := 10) zbX11_rowsInSlots_1 rfl) rfl
theorem dX11_rowsInSlots_27 : decode cX11_rowsInSlots 27 = .ok (.goto (-23), 3) := dq_167 (zby_at (j := 11) zbX11_rowsInSlots_1 rfl) (zby_at (j := 12) zbX11_rowsInSlots_1 rfl) (zby_at (j := 13) zbX11_rowsInSlots_1 rfl) rfl
theorem dX11_rowsInSlots_30 : decode cX11_rowsInSlots 30 = .ok (.iload_n 1, 1) := dq_27 (zby_at (j := 14) zbX11_rowsInSlots_1 rfl)
theorem dX11_rowsInSlots_31 : decode cX11_rowsInSlots 31 = .ok (.ireturn, 1) := dq_172 (zby_at (j := 15) zbX11_rowsInSlots_1 rfl)
theorem zbX12_init_0 : zby cX12_init 0 20 = [42, 183, 0, 3, 42, 16, 43, 188, 10, 181, 0, 9, 42, 17, 40, 0, 188, 4, 181, 0] := by decide +kernel
theorem dX12_init_0 : decode cX12_init 0 = .ok (.aload_n 0, 1) := dq_42 (zby_at (j := 0) zbX12_init_0 rfl)
theorem dX12_init_1 : decode cX12_init 1 = .ok (.invokespecial 3, 3) := dq_183 (zby_at (j := 1) zbX12_init_0 rfl) (zby_at (j := 2) zbX12_init_0 rfl) (zby_at (j := 3) zbX12_init_0 rfl)
theorem dX12_init_4 : decode cX12_init 4 = .ok (.aload_n 0, 1) := dq_42 (zby_at (j := 4) zbX12_init_0 rfl)
theorem dX12_init_5 : decode cX12_init 5 = .ok (.bipush 43, 2) := dq_16 (zby_at (j := 5) zbX12_init_0 rfl) (zby_at (j := 6) zbX12_init_0 rfl) rfl
theorem dX12_init_7 : decode cX12_init 7 = .ok (.newarray .int, 2) := dq_188_10 (zby_at (j := 7) zbX12_init_0 rfl) (zby_at (j := 8) zbX12_init_0 rfl)
theorem dX12_init_9 : decode cX12_init 9 = .ok (.putfield 9, 3) := dq_181 (zby_at (j := 9) zbX12_init_0 rfl) (zby_at (j := 10) zbX12_init_0 rfl) (zby_at (j := 11) zbX12_init_0 rfl)
theorem dX12_init_12 : decode cX12_init 12 = .ok (.aload_n 0, 1) := dq_42 (zby_at (j := 12) zbX12_init_0 rfl)
theorem dX12_init_13 : decode cX12_init 13 = .ok (.sipush 10240, 3) := dq_17 (zby_at (j := 13) zbX12_init_0 rfl) (zby_at (j := 14) zbX12_init_0 rfl) (zby_at (j := 15) zbX12_init_0 rfl) rfl
theorem zbX12_init_1 : zby cX12_init 16 20 = [188, 4, 181, 0, 13, 42, 17, 0, 129, 188, 10, 181, 0, 17, 42, 17, 120, 0, 188, 4] := by decide +kernel
theorem dX12_init_16 : decode cX12_init 16 = .ok (.newarray .boolean, 2) := dq_188_4 (zby_at (j := 0) zbX12_init_1 rfl) (zby_at (j := 1) zbX12_init_1 rfl)
theorem dX12_init_18 : decode cX12_init 18 = .ok (.putfield 13, 3) := dq_181 (zby_at (j := 2) zbX12_init_1 rfl) (zby_at (j := 3) zbX12_init_1 rfl) (zby_at (j := 4) zbX12_init_1 rfl)
theorem dX12_init_21 : decode cX12_init 21 = .ok (.aload_n 0, 1) := dq_42 (zby_at (j := 5) zbX12_init_1 rfl)
theorem dX12_init_22 : decode cX12_init 22 = .ok (.sipush 129, 3) := dq_17 (zby_at (j := 6) zbX12_init_1 rfl) (zby_at (j := 7) zbX12_init_1 rfl) (zby_at (j := 8) zbX12_init_1 rfl) rfl
theorem dX12_init_25 : decode cX12_init 25 = .ok (.newarray .int, 2) := dq_188_10 (zby_at (j := 9) zbX12_init_1 rfl) (zby_at (j := 10) zbX12_init_1 rfl)
theorem dX12_init_27 : decode cX12_init 27 = .ok (.putfield 17, 3) := dq_181 (zby_at (j := 11) zbX12_init_1 rfl) (zby_at (j := 12) zbX12_init_1 rfl) (zby_at (j := 13) zbX12_init_1 rfl)
theorem dX12_init_30 : decode cX12_init 30 = .ok (.aload_n 0, 1) := dq_42 (zby_at (j := 14) zbX12_init_1 rfl)
theorem dX12_init_31 : decode cX12_init 31 = .ok (.sipush 30720, 3) := dq_17 (zby_at (j := 15) zbX12_init_1 rfl) (zby_at (j := 16) zbX12_init_1 rfl) (zby_at (j := 17) zbX12_init_1 rfl) rfl
theorem zbX12_init_2 : zby cX12_init 32 20 = [120, 0, 188, 4, 181, 0, 20, 42, 6, 188, 4, 181, 0, 23, 42, 17, 2, 88, 188, 8] := by decide +kernel
theorem dX12_init_34 : decode cX12_init 34 = .ok (.newarray .boolean, 2) := dq_188_4 (zby_at (j := 2) zbX12_init_2 rfl) (zby_at (j := 3) zbX12_init_2 rfl)
theorem dX12_init_36 : decode cX12_init 36 = .ok (.putfield 20, 3) := dq_181 (zby_at (j := 4) zbX12_init_2 rfl) (zby_at (j := 5) zbX12_init_2 rfl) (zby_at (j := 6) zbX12_init_2 rfl)
theorem dX12_init_39 : decode cX12_init 39 = .ok (.aload_n 0, 1) := dq_42 (zby_at (j := 7) zbX12_init_2 rfl)
theorem dX12_init_40 : decode cX12_init 40 = .ok (.iconst 3, 1) := dq_6 (zby_at (j := 8) zbX12_init_2 rfl)
theorem dX12_init_41 : decode cX12_init 41 = .ok (.newarray .boolean, 2) := dq_188_4 (zby_at (j := 9) zbX12_init_2 rfl) (zby_at (j := 10) zbX12_init_2 rfl)
theorem dX12_init_43 : decode cX12_init 43 = .ok (.putfield 23, 3) := dq_181 (zby_at (j := 11) zbX12_init_2 rfl) (zby_at (j := 12) zbX12_init_2 rfl) (zby_at (j := 13) zbX12_init_2 rfl)
theorem dX12_init_46 : decode cX12_init 46 = .ok (.aload_n 0, 1) := dq_42 (zby_at (j := 14) zbX12_init_2 rfl)
theorem dX12_init_47 : decode cX12_init 47 = .ok (.sipush 600, 3) := dq_17 (zby_at (j := 15) zbX12_init_2 rfl) (zby_at (j := 16) zbX12_init_2 rfl) (zby_at (j := 17) zbX12_init_2 rfl) rfl
theorem zbX12_init_3 : zby cX12_init 48 20 = [2, 88, 188, 8, 181, 0, 26, 42, 8, 188, 10, 181, 0, 30, 42, 2, 181, 0, 33, 42] := by decide +kernel
theorem dX12_init_50 : decode cX12_init 50 = .ok (.newarray .byte, 2) := dq_188_8 (zby_at (j := 2) zbX12_init_3 rfl) (zby_at (j := 3) zbX12_init_3 rfl)
theorem dX12_init_52 : decode cX12_init 52 = .ok (.putfield 26, 3) := dq_181 (zby_at (j := 4) zbX12_init_3 rfl) (zby_at (j := 5) zbX12_init_3 rfl) (zby_at (j := 6) zbX12_init_3 rfl)
theorem dX12_init_55 : decode cX12_init 55 = .ok (.aload_n 0, 1) := dq_42 (zby_at (j := 7) zbX12_init_3 rfl)
theorem dX12_init_56 : decode cX12_init 56 = .ok (.iconst 5, 1) := dq_8 (zby_at (j := 8) zbX12_init_3 rfl)
theorem dX12_init_57 : decode cX12_init 57 = .ok (.newarray .int, 2) := dq_188_10 (zby_at (j := 9) zbX12_init_3 rfl) (zby_at (j := 10) zbX12_init_3 rfl)
theorem dX12_init_59 : decode cX12_init 59 = .ok (.putfield 30, 3) := dq_181 (zby_at (j := 11) zbX12_init_3 rfl) (zby_at (j := 12) zbX12_init_3 rfl) (zby_at (j := 13) zbX12_init_3 rfl)
theorem dX12_init_62 : decode cX12_init 62 = .ok (.aload_n 0, 1) := dq_42 (zby_at (j := 14) zbX12_init_3 rfl)
theorem dX12_init_63 : decode cX12_init 63 = .ok (.iconst (-1), 1) := dq_2 (zby_at (j := 15) zbX12_init_3 rfl)
theorem zbX12_init_4 : zby cX12_init 64 20 = [181, 0, 33, 42, 17, 72, 0, 188, 4, 181, 0, 37, 42, 17, 4, 0, 188, 4, 181, 0] := by decide +kernel
theorem dX12_init_64 : decode cX12_init 64 = .ok (.putfield 33, 3) := dq_181 (zby_at (j := 0) zbX12_init_4 rfl) (zby_at (j := 1) zbX12_init_4 rfl) (zby_at (j := 2) zbX12_init_4 rfl)
theorem dX12_init_67 : decode cX12_init 67 = .ok (.aload_n 0, 1) := dq_42 (zby_at (j := 3) zbX12_init_4 rfl)
theorem dX12_init_68 : decode cX12_init 68 = .ok (.sipush 18432, 3) := dq_17 (zby_at (j := 4) zbX12_init_4 rfl) (zby_at (j := 5) zbX12_init_4 rfl) (zby_at (j := 6) zbX12_init_4 rfl) rfl
theorem dX12_init_71 : decode cX12_init 71 = .ok (.newarray .boolean, 2) := dq_188_4 (zby_at (j := 7) zbX12_init_4 rfl) (zby_at (j := 8) zbX12_init_4 rfl)
theorem dX12_init_73 : decode cX12_init 73 = .ok (.putfield 37, 3) := dq_181 (zby_at (j := 9) zbX12_init_4 rfl) (zby_at (j := 10) zbX12_init_4 rfl) (zby_at (j := 11) zbX12_init_4 rfl)
theorem dX12_init_76 : decode cX12_init 76 = .ok (.aload_n 0, 1) := dq_42 (zby_at (j := 12) zbX12_init_4 rfl)
theorem dX12_init_77 : decode cX12_init 77 = .ok (.sipush 1024, 3) := dq_17 (zby_at (j := 13) zbX12_init_4 rfl) (zby_at (j := 14) zbX12_init_4 rfl) (zby_at (j := 15) zbX12_init_4 rfl) rfl
theorem zbX12_init_5 : zby cX12_init 80 20 = [188, 4, 181, 0, 40, 42, 17, 4, 0, 188, 4, 181, 0, 43, 42, 17, 4, 0, 188, 4] := by decide +kernel
theorem dX12_init_80 : decode cX12_init 80 = .ok (.newarray .boolean, 2) := dq_188_4 (zby_at (j := 0) zbX12_init_5 rfl) (zby_at (j := 1) zbX12_init_5 rfl)
theorem dX12_init_82 : decode cX12_init 82 = .ok (.putfield 40, 3) := dq_181 (zby_at (j := 2) zbX12_init_5 rfl) (zby_at (j := 3) zbX12_init_5 rfl) (zby_at (j := 4) zbX12_init_5 rfl)
theorem dX12_init_85 : decode cX12_init 85 = .ok (.aload_n 0, 1) := dq_42 (zby_at (j := 5) zbX12_init_5 rfl)
theorem dX12_init_86 : decode cX12_init 86 = .ok (.sipush 1024, 3) := dq_17 (zby_at (j := 6) zbX12_init_5 rfl) (zby_at (j := 7) zbX12_init_5 rfl) (zby_at (j := 8) zbX12_init_5 rfl) rfl
theorem dX12_init_89 : decode cX12_init 89 = .ok (.newarray .boolean, 2) := dq_188_4 (zby_at (j := 9) zbX12_init_5 rfl) (zby_at (j := 10) zbX12_init_5 rfl)
theorem dX12_init_91 : decode cX12_init 91 = .ok (.putfield 43, 3) := dq_181 (zby_at (j := 11) zbX12_init_5 rfl) (zby_at (j := 12) zbX12_init_5 rfl) (zby_at (j := 13) zbX12_init_5 rfl)
theorem dX12_init_94 : decode cX12_init 94 = .ok (.aload_n 0, 1) := dq_42 (zby_at (j := 14) zbX12_init_5 rfl)
theorem dX12_init_95 : decode cX12_init 95 = .ok (.sipush 1024, 3) := dq_17 (zby_at (j := 15) zbX12_init_5 rfl) (zby_at (j := 16) zbX12_init_5 rfl) (zby_at (j := 17) zbX12_init_5 rfl) rfl
theorem zbX12_init_6 : zby cX12_init 96 20 = [4, 0, 188, 4, 181, 0, 46, 42, 16, 40, 188, 10, 181, 0, 49, 42, 16, 43, 188, 10] := by decide +kernel
theorem dX12_init_98 : decode cX12_init 98 = .ok (.newarray .boolean, 2) := dq_188_4 (zby_at (j := 2) zbX12_init_6 rfl) (zby_at (j := 3) zbX12_init_6 rfl)
theorem dX12_init_100 : decode cX12_init 100 = .ok (.putfield 46, 3) := dq_181 (zby_at (j := 4) zbX12_init_6 rfl) (zby_at (j := 5) zbX12_init_6 rfl) (zby_at (j := 6) zbX12_init_6 rfl)
theorem dX12_init_103 : decode cX12_init 103 = .ok (.aload_n 0, 1) := dq_42 (zby_at (j := 7) zbX12_init_6 rfl)
theorem dX12_init_104 : decode cX12_init 104 = .ok (.bipush 40, 2) := dq_16 (zby_at (j := 8) zbX12_init_6 rfl) (zby_at (j := 9) zbX12_init_6 rfl) rfl
theorem dX12_init_106 : decode cX12_init 106 = .ok (.newarray .int, 2) := dq_188_10 (zby_at (j := 10) zbX12_init_6 rfl) (zby_at (j := 11) zbX12_init_6 rfl)
theorem dX12_init_108 : decode cX12_init 108 = .ok (.putfield 49, 3) := dq_181 (zby_at (j := 12) zbX12_init_6 rfl) (zby_at (j := 13) zbX12_init_6 rfl) (zby_at (j := 14) zbX12_init_6 rfl)
theorem dX12_init_111 : decode cX12_init 111 = .ok (.aload_n 0, 1) := dq_42 (zby_at (j := 15) zbX12_init_6 rfl)
theorem zbX12_init_7 : zby cX12_init 112 20 = [16, 43, 188, 10, 181, 0, 52, 42, 17, 40, 0, 188, 4, 181, 0, 55, 42, 16, 12, 188] := by decide +kernel
theorem dX12_init_112 : decode cX12_init 112 = .ok (.bipush 43, 2) := dq_16 (zby_at (j := 0) zbX12_init_7 rfl) (zby_at (j := 1) zbX12_init_7 rfl) rfl
theorem dX12_init_114 : decode cX12_init 114 = .ok (.newarray .int, 2) := dq_188_10 (zby_at (j := 2) zbX12_init_7 rfl) (zby_at (j := 3) zbX12_init_7 rfl)
theorem dX12_init_116 : decode cX12_init 116 = .ok (.putfield 52, 3) := dq_181 (zby_at (j := 4) zbX12_init_7 rfl) (zby_at (j := 5) zbX12_init_7 rfl) (zby_at (j := 6) zbX12_init_7 rfl)
theorem dX12_init_119 : decode cX12_init 119 = .ok (.aload_n 0, 1) := dq_42 (zby_at (j := 7) zbX12_init_7 rfl)
theorem dX12_init_120 : decode cX12_init 120 = .ok (.sipush 10240, 3) := dq_17 (zby_at (j := 8) zbX12_init_7 rfl) (zby_at (j := 9) zbX12_init_7 rfl) (zby_at (j := 10) zbX12_init_7 rfl) rfl
theorem dX12_init_123 : decode cX12_init 123 = .ok (.newarray .boolean, 2) := dq_188_4 (zby_at (j := 11) zbX12_init_7 rfl) (zby_at (j := 12) zbX12_init_7 rfl)
theorem dX12_init_125 : decode cX12_init 125 = .ok (.putfield 55, 3) := dq_181 (zby_at (j := 13) zbX12_init_7 rfl) (zby_at (j := 14) zbX12_init_7 rfl) (zby_at (j := 15) zbX12_init_7 rfl)
theorem zbX12_init_8 : zby cX12_init 128 20 = [42, 16, 12, 188, 10, 181, 0, 58, 42, 17, 4, 0, 188, 4, 181, 0, 61, 42, 16, 10] := by decide +kernel
theorem dX12_init_128 : decode cX12_init 128 = .ok (.aload_n 0, 1) := dq_42 (zby_at (j := 0) zbX12_init_8 rfl)
theorem dX12_init_129 : decode cX12_init 129 = .ok (.bipush 12, 2) := dq_16 (zby_at (j := 1) zbX12_init_8 rfl) (zby_at (j := 2) zbX12_init_8 rfl) rfl
theorem dX12_init_131 : decode cX12_init 131 = .ok (.newarray .int, 2) := dq_188_10 (zby_at (j := 3) zbX12_init_8 rfl) (zby_at (j := 4) zbX12_init_8 rfl)
theorem dX12_init_133 : decode cX12_init 133 = .ok (.putfield 58, 3) := dq_181 (zby_at (j := 5) zbX12_init_8 rfl) (zby_at (j := 6) zbX12_init_8 rfl) (zby_at (j := 7) zbX12_init_8 rfl)
theorem dX12_init_136 : decode cX12_init 136 = .ok (.aload_n 0, 1) := dq_42 (zby_at (j := 8) zbX12_init_8 rfl)
theorem dX12_init_137 : decode cX12_init 137 = .ok (.sipush 1024, 3) := dq_17 (zby_at (j := 9) zbX12_init_8 rfl) (zby_at (j := 10) zbX12_init_8 rfl) (zby_at (j := 11) zbX12_init_8 rfl) rfl
theorem dX12_init_140 : decode cX12_init 140 = .ok (.newarray .boolean, 2) := dq_188_4 (zby_at (j := 12) zbX12_init_8 rfl) (zby_at (j := 13) zbX12_init_8 rfl)
theorem dX12_init_142 : decode cX12_init 142 = .ok (.putfield 61, 3) := dq_181 (zby_at (j := 14) zbX12_init_8 rfl) (zby_at (j := 15) zbX12_init_8 rfl) (zby_at (j := 16) zbX12_init_8 rfl)
theorem zbX12_init_9 : zby cX12_init 144 20 = [61, 42, 16, 10, 188, 10, 181, 0, 64, 42, 17, 40, 0, 188, 4, 181, 0, 67, 42, 16] := by decide +kernel
theorem dX12_init_145 : decode cX12_init 145 = .ok (.aload_n 0, 1) := dq_42 (zby_at (j := 1) zbX12_init_9 rfl)
theorem dX12_init_146 : decode cX12_init 146 = .ok (.bipush 10, 2) := dq_16 (zby_at (j := 2) zbX12_init_9 rfl) (zby_at (j := 3) zbX12_init_9 rfl) rfl
theorem dX12_init_148 : decode cX12_init 148 = .ok (.newarray .int, 2) := dq_188_10 (zby_at (j := 4) zbX12_init_9 rfl) (zby_at (j := 5) zbX12_init_9 rfl)
theorem dX12_init_150 : decode cX12_init 150 = .ok (.putfield 64, 3) := dq_181 (zby_at (j := 6) zbX12_init_9 rfl) (zby_at (j := 7) zbX12_init_9 rfl) (zby_at (j := 8) zbX12_init_9 rfl)
theorem dX12_init_153 : decode cX12_init 153 = .ok (.aload_n 0, 1) := dq_42 (zby_at (j := 9) zbX12_init_9 rfl)
theorem dX12_init_154 : decode cX12_init 154 = .ok (.sipush 10240, 3) := dq_17 (zby_at (j := 10) zbX12_init_9 rfl) (zby_at (j := 11) zbX12_init_9 rfl) (zby_at (j := 12) zbX12_init_9 rfl) rfl
theorem dX12_init_157 : decode cX12_init 157 = .ok (.newarray .boolean, 2) := dq_188_4 (zby_at (j := 13) zbX12_init_9 rfl) (zby_at (j := 14) zbX12_init_9 rfl)
theorem dX12_init_159 : decode cX12_init 159 = .ok (.putfield 67, 3) := dq_181 (zby_at (j := 15) zbX12_init_9 rfl) (zby_at (j := 16) zbX12_init_9 rfl) (zby_at (j := 17) zbX12_init_9 rfl)
theorem zbX12_init_10 : zby cX12_init 160 20 = [0, 67, 42, 16, 10, 188, 10, 181, 0, 70, 42, 16, 8, 188, 10, 181, 0, 73, 42, 7] := by decide +kernel
theorem dX12_init_162 : decode cX12_init 162 = .ok (.aload_n 0, 1) := dq_42 (zby_at (j := 2) zbX12_init_10 rfl)
theorem dX12_init_163 : decode cX12_init 163 = .ok (.bipush 10, 2) := dq_16 (zby_at (j := 3) zbX12_init_10 rfl) (zby_at (j := 4) zbX12_init_10 rfl) rfl
theorem dX12_init_165 : decode cX12_init 165 = .ok (.newarray .int, 2) := dq_188_10 (zby_at (j := 5) zbX12_init_10 rfl) (zby_at (j := 6) zbX12_init_10 rfl)
theorem dX12_init_167 : decode cX12_init 167 = .ok (.putfield 70, 3) := dq_181 (zby_at (j := 7) zbX12_init_10 rfl) (zby_at (j := 8) zbX12_init_10 rfl) (zby_at (j := 9) zbX12_init_10 rfl)
theorem dX12_init_170 : decode cX12_init 170 = .ok (.aload_n 0, 1) := dq_42 (zby_at (j := 10) zbX12_init_10 rfl)
theorem dX12_init_171 : decode cX12_init 171 = .ok (.bipush 8, 2) := dq_16 (zby_at (j := 11) zbX12_init_10 rfl) (zby_at (j := 12) zbX12_init_10 rfl) rfl
theorem dX12_init_173 : decode cX12_init 173 = .ok (.newarray .int, 2) := dq_188_10 (zby_at (j := 13) zbX12_init_10 rfl) (zby_at (j := 14) zbX12_init_10 rfl)
theorem dX12_init_175 : decode cX12_init 175 = .ok (.putfield 73, 3) := dq_181 (zby_at (j := 15) zbX12_init_10 rfl) (zby_at (j := 16) zbX12_init_10 rfl) (zby_at (j := 17) zbX12_init_10 rfl)
theorem zbX12_init_11 : zby cX12_init 176 20 = [0, 73, 42, 7, 188, 10, 89, 3, 2, 79, 89, 4, 2, 79, 89, 5, 2, 79, 89, 6] := by decide +kernel
theorem dX12_init_178 : decode cX12_init 178 = .ok (.aload_n 0, 1) := dq_42 (zby_at (j := 2) zbX12_init_11 rfl)
theorem dX12_init_179 : decode cX12_init 179 = .ok (.iconst 4, 1) := dq_7 (zby_at (j := 3) zbX12_init_11 rfl)
theorem dX12_init_180 : decode cX12_init 180 = .ok (.newarray .int, 2) := dq_188_10 (zby_at (j := 4) zbX12_init_11 rfl) (zby_at (j := 5) zbX12_init_11 rfl)
theorem dX12_init_182 : decode cX12_init 182 = .ok (.dup, 1) := dq_89 (zby_at (j := 6) zbX12_init_11 rfl)
theorem dX12_init_183 : decode cX12_init 183 = .ok (.iconst 0, 1) := dq_3 (zby_at (j := 7) zbX12_init_11 rfl)
theorem dX12_init_184 : decode cX12_init 184 = .ok (.iconst (-1), 1) := dq_2 (zby_at (j := 8) zbX12_init_11 rfl)
theorem dX12_init_185 : decode cX12_init 185 = .ok (.iastore, 1) := dq_79 (zby_at (j := 9) zbX12_init_11 rfl)
theorem dX12_init_186 : decode cX12_init 186 = .ok (.dup, 1) := dq_89 (zby_at (j := 10) zbX12_init_11 rfl)
theorem dX12_init_187 : decode cX12_init 187 = .ok (.iconst 1, 1) := dq_4 (zby_at (j := 11) zbX12_init_11 rfl)
theorem dX12_init_188 : decode cX12_init 188 = .ok (.iconst (-1), 1) := dq_2 (zby_at (j := 12) zbX12_init_11 rfl)
theorem dX12_init_189 : decode cX12_init 189 = .ok (.iastore, 1) := dq_79 (zby_at (j := 13) zbX12_init_11 rfl)
theorem dX12_init_190 : decode cX12_init 190 = .ok (.dup, 1) := dq_89 (zby_at (j := 14) zbX12_init_11 rfl)
theorem dX12_init_191 : decode cX12_init 191 = .ok (.iconst 2, 1) := dq_5 (zby_at (j := 15) zbX12_init_11 rfl)
theorem zbX12_init_12 : zby cX12_init 192 20 = [2, 79, 89, 6, 2, 79, 181, 0, 76, 42, 7, 188, 10, 181, 0, 79, 42, 17, 0, 240] := by decide +kernel
theorem dX12_init_192 : decode cX12_init 192 = .ok (.iconst (-1), 1) := dq_2 (zby_at (j := 0) zbX12_init_12 rfl)
theorem dX12_init_193 : decode cX12_init 193 = .ok (.iastore, 1) := dq_79 (zby_at (j := 1) zbX12_init_12 rfl)
theorem dX12_init_194 : decode cX12_init 194 = .ok (.dup, 1) := dq_89 (zby_at (j := 2) zbX12_init_12 rfl)
theorem dX12_init_195 : decode cX12_init 195 = .ok (.iconst 3, 1) := dq_6 (zby_at (j := 3) zbX12_init_12 rfl)
theorem dX12_init_196 : decode cX12_init 196 = .ok (.iconst (-1), 1) := dq_2 (zby_at (j := 4) zbX12_init_12 rfl)
theorem dX12_init_197 : decode cX12_init 197 = .ok (.iastore, 1) := dq_79 (zby_at (j := 5) zbX12_init_12 rfl)
theorem dX12_init_198 : decode cX12_init 198 = .ok (.putfield 76, 3) := dq_181 (zby_at (j := 6) zbX12_init_12 rfl) (zby_at (j := 7) zbX12_init_12 rfl) (zby_at (j := 8) zbX12_init_12 rfl)
theorem dX12_init_201 : decode cX12_init 201 = .ok (.aload_n 0, 1) := dq_42 (zby_at (j := 9) zbX12_init_12 rfl)
theorem dX12_init_202 : decode cX12_init 202 = .ok (.iconst 4, 1) := dq_7 (zby_at (j := 10) zbX12_init_12 rfl)
theorem dX12_init_203 : decode cX12_init 203 = .ok (.newarray .int, 2) := dq_188_10 (zby_at (j := 11) zbX12_init_12 rfl) (zby_at (j := 12) zbX12_init_12 rfl)
theorem dX12_init_205 : decode cX12_init 205 = .ok (.putfield 79, 3) := dq_181 (zby_at (j := 13) zbX12_init_12 rfl) (zby_at (j := 14) zbX12_init_12 rfl) (zby_at (j := 15) zbX12_init_12 rfl)
theorem zbX12_init_13 : zby cX12_init 208 20 = [42, 17, 0, 240, 188, 11, 181, 0, 82, 42, 16, 60, 188, 11, 181, 0, 86, 177] := by decide +kernel
theorem dX12_init_208 : decode cX12_init 208 = .ok (.aload_n 0, 1) := dq_42 (zby_at (j := 0) zbX12_init_13 rfl)
theorem dX12_init_209 : decode cX12_init 209 = .ok (.sipush 240, 3) := dq_17 (zby_at (j := 1) zbX12_init_13 rfl) (zby_at (j := 2) zbX12_init_13 rfl) (zby_at (j := 3) zbX12_init_13 rfl) rfl
theorem dX12_init_212 : decode cX12_init 212 = .ok (.newarray .long, 2) := dq_188_11 (zby_at (j := 4) zbX12_init_13 rfl) (zby_at (j := 5) zbX12_init_13 rfl)
theorem dX12_init_214 : decode cX12_init 214 = .ok (.putfield 82, 3) := dq_181 (zby_at (j := 6) zbX12_init_13 rfl) (zby_at (j := 7) zbX12_init_13 rfl) (zby_at (j := 8) zbX12_init_13 rfl)
theorem dX12_init_217 : decode cX12_init 217 = .ok (.aload_n 0, 1) := dq_42 (zby_at (j := 9) zbX12_init_13 rfl)
theorem dX12_init_218 : decode cX12_init 218 = .ok (.bipush 60, 2) := dq_16 (zby_at (j := 10) zbX12_init_13 rfl) (zby_at (j := 11) zbX12_init_13 rfl) rfl
theorem dX12_init_220 : decode cX12_init 220 = .ok (.newarray .long, 2) := dq_188_11 (zby_at (j := 12) zbX12_init_13 rfl) (zby_at (j := 13) zbX12_init_13 rfl)
theorem dX12_init_222 : decode cX12_init 222 = .ok (.putfield 86, 3) := dq_181 (zby_at (j := 14) zbX12_init_13 rfl) (zby_at (j := 15) zbX12_init_13 rfl) (zby_at (j := 16) zbX12_init_13 rfl)
theorem zbX12_init_14 : zby cX12_init 224 20 = [86, 177] := by decide +kernel
theorem dX12_init_225 : decode cX12_init 225 = .ok (.return_, 1) := dq_177 (zby_at (j := 1) zbX12_init_14 rfl)
theorem zbX12_in_0 : zby cX12_in 0 20 = [30, 32, 148, 155, 0, 14, 30, 22, 4, 148, 157, 0, 7, 4, 167, 0, 4, 3, 172] := by decide +kernel
theorem dX12_in_0 : decode cX12_in 0 = .ok (.lload_n 0, 1) := dq_30 (zby_at (j := 0) zbX12_in_0 rfl)
theorem dX12_in_1 : decode cX12_in 1 = .ok (.lload_n 2, 1) := dq_32 (zby_at (j := 1) zbX12_in_0 rfl)
theorem dX12_in_2 : decode cX12_in 2 = .ok (.lcmp, 1) := dq_148 (zby_at (j := 2) zbX12_in_0 rfl)
theorem dX12_in_3 : decode cX12_in 3 = .ok (.ifCond .lt 14, 3) := dq_155 (zby_at (j := 3) zbX12_in_0 rfl) (zby_at (j := 4) zbX12_in_0 rfl) (zby_at (j := 5) zbX12_in_0 rfl) rfl
theorem dX12_in_6 : decode cX12_in 6 = .ok (.lload_n 0, 1) := dq_30 (zby_at (j := 6) zbX12_in_0 rfl)
theorem dX12_in_7 : decode cX12_in 7 = .ok (.lload 4, 2) := dq_22 (zby_at (j := 7) zbX12_in_0 rfl) (zby_at (j := 8) zbX12_in_0 rfl)
theorem dX12_in_9 : decode cX12_in 9 = .ok (.lcmp, 1) := dq_148 (zby_at (j := 9) zbX12_in_0 rfl)
theorem dX12_in_10 : decode cX12_in 10 = .ok (.ifCond .gt 7, 3) := dq_157 (zby_at (j := 10) zbX12_in_0 rfl) (zby_at (j := 11) zbX12_in_0 rfl) (zby_at (j := 12) zbX12_in_0 rfl) rfl
theorem dX12_in_13 : decode cX12_in 13 = .ok (.iconst 1, 1) := dq_4 (zby_at (j := 13) zbX12_in_0 rfl)
theorem dX12_in_14 : decode cX12_in 14 = .ok (.goto 4, 3) := dq_167 (zby_at (j := 14) zbX12_in_0 rfl) (zby_at (j := 15) zbX12_in_0 rfl) (zby_at (j := 16) zbX12_in_0 rfl) rfl
theorem zbX12_in_1 : zby cX12_in 16 20 = [4, 3, 172] := by decide +kernel
theorem dX12_in_17 : decode cX12_in 17 = .ok (.iconst 0, 1) := dq_3 (zby_at (j := 1) zbX12_in_1 rfl)
theorem dX12_in_18 : decode cX12_in 18 = .ok (.ireturn, 1) := dq_172 (zby_at (j := 2) zbX12_in_1 rfl)
theorem zbX12_keep_0 : zby cX12_keep 0 20 = [27, 133, 9, 20, 0, 92, 184, 0, 94, 154, 0, 6, 16, 254, 172, 3, 61, 28, 16, 43] := by decide +kernel
theorem dX12_keep_0 : decode cX12_keep 0 = .ok (.iload_n 1, 1) := dq_27 (zby_at (j := 0) zbX12_keep_0 rfl)
theorem dX12_keep_1 : decode cX12_keep 1 = .ok (.i2l, 1) := dq_133 (zby_at (j := 1) zbX12_keep_0 rfl)
theorem dX12_keep_2 : decode cX12_keep 2 = .ok (.lconst 0, 1) := dq_9 (zby_at (j := 2) zbX12_keep_0 rfl)
theorem dX12_keep_3 : decode cX12_keep 3 = .ok (.ldc2_w 92, 3) := dq_20 (zby_at (j := 3) zbX12_keep_0 rfl) (zby_at (j := 4) zbX12_keep_0 rfl) (zby_at (j := 5) zbX12_keep_0 rfl)
theorem dX12_keep_6 : decode cX12_keep 6 = .ok (.invokestatic 94, 3) := dq_184 (zby_at (j := 6) zbX12_keep_0 rfl) (zby_at (j := 7) zbX12_keep_0 rfl) (zby_at (j := 8) zbX12_keep_0 rfl)
theorem dX12_keep_9 : decode cX12_keep 9 = .ok (.ifCond .ne 6, 3) := dq_154 (zby_at (j := 9) zbX12_keep_0 rfl) (zby_at (j := 10) zbX12_keep_0 rfl) (zby_at (j := 11) zbX12_keep_0 rfl) rfl
theorem dX12_keep_12 : decode cX12_keep 12 = .ok (.bipush (-2), 2) := dq_16 (zby_at (j := 12) zbX12_keep_0 rfl) (zby_at (j := 13) zbX12_keep_0 rfl) rfl
theorem dX12_keep_14 : decode cX12_keep 14 = .ok (.ireturn, 1) := dq_172 (zby_at (j := 14) zbX12_keep_0 rfl)
theorem dX12_keep_15 : decode cX12_keep 15 = .ok (.iconst 0, 1) := dq_3 (zby_at (j := 15) zbX12_keep_0 rfl)
theorem zbX12_keep_1 : zby cX12_keep 16 20 = [61, 28, 16, 43, 162, 0, 26, 42, 180, 0, 17, 16, 43, 27, 104, 28, 96, 42, 180, 0] := by decide +kernel
theorem dX12_keep_16 : decode cX12_keep 16 = .ok (.istore_n 2, 1) := dq_61 (zby_at (j := 0) zbX12_keep_1 rfl)
theorem dX12_keep_17 : decode cX12_keep 17 = .ok (.iload_n 2, 1) := dq_28 (zby_at (j := 1) zbX12_keep_1 rfl)
theorem dX12_keep_18 : decode cX12_keep 18 = .ok (.bipush 43, 2) := dq_16 (zby_at (j := 2) zbX12_keep_1 rfl) (zby_at (j := 3) zbX12_keep_1 rfl) rfl
theorem dX12_keep_20 : decode cX12_keep 20 = .ok (.if_icmp .ge 26, 3) := dq_162 (zby_at (j := 4) zbX12_keep_1 rfl) (zby_at (j := 5) zbX12_keep_1 rfl) (zby_at (j := 6) zbX12_keep_1 rfl) rfl
theorem dX12_keep_23 : decode cX12_keep 23 = .ok (.aload_n 0, 1) := dq_42 (zby_at (j := 7) zbX12_keep_1 rfl)
theorem dX12_keep_24 : decode cX12_keep 24 = .ok (.getfield 17, 3) := dq_180 (zby_at (j := 8) zbX12_keep_1 rfl) (zby_at (j := 9) zbX12_keep_1 rfl) (zby_at (j := 10) zbX12_keep_1 rfl)
theorem dX12_keep_27 : decode cX12_keep 27 = .ok (.bipush 43, 2) := dq_16 (zby_at (j := 11) zbX12_keep_1 rfl) (zby_at (j := 12) zbX12_keep_1 rfl) rfl
theorem dX12_keep_29 : decode cX12_keep 29 = .ok (.iload_n 1, 1) := dq_27 (zby_at (j := 13) zbX12_keep_1 rfl)
theorem dX12_keep_30 : decode cX12_keep 30 = .ok (.imul, 1) := dq_104 (zby_at (j := 14) zbX12_keep_1 rfl)
theorem dX12_keep_31 : decode cX12_keep 31 = .ok (.iload_n 2, 1) := dq_28 (zby_at (j := 15) zbX12_keep_1 rfl)
theorem zbX12_keep_2 : zby cX12_keep 32 20 = [96, 42, 180, 0, 9, 28, 46, 79, 132, 2, 1, 167, 255, 230, 3, 61, 28, 17, 40, 0] := by decide +kernel
theorem dX12_keep_32 : decode cX12_keep 32 = .ok (.iadd, 1) := dq_96 (zby_at (j := 0) zbX12_keep_2 rfl)
theorem dX12_keep_33 : decode cX12_keep 33 = .ok (.aload_n 0, 1) := dq_42 (zby_at (j := 1) zbX12_keep_2 rfl)
theorem dX12_keep_34 : decode cX12_keep 34 = .ok (.getfield 9, 3) := dq_180 (zby_at (j := 2) zbX12_keep_2 rfl) (zby_at (j := 3) zbX12_keep_2 rfl) (zby_at (j := 4) zbX12_keep_2 rfl)
theorem dX12_keep_37 : decode cX12_keep 37 = .ok (.iload_n 2, 1) := dq_28 (zby_at (j := 5) zbX12_keep_2 rfl)
theorem dX12_keep_38 : decode cX12_keep 38 = .ok (.iaload, 1) := dq_46 (zby_at (j := 6) zbX12_keep_2 rfl)
theorem dX12_keep_39 : decode cX12_keep 39 = .ok (.iastore, 1) := dq_79 (zby_at (j := 7) zbX12_keep_2 rfl)
theorem dX12_keep_40 : decode cX12_keep 40 = .ok (.iinc 2 1, 3) := dq_132 (zby_at (j := 8) zbX12_keep_2 rfl) (zby_at (j := 9) zbX12_keep_2 rfl) (zby_at (j := 10) zbX12_keep_2 rfl) rfl
theorem dX12_keep_43 : decode cX12_keep 43 = .ok (.goto (-26), 3) := dq_167 (zby_at (j := 11) zbX12_keep_2 rfl) (zby_at (j := 12) zbX12_keep_2 rfl) (zby_at (j := 13) zbX12_keep_2 rfl) rfl
theorem dX12_keep_46 : decode cX12_keep 46 = .ok (.iconst 0, 1) := dq_3 (zby_at (j := 14) zbX12_keep_2 rfl)
theorem dX12_keep_47 : decode cX12_keep 47 = .ok (.istore_n 2, 1) := dq_61 (zby_at (j := 15) zbX12_keep_2 rfl)
theorem zbX12_keep_3 : zby cX12_keep 48 20 = [28, 17, 40, 0, 162, 0, 27, 42, 180, 0, 20, 17, 40, 0, 27, 104, 28, 96, 42, 180] := by decide +kernel
theorem dX12_keep_48 : decode cX12_keep 48 = .ok (.iload_n 2, 1) := dq_28 (zby_at (j := 0) zbX12_keep_3 rfl)
theorem dX12_keep_49 : decode cX12_keep 49 = .ok (.sipush 10240, 3) := dq_17 (zby_at (j := 1) zbX12_keep_3 rfl) (zby_at (j := 2) zbX12_keep_3 rfl) (zby_at (j := 3) zbX12_keep_3 rfl) rfl
theorem dX12_keep_52 : decode cX12_keep 52 = .ok (.if_icmp .ge 27, 3) := dq_162 (zby_at (j := 4) zbX12_keep_3 rfl) (zby_at (j := 5) zbX12_keep_3 rfl) (zby_at (j := 6) zbX12_keep_3 rfl) rfl
theorem dX12_keep_55 : decode cX12_keep 55 = .ok (.aload_n 0, 1) := dq_42 (zby_at (j := 7) zbX12_keep_3 rfl)
theorem dX12_keep_56 : decode cX12_keep 56 = .ok (.getfield 20, 3) := dq_180 (zby_at (j := 8) zbX12_keep_3 rfl) (zby_at (j := 9) zbX12_keep_3 rfl) (zby_at (j := 10) zbX12_keep_3 rfl)
theorem dX12_keep_59 : decode cX12_keep 59 = .ok (.sipush 10240, 3) := dq_17 (zby_at (j := 11) zbX12_keep_3 rfl) (zby_at (j := 12) zbX12_keep_3 rfl) (zby_at (j := 13) zbX12_keep_3 rfl) rfl
theorem dX12_keep_62 : decode cX12_keep 62 = .ok (.iload_n 1, 1) := dq_27 (zby_at (j := 14) zbX12_keep_3 rfl)
theorem dX12_keep_63 : decode cX12_keep 63 = .ok (.imul, 1) := dq_104 (zby_at (j := 15) zbX12_keep_3 rfl)
theorem zbX12_keep_4 : zby cX12_keep 64 20 = [28, 96, 42, 180, 0, 13, 28, 51, 84, 132, 2, 1, 167, 255, 228, 42, 180, 0, 23, 27] := by decide +kernel
theorem dX12_keep_64 : decode cX12_keep 64 = .ok (.iload_n 2, 1) := dq_28 (zby_at (j := 0) zbX12_keep_4 rfl)
theorem dX12_keep_65 : decode cX12_keep 65 = .ok (.iadd, 1) := dq_96 (zby_at (j := 1) zbX12_keep_4 rfl)
theorem dX12_keep_66 : decode cX12_keep 66 = .ok (.aload_n 0, 1) := dq_42 (zby_at (j := 2) zbX12_keep_4 rfl)
theorem dX12_keep_67 : decode cX12_keep 67 = .ok (.getfield 13, 3) := dq_180 (zby_at (j := 3) zbX12_keep_4 rfl) (zby_at (j := 4) zbX12_keep_4 rfl) (zby_at (j := 5) zbX12_keep_4 rfl)
theorem dX12_keep_70 : decode cX12_keep 70 = .ok (.iload_n 2, 1) := dq_28 (zby_at (j := 6) zbX12_keep_4 rfl)
theorem dX12_keep_71 : decode cX12_keep 71 = .ok (.baload, 1) := dq_51 (zby_at (j := 7) zbX12_keep_4 rfl)
theorem dX12_keep_72 : decode cX12_keep 72 = .ok (.bastore, 1) := dq_84 (zby_at (j := 8) zbX12_keep_4 rfl)
theorem dX12_keep_73 : decode cX12_keep 73 = .ok (.iinc 2 1, 3) := dq_132 (zby_at (j := 9) zbX12_keep_4 rfl) (zby_at (j := 10) zbX12_keep_4 rfl) (zby_at (j := 11) zbX12_keep_4 rfl) rfl
theorem dX12_keep_76 : decode cX12_keep 76 = .ok (.goto (-28), 3) := dq_167 (zby_at (j := 12) zbX12_keep_4 rfl) (zby_at (j := 13) zbX12_keep_4 rfl) (zby_at (j := 14) zbX12_keep_4 rfl) rfl
theorem dX12_keep_79 : decode cX12_keep 79 = .ok (.aload_n 0, 1) := dq_42 (zby_at (j := 15) zbX12_keep_4 rfl)
theorem zbX12_keep_5 : zby cX12_keep 80 20 = [180, 0, 23, 27, 4, 84, 3, 172] := by decide +kernel
theorem dX12_keep_80 : decode cX12_keep 80 = .ok (.getfield 23, 3) := dq_180 (zby_at (j := 0) zbX12_keep_5 rfl) (zby_at (j := 1) zbX12_keep_5 rfl) (zby_at (j := 2) zbX12_keep_5 rfl)
theorem dX12_keep_83 : decode cX12_keep 83 = .ok (.iload_n 1, 1) := dq_27 (zby_at (j := 3) zbX12_keep_5 rfl)
theorem dX12_keep_84 : decode cX12_keep 84 = .ok (.iconst 1, 1) := dq_4 (zby_at (j := 4) zbX12_keep_5 rfl)
theorem dX12_keep_85 : decode cX12_keep 85 = .ok (.bastore, 1) := dq_84 (zby_at (j := 5) zbX12_keep_5 rfl)
theorem dX12_keep_86 : decode cX12_keep 86 = .ok (.iconst 0, 1) := dq_3 (zby_at (j := 6) zbX12_keep_5 rfl)
theorem dX12_keep_87 : decode cX12_keep 87 = .ok (.ireturn, 1) := dq_172 (zby_at (j := 7) zbX12_keep_5 rfl)
theorem zbX12_back_0 : zby cX12_back 0 20 = [27, 133, 9, 20, 0, 92, 184, 0, 94, 154, 0, 6, 16, 254, 172, 42, 180, 0, 23, 27] := by decide +kernel
theorem dX12_back_0 : decode cX12_back 0 = .ok (.iload_n 1, 1) := dq_27 (zby_at (j := 0) zbX12_back_0 rfl)
theorem dX12_back_1 : decode cX12_back 1 = .ok (.i2l, 1) := dq_133 (zby_at (j := 1) zbX12_back_0 rfl)
theorem dX12_back_2 : decode cX12_back 2 = .ok (.lconst 0, 1) := dq_9 (zby_at (j := 2) zbX12_back_0 rfl)
theorem dX12_back_3 : decode cX12_back 3 = .ok (.ldc2_w 92, 3) := dq_20 (zby_at (j := 3) zbX12_back_0 rfl) (zby_at (j := 4) zbX12_back_0 rfl) (zby_at (j := 5) zbX12_back_0 rfl)
theorem dX12_back_6 : decode cX12_back 6 = .ok (.invokestatic 94, 3) := dq_184 (zby_at (j := 6) zbX12_back_0 rfl) (zby_at (j := 7) zbX12_back_0 rfl) (zby_at (j := 8) zbX12_back_0 rfl)
theorem dX12_back_9 : decode cX12_back 9 = .ok (.ifCond .ne 6, 3) := dq_154 (zby_at (j := 9) zbX12_back_0 rfl) (zby_at (j := 10) zbX12_back_0 rfl) (zby_at (j := 11) zbX12_back_0 rfl) rfl
theorem dX12_back_12 : decode cX12_back 12 = .ok (.bipush (-2), 2) := dq_16 (zby_at (j := 12) zbX12_back_0 rfl) (zby_at (j := 13) zbX12_back_0 rfl) rfl
theorem dX12_back_14 : decode cX12_back 14 = .ok (.ireturn, 1) := dq_172 (zby_at (j := 14) zbX12_back_0 rfl)
theorem dX12_back_15 : decode cX12_back 15 = .ok (.aload_n 0, 1) := dq_42 (zby_at (j := 15) zbX12_back_0 rfl)
theorem zbX12_back_1 : zby cX12_back 16 20 = [180, 0, 23, 27, 51, 154, 0, 6, 16, 250, 172, 3, 61, 28, 16, 43, 162, 0, 26, 42] := by decide +kernel
theorem dX12_back_16 : decode cX12_back 16 = .ok (.getfield 23, 3) := dq_180 (zby_at (j := 0) zbX12_back_1 rfl) (zby_at (j := 1) zbX12_back_1 rfl) (zby_at (j := 2) zbX12_back_1 rfl)
theorem dX12_back_19 : decode cX12_back 19 = .ok (.iload_n 1, 1) := dq_27 (zby_at (j := 3) zbX12_back_1 rfl)
theorem dX12_back_20 : decode cX12_back 20 = .ok (.baload, 1) := dq_51 (zby_at (j := 4) zbX12_back_1 rfl)
theorem dX12_back_21 : decode cX12_back 21 = .ok (.ifCond .ne 6, 3) := dq_154 (zby_at (j := 5) zbX12_back_1 rfl) (zby_at (j := 6) zbX12_back_1 rfl) (zby_at (j := 7) zbX12_back_1 rfl) rfl
theorem dX12_back_24 : decode cX12_back 24 = .ok (.bipush (-6), 2) := dq_16 (zby_at (j := 8) zbX12_back_1 rfl) (zby_at (j := 9) zbX12_back_1 rfl) rfl
theorem dX12_back_26 : decode cX12_back 26 = .ok (.ireturn, 1) := dq_172 (zby_at (j := 10) zbX12_back_1 rfl)
theorem dX12_back_27 : decode cX12_back 27 = .ok (.iconst 0, 1) := dq_3 (zby_at (j := 11) zbX12_back_1 rfl)
theorem dX12_back_28 : decode cX12_back 28 = .ok (.istore_n 2, 1) := dq_61 (zby_at (j := 12) zbX12_back_1 rfl)
theorem dX12_back_29 : decode cX12_back 29 = .ok (.iload_n 2, 1) := dq_28 (zby_at (j := 13) zbX12_back_1 rfl)
theorem dX12_back_30 : decode cX12_back 30 = .ok (.bipush 43, 2) := dq_16 (zby_at (j := 14) zbX12_back_1 rfl) (zby_at (j := 15) zbX12_back_1 rfl) rfl
theorem zbX12_back_2 : zby cX12_back 32 20 = [162, 0, 26, 42, 180, 0, 9, 28, 42, 180, 0, 17, 16, 43, 27, 104, 28, 96, 46, 79] := by decide +kernel
theorem dX12_back_32 : decode cX12_back 32 = .ok (.if_icmp .ge 26, 3) := dq_162 (zby_at (j := 0) zbX12_back_2 rfl) (zby_at (j := 1) zbX12_back_2 rfl) (zby_at (j := 2) zbX12_back_2 rfl) rfl
theorem dX12_back_35 : decode cX12_back 35 = .ok (.aload_n 0, 1) := dq_42 (zby_at (j := 3) zbX12_back_2 rfl)
theorem dX12_back_36 : decode cX12_back 36 = .ok (.getfield 9, 3) := dq_180 (zby_at (j := 4) zbX12_back_2 rfl) (zby_at (j := 5) zbX12_back_2 rfl) (zby_at (j := 6) zbX12_back_2 rfl)
theorem dX12_back_39 : decode cX12_back 39 = .ok (.iload_n 2, 1) := dq_28 (zby_at (j := 7) zbX12_back_2 rfl)
theorem dX12_back_40 : decode cX12_back 40 = .ok (.aload_n 0, 1) := dq_42 (zby_at (j := 8) zbX12_back_2 rfl)
theorem dX12_back_41 : decode cX12_back 41 = .ok (.getfield 17, 3) := dq_180 (zby_at (j := 9) zbX12_back_2 rfl) (zby_at (j := 10) zbX12_back_2 rfl) (zby_at (j := 11) zbX12_back_2 rfl)
theorem dX12_back_44 : decode cX12_back 44 = .ok (.bipush 43, 2) := dq_16 (zby_at (j := 12) zbX12_back_2 rfl) (zby_at (j := 13) zbX12_back_2 rfl) rfl
theorem dX12_back_46 : decode cX12_back 46 = .ok (.iload_n 1, 1) := dq_27 (zby_at (j := 14) zbX12_back_2 rfl)
theorem dX12_back_47 : decode cX12_back 47 = .ok (.imul, 1) := dq_104 (zby_at (j := 15) zbX12_back_2 rfl)
theorem zbX12_back_3 : zby cX12_back 48 20 = [28, 96, 46, 79, 132, 2, 1, 167, 255, 230, 3, 61, 28, 17, 40, 0, 162, 0, 27, 42] := by decide +kernel
theorem dX12_back_48 : decode cX12_back 48 = .ok (.iload_n 2, 1) := dq_28 (zby_at (j := 0) zbX12_back_3 rfl)
theorem dX12_back_49 : decode cX12_back 49 = .ok (.iadd, 1) := dq_96 (zby_at (j := 1) zbX12_back_3 rfl)
theorem dX12_back_50 : decode cX12_back 50 = .ok (.iaload, 1) := dq_46 (zby_at (j := 2) zbX12_back_3 rfl)
theorem dX12_back_51 : decode cX12_back 51 = .ok (.iastore, 1) := dq_79 (zby_at (j := 3) zbX12_back_3 rfl)
theorem dX12_back_52 : decode cX12_back 52 = .ok (.iinc 2 1, 3) := dq_132 (zby_at (j := 4) zbX12_back_3 rfl) (zby_at (j := 5) zbX12_back_3 rfl) (zby_at (j := 6) zbX12_back_3 rfl) rfl
theorem dX12_back_55 : decode cX12_back 55 = .ok (.goto (-26), 3) := dq_167 (zby_at (j := 7) zbX12_back_3 rfl) (zby_at (j := 8) zbX12_back_3 rfl) (zby_at (j := 9) zbX12_back_3 rfl) rfl
theorem dX12_back_58 : decode cX12_back 58 = .ok (.iconst 0, 1) := dq_3 (zby_at (j := 10) zbX12_back_3 rfl)
theorem dX12_back_59 : decode cX12_back 59 = .ok (.istore_n 2, 1) := dq_61 (zby_at (j := 11) zbX12_back_3 rfl)
theorem dX12_back_60 : decode cX12_back 60 = .ok (.iload_n 2, 1) := dq_28 (zby_at (j := 12) zbX12_back_3 rfl)
theorem dX12_back_61 : decode cX12_back 61 = .ok (.sipush 10240, 3) := dq_17 (zby_at (j := 13) zbX12_back_3 rfl) (zby_at (j := 14) zbX12_back_3 rfl) (zby_at (j := 15) zbX12_back_3 rfl) rfl
theorem zbX12_back_4 : zby cX12_back 64 20 = [162, 0, 27, 42, 180, 0, 13, 28, 42, 180, 0, 20, 17, 40, 0, 27, 104, 28, 96, 51] := by decide +kernel
theorem dX12_back_64 : decode cX12_back 64 = .ok (.if_icmp .ge 27, 3) := dq_162 (zby_at (j := 0) zbX12_back_4 rfl) (zby_at (j := 1) zbX12_back_4 rfl) (zby_at (j := 2) zbX12_back_4 rfl) rfl
theorem dX12_back_67 : decode cX12_back 67 = .ok (.aload_n 0, 1) := dq_42 (zby_at (j := 3) zbX12_back_4 rfl)
theorem dX12_back_68 : decode cX12_back 68 = .ok (.getfield 13, 3) := dq_180 (zby_at (j := 4) zbX12_back_4 rfl) (zby_at (j := 5) zbX12_back_4 rfl) (zby_at (j := 6) zbX12_back_4 rfl)
theorem dX12_back_71 : decode cX12_back 71 = .ok (.iload_n 2, 1) := dq_28 (zby_at (j := 7) zbX12_back_4 rfl)
theorem dX12_back_72 : decode cX12_back 72 = .ok (.aload_n 0, 1) := dq_42 (zby_at (j := 8) zbX12_back_4 rfl)
theorem dX12_back_73 : decode cX12_back 73 = .ok (.getfield 20, 3) := dq_180 (zby_at (j := 9) zbX12_back_4 rfl) (zby_at (j := 10) zbX12_back_4 rfl) (zby_at (j := 11) zbX12_back_4 rfl)
theorem dX12_back_76 : decode cX12_back 76 = .ok (.sipush 10240, 3) := dq_17 (zby_at (j := 12) zbX12_back_4 rfl) (zby_at (j := 13) zbX12_back_4 rfl) (zby_at (j := 14) zbX12_back_4 rfl) rfl
theorem dX12_back_79 : decode cX12_back 79 = .ok (.iload_n 1, 1) := dq_27 (zby_at (j := 15) zbX12_back_4 rfl)
theorem zbX12_back_5 : zby cX12_back 80 20 = [104, 28, 96, 51, 84, 132, 2, 1, 167, 255, 228, 3, 172] := by decide +kernel
theorem dX12_back_80 : decode cX12_back 80 = .ok (.imul, 1) := dq_104 (zby_at (j := 0) zbX12_back_5 rfl)
theorem dX12_back_81 : decode cX12_back 81 = .ok (.iload_n 2, 1) := dq_28 (zby_at (j := 1) zbX12_back_5 rfl)
theorem dX12_back_82 : decode cX12_back 82 = .ok (.iadd, 1) := dq_96 (zby_at (j := 2) zbX12_back_5 rfl)
theorem dX12_back_83 : decode cX12_back 83 = .ok (.baload, 1) := dq_51 (zby_at (j := 3) zbX12_back_5 rfl)
theorem dX12_back_84 : decode cX12_back 84 = .ok (.bastore, 1) := dq_84 (zby_at (j := 4) zbX12_back_5 rfl)
theorem dX12_back_85 : decode cX12_back 85 = .ok (.iinc 2 1, 3) := dq_132 (zby_at (j := 5) zbX12_back_5 rfl) (zby_at (j := 6) zbX12_back_5 rfl) (zby_at (j := 7) zbX12_back_5 rfl) rfl
theorem dX12_back_88 : decode cX12_back 88 = .ok (.goto (-28), 3) := dq_167 (zby_at (j := 8) zbX12_back_5 rfl) (zby_at (j := 9) zbX12_back_5 rfl) (zby_at (j := 10) zbX12_back_5 rfl) rfl
theorem dX12_back_91 : decode cX12_back 91 = .ok (.iconst 0, 1) := dq_3 (zby_at (j := 11) zbX12_back_5 rfl)
theorem dX12_back_92 : decode cX12_back 92 = .ok (.ireturn, 1) := dq_172 (zby_at (j := 12) zbX12_back_5 rfl)
theorem zbX12_isWorld_0 : zby cX12_isWorld 0 20 = [42, 180, 0, 9, 3, 46, 158, 0, 7, 4, 167, 0, 4, 3, 172] := by decide +kernel
theorem dX12_isWorld_0 : decode cX12_isWorld 0 = .ok (.aload_n 0, 1) := dq_42 (zby_at (j := 0) zbX12_isWorld_0 rfl)
theorem dX12_isWorld_1 : decode cX12_isWorld 1 = .ok (.getfield 9, 3) := dq_180 (zby_at (j := 1) zbX12_isWorld_0 rfl) (zby_at (j := 2) zbX12_isWorld_0 rfl) (zby_at (j := 3) zbX12_isWorld_0 rfl)
theorem dX12_isWorld_4 : decode cX12_isWorld 4 = .ok (.iconst 0, 1) := dq_3 (zby_at (j := 4) zbX12_isWorld_0 rfl)
theorem dX12_isWorld_5 : decode cX12_isWorld 5 = .ok (.iaload, 1) := dq_46 (zby_at (j := 5) zbX12_isWorld_0 rfl)
theorem dX12_isWorld_6 : decode cX12_isWorld 6 = .ok (.ifCond .le 7, 3) := dq_158 (zby_at (j := 6) zbX12_isWorld_0 rfl) (zby_at (j := 7) zbX12_isWorld_0 rfl) (zby_at (j := 8) zbX12_isWorld_0 rfl) rfl
theorem dX12_isWorld_9 : decode cX12_isWorld 9 = .ok (.iconst 1, 1) := dq_4 (zby_at (j := 9) zbX12_isWorld_0 rfl)
theorem dX12_isWorld_10 : decode cX12_isWorld 10 = .ok (.goto 4, 3) := dq_167 (zby_at (j := 10) zbX12_isWorld_0 rfl) (zby_at (j := 11) zbX12_isWorld_0 rfl) (zby_at (j := 12) zbX12_isWorld_0 rfl) rfl
theorem dX12_isWorld_13 : decode cX12_isWorld 13 = .ok (.iconst 0, 1) := dq_3 (zby_at (j := 13) zbX12_isWorld_0 rfl)
theorem dX12_isWorld_14 : decode cX12_isWorld 14 = .ok (.ireturn, 1) := dq_172 (zby_at (j := 14) zbX12_isWorld_0 rfl)
theorem zbX12_isRegister_0 : zby cX12_isRegister 0 20 = [42, 182, 0, 98, 153, 0, 19, 27, 133, 9, 20, 0, 102, 184, 0, 94, 153, 0, 7, 4] := by decide +kernel
theorem dX12_isRegister_0 : decode cX12_isRegister 0 = .ok (.aload_n 0, 1) := dq_42 (zby_at (j := 0) zbX12_isRegister_0 rfl)
theorem dX12_isRegister_1 : decode cX12_isRegister 1 = .ok (.invokevirtual 98, 3) := dq_182 (zby_at (j := 1) zbX12_isRegister_0 rfl) (zby_at (j := 2) zbX12_isRegister_0 rfl) (zby_at (j := 3) zbX12_isRegister_0 rfl)
theorem dX12_isRegister_4 : decode cX12_isRegister 4 = .ok (.ifCond .eq 19, 3) := dq_153 (zby_at (j := 4) zbX12_isRegister_0 rfl) (zby_at (j := 5) zbX12_isRegister_0 rfl) (zby_at (j := 6) zbX12_isRegister_0 rfl) rfl
theorem dX12_isRegister_7 : decode cX12_isRegister 7 = .ok (.iload_n 1, 1) := dq_27 (zby_at (j := 7) zbX12_isRegister_0 rfl)
theorem dX12_isRegister_8 : decode cX12_isRegister 8 = .ok (.i2l, 1) := dq_133 (zby_at (j := 8) zbX12_isRegister_0 rfl)
theorem dX12_isRegister_9 : decode cX12_isRegister 9 = .ok (.lconst 0, 1) := dq_9 (zby_at (j := 9) zbX12_isRegister_0 rfl)
theorem dX12_isRegister_10 : decode cX12_isRegister 10 = .ok (.ldc2_w 102, 3) := dq_20 (zby_at (j := 10) zbX12_isRegister_0 rfl) (zby_at (j := 11) zbX12_isRegister_0 rfl) (zby_at (j := 12) zbX12_isRegister_0 rfl)
theorem dX12_isRegister_13 : decode cX12_isRegister 13 = .ok (.invokestatic 94, 3) := dq_184 (zby_at (j := 13) zbX12_isRegister_0 rfl) (zby_at (j := 14) zbX12_isRegister_0 rfl) (zby_at (j := 15) zbX12_isRegister_0 rfl)
theorem zbX12_isRegister_1 : zby cX12_isRegister 16 20 = [153, 0, 7, 4, 167, 0, 4, 3, 172] := by decide +kernel
theorem dX12_isRegister_16 : decode cX12_isRegister 16 = .ok (.ifCond .eq 7, 3) := dq_153 (zby_at (j := 0) zbX12_isRegister_1 rfl) (zby_at (j := 1) zbX12_isRegister_1 rfl) (zby_at (j := 2) zbX12_isRegister_1 rfl) rfl
theorem dX12_isRegister_19 : decode cX12_isRegister 19 = .ok (.iconst 1, 1) := dq_4 (zby_at (j := 3) zbX12_isRegister_1 rfl)
theorem dX12_isRegister_20 : decode cX12_isRegister 20 = .ok (.goto 4, 3) := dq_167 (zby_at (j := 4) zbX12_isRegister_1 rfl) (zby_at (j := 5) zbX12_isRegister_1 rfl) (zby_at (j := 6) zbX12_isRegister_1 rfl) rfl
theorem dX12_isRegister_23 : decode cX12_isRegister 23 = .ok (.iconst 0, 1) := dq_3 (zby_at (j := 7) zbX12_isRegister_1 rfl)
theorem dX12_isRegister_24 : decode cX12_isRegister 24 = .ok (.ireturn, 1) := dq_172 (zby_at (j := 8) zbX12_isRegister_1 rfl)
theorem zbX12_many_0 : zby cX12_many 0 20 = [42, 182, 0, 98, 153, 0, 14, 4, 42, 180, 0, 9, 3, 46, 120, 167, 0, 4, 3, 172] := by decide +kernel
theorem dX12_many_0 : decode cX12_many 0 = .ok (.aload_n 0, 1) := dq_42 (zby_at (j := 0) zbX12_many_0 rfl)
theorem dX12_many_1 : decode cX12_many 1 = .ok (.invokevirtual 98, 3) := dq_182 (zby_at (j := 1) zbX12_many_0 rfl) (zby_at (j := 2) zbX12_many_0 rfl) (zby_at (j := 3) zbX12_many_0 rfl)
theorem dX12_many_4 : decode cX12_many 4 = .ok (.ifCond .eq 14, 3) := dq_153 (zby_at (j := 4) zbX12_many_0 rfl) (zby_at (j := 5) zbX12_many_0 rfl) (zby_at (j := 6) zbX12_many_0 rfl) rfl
theorem dX12_many_7 : decode cX12_many 7 = .ok (.iconst 1, 1) := dq_4 (zby_at (j := 7) zbX12_many_0 rfl)
theorem dX12_many_8 : decode cX12_many 8 = .ok (.aload_n 0, 1) := dq_42 (zby_at (j := 8) zbX12_many_0 rfl)
theorem dX12_many_9 : decode cX12_many 9 = .ok (.getfield 9, 3) := dq_180 (zby_at (j := 9) zbX12_many_0 rfl) (zby_at (j := 10) zbX12_many_0 rfl) (zby_at (j := 11) zbX12_many_0 rfl)
theorem dX12_many_12 : decode cX12_many 12 = .ok (.iconst 0, 1) := dq_3 (zby_at (j := 12) zbX12_many_0 rfl)
theorem dX12_many_13 : decode cX12_many 13 = .ok (.iaload, 1) := dq_46 (zby_at (j := 13) zbX12_many_0 rfl)
theorem dX12_many_14 : decode cX12_many 14 = .ok (.ishl, 1) := dq_120 (zby_at (j := 14) zbX12_many_0 rfl)
theorem dX12_many_15 : decode cX12_many 15 = .ok (.goto 4, 3) := dq_167 (zby_at (j := 15) zbX12_many_0 rfl) (zby_at (j := 16) zbX12_many_0 rfl) (zby_at (j := 17) zbX12_many_0 rfl) rfl
theorem zbX12_many_1 : zby cX12_many 16 20 = [0, 4, 3, 172] := by decide +kernel
theorem dX12_many_18 : decode cX12_many 18 = .ok (.iconst 0, 1) := dq_3 (zby_at (j := 2) zbX12_many_1 rfl)
theorem dX12_many_19 : decode cX12_many 19 = .ok (.ireturn, 1) := dq_172 (zby_at (j := 3) zbX12_many_1 rfl)
theorem zbX12_isSet_0 : zby cX12_isSet 0 20 = [27, 133, 9, 42, 182, 0, 104, 4, 100, 133, 184, 0, 94, 172] := by decide +kernel
theorem dX12_isSet_0 : decode cX12_isSet 0 = .ok (.iload_n 1, 1) := dq_27 (zby_at (j := 0) zbX12_isSet_0 rfl)
theorem dX12_isSet_1 : decode cX12_isSet 1 = .ok (.i2l, 1) := dq_133 (zby_at (j := 1) zbX12_isSet_0 rfl)
theorem dX12_isSet_2 : decode cX12_isSet 2 = .ok (.lconst 0, 1) := dq_9 (zby_at (j := 2) zbX12_isSet_0 rfl)
theorem dX12_isSet_3 : decode cX12_isSet 3 = .ok (.aload_n 0, 1) := dq_42 (zby_at (j := 3) zbX12_isSet_0 rfl)
theorem dX12_isSet_4 : decode cX12_isSet 4 = .ok (.invokevirtual 104, 3) := dq_182 (zby_at (j := 4) zbX12_isSet_0 rfl) (zby_at (j := 5) zbX12_isSet_0 rfl) (zby_at (j := 6) zbX12_isSet_0 rfl)
theorem dX12_isSet_7 : decode cX12_isSet 7 = .ok (.iconst 1, 1) := dq_4 (zby_at (j := 7) zbX12_isSet_0 rfl)
theorem dX12_isSet_8 : decode cX12_isSet 8 = .ok (.isub, 1) := dq_100 (zby_at (j := 8) zbX12_isSet_0 rfl)
theorem dX12_isSet_9 : decode cX12_isSet 9 = .ok (.i2l, 1) := dq_133 (zby_at (j := 9) zbX12_isSet_0 rfl)
theorem dX12_isSet_10 : decode cX12_isSet 10 = .ok (.invokestatic 94, 3) := dq_184 (zby_at (j := 10) zbX12_isSet_0 rfl) (zby_at (j := 11) zbX12_isSet_0 rfl) (zby_at (j := 12) zbX12_isSet_0 rfl)
theorem dX12_isSet_13 : decode cX12_isSet 13 = .ok (.ireturn, 1) := dq_172 (zby_at (j := 13) zbX12_isSet_0 rfl)
theorem zbX12_isName_0 : zby cX12_isName 0 20 = [27, 133, 9, 42, 180, 0, 9, 3, 46, 4, 100, 133, 184, 0, 94, 172] := by decide +kernel
theorem dX12_isName_0 : decode cX12_isName 0 = .ok (.iload_n 1, 1) := dq_27 (zby_at (j := 0) zbX12_isName_0 rfl)
theorem dX12_isName_1 : decode cX12_isName 1 = .ok (.i2l, 1) := dq_133 (zby_at (j := 1) zbX12_isName_0 rfl)
theorem dX12_isName_2 : decode cX12_isName 2 = .ok (.lconst 0, 1) := dq_9 (zby_at (j := 2) zbX12_isName_0 rfl)
theorem dX12_isName_3 : decode cX12_isName 3 = .ok (.aload_n 0, 1) := dq_42 (zby_at (j := 3) zbX12_isName_0 rfl)
theorem dX12_isName_4 : decode cX12_isName 4 = .ok (.getfield 9, 3) := dq_180 (zby_at (j := 4) zbX12_isName_0 rfl) (zby_at (j := 5) zbX12_isName_0 rfl) (zby_at (j := 6) zbX12_isName_0 rfl)
theorem dX12_isName_7 : decode cX12_isName 7 = .ok (.iconst 0, 1) := dq_3 (zby_at (j := 7) zbX12_isName_0 rfl)
theorem dX12_isName_8 : decode cX12_isName 8 = .ok (.iaload, 1) := dq_46 (zby_at (j := 8) zbX12_isName_0 rfl)
theorem dX12_isName_9 : decode cX12_isName 9 = .ok (.iconst 1, 1) := dq_4 (zby_at (j := 9) zbX12_isName_0 rfl)
theorem dX12_isName_10 : decode cX12_isName 10 = .ok (.isub, 1) := dq_100 (zby_at (j := 10) zbX12_isName_0 rfl)
theorem dX12_isName_11 : decode cX12_isName 11 = .ok (.i2l, 1) := dq_133 (zby_at (j := 11) zbX12_isName_0 rfl)
theorem dX12_isName_12 : decode cX12_isName 12 = .ok (.invokestatic 94, 3) := dq_184 (zby_at (j := 12) zbX12_isName_0 rfl) (zby_at (j := 13) zbX12_isName_0 rfl) (zby_at (j := 14) zbX12_isName_0 rfl)
theorem dX12_isName_15 : decode cX12_isName 15 = .ok (.ireturn, 1) := dq_172 (zby_at (j := 15) zbX12_isName_0 rfl)
theorem zbX12_of_0 : zby cX12_of 0 20 = [42, 180, 0, 13, 17, 4, 0, 27, 104, 28, 96, 51, 172] := by decide +kernel
theorem dX12_of_0 : decode cX12_of 0 = .ok (.aload_n 0, 1) := dq_42 (zby_at (j := 0) zbX12_of_0 rfl)
theorem dX12_of_1 : decode cX12_of 1 = .ok (.getfield 13, 3) := dq_180 (zby_at (j := 1) zbX12_of_0 rfl) (zby_at (j := 2) zbX12_of_0 rfl) (zby_at (j := 3) zbX12_of_0 rfl)
theorem dX12_of_4 : decode cX12_of 4 = .ok (.sipush 1024, 3) := dq_17 (zby_at (j := 4) zbX12_of_0 rfl) (zby_at (j := 5) zbX12_of_0 rfl) (zby_at (j := 6) zbX12_of_0 rfl) rfl
theorem dX12_of_7 : decode cX12_of 7 = .ok (.iload_n 1, 1) := dq_27 (zby_at (j := 7) zbX12_of_0 rfl)
theorem dX12_of_8 : decode cX12_of 8 = .ok (.imul, 1) := dq_104 (zby_at (j := 8) zbX12_of_0 rfl)
theorem dX12_of_9 : decode cX12_of 9 = .ok (.iload_n 2, 1) := dq_28 (zby_at (j := 9) zbX12_of_0 rfl)
theorem dX12_of_10 : decode cX12_of 10 = .ok (.iadd, 1) := dq_96 (zby_at (j := 10) zbX12_of_0 rfl)
theorem dX12_of_11 : decode cX12_of 11 = .ok (.baload, 1) := dq_51 (zby_at (j := 11) zbX12_of_0 rfl)
theorem dX12_of_12 : decode cX12_of 12 = .ok (.ireturn, 1) := dq_172 (zby_at (j := 12) zbX12_of_0 rfl)
theorem zbX12_namesOf_0 : zby cX12_namesOf 0 20 = [3, 60, 3, 61, 28, 16, 10, 162, 0, 17, 27, 26, 28, 122, 4, 126, 96, 60, 132, 2] := by decide +kernel
theorem dX12_namesOf_0 : decode cX12_namesOf 0 = .ok (.iconst 0, 1) := dq_3 (zby_at (j := 0) zbX12_namesOf_0 rfl)
theorem dX12_namesOf_1 : decode cX12_namesOf 1 = .ok (.istore_n 1, 1) := dq_60 (zby_at (j := 1) zbX12_namesOf_0 rfl)
theorem dX12_namesOf_2 : decode cX12_namesOf 2 = .ok (.iconst 0, 1) := dq_3 (zby_at (j := 2) zbX12_namesOf_0 rfl)
theorem dX12_namesOf_3 : decode cX12_namesOf 3 = .ok (.istore_n 2, 1) := dq_61 (zby_at (j := 3) zbX12_namesOf_0 rfl)
theorem dX12_namesOf_4 : decode cX12_namesOf 4 = .ok (.iload_n 2, 1) := dq_28 (zby_at (j := 4) zbX12_namesOf_0 rfl)
theorem dX12_namesOf_5 : decode cX12_namesOf 5 = .ok (.bipush 10, 2) := dq_16 (zby_at (j := 5) zbX12_namesOf_0 rfl) (zby_at (j := 6) zbX12_namesOf_0 rfl) rfl
theorem dX12_namesOf_7 : decode cX12_namesOf 7 = .ok (.if_icmp .ge 17, 3) := dq_162 (zby_at (j := 7) zbX12_namesOf_0 rfl) (zby_at (j := 8) zbX12_namesOf_0 rfl) (zby_at (j := 9) zbX12_namesOf_0 rfl) rfl
theorem dX12_namesOf_10 : decode cX12_namesOf 10 = .ok (.iload_n 1, 1) := dq_27 (zby_at (j := 10) zbX12_namesOf_0 rfl)
theorem dX12_namesOf_11 : decode cX12_namesOf 11 = .ok (.iload_n 0, 1) := dq_26 (zby_at (j := 11) zbX12_namesOf_0 rfl)
theorem dX12_namesOf_12 : decode cX12_namesOf 12 = .ok (.iload_n 2, 1) := dq_28 (zby_at (j := 12) zbX12_namesOf_0 rfl)
theorem dX12_namesOf_13 : decode cX12_namesOf 13 = .ok (.ishr, 1) := dq_122 (zby_at (j := 13) zbX12_namesOf_0 rfl)
theorem dX12_namesOf_14 : decode cX12_namesOf 14 = .ok (.iconst 1, 1) := dq_4 (zby_at (j := 14) zbX12_namesOf_0 rfl)
theorem dX12_namesOf_15 : decode cX12_namesOf 15 = .ok (.iand, 1) := dq_126 (zby_at (j := 15) zbX12_namesOf_0 rfl)
theorem zbX12_namesOf_1 : zby cX12_namesOf 16 20 = [96, 60, 132, 2, 1, 167, 255, 239, 27, 172] := by decide +kernel
theorem dX12_namesOf_16 : decode cX12_namesOf 16 = .ok (.iadd, 1) := dq_96 (zby_at (j := 0) zbX12_namesOf_1 rfl)
theorem dX12_namesOf_17 : decode cX12_namesOf 17 = .ok (.istore_n 1, 1) := dq_60 (zby_at (j := 1) zbX12_namesOf_1 rfl)
theorem dX12_namesOf_18 : decode cX12_namesOf 18 = .ok (.iinc 2 1, 3) := dq_132 (zby_at (j := 2) zbX12_namesOf_1 rfl) (zby_at (j := 3) zbX12_namesOf_1 rfl) (zby_at (j := 4) zbX12_namesOf_1 rfl) rfl
theorem dX12_namesOf_21 : decode cX12_namesOf 21 = .ok (.goto (-17), 3) := dq_167 (zby_at (j := 5) zbX12_namesOf_1 rfl) (zby_at (j := 6) zbX12_namesOf_1 rfl) (zby_at (j := 7) zbX12_namesOf_1 rfl) rfl
theorem dX12_namesOf_24 : decode cX12_namesOf 24 = .ok (.iload_n 1, 1) := dq_27 (zby_at (j := 8) zbX12_namesOf_1 rfl)
theorem dX12_namesOf_25 : decode cX12_namesOf 25 = .ok (.ireturn, 1) := dq_172 (zby_at (j := 9) zbX12_namesOf_1 rfl)
theorem zbX12_feed_0 : zby cX12_feed 0 20 = [42, 180, 0, 107, 16, 20, 96, 17, 2, 88, 164, 0, 5, 2, 172, 42, 180, 0, 30, 3] := by decide +kernel
theorem dX12_feed_0 : decode cX12_feed 0 = .ok (.aload_n 0, 1) := dq_42 (zby_at (j := 0) zbX12_feed_0 rfl)
theorem dX12_feed_1 : decode cX12_feed 1 = .ok (.getfield 107, 3) := dq_180 (zby_at (j := 1) zbX12_feed_0 rfl) (zby_at (j := 2) zbX12_feed_0 rfl) (zby_at (j := 3) zbX12_feed_0 rfl)
theorem dX12_feed_4 : decode cX12_feed 4 = .ok (.bipush 20, 2) := dq_16 (zby_at (j := 4) zbX12_feed_0 rfl) (zby_at (j := 5) zbX12_feed_0 rfl) rfl
theorem dX12_feed_6 : decode cX12_feed 6 = .ok (.iadd, 1) := dq_96 (zby_at (j := 6) zbX12_feed_0 rfl)
theorem dX12_feed_7 : decode cX12_feed 7 = .ok (.sipush 600, 3) := dq_17 (zby_at (j := 7) zbX12_feed_0 rfl) (zby_at (j := 8) zbX12_feed_0 rfl) (zby_at (j := 9) zbX12_feed_0 rfl) rfl
theorem dX12_feed_10 : decode cX12_feed 10 = .ok (.if_icmp .le 5, 3) := dq_164 (zby_at (j := 10) zbX12_feed_0 rfl) (zby_at (j := 11) zbX12_feed_0 rfl) (zby_at (j := 12) zbX12_feed_0 rfl) rfl
theorem dX12_feed_13 : decode cX12_feed 13 = .ok (.iconst (-1), 1) := dq_2 (zby_at (j := 13) zbX12_feed_0 rfl)
theorem dX12_feed_14 : decode cX12_feed 14 = .ok (.ireturn, 1) := dq_172 (zby_at (j := 14) zbX12_feed_0 rfl)
theorem dX12_feed_15 : decode cX12_feed 15 = .ok (.aload_n 0, 1) := dq_42 (zby_at (j := 15) zbX12_feed_0 rfl)
theorem zbX12_feed_1 : zby cX12_feed 16 20 = [180, 0, 30, 3, 27, 79, 42, 180, 0, 30, 4, 28, 79, 42, 180, 0, 30, 5, 29, 79] := by decide +kernel
theorem dX12_feed_16 : decode cX12_feed 16 = .ok (.getfield 30, 3) := dq_180 (zby_at (j := 0) zbX12_feed_1 rfl) (zby_at (j := 1) zbX12_feed_1 rfl) (zby_at (j := 2) zbX12_feed_1 rfl)
theorem dX12_feed_19 : decode cX12_feed 19 = .ok (.iconst 0, 1) := dq_3 (zby_at (j := 3) zbX12_feed_1 rfl)
theorem dX12_feed_20 : decode cX12_feed 20 = .ok (.iload_n 1, 1) := dq_27 (zby_at (j := 4) zbX12_feed_1 rfl)
theorem dX12_feed_21 : decode cX12_feed 21 = .ok (.iastore, 1) := dq_79 (zby_at (j := 5) zbX12_feed_1 rfl)
theorem dX12_feed_22 : decode cX12_feed 22 = .ok (.aload_n 0, 1) := dq_42 (zby_at (j := 6) zbX12_feed_1 rfl)
theorem dX12_feed_23 : decode cX12_feed 23 = .ok (.getfield 30, 3) := dq_180 (zby_at (j := 7) zbX12_feed_1 rfl) (zby_at (j := 8) zbX12_feed_1 rfl) (zby_at (j := 9) zbX12_feed_1 rfl)
theorem dX12_feed_26 : decode cX12_feed 26 = .ok (.iconst 1, 1) := dq_4 (zby_at (j := 10) zbX12_feed_1 rfl)
theorem dX12_feed_27 : decode cX12_feed 27 = .ok (.iload_n 2, 1) := dq_28 (zby_at (j := 11) zbX12_feed_1 rfl)
theorem dX12_feed_28 : decode cX12_feed 28 = .ok (.iastore, 1) := dq_79 (zby_at (j := 12) zbX12_feed_1 rfl)
theorem dX12_feed_29 : decode cX12_feed 29 = .ok (.aload_n 0, 1) := dq_42 (zby_at (j := 13) zbX12_feed_1 rfl)
theorem dX12_feed_30 : decode cX12_feed 30 = .ok (.getfield 30, 3) := dq_180 (zby_at (j := 14) zbX12_feed_1 rfl) (zby_at (j := 15) zbX12_feed_1 rfl) (zby_at (j := 16) zbX12_feed_1 rfl)
theorem zbX12_feed_2 : zby cX12_feed 32 20 = [30, 5, 29, 79, 42, 180, 0, 30, 6, 21, 4, 79, 42, 180, 0, 30, 7, 21, 5, 79] := by decide +kernel
theorem dX12_feed_33 : decode cX12_feed 33 = .ok (.iconst 2, 1) := dq_5 (zby_at (j := 1) zbX12_feed_2 rfl)
theorem dX12_feed_34 : decode cX12_feed 34 = .ok (.iload_n 3, 1) := dq_29 (zby_at (j := 2) zbX12_feed_2 rfl)
theorem dX12_feed_35 : decode cX12_feed 35 = .ok (.iastore, 1) := dq_79 (zby_at (j := 3) zbX12_feed_2 rfl)
theorem dX12_feed_36 : decode cX12_feed 36 = .ok (.aload_n 0, 1) := dq_42 (zby_at (j := 4) zbX12_feed_2 rfl)
theorem dX12_feed_37 : decode cX12_feed 37 = .ok (.getfield 30, 3) := dq_180 (zby_at (j := 5) zbX12_feed_2 rfl) (zby_at (j := 6) zbX12_feed_2 rfl) (zby_at (j := 7) zbX12_feed_2 rfl)
theorem dX12_feed_40 : decode cX12_feed 40 = .ok (.iconst 3, 1) := dq_6 (zby_at (j := 8) zbX12_feed_2 rfl)
theorem dX12_feed_41 : decode cX12_feed 41 = .ok (.iload 4, 2) := dq_21 (zby_at (j := 9) zbX12_feed_2 rfl) (zby_at (j := 10) zbX12_feed_2 rfl)
theorem dX12_feed_43 : decode cX12_feed 43 = .ok (.iastore, 1) := dq_79 (zby_at (j := 11) zbX12_feed_2 rfl)
theorem dX12_feed_44 : decode cX12_feed 44 = .ok (.aload_n 0, 1) := dq_42 (zby_at (j := 12) zbX12_feed_2 rfl)
theorem dX12_feed_45 : decode cX12_feed 45 = .ok (.getfield 30, 3) := dq_180 (zby_at (j := 13) zbX12_feed_2 rfl) (zby_at (j := 14) zbX12_feed_2 rfl) (zby_at (j := 15) zbX12_feed_2 rfl)
theorem zbX12_feed_3 : zby cX12_feed 48 20 = [7, 21, 5, 79, 3, 54, 6, 21, 6, 16, 20, 162, 0, 42, 42, 180, 0, 26, 42, 180] := by decide +kernel
theorem dX12_feed_48 : decode cX12_feed 48 = .ok (.iconst 4, 1) := dq_7 (zby_at (j := 0) zbX12_feed_3 rfl)
theorem dX12_feed_49 : decode cX12_feed 49 = .ok (.iload 5, 2) := dq_21 (zby_at (j := 1) zbX12_feed_3 rfl) (zby_at (j := 2) zbX12_feed_3 rfl)
theorem dX12_feed_51 : decode cX12_feed 51 = .ok (.iastore, 1) := dq_79 (zby_at (j := 3) zbX12_feed_3 rfl)
theorem dX12_feed_52 : decode cX12_feed 52 = .ok (.iconst 0, 1) := dq_3 (zby_at (j := 4) zbX12_feed_3 rfl)
theorem dX12_feed_53 : decode cX12_feed 53 = .ok (.istore 6, 2) := dq_54 (zby_at (j := 5) zbX12_feed_3 rfl) (zby_at (j := 6) zbX12_feed_3 rfl)
theorem dX12_feed_55 : decode cX12_feed 55 = .ok (.iload 6, 2) := dq_21 (zby_at (j := 7) zbX12_feed_3 rfl) (zby_at (j := 8) zbX12_feed_3 rfl)
theorem dX12_feed_57 : decode cX12_feed 57 = .ok (.bipush 20, 2) := dq_16 (zby_at (j := 9) zbX12_feed_3 rfl) (zby_at (j := 10) zbX12_feed_3 rfl) rfl
theorem dX12_feed_59 : decode cX12_feed 59 = .ok (.if_icmp .ge 42, 3) := dq_162 (zby_at (j := 11) zbX12_feed_3 rfl) (zby_at (j := 12) zbX12_feed_3 rfl) (zby_at (j := 13) zbX12_feed_3 rfl) rfl
theorem dX12_feed_62 : decode cX12_feed 62 = .ok (.aload_n 0, 1) := dq_42 (zby_at (j := 14) zbX12_feed_3 rfl)
theorem dX12_feed_63 : decode cX12_feed 63 = .ok (.getfield 26, 3) := dq_180 (zby_at (j := 15) zbX12_feed_3 rfl) (zby_at (j := 16) zbX12_feed_3 rfl) (zby_at (j := 17) zbX12_feed_3 rfl)
theorem zbX12_feed_4 : zby cX12_feed 64 20 = [0, 26, 42, 180, 0, 107, 21, 6, 96, 42, 180, 0, 30, 21, 6, 7, 108, 46, 16, 24] := by decide +kernel
theorem dX12_feed_66 : decode cX12_feed 66 = .ok (.aload_n 0, 1) := dq_42 (zby_at (j := 2) zbX12_feed_4 rfl)
theorem dX12_feed_67 : decode cX12_feed 67 = .ok (.getfield 107, 3) := dq_180 (zby_at (j := 3) zbX12_feed_4 rfl) (zby_at (j := 4) zbX12_feed_4 rfl) (zby_at (j := 5) zbX12_feed_4 rfl)
theorem dX12_feed_70 : decode cX12_feed 70 = .ok (.iload 6, 2) := dq_21 (zby_at (j := 6) zbX12_feed_4 rfl) (zby_at (j := 7) zbX12_feed_4 rfl)
theorem dX12_feed_72 : decode cX12_feed 72 = .ok (.iadd, 1) := dq_96 (zby_at (j := 8) zbX12_feed_4 rfl)
theorem dX12_feed_73 : decode cX12_feed 73 = .ok (.aload_n 0, 1) := dq_42 (zby_at (j := 9) zbX12_feed_4 rfl)
theorem dX12_feed_74 : decode cX12_feed 74 = .ok (.getfield 30, 3) := dq_180 (zby_at (j := 10) zbX12_feed_4 rfl) (zby_at (j := 11) zbX12_feed_4 rfl) (zby_at (j := 12) zbX12_feed_4 rfl)
theorem dX12_feed_77 : decode cX12_feed 77 = .ok (.iload 6, 2) := dq_21 (zby_at (j := 13) zbX12_feed_4 rfl) (zby_at (j := 14) zbX12_feed_4 rfl)
theorem dX12_feed_79 : decode cX12_feed 79 = .ok (.iconst 4, 1) := dq_7 (zby_at (j := 15) zbX12_feed_4 rfl)
theorem zbX12_feed_5 : zby cX12_feed 80 20 = [108, 46, 16, 24, 16, 8, 21, 6, 7, 112, 104, 100, 122, 145, 84, 132, 6, 1, 167, 255] := by decide +kernel
theorem dX12_feed_80 : decode cX12_feed 80 = .ok (.idiv, 1) := dq_108 (zby_at (j := 0) zbX12_feed_5 rfl)
theorem dX12_feed_81 : decode cX12_feed 81 = .ok (.iaload, 1) := dq_46 (zby_at (j := 1) zbX12_feed_5 rfl)
theorem dX12_feed_82 : decode cX12_feed 82 = .ok (.bipush 24, 2) := dq_16 (zby_at (j := 2) zbX12_feed_5 rfl) (zby_at (j := 3) zbX12_feed_5 rfl) rfl
theorem dX12_feed_84 : decode cX12_feed 84 = .ok (.bipush 8, 2) := dq_16 (zby_at (j := 4) zbX12_feed_5 rfl) (zby_at (j := 5) zbX12_feed_5 rfl) rfl
theorem dX12_feed_86 : decode cX12_feed 86 = .ok (.iload 6, 2) := dq_21 (zby_at (j := 6) zbX12_feed_5 rfl) (zby_at (j := 7) zbX12_feed_5 rfl)
theorem dX12_feed_88 : decode cX12_feed 88 = .ok (.iconst 4, 1) := dq_7 (zby_at (j := 8) zbX12_feed_5 rfl)
theorem dX12_feed_89 : decode cX12_feed 89 = .ok (.irem, 1) := dq_112 (zby_at (j := 9) zbX12_feed_5 rfl)
theorem dX12_feed_90 : decode cX12_feed 90 = .ok (.imul, 1) := dq_104 (zby_at (j := 10) zbX12_feed_5 rfl)
theorem dX12_feed_91 : decode cX12_feed 91 = .ok (.isub, 1) := dq_100 (zby_at (j := 11) zbX12_feed_5 rfl)
theorem dX12_feed_92 : decode cX12_feed 92 = .ok (.ishr, 1) := dq_122 (zby_at (j := 12) zbX12_feed_5 rfl)
theorem dX12_feed_93 : decode cX12_feed 93 = .ok (.i2b, 1) := dq_145 (zby_at (j := 13) zbX12_feed_5 rfl)
theorem dX12_feed_94 : decode cX12_feed 94 = .ok (.bastore, 1) := dq_84 (zby_at (j := 14) zbX12_feed_5 rfl)
theorem dX12_feed_95 : decode cX12_feed 95 = .ok (.iinc 6 1, 3) := dq_132 (zby_at (j := 15) zbX12_feed_5 rfl) (zby_at (j := 16) zbX12_feed_5 rfl) (zby_at (j := 17) zbX12_feed_5 rfl) rfl
theorem zbX12_feed_6 : zby cX12_feed 96 20 = [6, 1, 167, 255, 213, 42, 89, 180, 0, 107, 16, 20, 96, 181, 0, 107, 42, 180, 0, 107] := by decide +kernel
theorem dX12_feed_98 : decode cX12_feed 98 = .ok (.goto (-43), 3) := dq_167 (zby_at (j := 2) zbX12_feed_6 rfl) (zby_at (j := 3) zbX12_feed_6 rfl) (zby_at (j := 4) zbX12_feed_6 rfl) rfl
theorem dX12_feed_101 : decode cX12_feed 101 = .ok (.aload_n 0, 1) := dq_42 (zby_at (j := 5) zbX12_feed_6 rfl)
theorem dX12_feed_102 : decode cX12_feed 102 = .ok (.dup, 1) := dq_89 (zby_at (j := 6) zbX12_feed_6 rfl)
theorem dX12_feed_103 : decode cX12_feed 103 = .ok (.getfield 107, 3) := dq_180 (zby_at (j := 7) zbX12_feed_6 rfl) (zby_at (j := 8) zbX12_feed_6 rfl) (zby_at (j := 9) zbX12_feed_6 rfl)
theorem dX12_feed_106 : decode cX12_feed 106 = .ok (.bipush 20, 2) := dq_16 (zby_at (j := 10) zbX12_feed_6 rfl) (zby_at (j := 11) zbX12_feed_6 rfl) rfl
theorem dX12_feed_108 : decode cX12_feed 108 = .ok (.iadd, 1) := dq_96 (zby_at (j := 12) zbX12_feed_6 rfl)
theorem dX12_feed_109 : decode cX12_feed 109 = .ok (.putfield 107, 3) := dq_181 (zby_at (j := 13) zbX12_feed_6 rfl) (zby_at (j := 14) zbX12_feed_6 rfl) (zby_at (j := 15) zbX12_feed_6 rfl)
theorem zbX12_feed_7 : zby cX12_feed 112 20 = [42, 180, 0, 107, 172] := by decide +kernel
theorem dX12_feed_112 : decode cX12_feed 112 = .ok (.aload_n 0, 1) := dq_42 (zby_at (j := 0) zbX12_feed_7 rfl)
theorem dX12_feed_113 : decode cX12_feed 113 = .ok (.getfield 107, 3) := dq_180 (zby_at (j := 1) zbX12_feed_7 rfl) (zby_at (j := 2) zbX12_feed_7 rfl) (zby_at (j := 3) zbX12_feed_7 rfl)
theorem dX12_feed_116 : decode cX12_feed 116 = .ok (.ireturn, 1) := dq_172 (zby_at (j := 4) zbX12_feed_7 rfl)
theorem zbX12_end_0 : zby cX12_end 0 20 = [27, 133, 9, 42, 180, 0, 107, 133, 184, 0, 94, 154, 0, 5, 2, 172, 42, 27, 181, 0] := by decide +kernel
theorem dX12_end_0 : decode cX12_end 0 = .ok (.iload_n 1, 1) := dq_27 (zby_at (j := 0) zbX12_end_0 rfl)
theorem dX12_end_1 : decode cX12_end 1 = .ok (.i2l, 1) := dq_133 (zby_at (j := 1) zbX12_end_0 rfl)
theorem dX12_end_2 : decode cX12_end 2 = .ok (.lconst 0, 1) := dq_9 (zby_at (j := 2) zbX12_end_0 rfl)
theorem dX12_end_3 : decode cX12_end 3 = .ok (.aload_n 0, 1) := dq_42 (zby_at (j := 3) zbX12_end_0 rfl)
theorem dX12_end_4 : decode cX12_end 4 = .ok (.getfield 107, 3) := dq_180 (zby_at (j := 4) zbX12_end_0 rfl) (zby_at (j := 5) zbX12_end_0 rfl) (zby_at (j := 6) zbX12_end_0 rfl)
theorem dX12_end_7 : decode cX12_end 7 = .ok (.i2l, 1) := dq_133 (zby_at (j := 7) zbX12_end_0 rfl)
theorem dX12_end_8 : decode cX12_end 8 = .ok (.invokestatic 94, 3) := dq_184 (zby_at (j := 8) zbX12_end_0 rfl) (zby_at (j := 9) zbX12_end_0 rfl) (zby_at (j := 10) zbX12_end_0 rfl)
theorem dX12_end_11 : decode cX12_end 11 = .ok (.ifCond .ne 5, 3) := dq_154 (zby_at (j := 11) zbX12_end_0 rfl) (zby_at (j := 12) zbX12_end_0 rfl) (zby_at (j := 13) zbX12_end_0 rfl) rfl
theorem dX12_end_14 : decode cX12_end 14 = .ok (.iconst (-1), 1) := dq_2 (zby_at (j := 14) zbX12_end_0 rfl)
theorem dX12_end_15 : decode cX12_end 15 = .ok (.ireturn, 1) := dq_172 (zby_at (j := 15) zbX12_end_0 rfl)
theorem zbX12_end_1 : zby cX12_end 16 20 = [42, 27, 181, 0, 107, 27, 172] := by decide +kernel
theorem dX12_end_16 : decode cX12_end 16 = .ok (.aload_n 0, 1) := dq_42 (zby_at (j := 0) zbX12_end_1 rfl)
theorem dX12_end_17 : decode cX12_end 17 = .ok (.iload_n 1, 1) := dq_27 (zby_at (j := 1) zbX12_end_1 rfl)
theorem dX12_end_18 : decode cX12_end 18 = .ok (.putfield 107, 3) := dq_181 (zby_at (j := 2) zbX12_end_1 rfl) (zby_at (j := 3) zbX12_end_1 rfl) (zby_at (j := 4) zbX12_end_1 rfl)
theorem dX12_end_21 : decode cX12_end 21 = .ok (.iload_n 1, 1) := dq_27 (zby_at (j := 5) zbX12_end_1 rfl)
theorem dX12_end_22 : decode cX12_end 22 = .ok (.ireturn, 1) := dq_172 (zby_at (j := 6) zbX12_end_1 rfl)
theorem zbX12_see_0 : zby cX12_see 0 20 = [27, 42, 180, 0, 110, 162, 0, 16, 42, 180, 0, 26, 27, 51, 17, 0, 255, 126, 167, 0] := by decide +kernel
theorem dX12_see_0 : decode cX12_see 0 = .ok (.iload_n 1, 1) := dq_27 (zby_at (j := 0) zbX12_see_0 rfl)
theorem dX12_see_1 : decode cX12_see 1 = .ok (.aload_n 0, 1) := dq_42 (zby_at (j := 1) zbX12_see_0 rfl)
theorem dX12_see_2 : decode cX12_see 2 = .ok (.getfield 110, 3) := dq_180 (zby_at (j := 2) zbX12_see_0 rfl) (zby_at (j := 3) zbX12_see_0 rfl) (zby_at (j := 4) zbX12_see_0 rfl)
theorem dX12_see_5 : decode cX12_see 5 = .ok (.if_icmp .ge 16, 3) := dq_162 (zby_at (j := 5) zbX12_see_0 rfl) (zby_at (j := 6) zbX12_see_0 rfl) (zby_at (j := 7) zbX12_see_0 rfl) rfl
theorem dX12_see_8 : decode cX12_see 8 = .ok (.aload_n 0, 1) := dq_42 (zby_at (j := 8) zbX12_see_0 rfl)
theorem dX12_see_9 : decode cX12_see 9 = .ok (.getfield 26, 3) := dq_180 (zby_at (j := 9) zbX12_see_0 rfl) (zby_at (j := 10) zbX12_see_0 rfl) (zby_at (j := 11) zbX12_see_0 rfl)
theorem dX12_see_12 : decode cX12_see 12 = .ok (.iload_n 1, 1) := dq_27 (zby_at (j := 12) zbX12_see_0 rfl)
theorem dX12_see_13 : decode cX12_see 13 = .ok (.baload, 1) := dq_51 (zby_at (j := 13) zbX12_see_0 rfl)
theorem dX12_see_14 : decode cX12_see 14 = .ok (.sipush 255, 3) := dq_17 (zby_at (j := 14) zbX12_see_0 rfl) (zby_at (j := 15) zbX12_see_0 rfl) (zby_at (j := 16) zbX12_see_0 rfl) rfl
theorem zbX12_see_1 : zby cX12_see 16 20 = [255, 126, 167, 0, 4, 2, 172] := by decide +kernel
theorem dX12_see_17 : decode cX12_see 17 = .ok (.iand, 1) := dq_126 (zby_at (j := 1) zbX12_see_1 rfl)
theorem dX12_see_18 : decode cX12_see 18 = .ok (.goto 4, 3) := dq_167 (zby_at (j := 2) zbX12_see_1 rfl) (zby_at (j := 3) zbX12_see_1 rfl) (zby_at (j := 4) zbX12_see_1 rfl) rfl
theorem dX12_see_21 : decode cX12_see 21 = .ok (.iconst (-1), 1) := dq_2 (zby_at (j := 5) zbX12_see_1 rfl)
theorem dX12_see_22 : decode cX12_see 22 = .ok (.ireturn, 1) := dq_172 (zby_at (j := 6) zbX12_see_1 rfl)
theorem zbX12_isSign_0 : zby cX12_isSign 0 20 = [26, 16, 59, 159, 0, 81, 26, 16, 61, 159, 0, 75, 26, 16, 43, 159, 0, 69, 26, 16] := by decide +kernel
theorem dX12_isSign_0 : decode cX12_isSign 0 = .ok (.iload_n 0, 1) := dq_26 (zby_at (j := 0) zbX12_isSign_0 rfl)
theorem dX12_isSign_1 : decode cX12_isSign 1 = .ok (.bipush 59, 2) := dq_16 (zby_at (j := 1) zbX12_isSign_0 rfl) (zby_at (j := 2) zbX12_isSign_0 rfl) rfl
theorem dX12_isSign_3 : decode cX12_isSign 3 = .ok (.if_icmp .eq 81, 3) := dq_159 (zby_at (j := 3) zbX12_isSign_0 rfl) (zby_at (j := 4) zbX12_isSign_0 rfl) (zby_at (j := 5) zbX12_isSign_0 rfl) rfl
theorem dX12_isSign_6 : decode cX12_isSign 6 = .ok (.iload_n 0, 1) := dq_26 (zby_at (j := 6) zbX12_isSign_0 rfl)
theorem dX12_isSign_7 : decode cX12_isSign 7 = .ok (.bipush 61, 2) := dq_16 (zby_at (j := 7) zbX12_isSign_0 rfl) (zby_at (j := 8) zbX12_isSign_0 rfl) rfl
theorem dX12_isSign_9 : decode cX12_isSign 9 = .ok (.if_icmp .eq 75, 3) := dq_159 (zby_at (j := 9) zbX12_isSign_0 rfl) (zby_at (j := 10) zbX12_isSign_0 rfl) (zby_at (j := 11) zbX12_isSign_0 rfl) rfl
theorem dX12_isSign_12 : decode cX12_isSign 12 = .ok (.iload_n 0, 1) := dq_26 (zby_at (j := 12) zbX12_isSign_0 rfl)
theorem dX12_isSign_13 : decode cX12_isSign 13 = .ok (.bipush 43, 2) := dq_16 (zby_at (j := 13) zbX12_isSign_0 rfl) (zby_at (j := 14) zbX12_isSign_0 rfl) rfl
theorem dX12_isSign_15 : decode cX12_isSign 15 = .ok (.if_icmp .eq 69, 3) := dq_159 (zby_at (j := 15) zbX12_isSign_0 rfl) (zby_at (j := 16) zbX12_isSign_0 rfl) (zby_at (j := 17) zbX12_isSign_0 rfl) rfl
theorem zbX12_isSign_1 : zby cX12_isSign 16 20 = [0, 69, 26, 16, 45, 159, 0, 63, 26, 16, 38, 159, 0, 57, 26, 16, 42, 159, 0, 51] := by decide +kernel
theorem dX12_isSign_18 : decode cX12_isSign 18 = .ok (.iload_n 0, 1) := dq_26 (zby_at (j := 2) zbX12_isSign_1 rfl)
theorem dX12_isSign_19 : decode cX12_isSign 19 = .ok (.bipush 45, 2) := dq_16 (zby_at (j := 3) zbX12_isSign_1 rfl) (zby_at (j := 4) zbX12_isSign_1 rfl) rfl
theorem dX12_isSign_21 : decode cX12_isSign 21 = .ok (.if_icmp .eq 63, 3) := dq_159 (zby_at (j := 5) zbX12_isSign_1 rfl) (zby_at (j := 6) zbX12_isSign_1 rfl) (zby_at (j := 7) zbX12_isSign_1 rfl) rfl
theorem dX12_isSign_24 : decode cX12_isSign 24 = .ok (.iload_n 0, 1) := dq_26 (zby_at (j := 8) zbX12_isSign_1 rfl)
theorem dX12_isSign_25 : decode cX12_isSign 25 = .ok (.bipush 38, 2) := dq_16 (zby_at (j := 9) zbX12_isSign_1 rfl) (zby_at (j := 10) zbX12_isSign_1 rfl) rfl
theorem dX12_isSign_27 : decode cX12_isSign 27 = .ok (.if_icmp .eq 57, 3) := dq_159 (zby_at (j := 11) zbX12_isSign_1 rfl) (zby_at (j := 12) zbX12_isSign_1 rfl) (zby_at (j := 13) zbX12_isSign_1 rfl) rfl
theorem dX12_isSign_30 : decode cX12_isSign 30 = .ok (.iload_n 0, 1) := dq_26 (zby_at (j := 14) zbX12_isSign_1 rfl)
theorem dX12_isSign_31 : decode cX12_isSign 31 = .ok (.bipush 42, 2) := dq_16 (zby_at (j := 15) zbX12_isSign_1 rfl) (zby_at (j := 16) zbX12_isSign_1 rfl) rfl
theorem zbX12_isSign_2 : zby cX12_isSign 32 20 = [42, 159, 0, 51, 26, 16, 47, 159, 0, 45, 26, 16, 37, 159, 0, 39, 26, 16, 35, 159] := by decide +kernel
theorem dX12_isSign_33 : decode cX12_isSign 33 = .ok (.if_icmp .eq 51, 3) := dq_159 (zby_at (j := 1) zbX12_isSign_2 rfl) (zby_at (j := 2) zbX12_isSign_2 rfl) (zby_at (j := 3) zbX12_isSign_2 rfl) rfl
theorem dX12_isSign_36 : decode cX12_isSign 36 = .ok (.iload_n 0, 1) := dq_26 (zby_at (j := 4) zbX12_isSign_2 rfl)
theorem dX12_isSign_37 : decode cX12_isSign 37 = .ok (.bipush 47, 2) := dq_16 (zby_at (j := 5) zbX12_isSign_2 rfl) (zby_at (j := 6) zbX12_isSign_2 rfl) rfl
theorem dX12_isSign_39 : decode cX12_isSign 39 = .ok (.if_icmp .eq 45, 3) := dq_159 (zby_at (j := 7) zbX12_isSign_2 rfl) (zby_at (j := 8) zbX12_isSign_2 rfl) (zby_at (j := 9) zbX12_isSign_2 rfl) rfl
theorem dX12_isSign_42 : decode cX12_isSign 42 = .ok (.iload_n 0, 1) := dq_26 (zby_at (j := 10) zbX12_isSign_2 rfl)
theorem dX12_isSign_43 : decode cX12_isSign 43 = .ok (.bipush 37, 2) := dq_16 (zby_at (j := 11) zbX12_isSign_2 rfl) (zby_at (j := 12) zbX12_isSign_2 rfl) rfl
theorem dX12_isSign_45 : decode cX12_isSign 45 = .ok (.if_icmp .eq 39, 3) := dq_159 (zby_at (j := 13) zbX12_isSign_2 rfl) (zby_at (j := 14) zbX12_isSign_2 rfl) (zby_at (j := 15) zbX12_isSign_2 rfl) rfl
theorem zbX12_isSign_3 : zby cX12_isSign 48 20 = [26, 16, 35, 159, 0, 33, 26, 16, 40, 159, 0, 27, 26, 16, 41, 159, 0, 21, 26, 16] := by decide +kernel
theorem dX12_isSign_48 : decode cX12_isSign 48 = .ok (.iload_n 0, 1) := dq_26 (zby_at (j := 0) zbX12_isSign_3 rfl)
theorem dX12_isSign_49 : decode cX12_isSign 49 = .ok (.bipush 35, 2) := dq_16 (zby_at (j := 1) zbX12_isSign_3 rfl) (zby_at (j := 2) zbX12_isSign_3 rfl) rfl
theorem dX12_isSign_51 : decode cX12_isSign 51 = .ok (.if_icmp .eq 33, 3) := dq_159 (zby_at (j := 3) zbX12_isSign_3 rfl) (zby_at (j := 4) zbX12_isSign_3 rfl) (zby_at (j := 5) zbX12_isSign_3 rfl) rfl
theorem dX12_isSign_54 : decode cX12_isSign 54 = .ok (.iload_n 0, 1) := dq_26 (zby_at (j := 6) zbX12_isSign_3 rfl)
theorem dX12_isSign_55 : decode cX12_isSign 55 = .ok (.bipush 40, 2) := dq_16 (zby_at (j := 7) zbX12_isSign_3 rfl) (zby_at (j := 8) zbX12_isSign_3 rfl) rfl
theorem dX12_isSign_57 : decode cX12_isSign 57 = .ok (.if_icmp .eq 27, 3) := dq_159 (zby_at (j := 9) zbX12_isSign_3 rfl) (zby_at (j := 10) zbX12_isSign_3 rfl) (zby_at (j := 11) zbX12_isSign_3 rfl) rfl
theorem dX12_isSign_60 : decode cX12_isSign 60 = .ok (.iload_n 0, 1) := dq_26 (zby_at (j := 12) zbX12_isSign_3 rfl)
theorem dX12_isSign_61 : decode cX12_isSign 61 = .ok (.bipush 41, 2) := dq_16 (zby_at (j := 13) zbX12_isSign_3 rfl) (zby_at (j := 14) zbX12_isSign_3 rfl) rfl
theorem dX12_isSign_63 : decode cX12_isSign 63 = .ok (.if_icmp .eq 21, 3) := dq_159 (zby_at (j := 15) zbX12_isSign_3 rfl) (zby_at (j := 16) zbX12_isSign_3 rfl) (zby_at (j := 17) zbX12_isSign_3 rfl) rfl
theorem zbX12_isSign_4 : zby cX12_isSign 64 20 = [0, 21, 26, 16, 123, 159, 0, 15, 26, 16, 125, 159, 0, 9, 26, 16, 44, 160, 0, 7] := by decide +kernel
theorem dX12_isSign_66 : decode cX12_isSign 66 = .ok (.iload_n 0, 1) := dq_26 (zby_at (j := 2) zbX12_isSign_4 rfl)
theorem dX12_isSign_67 : decode cX12_isSign 67 = .ok (.bipush 123, 2) := dq_16 (zby_at (j := 3) zbX12_isSign_4 rfl) (zby_at (j := 4) zbX12_isSign_4 rfl) rfl
theorem dX12_isSign_69 : decode cX12_isSign 69 = .ok (.if_icmp .eq 15, 3) := dq_159 (zby_at (j := 5) zbX12_isSign_4 rfl) (zby_at (j := 6) zbX12_isSign_4 rfl) (zby_at (j := 7) zbX12_isSign_4 rfl) rfl
theorem dX12_isSign_72 : decode cX12_isSign 72 = .ok (.iload_n 0, 1) := dq_26 (zby_at (j := 8) zbX12_isSign_4 rfl)
theorem dX12_isSign_73 : decode cX12_isSign 73 = .ok (.bipush 125, 2) := dq_16 (zby_at (j := 9) zbX12_isSign_4 rfl) (zby_at (j := 10) zbX12_isSign_4 rfl) rfl
theorem dX12_isSign_75 : decode cX12_isSign 75 = .ok (.if_icmp .eq 9, 3) := dq_159 (zby_at (j := 11) zbX12_isSign_4 rfl) (zby_at (j := 12) zbX12_isSign_4 rfl) (zby_at (j := 13) zbX12_isSign_4 rfl) rfl
theorem dX12_isSign_78 : decode cX12_isSign 78 = .ok (.iload_n 0, 1) := dq_26 (zby_at (j := 14) zbX12_isSign_4 rfl)
theorem dX12_isSign_79 : decode cX12_isSign 79 = .ok (.bipush 44, 2) := dq_16 (zby_at (j := 15) zbX12_isSign_4 rfl) (zby_at (j := 16) zbX12_isSign_4 rfl) rfl
theorem zbX12_isSign_5 : zby cX12_isSign 80 20 = [44, 160, 0, 7, 4, 167, 0, 4, 3, 172] := by decide +kernel
theorem dX12_isSign_81 : decode cX12_isSign 81 = .ok (.if_icmp .ne 7, 3) := dq_160 (zby_at (j := 1) zbX12_isSign_5 rfl) (zby_at (j := 2) zbX12_isSign_5 rfl) (zby_at (j := 3) zbX12_isSign_5 rfl) rfl
theorem dX12_isSign_84 : decode cX12_isSign 84 = .ok (.iconst 1, 1) := dq_4 (zby_at (j := 4) zbX12_isSign_5 rfl)
theorem dX12_isSign_85 : decode cX12_isSign 85 = .ok (.goto 4, 3) := dq_167 (zby_at (j := 5) zbX12_isSign_5 rfl) (zby_at (j := 6) zbX12_isSign_5 rfl) (zby_at (j := 7) zbX12_isSign_5 rfl) rfl
theorem dX12_isSign_88 : decode cX12_isSign 88 = .ok (.iconst 0, 1) := dq_3 (zby_at (j := 8) zbX12_isSign_5 rfl)
theorem dX12_isSign_89 : decode cX12_isSign 89 = .ok (.ireturn, 1) := dq_172 (zby_at (j := 9) zbX12_isSign_5 rfl)
theorem zbX12_advance_0 : zby cX12_advance 0 20 = [42, 42, 180, 0, 113, 182, 0, 116, 16, 32, 159, 0, 16, 42, 42, 180, 0, 113, 182, 0] := by decide +kernel
theorem dX12_advance_0 : decode cX12_advance 0 = .ok (.aload_n 0, 1) := dq_42 (zby_at (j := 0) zbX12_advance_0 rfl)
theorem dX12_advance_1 : decode cX12_advance 1 = .ok (.aload_n 0, 1) := dq_42 (zby_at (j := 1) zbX12_advance_0 rfl)
theorem dX12_advance_2 : decode cX12_advance 2 = .ok (.getfield 113, 3) := dq_180 (zby_at (j := 2) zbX12_advance_0 rfl) (zby_at (j := 3) zbX12_advance_0 rfl) (zby_at (j := 4) zbX12_advance_0 rfl)
theorem dX12_advance_5 : decode cX12_advance 5 = .ok (.invokevirtual 116, 3) := dq_182 (zby_at (j := 5) zbX12_advance_0 rfl) (zby_at (j := 6) zbX12_advance_0 rfl) (zby_at (j := 7) zbX12_advance_0 rfl)
theorem dX12_advance_8 : decode cX12_advance 8 = .ok (.bipush 32, 2) := dq_16 (zby_at (j := 8) zbX12_advance_0 rfl) (zby_at (j := 9) zbX12_advance_0 rfl) rfl
theorem dX12_advance_10 : decode cX12_advance 10 = .ok (.if_icmp .eq 16, 3) := dq_159 (zby_at (j := 10) zbX12_advance_0 rfl) (zby_at (j := 11) zbX12_advance_0 rfl) (zby_at (j := 12) zbX12_advance_0 rfl) rfl
theorem dX12_advance_13 : decode cX12_advance 13 = .ok (.aload_n 0, 1) := dq_42 (zby_at (j := 13) zbX12_advance_0 rfl)
theorem dX12_advance_14 : decode cX12_advance 14 = .ok (.aload_n 0, 1) := dq_42 (zby_at (j := 14) zbX12_advance_0 rfl)
theorem dX12_advance_15 : decode cX12_advance 15 = .ok (.getfield 113, 3) := dq_180 (zby_at (j := 15) zbX12_advance_0 rfl) (zby_at (j := 16) zbX12_advance_0 rfl) (zby_at (j := 17) zbX12_advance_0 rfl)
theorem zbX12_advance_1 : zby cX12_advance 16 20 = [0, 113, 182, 0, 116, 16, 10, 160, 0, 16, 42, 89, 180, 0, 113, 4, 96, 181, 0, 113] := by decide +kernel
theorem dX12_advance_18 : decode cX12_advance 18 = .ok (.invokevirtual 116, 3) := dq_182 (zby_at (j := 2) zbX12_advance_1 rfl) (zby_at (j := 3) zbX12_advance_1 rfl) (zby_at (j := 4) zbX12_advance_1 rfl)
theorem dX12_advance_21 : decode cX12_advance 21 = .ok (.bipush 10, 2) := dq_16 (zby_at (j := 5) zbX12_advance_1 rfl) (zby_at (j := 6) zbX12_advance_1 rfl) rfl
theorem dX12_advance_23 : decode cX12_advance 23 = .ok (.if_icmp .ne 16, 3) := dq_160 (zby_at (j := 7) zbX12_advance_1 rfl) (zby_at (j := 8) zbX12_advance_1 rfl) (zby_at (j := 9) zbX12_advance_1 rfl) rfl
theorem dX12_advance_26 : decode cX12_advance 26 = .ok (.aload_n 0, 1) := dq_42 (zby_at (j := 10) zbX12_advance_1 rfl)
theorem dX12_advance_27 : decode cX12_advance 27 = .ok (.dup, 1) := dq_89 (zby_at (j := 11) zbX12_advance_1 rfl)
theorem dX12_advance_28 : decode cX12_advance 28 = .ok (.getfield 113, 3) := dq_180 (zby_at (j := 12) zbX12_advance_1 rfl) (zby_at (j := 13) zbX12_advance_1 rfl) (zby_at (j := 14) zbX12_advance_1 rfl)
theorem dX12_advance_31 : decode cX12_advance 31 = .ok (.iconst 1, 1) := dq_4 (zby_at (j := 15) zbX12_advance_1 rfl)
theorem zbX12_advance_2 : zby cX12_advance 32 20 = [96, 181, 0, 113, 167, 255, 220, 42, 42, 180, 0, 113, 181, 0, 120, 42, 42, 180, 0, 113] := by decide +kernel
theorem dX12_advance_32 : decode cX12_advance 32 = .ok (.iadd, 1) := dq_96 (zby_at (j := 0) zbX12_advance_2 rfl)
theorem dX12_advance_33 : decode cX12_advance 33 = .ok (.putfield 113, 3) := dq_181 (zby_at (j := 1) zbX12_advance_2 rfl) (zby_at (j := 2) zbX12_advance_2 rfl) (zby_at (j := 3) zbX12_advance_2 rfl)
theorem dX12_advance_36 : decode cX12_advance 36 = .ok (.goto (-36), 3) := dq_167 (zby_at (j := 4) zbX12_advance_2 rfl) (zby_at (j := 5) zbX12_advance_2 rfl) (zby_at (j := 6) zbX12_advance_2 rfl) rfl
theorem dX12_advance_39 : decode cX12_advance 39 = .ok (.aload_n 0, 1) := dq_42 (zby_at (j := 7) zbX12_advance_2 rfl)
theorem dX12_advance_40 : decode cX12_advance 40 = .ok (.aload_n 0, 1) := dq_42 (zby_at (j := 8) zbX12_advance_2 rfl)
theorem dX12_advance_41 : decode cX12_advance 41 = .ok (.getfield 113, 3) := dq_180 (zby_at (j := 9) zbX12_advance_2 rfl) (zby_at (j := 10) zbX12_advance_2 rfl) (zby_at (j := 11) zbX12_advance_2 rfl)
theorem dX12_advance_44 : decode cX12_advance 44 = .ok (.putfield 120, 3) := dq_181 (zby_at (j := 12) zbX12_advance_2 rfl) (zby_at (j := 13) zbX12_advance_2 rfl) (zby_at (j := 14) zbX12_advance_2 rfl)
theorem dX12_advance_47 : decode cX12_advance 47 = .ok (.aload_n 0, 1) := dq_42 (zby_at (j := 15) zbX12_advance_2 rfl)
theorem zbX12_advance_3 : zby cX12_advance 48 20 = [42, 180, 0, 113, 182, 0, 116, 60, 27, 2, 160, 0, 11, 42, 3, 181, 0, 123, 167, 0] := by decide +kernel
theorem dX12_advance_48 : decode cX12_advance 48 = .ok (.aload_n 0, 1) := dq_42 (zby_at (j := 0) zbX12_advance_3 rfl)
theorem dX12_advance_49 : decode cX12_advance 49 = .ok (.getfield 113, 3) := dq_180 (zby_at (j := 1) zbX12_advance_3 rfl) (zby_at (j := 2) zbX12_advance_3 rfl) (zby_at (j := 3) zbX12_advance_3 rfl)
theorem dX12_advance_52 : decode cX12_advance 52 = .ok (.invokevirtual 116, 3) := dq_182 (zby_at (j := 4) zbX12_advance_3 rfl) (zby_at (j := 5) zbX12_advance_3 rfl) (zby_at (j := 6) zbX12_advance_3 rfl)
theorem dX12_advance_55 : decode cX12_advance 55 = .ok (.istore_n 1, 1) := dq_60 (zby_at (j := 7) zbX12_advance_3 rfl)
theorem dX12_advance_56 : decode cX12_advance 56 = .ok (.iload_n 1, 1) := dq_27 (zby_at (j := 8) zbX12_advance_3 rfl)
theorem dX12_advance_57 : decode cX12_advance 57 = .ok (.iconst (-1), 1) := dq_2 (zby_at (j := 9) zbX12_advance_3 rfl)
theorem dX12_advance_58 : decode cX12_advance 58 = .ok (.if_icmp .ne 11, 3) := dq_160 (zby_at (j := 10) zbX12_advance_3 rfl) (zby_at (j := 11) zbX12_advance_3 rfl) (zby_at (j := 12) zbX12_advance_3 rfl) rfl
theorem dX12_advance_61 : decode cX12_advance 61 = .ok (.aload_n 0, 1) := dq_42 (zby_at (j := 13) zbX12_advance_3 rfl)
theorem dX12_advance_62 : decode cX12_advance 62 = .ok (.iconst 0, 1) := dq_3 (zby_at (j := 14) zbX12_advance_3 rfl)
theorem dX12_advance_63 : decode cX12_advance 63 = .ok (.putfield 123, 3) := dq_181 (zby_at (j := 15) zbX12_advance_3 rfl) (zby_at (j := 16) zbX12_advance_3 rfl) (zby_at (j := 17) zbX12_advance_3 rfl)
theorem zbX12_advance_4 : zby cX12_advance 64 20 = [0, 123, 167, 0, 174, 27, 133, 20, 0, 126, 20, 0, 128, 184, 0, 94, 153, 0, 45, 42] := by decide +kernel
theorem dX12_advance_66 : decode cX12_advance 66 = .ok (.goto 174, 3) := dq_167 (zby_at (j := 2) zbX12_advance_4 rfl) (zby_at (j := 3) zbX12_advance_4 rfl) (zby_at (j := 4) zbX12_advance_4 rfl) rfl
theorem dX12_advance_69 : decode cX12_advance 69 = .ok (.iload_n 1, 1) := dq_27 (zby_at (j := 5) zbX12_advance_4 rfl)
theorem dX12_advance_70 : decode cX12_advance 70 = .ok (.i2l, 1) := dq_133 (zby_at (j := 6) zbX12_advance_4 rfl)
theorem dX12_advance_71 : decode cX12_advance 71 = .ok (.ldc2_w 126, 3) := dq_20 (zby_at (j := 7) zbX12_advance_4 rfl) (zby_at (j := 8) zbX12_advance_4 rfl) (zby_at (j := 9) zbX12_advance_4 rfl)
theorem dX12_advance_74 : decode cX12_advance 74 = .ok (.ldc2_w 128, 3) := dq_20 (zby_at (j := 10) zbX12_advance_4 rfl) (zby_at (j := 11) zbX12_advance_4 rfl) (zby_at (j := 12) zbX12_advance_4 rfl)
theorem dX12_advance_77 : decode cX12_advance 77 = .ok (.invokestatic 94, 3) := dq_184 (zby_at (j := 13) zbX12_advance_4 rfl) (zby_at (j := 14) zbX12_advance_4 rfl) (zby_at (j := 15) zbX12_advance_4 rfl)
theorem zbX12_advance_5 : zby cX12_advance 80 20 = [153, 0, 45, 42, 42, 180, 0, 113, 182, 0, 116, 133, 20, 0, 126, 20, 0, 128, 184, 0] := by decide +kernel
theorem dX12_advance_80 : decode cX12_advance 80 = .ok (.ifCond .eq 45, 3) := dq_153 (zby_at (j := 0) zbX12_advance_5 rfl) (zby_at (j := 1) zbX12_advance_5 rfl) (zby_at (j := 2) zbX12_advance_5 rfl) rfl
theorem dX12_advance_83 : decode cX12_advance 83 = .ok (.aload_n 0, 1) := dq_42 (zby_at (j := 3) zbX12_advance_5 rfl)
theorem dX12_advance_84 : decode cX12_advance 84 = .ok (.aload_n 0, 1) := dq_42 (zby_at (j := 4) zbX12_advance_5 rfl)
theorem dX12_advance_85 : decode cX12_advance 85 = .ok (.getfield 113, 3) := dq_180 (zby_at (j := 5) zbX12_advance_5 rfl) (zby_at (j := 6) zbX12_advance_5 rfl) (zby_at (j := 7) zbX12_advance_5 rfl)
theorem dX12_advance_88 : decode cX12_advance 88 = .ok (.invokevirtual 116, 3) := dq_182 (zby_at (j := 8) zbX12_advance_5 rfl) (zby_at (j := 9) zbX12_advance_5 rfl) (zby_at (j := 10) zbX12_advance_5 rfl)
theorem dX12_advance_91 : decode cX12_advance 91 = .ok (.i2l, 1) := dq_133 (zby_at (j := 11) zbX12_advance_5 rfl)
theorem dX12_advance_92 : decode cX12_advance 92 = .ok (.ldc2_w 126, 3) := dq_20 (zby_at (j := 12) zbX12_advance_5 rfl) (zby_at (j := 13) zbX12_advance_5 rfl) (zby_at (j := 14) zbX12_advance_5 rfl)
theorem dX12_advance_95 : decode cX12_advance 95 = .ok (.ldc2_w 128, 3) := dq_20 (zby_at (j := 15) zbX12_advance_5 rfl) (zby_at (j := 16) zbX12_advance_5 rfl) (zby_at (j := 17) zbX12_advance_5 rfl)
theorem zbX12_advance_6 : zby cX12_advance 96 20 = [0, 128, 184, 0, 94, 153, 0, 16, 42, 89, 180, 0, 113, 4, 96, 181, 0, 113, 167, 255] := by decide +kernel
theorem dX12_advance_98 : decode cX12_advance 98 = .ok (.invokestatic 94, 3) := dq_184 (zby_at (j := 2) zbX12_advance_6 rfl) (zby_at (j := 3) zbX12_advance_6 rfl) (zby_at (j := 4) zbX12_advance_6 rfl)
theorem dX12_advance_101 : decode cX12_advance 101 = .ok (.ifCond .eq 16, 3) := dq_153 (zby_at (j := 5) zbX12_advance_6 rfl) (zby_at (j := 6) zbX12_advance_6 rfl) (zby_at (j := 7) zbX12_advance_6 rfl) rfl
theorem dX12_advance_104 : decode cX12_advance 104 = .ok (.aload_n 0, 1) := dq_42 (zby_at (j := 8) zbX12_advance_6 rfl)
theorem dX12_advance_105 : decode cX12_advance 105 = .ok (.dup, 1) := dq_89 (zby_at (j := 9) zbX12_advance_6 rfl)
theorem dX12_advance_106 : decode cX12_advance 106 = .ok (.getfield 113, 3) := dq_180 (zby_at (j := 10) zbX12_advance_6 rfl) (zby_at (j := 11) zbX12_advance_6 rfl) (zby_at (j := 12) zbX12_advance_6 rfl)
theorem dX12_advance_109 : decode cX12_advance 109 = .ok (.iconst 1, 1) := dq_4 (zby_at (j := 13) zbX12_advance_6 rfl)
theorem dX12_advance_110 : decode cX12_advance 110 = .ok (.iadd, 1) := dq_96 (zby_at (j := 14) zbX12_advance_6 rfl)
theorem dX12_advance_111 : decode cX12_advance 111 = .ok (.putfield 113, 3) := dq_181 (zby_at (j := 15) zbX12_advance_6 rfl) (zby_at (j := 16) zbX12_advance_6 rfl) (zby_at (j := 17) zbX12_advance_6 rfl)
theorem zbX12_advance_7 : zby cX12_advance 112 20 = [0, 113, 167, 255, 225, 42, 4, 181, 0, 123, 167, 0, 118, 27, 133, 20, 0, 130, 20, 0] := by decide +kernel
theorem dX12_advance_114 : decode cX12_advance 114 = .ok (.goto (-31), 3) := dq_167 (zby_at (j := 2) zbX12_advance_7 rfl) (zby_at (j := 3) zbX12_advance_7 rfl) (zby_at (j := 4) zbX12_advance_7 rfl) rfl
theorem dX12_advance_117 : decode cX12_advance 117 = .ok (.aload_n 0, 1) := dq_42 (zby_at (j := 5) zbX12_advance_7 rfl)
theorem dX12_advance_118 : decode cX12_advance 118 = .ok (.iconst 1, 1) := dq_4 (zby_at (j := 6) zbX12_advance_7 rfl)
theorem dX12_advance_119 : decode cX12_advance 119 = .ok (.putfield 123, 3) := dq_181 (zby_at (j := 7) zbX12_advance_7 rfl) (zby_at (j := 8) zbX12_advance_7 rfl) (zby_at (j := 9) zbX12_advance_7 rfl)
theorem dX12_advance_122 : decode cX12_advance 122 = .ok (.goto 118, 3) := dq_167 (zby_at (j := 10) zbX12_advance_7 rfl) (zby_at (j := 11) zbX12_advance_7 rfl) (zby_at (j := 12) zbX12_advance_7 rfl) rfl
theorem dX12_advance_125 : decode cX12_advance 125 = .ok (.iload_n 1, 1) := dq_27 (zby_at (j := 13) zbX12_advance_7 rfl)
theorem dX12_advance_126 : decode cX12_advance 126 = .ok (.i2l, 1) := dq_133 (zby_at (j := 14) zbX12_advance_7 rfl)
theorem dX12_advance_127 : decode cX12_advance 127 = .ok (.ldc2_w 130, 3) := dq_20 (zby_at (j := 15) zbX12_advance_7 rfl) (zby_at (j := 16) zbX12_advance_7 rfl) (zby_at (j := 17) zbX12_advance_7 rfl)
theorem zbX12_advance_8 : zby cX12_advance 128 20 = [0, 130, 20, 0, 132, 184, 0, 94, 153, 0, 78, 42, 3, 181, 0, 134, 42, 42, 180, 0] := by decide +kernel
theorem dX12_advance_130 : decode cX12_advance 130 = .ok (.ldc2_w 132, 3) := dq_20 (zby_at (j := 2) zbX12_advance_8 rfl) (zby_at (j := 3) zbX12_advance_8 rfl) (zby_at (j := 4) zbX12_advance_8 rfl)
theorem dX12_advance_133 : decode cX12_advance 133 = .ok (.invokestatic 94, 3) := dq_184 (zby_at (j := 5) zbX12_advance_8 rfl) (zby_at (j := 6) zbX12_advance_8 rfl) (zby_at (j := 7) zbX12_advance_8 rfl)
theorem dX12_advance_136 : decode cX12_advance 136 = .ok (.ifCond .eq 78, 3) := dq_153 (zby_at (j := 8) zbX12_advance_8 rfl) (zby_at (j := 9) zbX12_advance_8 rfl) (zby_at (j := 10) zbX12_advance_8 rfl) rfl
theorem dX12_advance_139 : decode cX12_advance 139 = .ok (.aload_n 0, 1) := dq_42 (zby_at (j := 11) zbX12_advance_8 rfl)
theorem dX12_advance_140 : decode cX12_advance 140 = .ok (.iconst 0, 1) := dq_3 (zby_at (j := 12) zbX12_advance_8 rfl)
theorem dX12_advance_141 : decode cX12_advance 141 = .ok (.putfield 134, 3) := dq_181 (zby_at (j := 13) zbX12_advance_8 rfl) (zby_at (j := 14) zbX12_advance_8 rfl) (zby_at (j := 15) zbX12_advance_8 rfl)
theorem zbX12_advance_9 : zby cX12_advance 144 20 = [42, 42, 180, 0, 113, 182, 0, 116, 133, 20, 0, 130, 20, 0, 132, 184, 0, 94, 153, 0] := by decide +kernel
theorem dX12_advance_144 : decode cX12_advance 144 = .ok (.aload_n 0, 1) := dq_42 (zby_at (j := 0) zbX12_advance_9 rfl)
theorem dX12_advance_145 : decode cX12_advance 145 = .ok (.aload_n 0, 1) := dq_42 (zby_at (j := 1) zbX12_advance_9 rfl)
theorem dX12_advance_146 : decode cX12_advance 146 = .ok (.getfield 113, 3) := dq_180 (zby_at (j := 2) zbX12_advance_9 rfl) (zby_at (j := 3) zbX12_advance_9 rfl) (zby_at (j := 4) zbX12_advance_9 rfl)
theorem dX12_advance_149 : decode cX12_advance 149 = .ok (.invokevirtual 116, 3) := dq_182 (zby_at (j := 5) zbX12_advance_9 rfl) (zby_at (j := 6) zbX12_advance_9 rfl) (zby_at (j := 7) zbX12_advance_9 rfl)
theorem dX12_advance_152 : decode cX12_advance 152 = .ok (.i2l, 1) := dq_133 (zby_at (j := 8) zbX12_advance_9 rfl)
theorem dX12_advance_153 : decode cX12_advance 153 = .ok (.ldc2_w 130, 3) := dq_20 (zby_at (j := 9) zbX12_advance_9 rfl) (zby_at (j := 10) zbX12_advance_9 rfl) (zby_at (j := 11) zbX12_advance_9 rfl)
theorem dX12_advance_156 : decode cX12_advance 156 = .ok (.ldc2_w 132, 3) := dq_20 (zby_at (j := 12) zbX12_advance_9 rfl) (zby_at (j := 13) zbX12_advance_9 rfl) (zby_at (j := 14) zbX12_advance_9 rfl)
theorem dX12_advance_159 : decode cX12_advance 159 = .ok (.invokestatic 94, 3) := dq_184 (zby_at (j := 15) zbX12_advance_9 rfl) (zby_at (j := 16) zbX12_advance_9 rfl) (zby_at (j := 17) zbX12_advance_9 rfl)
theorem zbX12_advance_10 : zby cX12_advance 160 20 = [0, 94, 153, 0, 44, 42, 18, 137, 16, 10, 42, 180, 0, 134, 104, 42, 42, 180, 0, 113] := by decide +kernel
theorem dX12_advance_162 : decode cX12_advance 162 = .ok (.ifCond .eq 44, 3) := dq_153 (zby_at (j := 2) zbX12_advance_10 rfl) (zby_at (j := 3) zbX12_advance_10 rfl) (zby_at (j := 4) zbX12_advance_10 rfl) rfl
theorem dX12_advance_165 : decode cX12_advance 165 = .ok (.aload_n 0, 1) := dq_42 (zby_at (j := 5) zbX12_advance_10 rfl)
theorem dX12_advance_166 : decode cX12_advance 166 = .ok (.ldc 137, 2) := dq_18 (zby_at (j := 6) zbX12_advance_10 rfl) (zby_at (j := 7) zbX12_advance_10 rfl)
theorem dX12_advance_168 : decode cX12_advance 168 = .ok (.bipush 10, 2) := dq_16 (zby_at (j := 8) zbX12_advance_10 rfl) (zby_at (j := 9) zbX12_advance_10 rfl) rfl
theorem dX12_advance_170 : decode cX12_advance 170 = .ok (.aload_n 0, 1) := dq_42 (zby_at (j := 10) zbX12_advance_10 rfl)
theorem dX12_advance_171 : decode cX12_advance 171 = .ok (.getfield 134, 3) := dq_180 (zby_at (j := 11) zbX12_advance_10 rfl) (zby_at (j := 12) zbX12_advance_10 rfl) (zby_at (j := 13) zbX12_advance_10 rfl)
theorem dX12_advance_174 : decode cX12_advance 174 = .ok (.imul, 1) := dq_104 (zby_at (j := 14) zbX12_advance_10 rfl)
theorem dX12_advance_175 : decode cX12_advance 175 = .ok (.aload_n 0, 1) := dq_42 (zby_at (j := 15) zbX12_advance_10 rfl)
theorem zbX12_advance_11 : zby cX12_advance 176 20 = [42, 180, 0, 113, 182, 0, 116, 96, 16, 48, 100, 184, 0, 138, 181, 0, 134, 42, 89, 180] := by decide +kernel
theorem dX12_advance_176 : decode cX12_advance 176 = .ok (.aload_n 0, 1) := dq_42 (zby_at (j := 0) zbX12_advance_11 rfl)
theorem dX12_advance_177 : decode cX12_advance 177 = .ok (.getfield 113, 3) := dq_180 (zby_at (j := 1) zbX12_advance_11 rfl) (zby_at (j := 2) zbX12_advance_11 rfl) (zby_at (j := 3) zbX12_advance_11 rfl)
theorem dX12_advance_180 : decode cX12_advance 180 = .ok (.invokevirtual 116, 3) := dq_182 (zby_at (j := 4) zbX12_advance_11 rfl) (zby_at (j := 5) zbX12_advance_11 rfl) (zby_at (j := 6) zbX12_advance_11 rfl)
theorem dX12_advance_183 : decode cX12_advance 183 = .ok (.iadd, 1) := dq_96 (zby_at (j := 7) zbX12_advance_11 rfl)
theorem dX12_advance_184 : decode cX12_advance 184 = .ok (.bipush 48, 2) := dq_16 (zby_at (j := 8) zbX12_advance_11 rfl) (zby_at (j := 9) zbX12_advance_11 rfl) rfl
theorem dX12_advance_186 : decode cX12_advance 186 = .ok (.isub, 1) := dq_100 (zby_at (j := 10) zbX12_advance_11 rfl)
theorem dX12_advance_187 : decode cX12_advance 187 = .ok (.invokestatic 138, 3) := dq_184 (zby_at (j := 11) zbX12_advance_11 rfl) (zby_at (j := 12) zbX12_advance_11 rfl) (zby_at (j := 13) zbX12_advance_11 rfl)
theorem dX12_advance_190 : decode cX12_advance 190 = .ok (.putfield 134, 3) := dq_181 (zby_at (j := 14) zbX12_advance_11 rfl) (zby_at (j := 15) zbX12_advance_11 rfl) (zby_at (j := 16) zbX12_advance_11 rfl)
theorem zbX12_advance_12 : zby cX12_advance 192 20 = [134, 42, 89, 180, 0, 113, 4, 96, 181, 0, 113, 167, 255, 197, 42, 5, 181, 0, 123, 167] := by decide +kernel
theorem dX12_advance_193 : decode cX12_advance 193 = .ok (.aload_n 0, 1) := dq_42 (zby_at (j := 1) zbX12_advance_12 rfl)
theorem dX12_advance_194 : decode cX12_advance 194 = .ok (.dup, 1) := dq_89 (zby_at (j := 2) zbX12_advance_12 rfl)
theorem dX12_advance_195 : decode cX12_advance 195 = .ok (.getfield 113, 3) := dq_180 (zby_at (j := 3) zbX12_advance_12 rfl) (zby_at (j := 4) zbX12_advance_12 rfl) (zby_at (j := 5) zbX12_advance_12 rfl)
theorem dX12_advance_198 : decode cX12_advance 198 = .ok (.iconst 1, 1) := dq_4 (zby_at (j := 6) zbX12_advance_12 rfl)
theorem dX12_advance_199 : decode cX12_advance 199 = .ok (.iadd, 1) := dq_96 (zby_at (j := 7) zbX12_advance_12 rfl)
theorem dX12_advance_200 : decode cX12_advance 200 = .ok (.putfield 113, 3) := dq_181 (zby_at (j := 8) zbX12_advance_12 rfl) (zby_at (j := 9) zbX12_advance_12 rfl) (zby_at (j := 10) zbX12_advance_12 rfl)
theorem dX12_advance_203 : decode cX12_advance 203 = .ok (.goto (-59), 3) := dq_167 (zby_at (j := 11) zbX12_advance_12 rfl) (zby_at (j := 12) zbX12_advance_12 rfl) (zby_at (j := 13) zbX12_advance_12 rfl) rfl
theorem dX12_advance_206 : decode cX12_advance 206 = .ok (.aload_n 0, 1) := dq_42 (zby_at (j := 14) zbX12_advance_12 rfl)
theorem dX12_advance_207 : decode cX12_advance 207 = .ok (.iconst 2, 1) := dq_5 (zby_at (j := 15) zbX12_advance_12 rfl)
theorem zbX12_advance_13 : zby cX12_advance 208 20 = [181, 0, 123, 167, 0, 29, 42, 27, 184, 0, 144, 153, 0, 7, 27, 167, 0, 4, 6, 181] := by decide +kernel
theorem dX12_advance_208 : decode cX12_advance 208 = .ok (.putfield 123, 3) := dq_181 (zby_at (j := 0) zbX12_advance_13 rfl) (zby_at (j := 1) zbX12_advance_13 rfl) (zby_at (j := 2) zbX12_advance_13 rfl)
theorem dX12_advance_211 : decode cX12_advance 211 = .ok (.goto 29, 3) := dq_167 (zby_at (j := 3) zbX12_advance_13 rfl) (zby_at (j := 4) zbX12_advance_13 rfl) (zby_at (j := 5) zbX12_advance_13 rfl) rfl
theorem dX12_advance_214 : decode cX12_advance 214 = .ok (.aload_n 0, 1) := dq_42 (zby_at (j := 6) zbX12_advance_13 rfl)
theorem dX12_advance_215 : decode cX12_advance 215 = .ok (.iload_n 1, 1) := dq_27 (zby_at (j := 7) zbX12_advance_13 rfl)
theorem dX12_advance_216 : decode cX12_advance 216 = .ok (.invokestatic 144, 3) := dq_184 (zby_at (j := 8) zbX12_advance_13 rfl) (zby_at (j := 9) zbX12_advance_13 rfl) (zby_at (j := 10) zbX12_advance_13 rfl)
theorem dX12_advance_219 : decode cX12_advance 219 = .ok (.ifCond .eq 7, 3) := dq_153 (zby_at (j := 11) zbX12_advance_13 rfl) (zby_at (j := 12) zbX12_advance_13 rfl) (zby_at (j := 13) zbX12_advance_13 rfl) rfl
theorem dX12_advance_222 : decode cX12_advance 222 = .ok (.iload_n 1, 1) := dq_27 (zby_at (j := 14) zbX12_advance_13 rfl)
theorem dX12_advance_223 : decode cX12_advance 223 = .ok (.goto 4, 3) := dq_167 (zby_at (j := 15) zbX12_advance_13 rfl) (zby_at (j := 16) zbX12_advance_13 rfl) (zby_at (j := 17) zbX12_advance_13 rfl) rfl
theorem zbX12_advance_14 : zby cX12_advance 224 20 = [0, 4, 6, 181, 0, 123, 42, 89, 180, 0, 113, 4, 96, 181, 0, 113, 177] := by decide +kernel
theorem dX12_advance_226 : decode cX12_advance 226 = .ok (.iconst 3, 1) := dq_6 (zby_at (j := 2) zbX12_advance_14 rfl)
theorem dX12_advance_227 : decode cX12_advance 227 = .ok (.putfield 123, 3) := dq_181 (zby_at (j := 3) zbX12_advance_14 rfl) (zby_at (j := 4) zbX12_advance_14 rfl) (zby_at (j := 5) zbX12_advance_14 rfl)
theorem dX12_advance_230 : decode cX12_advance 230 = .ok (.aload_n 0, 1) := dq_42 (zby_at (j := 6) zbX12_advance_14 rfl)
theorem dX12_advance_231 : decode cX12_advance 231 = .ok (.dup, 1) := dq_89 (zby_at (j := 7) zbX12_advance_14 rfl)
theorem dX12_advance_232 : decode cX12_advance 232 = .ok (.getfield 113, 3) := dq_180 (zby_at (j := 8) zbX12_advance_14 rfl) (zby_at (j := 9) zbX12_advance_14 rfl) (zby_at (j := 10) zbX12_advance_14 rfl)
theorem dX12_advance_235 : decode cX12_advance 235 = .ok (.iconst 1, 1) := dq_4 (zby_at (j := 11) zbX12_advance_14 rfl)
theorem dX12_advance_236 : decode cX12_advance 236 = .ok (.iadd, 1) := dq_96 (zby_at (j := 12) zbX12_advance_14 rfl)
theorem dX12_advance_237 : decode cX12_advance 237 = .ok (.putfield 113, 3) := dq_181 (zby_at (j := 13) zbX12_advance_14 rfl) (zby_at (j := 14) zbX12_advance_14 rfl) (zby_at (j := 15) zbX12_advance_14 rfl)
theorem zbX12_advance_15 : zby cX12_advance 240 20 = [177] := by decide +kernel
theorem dX12_advance_240 : decode cX12_advance 240 = .ok (.return_, 1) := dq_177 (zby_at (j := 0) zbX12_advance_15 rfl)
theorem zbX12_begins_0 : zby cX12_begins 0 20 = [42, 42, 180, 0, 107, 181, 0, 110, 42, 3, 181, 0, 107, 42, 3, 181, 0, 113, 42, 3] := by decide +kernel
theorem dX12_begins_0 : decode cX12_begins 0 = .ok (.aload_n 0, 1) := dq_42 (zby_at (j := 0) zbX12_begins_0 rfl)
theorem dX12_begins_1 : decode cX12_begins 1 = .ok (.aload_n 0, 1) := dq_42 (zby_at (j := 1) zbX12_begins_0 rfl)
theorem dX12_begins_2 : decode cX12_begins 2 = .ok (.getfield 107, 3) := dq_180 (zby_at (j := 2) zbX12_begins_0 rfl) (zby_at (j := 3) zbX12_begins_0 rfl) (zby_at (j := 4) zbX12_begins_0 rfl)
theorem dX12_begins_5 : decode cX12_begins 5 = .ok (.putfield 110, 3) := dq_181 (zby_at (j := 5) zbX12_begins_0 rfl) (zby_at (j := 6) zbX12_begins_0 rfl) (zby_at (j := 7) zbX12_begins_0 rfl)
theorem dX12_begins_8 : decode cX12_begins 8 = .ok (.aload_n 0, 1) := dq_42 (zby_at (j := 8) zbX12_begins_0 rfl)
theorem dX12_begins_9 : decode cX12_begins 9 = .ok (.iconst 0, 1) := dq_3 (zby_at (j := 9) zbX12_begins_0 rfl)
theorem dX12_begins_10 : decode cX12_begins 10 = .ok (.putfield 107, 3) := dq_181 (zby_at (j := 10) zbX12_begins_0 rfl) (zby_at (j := 11) zbX12_begins_0 rfl) (zby_at (j := 12) zbX12_begins_0 rfl)
theorem dX12_begins_13 : decode cX12_begins 13 = .ok (.aload_n 0, 1) := dq_42 (zby_at (j := 13) zbX12_begins_0 rfl)
theorem dX12_begins_14 : decode cX12_begins 14 = .ok (.iconst 0, 1) := dq_3 (zby_at (j := 14) zbX12_begins_0 rfl)
theorem dX12_begins_15 : decode cX12_begins 15 = .ok (.putfield 113, 3) := dq_181 (zby_at (j := 15) zbX12_begins_0 rfl) (zby_at (j := 16) zbX12_begins_0 rfl) (zby_at (j := 17) zbX12_begins_0 rfl)
theorem zbX12_begins_1 : zby cX12_begins 16 20 = [0, 113, 42, 3, 181, 0, 148, 42, 2, 181, 0, 33, 42, 3, 181, 0, 151, 42, 182, 0] := by decide +kernel
theorem dX12_begins_18 : decode cX12_begins 18 = .ok (.aload_n 0, 1) := dq_42 (zby_at (j := 2) zbX12_begins_1 rfl)
theorem dX12_begins_19 : decode cX12_begins 19 = .ok (.iconst 0, 1) := dq_3 (zby_at (j := 3) zbX12_begins_1 rfl)
theorem dX12_begins_20 : decode cX12_begins 20 = .ok (.putfield 148, 3) := dq_181 (zby_at (j := 4) zbX12_begins_1 rfl) (zby_at (j := 5) zbX12_begins_1 rfl) (zby_at (j := 6) zbX12_begins_1 rfl)
theorem dX12_begins_23 : decode cX12_begins 23 = .ok (.aload_n 0, 1) := dq_42 (zby_at (j := 7) zbX12_begins_1 rfl)
theorem dX12_begins_24 : decode cX12_begins 24 = .ok (.iconst (-1), 1) := dq_2 (zby_at (j := 8) zbX12_begins_1 rfl)
theorem dX12_begins_25 : decode cX12_begins 25 = .ok (.putfield 33, 3) := dq_181 (zby_at (j := 9) zbX12_begins_1 rfl) (zby_at (j := 10) zbX12_begins_1 rfl) (zby_at (j := 11) zbX12_begins_1 rfl)
theorem dX12_begins_28 : decode cX12_begins 28 = .ok (.aload_n 0, 1) := dq_42 (zby_at (j := 12) zbX12_begins_1 rfl)
theorem dX12_begins_29 : decode cX12_begins 29 = .ok (.iconst 0, 1) := dq_3 (zby_at (j := 13) zbX12_begins_1 rfl)
theorem dX12_begins_30 : decode cX12_begins 30 = .ok (.putfield 151, 3) := dq_181 (zby_at (j := 14) zbX12_begins_1 rfl) (zby_at (j := 15) zbX12_begins_1 rfl) (zby_at (j := 16) zbX12_begins_1 rfl)
theorem zbX12_begins_2 : zby cX12_begins 32 20 = [151, 42, 182, 0, 154, 177] := by decide +kernel
theorem dX12_begins_33 : decode cX12_begins 33 = .ok (.aload_n 0, 1) := dq_42 (zby_at (j := 1) zbX12_begins_2 rfl)
theorem dX12_begins_34 : decode cX12_begins 34 = .ok (.invokevirtual 154, 3) := dq_182 (zby_at (j := 2) zbX12_begins_2 rfl) (zby_at (j := 3) zbX12_begins_2 rfl) (zby_at (j := 4) zbX12_begins_2 rfl)
theorem dX12_begins_37 : decode cX12_begins 37 = .ok (.return_, 1) := dq_177 (zby_at (j := 5) zbX12_begins_2 rfl)
theorem zbX12_good_0 : zby cX12_good 0 20 = [42, 180, 0, 148, 154, 0, 7, 4, 167, 0, 4, 3, 172] := by decide +kernel
theorem dX12_good_0 : decode cX12_good 0 = .ok (.aload_n 0, 1) := dq_42 (zby_at (j := 0) zbX12_good_0 rfl)
theorem dX12_good_1 : decode cX12_good 1 = .ok (.getfield 148, 3) := dq_180 (zby_at (j := 1) zbX12_good_0 rfl) (zby_at (j := 2) zbX12_good_0 rfl) (zby_at (j := 3) zbX12_good_0 rfl)
theorem dX12_good_4 : decode cX12_good 4 = .ok (.ifCond .ne 7, 3) := dq_154 (zby_at (j := 4) zbX12_good_0 rfl) (zby_at (j := 5) zbX12_good_0 rfl) (zby_at (j := 6) zbX12_good_0 rfl) rfl
theorem dX12_good_7 : decode cX12_good 7 = .ok (.iconst 1, 1) := dq_4 (zby_at (j := 7) zbX12_good_0 rfl)
theorem dX12_good_8 : decode cX12_good 8 = .ok (.goto 4, 3) := dq_167 (zby_at (j := 8) zbX12_good_0 rfl) (zby_at (j := 9) zbX12_good_0 rfl) (zby_at (j := 10) zbX12_good_0 rfl) rfl
theorem dX12_good_11 : decode cX12_good 11 = .ok (.iconst 0, 1) := dq_3 (zby_at (j := 11) zbX12_good_0 rfl)
theorem dX12_good_12 : decode cX12_good 12 = .ok (.ireturn, 1) := dq_172 (zby_at (j := 12) zbX12_good_0 rfl)
theorem zbX12_errs_0 : zby cX12_errs 0 20 = [42, 182, 0, 157, 154, 0, 4, 177, 42, 27, 181, 0, 148, 42, 42, 180, 0, 120, 181, 0] := by decide +kernel
theorem dX12_errs_0 : decode cX12_errs 0 = .ok (.aload_n 0, 1) := dq_42 (zby_at (j := 0) zbX12_errs_0 rfl)
theorem dX12_errs_1 : decode cX12_errs 1 = .ok (.invokevirtual 157, 3) := dq_182 (zby_at (j := 1) zbX12_errs_0 rfl) (zby_at (j := 2) zbX12_errs_0 rfl) (zby_at (j := 3) zbX12_errs_0 rfl)
theorem dX12_errs_4 : decode cX12_errs 4 = .ok (.ifCond .ne 4, 3) := dq_154 (zby_at (j := 4) zbX12_errs_0 rfl) (zby_at (j := 5) zbX12_errs_0 rfl) (zby_at (j := 6) zbX12_errs_0 rfl) rfl
theorem dX12_errs_7 : decode cX12_errs 7 = .ok (.return_, 1) := dq_177 (zby_at (j := 7) zbX12_errs_0 rfl)
theorem dX12_errs_8 : decode cX12_errs 8 = .ok (.aload_n 0, 1) := dq_42 (zby_at (j := 8) zbX12_errs_0 rfl)
theorem dX12_errs_9 : decode cX12_errs 9 = .ok (.iload_n 1, 1) := dq_27 (zby_at (j := 9) zbX12_errs_0 rfl)
theorem dX12_errs_10 : decode cX12_errs 10 = .ok (.putfield 148, 3) := dq_181 (zby_at (j := 10) zbX12_errs_0 rfl) (zby_at (j := 11) zbX12_errs_0 rfl) (zby_at (j := 12) zbX12_errs_0 rfl)
theorem dX12_errs_13 : decode cX12_errs 13 = .ok (.aload_n 0, 1) := dq_42 (zby_at (j := 13) zbX12_errs_0 rfl)
theorem dX12_errs_14 : decode cX12_errs 14 = .ok (.aload_n 0, 1) := dq_42 (zby_at (j := 14) zbX12_errs_0 rfl)
theorem dX12_errs_15 : decode cX12_errs 15 = .ok (.getfield 120, 3) := dq_180 (zby_at (j := 15) zbX12_errs_0 rfl) (zby_at (j := 16) zbX12_errs_0 rfl) (zby_at (j := 17) zbX12_errs_0 rfl)
theorem zbX12_errs_1 : zby cX12_errs 16 20 = [0, 120, 181, 0, 33, 177] := by decide +kernel
theorem dX12_errs_18 : decode cX12_errs 18 = .ok (.putfield 33, 3) := dq_181 (zby_at (j := 2) zbX12_errs_1 rfl) (zby_at (j := 3) zbX12_errs_1 rfl) (zby_at (j := 4) zbX12_errs_1 rfl)
theorem dX12_errs_21 : decode cX12_errs 21 = .ok (.return_, 1) := dq_177 (zby_at (j := 5) zbX12_errs_1 rfl)
theorem zbX12_is_0 : zby cX12_is 0 20 = [42, 182, 0, 157, 153, 0, 31, 42, 180, 0, 123, 4, 160, 0, 23, 42, 180, 0, 113, 42] := by decide +kernel
theorem dX12_is_0 : decode cX12_is 0 = .ok (.aload_n 0, 1) := dq_42 (zby_at (j := 0) zbX12_is_0 rfl)
theorem dX12_is_1 : decode cX12_is 1 = .ok (.invokevirtual 157, 3) := dq_182 (zby_at (j := 1) zbX12_is_0 rfl) (zby_at (j := 2) zbX12_is_0 rfl) (zby_at (j := 3) zbX12_is_0 rfl)
theorem dX12_is_4 : decode cX12_is 4 = .ok (.ifCond .eq 31, 3) := dq_153 (zby_at (j := 4) zbX12_is_0 rfl) (zby_at (j := 5) zbX12_is_0 rfl) (zby_at (j := 6) zbX12_is_0 rfl) rfl
theorem dX12_is_7 : decode cX12_is 7 = .ok (.aload_n 0, 1) := dq_42 (zby_at (j := 7) zbX12_is_0 rfl)
theorem dX12_is_8 : decode cX12_is 8 = .ok (.getfield 123, 3) := dq_180 (zby_at (j := 8) zbX12_is_0 rfl) (zby_at (j := 9) zbX12_is_0 rfl) (zby_at (j := 10) zbX12_is_0 rfl)
theorem dX12_is_11 : decode cX12_is 11 = .ok (.iconst 1, 1) := dq_4 (zby_at (j := 11) zbX12_is_0 rfl)
theorem dX12_is_12 : decode cX12_is 12 = .ok (.if_icmp .ne 23, 3) := dq_160 (zby_at (j := 12) zbX12_is_0 rfl) (zby_at (j := 13) zbX12_is_0 rfl) (zby_at (j := 14) zbX12_is_0 rfl) rfl
theorem dX12_is_15 : decode cX12_is 15 = .ok (.aload_n 0, 1) := dq_42 (zby_at (j := 15) zbX12_is_0 rfl)
theorem zbX12_is_1 : zby cX12_is 16 20 = [180, 0, 113, 42, 180, 0, 120, 100, 43, 182, 0, 160, 160, 0, 7, 4, 167, 0, 4, 3] := by decide +kernel
theorem dX12_is_16 : decode cX12_is 16 = .ok (.getfield 113, 3) := dq_180 (zby_at (j := 0) zbX12_is_1 rfl) (zby_at (j := 1) zbX12_is_1 rfl) (zby_at (j := 2) zbX12_is_1 rfl)
theorem dX12_is_19 : decode cX12_is 19 = .ok (.aload_n 0, 1) := dq_42 (zby_at (j := 3) zbX12_is_1 rfl)
theorem dX12_is_20 : decode cX12_is 20 = .ok (.getfield 120, 3) := dq_180 (zby_at (j := 4) zbX12_is_1 rfl) (zby_at (j := 5) zbX12_is_1 rfl) (zby_at (j := 6) zbX12_is_1 rfl)
theorem dX12_is_23 : decode cX12_is 23 = .ok (.isub, 1) := dq_100 (zby_at (j := 7) zbX12_is_1 rfl)
theorem dX12_is_24 : decode cX12_is 24 = .ok (.aload_n 1, 1) := dq_43 (zby_at (j := 8) zbX12_is_1 rfl)
theorem dX12_is_25 : decode cX12_is 25 = .ok (.invokevirtual 160, 3) := dq_182 (zby_at (j := 9) zbX12_is_1 rfl) (zby_at (j := 10) zbX12_is_1 rfl) (zby_at (j := 11) zbX12_is_1 rfl)
theorem dX12_is_28 : decode cX12_is 28 = .ok (.if_icmp .ne 7, 3) := dq_160 (zby_at (j := 12) zbX12_is_1 rfl) (zby_at (j := 13) zbX12_is_1 rfl) (zby_at (j := 14) zbX12_is_1 rfl) rfl
theorem dX12_is_31 : decode cX12_is 31 = .ok (.iconst 1, 1) := dq_4 (zby_at (j := 15) zbX12_is_1 rfl)
theorem zbX12_is_2 : zby cX12_is 32 20 = [167, 0, 4, 3, 61, 3, 62, 29, 43, 182, 0, 160, 162, 0, 38, 28, 153, 0, 34, 42] := by decide +kernel
theorem dX12_is_32 : decode cX12_is 32 = .ok (.goto 4, 3) := dq_167 (zby_at (j := 0) zbX12_is_2 rfl) (zby_at (j := 1) zbX12_is_2 rfl) (zby_at (j := 2) zbX12_is_2 rfl) rfl
theorem dX12_is_35 : decode cX12_is 35 = .ok (.iconst 0, 1) := dq_3 (zby_at (j := 3) zbX12_is_2 rfl)
theorem dX12_is_36 : decode cX12_is 36 = .ok (.istore_n 2, 1) := dq_61 (zby_at (j := 4) zbX12_is_2 rfl)
theorem dX12_is_37 : decode cX12_is 37 = .ok (.iconst 0, 1) := dq_3 (zby_at (j := 5) zbX12_is_2 rfl)
theorem dX12_is_38 : decode cX12_is 38 = .ok (.istore_n 3, 1) := dq_62 (zby_at (j := 6) zbX12_is_2 rfl)
theorem dX12_is_39 : decode cX12_is 39 = .ok (.iload_n 3, 1) := dq_29 (zby_at (j := 7) zbX12_is_2 rfl)
theorem dX12_is_40 : decode cX12_is 40 = .ok (.aload_n 1, 1) := dq_43 (zby_at (j := 8) zbX12_is_2 rfl)
theorem dX12_is_41 : decode cX12_is 41 = .ok (.invokevirtual 160, 3) := dq_182 (zby_at (j := 9) zbX12_is_2 rfl) (zby_at (j := 10) zbX12_is_2 rfl) (zby_at (j := 11) zbX12_is_2 rfl)
theorem dX12_is_44 : decode cX12_is 44 = .ok (.if_icmp .ge 38, 3) := dq_162 (zby_at (j := 12) zbX12_is_2 rfl) (zby_at (j := 13) zbX12_is_2 rfl) (zby_at (j := 14) zbX12_is_2 rfl) rfl
theorem dX12_is_47 : decode cX12_is 47 = .ok (.iload_n 2, 1) := dq_28 (zby_at (j := 15) zbX12_is_2 rfl)
theorem zbX12_is_3 : zby cX12_is 48 20 = [153, 0, 34, 42, 180, 0, 26, 42, 180, 0, 120, 29, 96, 51, 43, 29, 182, 0, 165, 160] := by decide +kernel
theorem dX12_is_48 : decode cX12_is 48 = .ok (.ifCond .eq 34, 3) := dq_153 (zby_at (j := 0) zbX12_is_3 rfl) (zby_at (j := 1) zbX12_is_3 rfl) (zby_at (j := 2) zbX12_is_3 rfl) rfl
theorem dX12_is_51 : decode cX12_is 51 = .ok (.aload_n 0, 1) := dq_42 (zby_at (j := 3) zbX12_is_3 rfl)
theorem dX12_is_52 : decode cX12_is 52 = .ok (.getfield 26, 3) := dq_180 (zby_at (j := 4) zbX12_is_3 rfl) (zby_at (j := 5) zbX12_is_3 rfl) (zby_at (j := 6) zbX12_is_3 rfl)
theorem dX12_is_55 : decode cX12_is 55 = .ok (.aload_n 0, 1) := dq_42 (zby_at (j := 7) zbX12_is_3 rfl)
theorem dX12_is_56 : decode cX12_is 56 = .ok (.getfield 120, 3) := dq_180 (zby_at (j := 8) zbX12_is_3 rfl) (zby_at (j := 9) zbX12_is_3 rfl) (zby_at (j := 10) zbX12_is_3 rfl)
theorem dX12_is_59 : decode cX12_is 59 = .ok (.iload_n 3, 1) := dq_29 (zby_at (j := 11) zbX12_is_3 rfl)
theorem dX12_is_60 : decode cX12_is 60 = .ok (.iadd, 1) := dq_96 (zby_at (j := 12) zbX12_is_3 rfl)
theorem dX12_is_61 : decode cX12_is 61 = .ok (.baload, 1) := dq_51 (zby_at (j := 13) zbX12_is_3 rfl)
theorem dX12_is_62 : decode cX12_is 62 = .ok (.aload_n 1, 1) := dq_43 (zby_at (j := 14) zbX12_is_3 rfl)
theorem dX12_is_63 : decode cX12_is 63 = .ok (.iload_n 3, 1) := dq_29 (zby_at (j := 15) zbX12_is_3 rfl)
theorem zbX12_is_4 : zby cX12_is 64 20 = [182, 0, 165, 160, 0, 7, 4, 167, 0, 4, 3, 61, 132, 3, 1, 167, 255, 216, 28, 172] := by decide +kernel
theorem dX12_is_64 : decode cX12_is 64 = .ok (.invokevirtual 165, 3) := dq_182 (zby_at (j := 0) zbX12_is_4 rfl) (zby_at (j := 1) zbX12_is_4 rfl) (zby_at (j := 2) zbX12_is_4 rfl)
theorem dX12_is_67 : decode cX12_is 67 = .ok (.if_icmp .ne 7, 3) := dq_160 (zby_at (j := 3) zbX12_is_4 rfl) (zby_at (j := 4) zbX12_is_4 rfl) (zby_at (j := 5) zbX12_is_4 rfl) rfl
theorem dX12_is_70 : decode cX12_is 70 = .ok (.iconst 1, 1) := dq_4 (zby_at (j := 6) zbX12_is_4 rfl)
theorem dX12_is_71 : decode cX12_is 71 = .ok (.goto 4, 3) := dq_167 (zby_at (j := 7) zbX12_is_4 rfl) (zby_at (j := 8) zbX12_is_4 rfl) (zby_at (j := 9) zbX12_is_4 rfl) rfl
theorem dX12_is_74 : decode cX12_is 74 = .ok (.iconst 0, 1) := dq_3 (zby_at (j := 10) zbX12_is_4 rfl)
theorem dX12_is_75 : decode cX12_is 75 = .ok (.istore_n 2, 1) := dq_61 (zby_at (j := 11) zbX12_is_4 rfl)
theorem dX12_is_76 : decode cX12_is 76 = .ok (.iinc 3 1, 3) := dq_132 (zby_at (j := 12) zbX12_is_4 rfl) (zby_at (j := 13) zbX12_is_4 rfl) (zby_at (j := 14) zbX12_is_4 rfl) rfl
theorem dX12_is_79 : decode cX12_is 79 = .ok (.goto (-40), 3) := dq_167 (zby_at (j := 15) zbX12_is_4 rfl) (zby_at (j := 16) zbX12_is_4 rfl) (zby_at (j := 17) zbX12_is_4 rfl) rfl
theorem zbX12_is_5 : zby cX12_is 80 20 = [255, 216, 28, 172] := by decide +kernel
theorem dX12_is_82 : decode cX12_is 82 = .ok (.iload_n 2, 1) := dq_28 (zby_at (j := 2) zbX12_is_5 rfl)
theorem dX12_is_83 : decode cX12_is 83 = .ok (.ireturn, 1) := dq_172 (zby_at (j := 3) zbX12_is_5 rfl)
theorem zbX12_takes_0 : zby cX12_takes 0 20 = [42, 43, 182, 0, 169, 61, 28, 153, 0, 7, 42, 182, 0, 154, 28, 172] := by decide +kernel
theorem dX12_takes_0 : decode cX12_takes 0 = .ok (.aload_n 0, 1) := dq_42 (zby_at (j := 0) zbX12_takes_0 rfl)
theorem dX12_takes_1 : decode cX12_takes 1 = .ok (.aload_n 1, 1) := dq_43 (zby_at (j := 1) zbX12_takes_0 rfl)
theorem dX12_takes_2 : decode cX12_takes 2 = .ok (.invokevirtual 169, 3) := dq_182 (zby_at (j := 2) zbX12_takes_0 rfl) (zby_at (j := 3) zbX12_takes_0 rfl) (zby_at (j := 4) zbX12_takes_0 rfl)
theorem dX12_takes_5 : decode cX12_takes 5 = .ok (.istore_n 2, 1) := dq_61 (zby_at (j := 5) zbX12_takes_0 rfl)
theorem dX12_takes_6 : decode cX12_takes 6 = .ok (.iload_n 2, 1) := dq_28 (zby_at (j := 6) zbX12_takes_0 rfl)
theorem dX12_takes_7 : decode cX12_takes 7 = .ok (.ifCond .eq 7, 3) := dq_153 (zby_at (j := 7) zbX12_takes_0 rfl) (zby_at (j := 8) zbX12_takes_0 rfl) (zby_at (j := 9) zbX12_takes_0 rfl) rfl
theorem dX12_takes_10 : decode cX12_takes 10 = .ok (.aload_n 0, 1) := dq_42 (zby_at (j := 10) zbX12_takes_0 rfl)
theorem dX12_takes_11 : decode cX12_takes 11 = .ok (.invokevirtual 154, 3) := dq_182 (zby_at (j := 11) zbX12_takes_0 rfl) (zby_at (j := 12) zbX12_takes_0 rfl) (zby_at (j := 13) zbX12_takes_0 rfl)
theorem dX12_takes_14 : decode cX12_takes 14 = .ok (.iload_n 2, 1) := dq_28 (zby_at (j := 14) zbX12_takes_0 rfl)
theorem dX12_takes_15 : decode cX12_takes 15 = .ok (.ireturn, 1) := dq_172 (zby_at (j := 15) zbX12_takes_0 rfl)
theorem zbX12_needs_0 : zby cX12_needs 0 20 = [42, 43, 182, 0, 173, 154, 0, 8, 42, 4, 182, 0, 176, 177] := by decide +kernel
theorem dX12_needs_0 : decode cX12_needs 0 = .ok (.aload_n 0, 1) := dq_42 (zby_at (j := 0) zbX12_needs_0 rfl)
theorem dX12_needs_1 : decode cX12_needs 1 = .ok (.aload_n 1, 1) := dq_43 (zby_at (j := 1) zbX12_needs_0 rfl)
theorem dX12_needs_2 : decode cX12_needs 2 = .ok (.invokevirtual 173, 3) := dq_182 (zby_at (j := 2) zbX12_needs_0 rfl) (zby_at (j := 3) zbX12_needs_0 rfl) (zby_at (j := 4) zbX12_needs_0 rfl)
theorem dX12_needs_5 : decode cX12_needs 5 = .ok (.ifCond .ne 8, 3) := dq_154 (zby_at (j := 5) zbX12_needs_0 rfl) (zby_at (j := 6) zbX12_needs_0 rfl) (zby_at (j := 7) zbX12_needs_0 rfl) rfl
theorem dX12_needs_8 : decode cX12_needs 8 = .ok (.aload_n 0, 1) := dq_42 (zby_at (j := 8) zbX12_needs_0 rfl)
theorem dX12_needs_9 : decode cX12_needs 9 = .ok (.iconst 1, 1) := dq_4 (zby_at (j := 9) zbX12_needs_0 rfl)
theorem dX12_needs_10 : decode cX12_needs 10 = .ok (.invokevirtual 176, 3) := dq_182 (zby_at (j := 10) zbX12_needs_0 rfl) (zby_at (j := 11) zbX12_needs_0 rfl) (zby_at (j := 12) zbX12_needs_0 rfl)
theorem dX12_needs_13 : decode cX12_needs 13 = .ok (.return_, 1) := dq_177 (zby_at (j := 13) zbX12_needs_0 rfl)
theorem zbX12_needsSign_0 : zby cX12_needsSign 0 20 = [42, 182, 0, 157, 153, 0, 16, 42, 180, 0, 123, 27, 159, 0, 8, 42, 4, 182, 0, 176] := by decide +kernel
theorem dX12_needsSign_0 : decode cX12_needsSign 0 = .ok (.aload_n 0, 1) := dq_42 (zby_at (j := 0) zbX12_needsSign_0 rfl)
theorem dX12_needsSign_1 : decode cX12_needsSign 1 = .ok (.invokevirtual 157, 3) := dq_182 (zby_at (j := 1) zbX12_needsSign_0 rfl) (zby_at (j := 2) zbX12_needsSign_0 rfl) (zby_at (j := 3) zbX12_needsSign_0 rfl)
theorem dX12_needsSign_4 : decode cX12_needsSign 4 = .ok (.ifCond .eq 16, 3) := dq_153 (zby_at (j := 4) zbX12_needsSign_0 rfl) (zby_at (j := 5) zbX12_needsSign_0 rfl) (zby_at (j := 6) zbX12_needsSign_0 rfl) rfl
theorem dX12_needsSign_7 : decode cX12_needsSign 7 = .ok (.aload_n 0, 1) := dq_42 (zby_at (j := 7) zbX12_needsSign_0 rfl)
theorem dX12_needsSign_8 : decode cX12_needsSign 8 = .ok (.getfield 123, 3) := dq_180 (zby_at (j := 8) zbX12_needsSign_0 rfl) (zby_at (j := 9) zbX12_needsSign_0 rfl) (zby_at (j := 10) zbX12_needsSign_0 rfl)
theorem dX12_needsSign_11 : decode cX12_needsSign 11 = .ok (.iload_n 1, 1) := dq_27 (zby_at (j := 11) zbX12_needsSign_0 rfl)
theorem dX12_needsSign_12 : decode cX12_needsSign 12 = .ok (.if_icmp .eq 8, 3) := dq_159 (zby_at (j := 12) zbX12_needsSign_0 rfl) (zby_at (j := 13) zbX12_needsSign_0 rfl) (zby_at (j := 14) zbX12_needsSign_0 rfl) rfl
theorem dX12_needsSign_15 : decode cX12_needsSign 15 = .ok (.aload_n 0, 1) := dq_42 (zby_at (j := 15) zbX12_needsSign_0 rfl)
theorem zbX12_needsSign_1 : zby cX12_needsSign 16 20 = [4, 182, 0, 176, 42, 182, 0, 157, 153, 0, 7, 42, 182, 0, 154, 177] := by decide +kernel
theorem dX12_needsSign_16 : decode cX12_needsSign 16 = .ok (.iconst 1, 1) := dq_4 (zby_at (j := 0) zbX12_needsSign_1 rfl)
theorem dX12_needsSign_17 : decode cX12_needsSign 17 = .ok (.invokevirtual 176, 3) := dq_182 (zby_at (j := 1) zbX12_needsSign_1 rfl) (zby_at (j := 2) zbX12_needsSign_1 rfl) (zby_at (j := 3) zbX12_needsSign_1 rfl)
theorem dX12_needsSign_20 : decode cX12_needsSign 20 = .ok (.aload_n 0, 1) := dq_42 (zby_at (j := 4) zbX12_needsSign_1 rfl)
theorem dX12_needsSign_21 : decode cX12_needsSign 21 = .ok (.invokevirtual 157, 3) := dq_182 (zby_at (j := 5) zbX12_needsSign_1 rfl) (zby_at (j := 6) zbX12_needsSign_1 rfl) (zby_at (j := 7) zbX12_needsSign_1 rfl)
theorem dX12_needsSign_24 : decode cX12_needsSign 24 = .ok (.ifCond .eq 7, 3) := dq_153 (zby_at (j := 8) zbX12_needsSign_1 rfl) (zby_at (j := 9) zbX12_needsSign_1 rfl) (zby_at (j := 10) zbX12_needsSign_1 rfl) rfl
theorem dX12_needsSign_27 : decode cX12_needsSign 27 = .ok (.aload_n 0, 1) := dq_42 (zby_at (j := 11) zbX12_needsSign_1 rfl)
theorem dX12_needsSign_28 : decode cX12_needsSign 28 = .ok (.invokevirtual 154, 3) := dq_182 (zby_at (j := 12) zbX12_needsSign_1 rfl) (zby_at (j := 13) zbX12_needsSign_1 rfl) (zby_at (j := 14) zbX12_needsSign_1 rfl)
theorem dX12_needsSign_31 : decode cX12_needsSign 31 = .ok (.return_, 1) := dq_177 (zby_at (j := 15) zbX12_needsSign_1 rfl)
theorem zbX12_number_0 : zby cX12_number 0 20 = [42, 182, 0, 157, 153, 0, 16, 42, 180, 0, 123, 5, 159, 0, 8, 42, 4, 182, 0, 176] := by decide +kernel
theorem dX12_number_0 : decode cX12_number 0 = .ok (.aload_n 0, 1) := dq_42 (zby_at (j := 0) zbX12_number_0 rfl)
theorem dX12_number_1 : decode cX12_number 1 = .ok (.invokevirtual 157, 3) := dq_182 (zby_at (j := 1) zbX12_number_0 rfl) (zby_at (j := 2) zbX12_number_0 rfl) (zby_at (j := 3) zbX12_number_0 rfl)
theorem dX12_number_4 : decode cX12_number 4 = .ok (.ifCond .eq 16, 3) := dq_153 (zby_at (j := 4) zbX12_number_0 rfl) (zby_at (j := 5) zbX12_number_0 rfl) (zby_at (j := 6) zbX12_number_0 rfl) rfl
theorem dX12_number_7 : decode cX12_number 7 = .ok (.aload_n 0, 1) := dq_42 (zby_at (j := 7) zbX12_number_0 rfl)
theorem dX12_number_8 : decode cX12_number 8 = .ok (.getfield 123, 3) := dq_180 (zby_at (j := 8) zbX12_number_0 rfl) (zby_at (j := 9) zbX12_number_0 rfl) (zby_at (j := 10) zbX12_number_0 rfl)
theorem dX12_number_11 : decode cX12_number 11 = .ok (.iconst 2, 1) := dq_5 (zby_at (j := 11) zbX12_number_0 rfl)
theorem dX12_number_12 : decode cX12_number 12 = .ok (.if_icmp .eq 8, 3) := dq_159 (zby_at (j := 12) zbX12_number_0 rfl) (zby_at (j := 13) zbX12_number_0 rfl) (zby_at (j := 14) zbX12_number_0 rfl) rfl
theorem dX12_number_15 : decode cX12_number 15 = .ok (.aload_n 0, 1) := dq_42 (zby_at (j := 15) zbX12_number_0 rfl)
theorem zbX12_number_1 : zby cX12_number 16 20 = [4, 182, 0, 176, 42, 182, 0, 157, 153, 0, 23, 42, 180, 0, 134, 133, 27, 133, 28, 133] := by decide +kernel
theorem dX12_number_16 : decode cX12_number 16 = .ok (.iconst 1, 1) := dq_4 (zby_at (j := 0) zbX12_number_1 rfl)
theorem dX12_number_17 : decode cX12_number 17 = .ok (.invokevirtual 176, 3) := dq_182 (zby_at (j := 1) zbX12_number_1 rfl) (zby_at (j := 2) zbX12_number_1 rfl) (zby_at (j := 3) zbX12_number_1 rfl)
theorem dX12_number_20 : decode cX12_number 20 = .ok (.aload_n 0, 1) := dq_42 (zby_at (j := 4) zbX12_number_1 rfl)
theorem dX12_number_21 : decode cX12_number 21 = .ok (.invokevirtual 157, 3) := dq_182 (zby_at (j := 5) zbX12_number_1 rfl) (zby_at (j := 6) zbX12_number_1 rfl) (zby_at (j := 7) zbX12_number_1 rfl)
theorem dX12_number_24 : decode cX12_number 24 = .ok (.ifCond .eq 23, 3) := dq_153 (zby_at (j := 8) zbX12_number_1 rfl) (zby_at (j := 9) zbX12_number_1 rfl) (zby_at (j := 10) zbX12_number_1 rfl) rfl
theorem dX12_number_27 : decode cX12_number 27 = .ok (.aload_n 0, 1) := dq_42 (zby_at (j := 11) zbX12_number_1 rfl)
theorem dX12_number_28 : decode cX12_number 28 = .ok (.getfield 134, 3) := dq_180 (zby_at (j := 12) zbX12_number_1 rfl) (zby_at (j := 13) zbX12_number_1 rfl) (zby_at (j := 14) zbX12_number_1 rfl)
theorem dX12_number_31 : decode cX12_number 31 = .ok (.i2l, 1) := dq_133 (zby_at (j := 15) zbX12_number_1 rfl)
theorem zbX12_number_2 : zby cX12_number 32 20 = [27, 133, 28, 133, 184, 0, 94, 154, 0, 8, 42, 5, 182, 0, 176, 42, 182, 0, 157, 154] := by decide +kernel
theorem dX12_number_32 : decode cX12_number 32 = .ok (.iload_n 1, 1) := dq_27 (zby_at (j := 0) zbX12_number_2 rfl)
theorem dX12_number_33 : decode cX12_number 33 = .ok (.i2l, 1) := dq_133 (zby_at (j := 1) zbX12_number_2 rfl)
theorem dX12_number_34 : decode cX12_number 34 = .ok (.iload_n 2, 1) := dq_28 (zby_at (j := 2) zbX12_number_2 rfl)
theorem dX12_number_35 : decode cX12_number 35 = .ok (.i2l, 1) := dq_133 (zby_at (j := 3) zbX12_number_2 rfl)
theorem dX12_number_36 : decode cX12_number 36 = .ok (.invokestatic 94, 3) := dq_184 (zby_at (j := 4) zbX12_number_2 rfl) (zby_at (j := 5) zbX12_number_2 rfl) (zby_at (j := 6) zbX12_number_2 rfl)
theorem dX12_number_39 : decode cX12_number 39 = .ok (.ifCond .ne 8, 3) := dq_154 (zby_at (j := 7) zbX12_number_2 rfl) (zby_at (j := 8) zbX12_number_2 rfl) (zby_at (j := 9) zbX12_number_2 rfl) rfl
theorem dX12_number_42 : decode cX12_number 42 = .ok (.aload_n 0, 1) := dq_42 (zby_at (j := 10) zbX12_number_2 rfl)
theorem dX12_number_43 : decode cX12_number 43 = .ok (.iconst 2, 1) := dq_5 (zby_at (j := 11) zbX12_number_2 rfl)
theorem dX12_number_44 : decode cX12_number 44 = .ok (.invokevirtual 176, 3) := dq_182 (zby_at (j := 12) zbX12_number_2 rfl) (zby_at (j := 13) zbX12_number_2 rfl) (zby_at (j := 14) zbX12_number_2 rfl)
theorem dX12_number_47 : decode cX12_number 47 = .ok (.aload_n 0, 1) := dq_42 (zby_at (j := 15) zbX12_number_2 rfl)
theorem zbX12_number_3 : zby cX12_number 48 20 = [182, 0, 157, 154, 0, 5, 3, 172, 42, 180, 0, 134, 62, 42, 182, 0, 154, 29, 172] := by decide +kernel
theorem dX12_number_48 : decode cX12_number 48 = .ok (.invokevirtual 157, 3) := dq_182 (zby_at (j := 0) zbX12_number_3 rfl) (zby_at (j := 1) zbX12_number_3 rfl) (zby_at (j := 2) zbX12_number_3 rfl)
theorem dX12_number_51 : decode cX12_number 51 = .ok (.ifCond .ne 5, 3) := dq_154 (zby_at (j := 3) zbX12_number_3 rfl) (zby_at (j := 4) zbX12_number_3 rfl) (zby_at (j := 5) zbX12_number_3 rfl) rfl
theorem dX12_number_54 : decode cX12_number 54 = .ok (.iconst 0, 1) := dq_3 (zby_at (j := 6) zbX12_number_3 rfl)
theorem dX12_number_55 : decode cX12_number 55 = .ok (.ireturn, 1) := dq_172 (zby_at (j := 7) zbX12_number_3 rfl)
theorem dX12_number_56 : decode cX12_number 56 = .ok (.aload_n 0, 1) := dq_42 (zby_at (j := 8) zbX12_number_3 rfl)
theorem dX12_number_57 : decode cX12_number 57 = .ok (.getfield 134, 3) := dq_180 (zby_at (j := 9) zbX12_number_3 rfl) (zby_at (j := 10) zbX12_number_3 rfl) (zby_at (j := 11) zbX12_number_3 rfl)
theorem dX12_number_60 : decode cX12_number 60 = .ok (.istore_n 3, 1) := dq_62 (zby_at (j := 12) zbX12_number_3 rfl)
theorem dX12_number_61 : decode cX12_number 61 = .ok (.aload_n 0, 1) := dq_42 (zby_at (j := 13) zbX12_number_3 rfl)
theorem dX12_number_62 : decode cX12_number 62 = .ok (.invokevirtual 154, 3) := dq_182 (zby_at (j := 14) zbX12_number_3 rfl) (zby_at (j := 15) zbX12_number_3 rfl) (zby_at (j := 16) zbX12_number_3 rfl)
theorem zbX12_number_4 : zby cX12_number 64 20 = [154, 29, 172] := by decide +kernel
theorem dX12_number_65 : decode cX12_number 65 = .ok (.iload_n 3, 1) := dq_29 (zby_at (j := 1) zbX12_number_4 rfl)
theorem dX12_number_66 : decode cX12_number 66 = .ok (.ireturn, 1) := dq_172 (zby_at (j := 2) zbX12_number_4 rfl)
theorem zbX12_fault_0 : zby cX12_fault 0 20 = [27, 154, 0, 10, 42, 180, 0, 148, 167, 0, 16, 27, 4, 160, 0, 10, 42, 180, 0, 33] := by decide +kernel
theorem dX12_fault_0 : decode cX12_fault 0 = .ok (.iload_n 1, 1) := dq_27 (zby_at (j := 0) zbX12_fault_0 rfl)
theorem dX12_fault_1 : decode cX12_fault 1 = .ok (.ifCond .ne 10, 3) := dq_154 (zby_at (j := 1) zbX12_fault_0 rfl) (zby_at (j := 2) zbX12_fault_0 rfl) (zby_at (j := 3) zbX12_fault_0 rfl) rfl
theorem dX12_fault_4 : decode cX12_fault 4 = .ok (.aload_n 0, 1) := dq_42 (zby_at (j := 4) zbX12_fault_0 rfl)
theorem dX12_fault_5 : decode cX12_fault 5 = .ok (.getfield 148, 3) := dq_180 (zby_at (j := 5) zbX12_fault_0 rfl) (zby_at (j := 6) zbX12_fault_0 rfl) (zby_at (j := 7) zbX12_fault_0 rfl)
theorem dX12_fault_8 : decode cX12_fault 8 = .ok (.goto 16, 3) := dq_167 (zby_at (j := 8) zbX12_fault_0 rfl) (zby_at (j := 9) zbX12_fault_0 rfl) (zby_at (j := 10) zbX12_fault_0 rfl) rfl
theorem dX12_fault_11 : decode cX12_fault 11 = .ok (.iload_n 1, 1) := dq_27 (zby_at (j := 11) zbX12_fault_0 rfl)
theorem dX12_fault_12 : decode cX12_fault 12 = .ok (.iconst 1, 1) := dq_4 (zby_at (j := 12) zbX12_fault_0 rfl)
theorem dX12_fault_13 : decode cX12_fault 13 = .ok (.if_icmp .ne 10, 3) := dq_160 (zby_at (j := 13) zbX12_fault_0 rfl) (zby_at (j := 14) zbX12_fault_0 rfl) (zby_at (j := 15) zbX12_fault_0 rfl) rfl
theorem zbX12_fault_1 : zby cX12_fault 16 20 = [42, 180, 0, 33, 167, 0, 4, 2, 172] := by decide +kernel
theorem dX12_fault_16 : decode cX12_fault 16 = .ok (.aload_n 0, 1) := dq_42 (zby_at (j := 0) zbX12_fault_1 rfl)
theorem dX12_fault_17 : decode cX12_fault 17 = .ok (.getfield 33, 3) := dq_180 (zby_at (j := 1) zbX12_fault_1 rfl) (zby_at (j := 2) zbX12_fault_1 rfl) (zby_at (j := 3) zbX12_fault_1 rfl)
theorem dX12_fault_20 : decode cX12_fault 20 = .ok (.goto 4, 3) := dq_167 (zby_at (j := 4) zbX12_fault_1 rfl) (zby_at (j := 5) zbX12_fault_1 rfl) (zby_at (j := 6) zbX12_fault_1 rfl) rfl
theorem dX12_fault_23 : decode cX12_fault 23 = .ok (.iconst (-1), 1) := dq_2 (zby_at (j := 7) zbX12_fault_1 rfl)
theorem dX12_fault_24 : decode cX12_fault 24 = .ok (.ireturn, 1) := dq_172 (zby_at (j := 8) zbX12_fault_1 rfl)
theorem zbX12_joins_0 : zby cX12_joins 0 20 = [3, 54, 6, 21, 6, 17, 4, 0, 162, 0, 15, 25, 5, 21, 6, 3, 84, 132, 6, 1] := by decide +kernel
theorem dX12_joins_0 : decode cX12_joins 0 = .ok (.iconst 0, 1) := dq_3 (zby_at (j := 0) zbX12_joins_0 rfl)
theorem dX12_joins_1 : decode cX12_joins 1 = .ok (.istore 6, 2) := dq_54 (zby_at (j := 1) zbX12_joins_0 rfl) (zby_at (j := 2) zbX12_joins_0 rfl)
theorem dX12_joins_3 : decode cX12_joins 3 = .ok (.iload 6, 2) := dq_21 (zby_at (j := 3) zbX12_joins_0 rfl) (zby_at (j := 4) zbX12_joins_0 rfl)
theorem dX12_joins_5 : decode cX12_joins 5 = .ok (.sipush 1024, 3) := dq_17 (zby_at (j := 5) zbX12_joins_0 rfl) (zby_at (j := 6) zbX12_joins_0 rfl) (zby_at (j := 7) zbX12_joins_0 rfl) rfl
theorem dX12_joins_8 : decode cX12_joins 8 = .ok (.if_icmp .ge 15, 3) := dq_162 (zby_at (j := 8) zbX12_joins_0 rfl) (zby_at (j := 9) zbX12_joins_0 rfl) (zby_at (j := 10) zbX12_joins_0 rfl) rfl
theorem dX12_joins_11 : decode cX12_joins 11 = .ok (.aload 5, 2) := dq_25 (zby_at (j := 11) zbX12_joins_0 rfl) (zby_at (j := 12) zbX12_joins_0 rfl)
theorem dX12_joins_13 : decode cX12_joins 13 = .ok (.iload 6, 2) := dq_21 (zby_at (j := 13) zbX12_joins_0 rfl) (zby_at (j := 14) zbX12_joins_0 rfl)
theorem dX12_joins_15 : decode cX12_joins 15 = .ok (.iconst 0, 1) := dq_3 (zby_at (j := 15) zbX12_joins_0 rfl)
theorem zbX12_joins_1 : zby cX12_joins 16 20 = [84, 132, 6, 1, 167, 255, 239, 3, 54, 6, 21, 6, 42, 180, 0, 180, 162, 0, 55, 3] := by decide +kernel
theorem dX12_joins_16 : decode cX12_joins 16 = .ok (.bastore, 1) := dq_84 (zby_at (j := 0) zbX12_joins_1 rfl)
theorem dX12_joins_17 : decode cX12_joins 17 = .ok (.iinc 6 1, 3) := dq_132 (zby_at (j := 1) zbX12_joins_1 rfl) (zby_at (j := 2) zbX12_joins_1 rfl) (zby_at (j := 3) zbX12_joins_1 rfl) rfl
theorem dX12_joins_20 : decode cX12_joins 20 = .ok (.goto (-17), 3) := dq_167 (zby_at (j := 4) zbX12_joins_1 rfl) (zby_at (j := 5) zbX12_joins_1 rfl) (zby_at (j := 6) zbX12_joins_1 rfl) rfl
theorem dX12_joins_23 : decode cX12_joins 23 = .ok (.iconst 0, 1) := dq_3 (zby_at (j := 7) zbX12_joins_1 rfl)
theorem dX12_joins_24 : decode cX12_joins 24 = .ok (.istore 6, 2) := dq_54 (zby_at (j := 8) zbX12_joins_1 rfl) (zby_at (j := 9) zbX12_joins_1 rfl)
theorem dX12_joins_26 : decode cX12_joins 26 = .ok (.iload 6, 2) := dq_21 (zby_at (j := 10) zbX12_joins_1 rfl) (zby_at (j := 11) zbX12_joins_1 rfl)
theorem dX12_joins_28 : decode cX12_joins 28 = .ok (.aload_n 0, 1) := dq_42 (zby_at (j := 12) zbX12_joins_1 rfl)
theorem dX12_joins_29 : decode cX12_joins 29 = .ok (.getfield 180, 3) := dq_180 (zby_at (j := 13) zbX12_joins_1 rfl) (zby_at (j := 14) zbX12_joins_1 rfl) (zby_at (j := 15) zbX12_joins_1 rfl)
theorem zbX12_joins_2 : zby cX12_joins 32 20 = [162, 0, 55, 3, 54, 7, 21, 7, 42, 180, 0, 180, 162, 0, 37, 43, 28, 21, 6, 96] := by decide +kernel
theorem dX12_joins_32 : decode cX12_joins 32 = .ok (.if_icmp .ge 55, 3) := dq_162 (zby_at (j := 0) zbX12_joins_2 rfl) (zby_at (j := 1) zbX12_joins_2 rfl) (zby_at (j := 2) zbX12_joins_2 rfl) rfl
theorem dX12_joins_35 : decode cX12_joins 35 = .ok (.iconst 0, 1) := dq_3 (zby_at (j := 3) zbX12_joins_2 rfl)
theorem dX12_joins_36 : decode cX12_joins 36 = .ok (.istore 7, 2) := dq_54 (zby_at (j := 4) zbX12_joins_2 rfl) (zby_at (j := 5) zbX12_joins_2 rfl)
theorem dX12_joins_38 : decode cX12_joins 38 = .ok (.iload 7, 2) := dq_21 (zby_at (j := 6) zbX12_joins_2 rfl) (zby_at (j := 7) zbX12_joins_2 rfl)
theorem dX12_joins_40 : decode cX12_joins 40 = .ok (.aload_n 0, 1) := dq_42 (zby_at (j := 8) zbX12_joins_2 rfl)
theorem dX12_joins_41 : decode cX12_joins 41 = .ok (.getfield 180, 3) := dq_180 (zby_at (j := 9) zbX12_joins_2 rfl) (zby_at (j := 10) zbX12_joins_2 rfl) (zby_at (j := 11) zbX12_joins_2 rfl)
theorem dX12_joins_44 : decode cX12_joins 44 = .ok (.if_icmp .ge 37, 3) := dq_162 (zby_at (j := 12) zbX12_joins_2 rfl) (zby_at (j := 13) zbX12_joins_2 rfl) (zby_at (j := 14) zbX12_joins_2 rfl) rfl
theorem dX12_joins_47 : decode cX12_joins 47 = .ok (.aload_n 1, 1) := dq_43 (zby_at (j := 15) zbX12_joins_2 rfl)
theorem zbX12_joins_3 : zby cX12_joins 48 20 = [28, 21, 6, 96, 51, 153, 0, 28, 45, 21, 4, 21, 7, 96, 51, 153, 0, 12, 25, 5] := by decide +kernel
theorem dX12_joins_48 : decode cX12_joins 48 = .ok (.iload_n 2, 1) := dq_28 (zby_at (j := 0) zbX12_joins_3 rfl)
theorem dX12_joins_49 : decode cX12_joins 49 = .ok (.iload 6, 2) := dq_21 (zby_at (j := 1) zbX12_joins_3 rfl) (zby_at (j := 2) zbX12_joins_3 rfl)
theorem dX12_joins_51 : decode cX12_joins 51 = .ok (.iadd, 1) := dq_96 (zby_at (j := 3) zbX12_joins_3 rfl)
theorem dX12_joins_52 : decode cX12_joins 52 = .ok (.baload, 1) := dq_51 (zby_at (j := 4) zbX12_joins_3 rfl)
theorem dX12_joins_53 : decode cX12_joins 53 = .ok (.ifCond .eq 28, 3) := dq_153 (zby_at (j := 5) zbX12_joins_3 rfl) (zby_at (j := 6) zbX12_joins_3 rfl) (zby_at (j := 7) zbX12_joins_3 rfl) rfl
theorem dX12_joins_56 : decode cX12_joins 56 = .ok (.aload_n 3, 1) := dq_45 (zby_at (j := 8) zbX12_joins_3 rfl)
theorem dX12_joins_57 : decode cX12_joins 57 = .ok (.iload 4, 2) := dq_21 (zby_at (j := 9) zbX12_joins_3 rfl) (zby_at (j := 10) zbX12_joins_3 rfl)
theorem dX12_joins_59 : decode cX12_joins 59 = .ok (.iload 7, 2) := dq_21 (zby_at (j := 11) zbX12_joins_3 rfl) (zby_at (j := 12) zbX12_joins_3 rfl)
theorem dX12_joins_61 : decode cX12_joins 61 = .ok (.iadd, 1) := dq_96 (zby_at (j := 13) zbX12_joins_3 rfl)
theorem dX12_joins_62 : decode cX12_joins 62 = .ok (.baload, 1) := dq_51 (zby_at (j := 14) zbX12_joins_3 rfl)
theorem dX12_joins_63 : decode cX12_joins 63 = .ok (.ifCond .eq 12, 3) := dq_153 (zby_at (j := 15) zbX12_joins_3 rfl) (zby_at (j := 16) zbX12_joins_3 rfl) (zby_at (j := 17) zbX12_joins_3 rfl) rfl
theorem zbX12_joins_4 : zby cX12_joins 64 20 = [0, 12, 25, 5, 21, 6, 21, 7, 128, 4, 84, 132, 7, 1, 167, 255, 216, 132, 6, 1] := by decide +kernel
theorem dX12_joins_66 : decode cX12_joins 66 = .ok (.aload 5, 2) := dq_25 (zby_at (j := 2) zbX12_joins_4 rfl) (zby_at (j := 3) zbX12_joins_4 rfl)
theorem dX12_joins_68 : decode cX12_joins 68 = .ok (.iload 6, 2) := dq_21 (zby_at (j := 4) zbX12_joins_4 rfl) (zby_at (j := 5) zbX12_joins_4 rfl)
theorem dX12_joins_70 : decode cX12_joins 70 = .ok (.iload 7, 2) := dq_21 (zby_at (j := 6) zbX12_joins_4 rfl) (zby_at (j := 7) zbX12_joins_4 rfl)
theorem dX12_joins_72 : decode cX12_joins 72 = .ok (.ior, 1) := dq_128 (zby_at (j := 8) zbX12_joins_4 rfl)
theorem dX12_joins_73 : decode cX12_joins 73 = .ok (.iconst 1, 1) := dq_4 (zby_at (j := 9) zbX12_joins_4 rfl)
theorem dX12_joins_74 : decode cX12_joins 74 = .ok (.bastore, 1) := dq_84 (zby_at (j := 10) zbX12_joins_4 rfl)
theorem dX12_joins_75 : decode cX12_joins 75 = .ok (.iinc 7 1, 3) := dq_132 (zby_at (j := 11) zbX12_joins_4 rfl) (zby_at (j := 12) zbX12_joins_4 rfl) (zby_at (j := 13) zbX12_joins_4 rfl) rfl
theorem dX12_joins_78 : decode cX12_joins 78 = .ok (.goto (-40), 3) := dq_167 (zby_at (j := 14) zbX12_joins_4 rfl) (zby_at (j := 15) zbX12_joins_4 rfl) (zby_at (j := 16) zbX12_joins_4 rfl) rfl
theorem zbX12_joins_5 : zby cX12_joins 80 20 = [216, 132, 6, 1, 167, 255, 198, 177] := by decide +kernel
theorem dX12_joins_81 : decode cX12_joins 81 = .ok (.iinc 6 1, 3) := dq_132 (zby_at (j := 1) zbX12_joins_5 rfl) (zby_at (j := 2) zbX12_joins_5 rfl) (zby_at (j := 3) zbX12_joins_5 rfl) rfl
theorem dX12_joins_84 : decode cX12_joins 84 = .ok (.goto (-58), 3) := dq_167 (zby_at (j := 4) zbX12_joins_5 rfl) (zby_at (j := 5) zbX12_joins_5 rfl) (zby_at (j := 6) zbX12_joins_5 rfl) rfl
theorem dX12_joins_87 : decode cX12_joins 87 = .ok (.return_, 1) := dq_177 (zby_at (j := 7) zbX12_joins_5 rfl)
theorem zbX12_isOver_0 : zby cX12_isOver 0 20 = [3, 54, 6, 3, 54, 7, 21, 7, 42, 180, 0, 180, 162, 0, 47, 45, 21, 4, 21, 7] := by decide +kernel
theorem dX12_isOver_0 : decode cX12_isOver 0 = .ok (.iconst 0, 1) := dq_3 (zby_at (j := 0) zbX12_isOver_0 rfl)
theorem dX12_isOver_1 : decode cX12_isOver 1 = .ok (.istore 6, 2) := dq_54 (zby_at (j := 1) zbX12_isOver_0 rfl) (zby_at (j := 2) zbX12_isOver_0 rfl)
theorem dX12_isOver_3 : decode cX12_isOver 3 = .ok (.iconst 0, 1) := dq_3 (zby_at (j := 3) zbX12_isOver_0 rfl)
theorem dX12_isOver_4 : decode cX12_isOver 4 = .ok (.istore 7, 2) := dq_54 (zby_at (j := 4) zbX12_isOver_0 rfl) (zby_at (j := 5) zbX12_isOver_0 rfl)
theorem dX12_isOver_6 : decode cX12_isOver 6 = .ok (.iload 7, 2) := dq_21 (zby_at (j := 6) zbX12_isOver_0 rfl) (zby_at (j := 7) zbX12_isOver_0 rfl)
theorem dX12_isOver_8 : decode cX12_isOver 8 = .ok (.aload_n 0, 1) := dq_42 (zby_at (j := 8) zbX12_isOver_0 rfl)
theorem dX12_isOver_9 : decode cX12_isOver 9 = .ok (.getfield 180, 3) := dq_180 (zby_at (j := 9) zbX12_isOver_0 rfl) (zby_at (j := 10) zbX12_isOver_0 rfl) (zby_at (j := 11) zbX12_isOver_0 rfl)
theorem dX12_isOver_12 : decode cX12_isOver 12 = .ok (.if_icmp .ge 47, 3) := dq_162 (zby_at (j := 12) zbX12_isOver_0 rfl) (zby_at (j := 13) zbX12_isOver_0 rfl) (zby_at (j := 14) zbX12_isOver_0 rfl) rfl
theorem dX12_isOver_15 : decode cX12_isOver 15 = .ok (.aload_n 3, 1) := dq_45 (zby_at (j := 15) zbX12_isOver_0 rfl)
theorem zbX12_isOver_1 : zby cX12_isOver 16 20 = [21, 4, 21, 7, 96, 51, 154, 0, 6, 167, 0, 28, 4, 54, 6, 21, 5, 21, 7, 126] := by decide +kernel
theorem dX12_isOver_16 : decode cX12_isOver 16 = .ok (.iload 4, 2) := dq_21 (zby_at (j := 0) zbX12_isOver_1 rfl) (zby_at (j := 1) zbX12_isOver_1 rfl)
theorem dX12_isOver_18 : decode cX12_isOver 18 = .ok (.iload 7, 2) := dq_21 (zby_at (j := 2) zbX12_isOver_1 rfl) (zby_at (j := 3) zbX12_isOver_1 rfl)
theorem dX12_isOver_20 : decode cX12_isOver 20 = .ok (.iadd, 1) := dq_96 (zby_at (j := 4) zbX12_isOver_1 rfl)
theorem dX12_isOver_21 : decode cX12_isOver 21 = .ok (.baload, 1) := dq_51 (zby_at (j := 5) zbX12_isOver_1 rfl)
theorem dX12_isOver_22 : decode cX12_isOver 22 = .ok (.ifCond .ne 6, 3) := dq_154 (zby_at (j := 6) zbX12_isOver_1 rfl) (zby_at (j := 7) zbX12_isOver_1 rfl) (zby_at (j := 8) zbX12_isOver_1 rfl) rfl
theorem dX12_isOver_25 : decode cX12_isOver 25 = .ok (.goto 28, 3) := dq_167 (zby_at (j := 9) zbX12_isOver_1 rfl) (zby_at (j := 10) zbX12_isOver_1 rfl) (zby_at (j := 11) zbX12_isOver_1 rfl) rfl
theorem dX12_isOver_28 : decode cX12_isOver 28 = .ok (.iconst 1, 1) := dq_4 (zby_at (j := 12) zbX12_isOver_1 rfl)
theorem dX12_isOver_29 : decode cX12_isOver 29 = .ok (.istore 6, 2) := dq_54 (zby_at (j := 13) zbX12_isOver_1 rfl) (zby_at (j := 14) zbX12_isOver_1 rfl)
theorem dX12_isOver_31 : decode cX12_isOver 31 = .ok (.iload 5, 2) := dq_21 (zby_at (j := 15) zbX12_isOver_1 rfl) (zby_at (j := 16) zbX12_isOver_1 rfl)
theorem zbX12_isOver_2 : zby cX12_isOver 32 20 = [5, 21, 7, 126, 154, 0, 15, 43, 28, 21, 5, 21, 7, 128, 96, 51, 154, 0, 5, 3] := by decide +kernel
theorem dX12_isOver_33 : decode cX12_isOver 33 = .ok (.iload 7, 2) := dq_21 (zby_at (j := 1) zbX12_isOver_2 rfl) (zby_at (j := 2) zbX12_isOver_2 rfl)
theorem dX12_isOver_35 : decode cX12_isOver 35 = .ok (.iand, 1) := dq_126 (zby_at (j := 3) zbX12_isOver_2 rfl)
theorem dX12_isOver_36 : decode cX12_isOver 36 = .ok (.ifCond .ne 15, 3) := dq_154 (zby_at (j := 4) zbX12_isOver_2 rfl) (zby_at (j := 5) zbX12_isOver_2 rfl) (zby_at (j := 6) zbX12_isOver_2 rfl) rfl
theorem dX12_isOver_39 : decode cX12_isOver 39 = .ok (.aload_n 1, 1) := dq_43 (zby_at (j := 7) zbX12_isOver_2 rfl)
theorem dX12_isOver_40 : decode cX12_isOver 40 = .ok (.iload_n 2, 1) := dq_28 (zby_at (j := 8) zbX12_isOver_2 rfl)
theorem dX12_isOver_41 : decode cX12_isOver 41 = .ok (.iload 5, 2) := dq_21 (zby_at (j := 9) zbX12_isOver_2 rfl) (zby_at (j := 10) zbX12_isOver_2 rfl)
theorem dX12_isOver_43 : decode cX12_isOver 43 = .ok (.iload 7, 2) := dq_21 (zby_at (j := 11) zbX12_isOver_2 rfl) (zby_at (j := 12) zbX12_isOver_2 rfl)
theorem dX12_isOver_45 : decode cX12_isOver 45 = .ok (.ior, 1) := dq_128 (zby_at (j := 13) zbX12_isOver_2 rfl)
theorem dX12_isOver_46 : decode cX12_isOver 46 = .ok (.iadd, 1) := dq_96 (zby_at (j := 14) zbX12_isOver_2 rfl)
theorem dX12_isOver_47 : decode cX12_isOver 47 = .ok (.baload, 1) := dq_51 (zby_at (j := 15) zbX12_isOver_2 rfl)
theorem zbX12_isOver_3 : zby cX12_isOver 48 20 = [154, 0, 5, 3, 172, 132, 7, 1, 167, 255, 206, 21, 6, 172] := by decide +kernel
theorem dX12_isOver_48 : decode cX12_isOver 48 = .ok (.ifCond .ne 5, 3) := dq_154 (zby_at (j := 0) zbX12_isOver_3 rfl) (zby_at (j := 1) zbX12_isOver_3 rfl) (zby_at (j := 2) zbX12_isOver_3 rfl) rfl
theorem dX12_isOver_51 : decode cX12_isOver 51 = .ok (.iconst 0, 1) := dq_3 (zby_at (j := 3) zbX12_isOver_3 rfl)
theorem dX12_isOver_52 : decode cX12_isOver 52 = .ok (.ireturn, 1) := dq_172 (zby_at (j := 4) zbX12_isOver_3 rfl)
theorem dX12_isOver_53 : decode cX12_isOver 53 = .ok (.iinc 7 1, 3) := dq_132 (zby_at (j := 5) zbX12_isOver_3 rfl) (zby_at (j := 6) zbX12_isOver_3 rfl) (zby_at (j := 7) zbX12_isOver_3 rfl) rfl
theorem dX12_isOver_56 : decode cX12_isOver 56 = .ok (.goto (-50), 3) := dq_167 (zby_at (j := 8) zbX12_isOver_3 rfl) (zby_at (j := 9) zbX12_isOver_3 rfl) (zby_at (j := 10) zbX12_isOver_3 rfl) rfl
theorem dX12_isOver_59 : decode cX12_isOver 59 = .ok (.iload 6, 2) := dq_21 (zby_at (j := 11) zbX12_isOver_3 rfl) (zby_at (j := 12) zbX12_isOver_3 rfl)
theorem dX12_isOver_61 : decode cX12_isOver 61 = .ok (.ireturn, 1) := dq_172 (zby_at (j := 13) zbX12_isOver_3 rfl)
theorem zbX12_isTouching_0 : zby cX12_isTouching 0 20 = [3, 54, 4, 21, 4, 42, 180, 0, 180, 162, 0, 27, 43, 28, 21, 4, 96, 51, 153, 0] := by decide +kernel
theorem dX12_isTouching_0 : decode cX12_isTouching 0 = .ok (.iconst 0, 1) := dq_3 (zby_at (j := 0) zbX12_isTouching_0 rfl)
theorem dX12_isTouching_1 : decode cX12_isTouching 1 = .ok (.istore 4, 2) := dq_54 (zby_at (j := 1) zbX12_isTouching_0 rfl) (zby_at (j := 2) zbX12_isTouching_0 rfl)
theorem dX12_isTouching_3 : decode cX12_isTouching 3 = .ok (.iload 4, 2) := dq_21 (zby_at (j := 3) zbX12_isTouching_0 rfl) (zby_at (j := 4) zbX12_isTouching_0 rfl)
theorem dX12_isTouching_5 : decode cX12_isTouching 5 = .ok (.aload_n 0, 1) := dq_42 (zby_at (j := 5) zbX12_isTouching_0 rfl)
theorem dX12_isTouching_6 : decode cX12_isTouching 6 = .ok (.getfield 180, 3) := dq_180 (zby_at (j := 6) zbX12_isTouching_0 rfl) (zby_at (j := 7) zbX12_isTouching_0 rfl) (zby_at (j := 8) zbX12_isTouching_0 rfl)
theorem dX12_isTouching_9 : decode cX12_isTouching 9 = .ok (.if_icmp .ge 27, 3) := dq_162 (zby_at (j := 9) zbX12_isTouching_0 rfl) (zby_at (j := 10) zbX12_isTouching_0 rfl) (zby_at (j := 11) zbX12_isTouching_0 rfl) rfl
theorem dX12_isTouching_12 : decode cX12_isTouching 12 = .ok (.aload_n 1, 1) := dq_43 (zby_at (j := 12) zbX12_isTouching_0 rfl)
theorem dX12_isTouching_13 : decode cX12_isTouching 13 = .ok (.iload_n 2, 1) := dq_28 (zby_at (j := 13) zbX12_isTouching_0 rfl)
theorem dX12_isTouching_14 : decode cX12_isTouching 14 = .ok (.iload 4, 2) := dq_21 (zby_at (j := 14) zbX12_isTouching_0 rfl) (zby_at (j := 15) zbX12_isTouching_0 rfl)
theorem zbX12_isTouching_1 : zby cX12_isTouching 16 20 = [96, 51, 153, 0, 12, 29, 21, 4, 126, 154, 0, 5, 3, 172, 132, 4, 1, 167, 255, 226] := by decide +kernel
theorem dX12_isTouching_16 : decode cX12_isTouching 16 = .ok (.iadd, 1) := dq_96 (zby_at (j := 0) zbX12_isTouching_1 rfl)
theorem dX12_isTouching_17 : decode cX12_isTouching 17 = .ok (.baload, 1) := dq_51 (zby_at (j := 1) zbX12_isTouching_1 rfl)
theorem dX12_isTouching_18 : decode cX12_isTouching 18 = .ok (.ifCond .eq 12, 3) := dq_153 (zby_at (j := 2) zbX12_isTouching_1 rfl) (zby_at (j := 3) zbX12_isTouching_1 rfl) (zby_at (j := 4) zbX12_isTouching_1 rfl) rfl
theorem dX12_isTouching_21 : decode cX12_isTouching 21 = .ok (.iload_n 3, 1) := dq_29 (zby_at (j := 5) zbX12_isTouching_1 rfl)
theorem dX12_isTouching_22 : decode cX12_isTouching 22 = .ok (.iload 4, 2) := dq_21 (zby_at (j := 6) zbX12_isTouching_1 rfl) (zby_at (j := 7) zbX12_isTouching_1 rfl)
theorem dX12_isTouching_24 : decode cX12_isTouching 24 = .ok (.iand, 1) := dq_126 (zby_at (j := 8) zbX12_isTouching_1 rfl)
theorem dX12_isTouching_25 : decode cX12_isTouching 25 = .ok (.ifCond .ne 5, 3) := dq_154 (zby_at (j := 9) zbX12_isTouching_1 rfl) (zby_at (j := 10) zbX12_isTouching_1 rfl) (zby_at (j := 11) zbX12_isTouching_1 rfl) rfl
theorem dX12_isTouching_28 : decode cX12_isTouching 28 = .ok (.iconst 0, 1) := dq_3 (zby_at (j := 12) zbX12_isTouching_1 rfl)
theorem dX12_isTouching_29 : decode cX12_isTouching 29 = .ok (.ireturn, 1) := dq_172 (zby_at (j := 13) zbX12_isTouching_1 rfl)
theorem dX12_isTouching_30 : decode cX12_isTouching 30 = .ok (.iinc 4 1, 3) := dq_132 (zby_at (j := 14) zbX12_isTouching_1 rfl) (zby_at (j := 15) zbX12_isTouching_1 rfl) (zby_at (j := 16) zbX12_isTouching_1 rfl) rfl
theorem zbX12_isTouching_2 : zby cX12_isTouching 32 20 = [1, 167, 255, 226, 4, 172] := by decide +kernel
theorem dX12_isTouching_33 : decode cX12_isTouching 33 = .ok (.goto (-30), 3) := dq_167 (zby_at (j := 1) zbX12_isTouching_2 rfl) (zby_at (j := 2) zbX12_isTouching_2 rfl) (zby_at (j := 3) zbX12_isTouching_2 rfl) rfl
theorem dX12_isTouching_36 : decode cX12_isTouching 36 = .ok (.iconst 1, 1) := dq_4 (zby_at (j := 4) zbX12_isTouching_2 rfl)
theorem dX12_isTouching_37 : decode cX12_isTouching 37 = .ok (.ireturn, 1) := dq_172 (zby_at (j := 5) zbX12_isTouching_2 rfl)
theorem zbX12_gives_0 : zby cX12_gives 0 20 = [27, 6, 160, 0, 18, 42, 44, 29, 25, 4, 21, 5, 42, 180, 0, 40, 182, 0, 183, 177] := by decide +kernel
theorem dX12_gives_0 : decode cX12_gives 0 = .ok (.iload_n 1, 1) := dq_27 (zby_at (j := 0) zbX12_gives_0 rfl)
theorem dX12_gives_1 : decode cX12_gives 1 = .ok (.iconst 3, 1) := dq_6 (zby_at (j := 1) zbX12_gives_0 rfl)
theorem dX12_gives_2 : decode cX12_gives 2 = .ok (.if_icmp .ne 18, 3) := dq_160 (zby_at (j := 2) zbX12_gives_0 rfl) (zby_at (j := 3) zbX12_gives_0 rfl) (zby_at (j := 4) zbX12_gives_0 rfl) rfl
theorem dX12_gives_5 : decode cX12_gives 5 = .ok (.aload_n 0, 1) := dq_42 (zby_at (j := 5) zbX12_gives_0 rfl)
theorem dX12_gives_6 : decode cX12_gives 6 = .ok (.aload_n 2, 1) := dq_44 (zby_at (j := 6) zbX12_gives_0 rfl)
theorem dX12_gives_7 : decode cX12_gives 7 = .ok (.iload_n 3, 1) := dq_29 (zby_at (j := 7) zbX12_gives_0 rfl)
theorem dX12_gives_8 : decode cX12_gives 8 = .ok (.aload 4, 2) := dq_25 (zby_at (j := 8) zbX12_gives_0 rfl) (zby_at (j := 9) zbX12_gives_0 rfl)
theorem dX12_gives_10 : decode cX12_gives 10 = .ok (.iload 5, 2) := dq_21 (zby_at (j := 10) zbX12_gives_0 rfl) (zby_at (j := 11) zbX12_gives_0 rfl)
theorem dX12_gives_12 : decode cX12_gives 12 = .ok (.aload_n 0, 1) := dq_42 (zby_at (j := 12) zbX12_gives_0 rfl)
theorem dX12_gives_13 : decode cX12_gives 13 = .ok (.getfield 40, 3) := dq_180 (zby_at (j := 13) zbX12_gives_0 rfl) (zby_at (j := 14) zbX12_gives_0 rfl) (zby_at (j := 15) zbX12_gives_0 rfl)
theorem zbX12_gives_1 : zby cX12_gives 16 20 = [182, 0, 183, 177, 27, 8, 160, 0, 131, 3, 54, 6, 21, 6, 17, 4, 0, 162, 0, 45] := by decide +kernel
theorem dX12_gives_16 : decode cX12_gives 16 = .ok (.invokevirtual 183, 3) := dq_182 (zby_at (j := 0) zbX12_gives_1 rfl) (zby_at (j := 1) zbX12_gives_1 rfl) (zby_at (j := 2) zbX12_gives_1 rfl)
theorem dX12_gives_19 : decode cX12_gives 19 = .ok (.return_, 1) := dq_177 (zby_at (j := 3) zbX12_gives_1 rfl)
theorem dX12_gives_20 : decode cX12_gives 20 = .ok (.iload_n 1, 1) := dq_27 (zby_at (j := 4) zbX12_gives_1 rfl)
theorem dX12_gives_21 : decode cX12_gives 21 = .ok (.iconst 5, 1) := dq_8 (zby_at (j := 5) zbX12_gives_1 rfl)
theorem dX12_gives_22 : decode cX12_gives 22 = .ok (.if_icmp .ne 131, 3) := dq_160 (zby_at (j := 6) zbX12_gives_1 rfl) (zby_at (j := 7) zbX12_gives_1 rfl) (zby_at (j := 8) zbX12_gives_1 rfl) rfl
theorem dX12_gives_25 : decode cX12_gives 25 = .ok (.iconst 0, 1) := dq_3 (zby_at (j := 9) zbX12_gives_1 rfl)
theorem dX12_gives_26 : decode cX12_gives 26 = .ok (.istore 6, 2) := dq_54 (zby_at (j := 10) zbX12_gives_1 rfl) (zby_at (j := 11) zbX12_gives_1 rfl)
theorem dX12_gives_28 : decode cX12_gives 28 = .ok (.iload 6, 2) := dq_21 (zby_at (j := 12) zbX12_gives_1 rfl) (zby_at (j := 13) zbX12_gives_1 rfl)
theorem dX12_gives_30 : decode cX12_gives 30 = .ok (.sipush 1024, 3) := dq_17 (zby_at (j := 14) zbX12_gives_1 rfl) (zby_at (j := 15) zbX12_gives_1 rfl) (zby_at (j := 16) zbX12_gives_1 rfl) rfl
theorem zbX12_gives_2 : zby cX12_gives 32 20 = [0, 162, 0, 45, 42, 180, 0, 43, 21, 6, 21, 6, 42, 180, 0, 180, 162, 0, 22, 42] := by decide +kernel
theorem dX12_gives_33 : decode cX12_gives 33 = .ok (.if_icmp .ge 45, 3) := dq_162 (zby_at (j := 1) zbX12_gives_2 rfl) (zby_at (j := 2) zbX12_gives_2 rfl) (zby_at (j := 3) zbX12_gives_2 rfl) rfl
theorem dX12_gives_36 : decode cX12_gives 36 = .ok (.aload_n 0, 1) := dq_42 (zby_at (j := 4) zbX12_gives_2 rfl)
theorem dX12_gives_37 : decode cX12_gives 37 = .ok (.getfield 43, 3) := dq_180 (zby_at (j := 5) zbX12_gives_2 rfl) (zby_at (j := 6) zbX12_gives_2 rfl) (zby_at (j := 7) zbX12_gives_2 rfl)
theorem dX12_gives_40 : decode cX12_gives 40 = .ok (.iload 6, 2) := dq_21 (zby_at (j := 8) zbX12_gives_2 rfl) (zby_at (j := 9) zbX12_gives_2 rfl)
theorem dX12_gives_42 : decode cX12_gives 42 = .ok (.iload 6, 2) := dq_21 (zby_at (j := 10) zbX12_gives_2 rfl) (zby_at (j := 11) zbX12_gives_2 rfl)
theorem dX12_gives_44 : decode cX12_gives 44 = .ok (.aload_n 0, 1) := dq_42 (zby_at (j := 12) zbX12_gives_2 rfl)
theorem dX12_gives_45 : decode cX12_gives 45 = .ok (.getfield 180, 3) := dq_180 (zby_at (j := 13) zbX12_gives_2 rfl) (zby_at (j := 14) zbX12_gives_2 rfl) (zby_at (j := 15) zbX12_gives_2 rfl)
theorem zbX12_gives_3 : zby cX12_gives 48 20 = [162, 0, 22, 42, 44, 29, 25, 4, 21, 5, 21, 6, 182, 0, 187, 153, 0, 7, 4, 167] := by decide +kernel
theorem dX12_gives_48 : decode cX12_gives 48 = .ok (.if_icmp .ge 22, 3) := dq_162 (zby_at (j := 0) zbX12_gives_3 rfl) (zby_at (j := 1) zbX12_gives_3 rfl) (zby_at (j := 2) zbX12_gives_3 rfl) rfl
theorem dX12_gives_51 : decode cX12_gives 51 = .ok (.aload_n 0, 1) := dq_42 (zby_at (j := 3) zbX12_gives_3 rfl)
theorem dX12_gives_52 : decode cX12_gives 52 = .ok (.aload_n 2, 1) := dq_44 (zby_at (j := 4) zbX12_gives_3 rfl)
theorem dX12_gives_53 : decode cX12_gives 53 = .ok (.iload_n 3, 1) := dq_29 (zby_at (j := 5) zbX12_gives_3 rfl)
theorem dX12_gives_54 : decode cX12_gives 54 = .ok (.aload 4, 2) := dq_25 (zby_at (j := 6) zbX12_gives_3 rfl) (zby_at (j := 7) zbX12_gives_3 rfl)
theorem dX12_gives_56 : decode cX12_gives 56 = .ok (.iload 5, 2) := dq_21 (zby_at (j := 8) zbX12_gives_3 rfl) (zby_at (j := 9) zbX12_gives_3 rfl)
theorem dX12_gives_58 : decode cX12_gives 58 = .ok (.iload 6, 2) := dq_21 (zby_at (j := 10) zbX12_gives_3 rfl) (zby_at (j := 11) zbX12_gives_3 rfl)
theorem dX12_gives_60 : decode cX12_gives 60 = .ok (.invokevirtual 187, 3) := dq_182 (zby_at (j := 12) zbX12_gives_3 rfl) (zby_at (j := 13) zbX12_gives_3 rfl) (zby_at (j := 14) zbX12_gives_3 rfl)
theorem dX12_gives_63 : decode cX12_gives 63 = .ok (.ifCond .eq 7, 3) := dq_153 (zby_at (j := 15) zbX12_gives_3 rfl) (zby_at (j := 16) zbX12_gives_3 rfl) (zby_at (j := 17) zbX12_gives_3 rfl) rfl
theorem zbX12_gives_4 : zby cX12_gives 64 20 = [0, 7, 4, 167, 0, 4, 3, 84, 132, 6, 1, 167, 255, 209, 42, 25, 4, 21, 5, 42] := by decide +kernel
theorem dX12_gives_66 : decode cX12_gives 66 = .ok (.iconst 1, 1) := dq_4 (zby_at (j := 2) zbX12_gives_4 rfl)
theorem dX12_gives_67 : decode cX12_gives 67 = .ok (.goto 4, 3) := dq_167 (zby_at (j := 3) zbX12_gives_4 rfl) (zby_at (j := 4) zbX12_gives_4 rfl) (zby_at (j := 5) zbX12_gives_4 rfl) rfl
theorem dX12_gives_70 : decode cX12_gives 70 = .ok (.iconst 0, 1) := dq_3 (zby_at (j := 6) zbX12_gives_4 rfl)
theorem dX12_gives_71 : decode cX12_gives 71 = .ok (.bastore, 1) := dq_84 (zby_at (j := 7) zbX12_gives_4 rfl)
theorem dX12_gives_72 : decode cX12_gives 72 = .ok (.iinc 6 1, 3) := dq_132 (zby_at (j := 8) zbX12_gives_4 rfl) (zby_at (j := 9) zbX12_gives_4 rfl) (zby_at (j := 10) zbX12_gives_4 rfl) rfl
theorem dX12_gives_75 : decode cX12_gives 75 = .ok (.goto (-47), 3) := dq_167 (zby_at (j := 11) zbX12_gives_4 rfl) (zby_at (j := 12) zbX12_gives_4 rfl) (zby_at (j := 13) zbX12_gives_4 rfl) rfl
theorem dX12_gives_78 : decode cX12_gives 78 = .ok (.aload_n 0, 1) := dq_42 (zby_at (j := 14) zbX12_gives_4 rfl)
theorem dX12_gives_79 : decode cX12_gives 79 = .ok (.aload 4, 2) := dq_25 (zby_at (j := 15) zbX12_gives_4 rfl) (zby_at (j := 16) zbX12_gives_4 rfl)
theorem zbX12_gives_5 : zby cX12_gives 80 20 = [4, 21, 5, 42, 180, 0, 43, 3, 42, 180, 0, 46, 182, 0, 183, 3, 54, 6, 21, 6] := by decide +kernel
theorem dX12_gives_81 : decode cX12_gives 81 = .ok (.iload 5, 2) := dq_21 (zby_at (j := 1) zbX12_gives_5 rfl) (zby_at (j := 2) zbX12_gives_5 rfl)
theorem dX12_gives_83 : decode cX12_gives 83 = .ok (.aload_n 0, 1) := dq_42 (zby_at (j := 3) zbX12_gives_5 rfl)
theorem dX12_gives_84 : decode cX12_gives 84 = .ok (.getfield 43, 3) := dq_180 (zby_at (j := 4) zbX12_gives_5 rfl) (zby_at (j := 5) zbX12_gives_5 rfl) (zby_at (j := 6) zbX12_gives_5 rfl)
theorem dX12_gives_87 : decode cX12_gives 87 = .ok (.iconst 0, 1) := dq_3 (zby_at (j := 7) zbX12_gives_5 rfl)
theorem dX12_gives_88 : decode cX12_gives 88 = .ok (.aload_n 0, 1) := dq_42 (zby_at (j := 8) zbX12_gives_5 rfl)
theorem dX12_gives_89 : decode cX12_gives 89 = .ok (.getfield 46, 3) := dq_180 (zby_at (j := 9) zbX12_gives_5 rfl) (zby_at (j := 10) zbX12_gives_5 rfl) (zby_at (j := 11) zbX12_gives_5 rfl)
theorem dX12_gives_92 : decode cX12_gives 92 = .ok (.invokevirtual 183, 3) := dq_182 (zby_at (j := 12) zbX12_gives_5 rfl) (zby_at (j := 13) zbX12_gives_5 rfl) (zby_at (j := 14) zbX12_gives_5 rfl)
theorem dX12_gives_95 : decode cX12_gives 95 = .ok (.iconst 0, 1) := dq_3 (zby_at (j := 15) zbX12_gives_5 rfl)
theorem zbX12_gives_6 : zby cX12_gives 96 20 = [54, 6, 21, 6, 17, 4, 0, 162, 0, 49, 42, 180, 0, 40, 21, 6, 21, 6, 42, 180] := by decide +kernel
theorem dX12_gives_96 : decode cX12_gives 96 = .ok (.istore 6, 2) := dq_54 (zby_at (j := 0) zbX12_gives_6 rfl) (zby_at (j := 1) zbX12_gives_6 rfl)
theorem dX12_gives_98 : decode cX12_gives 98 = .ok (.iload 6, 2) := dq_21 (zby_at (j := 2) zbX12_gives_6 rfl) (zby_at (j := 3) zbX12_gives_6 rfl)
theorem dX12_gives_100 : decode cX12_gives 100 = .ok (.sipush 1024, 3) := dq_17 (zby_at (j := 4) zbX12_gives_6 rfl) (zby_at (j := 5) zbX12_gives_6 rfl) (zby_at (j := 6) zbX12_gives_6 rfl) rfl
theorem dX12_gives_103 : decode cX12_gives 103 = .ok (.if_icmp .ge 49, 3) := dq_162 (zby_at (j := 7) zbX12_gives_6 rfl) (zby_at (j := 8) zbX12_gives_6 rfl) (zby_at (j := 9) zbX12_gives_6 rfl) rfl
theorem dX12_gives_106 : decode cX12_gives 106 = .ok (.aload_n 0, 1) := dq_42 (zby_at (j := 10) zbX12_gives_6 rfl)
theorem dX12_gives_107 : decode cX12_gives 107 = .ok (.getfield 40, 3) := dq_180 (zby_at (j := 11) zbX12_gives_6 rfl) (zby_at (j := 12) zbX12_gives_6 rfl) (zby_at (j := 13) zbX12_gives_6 rfl)
theorem dX12_gives_110 : decode cX12_gives 110 = .ok (.iload 6, 2) := dq_21 (zby_at (j := 14) zbX12_gives_6 rfl) (zby_at (j := 15) zbX12_gives_6 rfl)
theorem zbX12_gives_7 : zby cX12_gives 112 20 = [21, 6, 42, 180, 0, 180, 162, 0, 26, 44, 29, 21, 6, 96, 51, 153, 0, 17, 42, 180] := by decide +kernel
theorem dX12_gives_112 : decode cX12_gives 112 = .ok (.iload 6, 2) := dq_21 (zby_at (j := 0) zbX12_gives_7 rfl) (zby_at (j := 1) zbX12_gives_7 rfl)
theorem dX12_gives_114 : decode cX12_gives 114 = .ok (.aload_n 0, 1) := dq_42 (zby_at (j := 2) zbX12_gives_7 rfl)
theorem dX12_gives_115 : decode cX12_gives 115 = .ok (.getfield 180, 3) := dq_180 (zby_at (j := 3) zbX12_gives_7 rfl) (zby_at (j := 4) zbX12_gives_7 rfl) (zby_at (j := 5) zbX12_gives_7 rfl)
theorem dX12_gives_118 : decode cX12_gives 118 = .ok (.if_icmp .ge 26, 3) := dq_162 (zby_at (j := 6) zbX12_gives_7 rfl) (zby_at (j := 7) zbX12_gives_7 rfl) (zby_at (j := 8) zbX12_gives_7 rfl) rfl
theorem dX12_gives_121 : decode cX12_gives 121 = .ok (.aload_n 2, 1) := dq_44 (zby_at (j := 9) zbX12_gives_7 rfl)
theorem dX12_gives_122 : decode cX12_gives 122 = .ok (.iload_n 3, 1) := dq_29 (zby_at (j := 10) zbX12_gives_7 rfl)
theorem dX12_gives_123 : decode cX12_gives 123 = .ok (.iload 6, 2) := dq_21 (zby_at (j := 11) zbX12_gives_7 rfl) (zby_at (j := 12) zbX12_gives_7 rfl)
theorem dX12_gives_125 : decode cX12_gives 125 = .ok (.iadd, 1) := dq_96 (zby_at (j := 13) zbX12_gives_7 rfl)
theorem dX12_gives_126 : decode cX12_gives 126 = .ok (.baload, 1) := dq_51 (zby_at (j := 14) zbX12_gives_7 rfl)
theorem dX12_gives_127 : decode cX12_gives 127 = .ok (.ifCond .eq 17, 3) := dq_153 (zby_at (j := 15) zbX12_gives_7 rfl) (zby_at (j := 16) zbX12_gives_7 rfl) (zby_at (j := 17) zbX12_gives_7 rfl) rfl
theorem zbX12_gives_8 : zby cX12_gives 128 20 = [0, 17, 42, 180, 0, 46, 21, 6, 51, 154, 0, 7, 4, 167, 0, 4, 3, 84, 132, 6] := by decide +kernel
theorem dX12_gives_130 : decode cX12_gives 130 = .ok (.aload_n 0, 1) := dq_42 (zby_at (j := 2) zbX12_gives_8 rfl)
theorem dX12_gives_131 : decode cX12_gives 131 = .ok (.getfield 46, 3) := dq_180 (zby_at (j := 3) zbX12_gives_8 rfl) (zby_at (j := 4) zbX12_gives_8 rfl) (zby_at (j := 5) zbX12_gives_8 rfl)
theorem dX12_gives_134 : decode cX12_gives 134 = .ok (.iload 6, 2) := dq_21 (zby_at (j := 6) zbX12_gives_8 rfl) (zby_at (j := 7) zbX12_gives_8 rfl)
theorem dX12_gives_136 : decode cX12_gives 136 = .ok (.baload, 1) := dq_51 (zby_at (j := 8) zbX12_gives_8 rfl)
theorem dX12_gives_137 : decode cX12_gives 137 = .ok (.ifCond .ne 7, 3) := dq_154 (zby_at (j := 9) zbX12_gives_8 rfl) (zby_at (j := 10) zbX12_gives_8 rfl) (zby_at (j := 11) zbX12_gives_8 rfl) rfl
theorem dX12_gives_140 : decode cX12_gives 140 = .ok (.iconst 1, 1) := dq_4 (zby_at (j := 12) zbX12_gives_8 rfl)
theorem dX12_gives_141 : decode cX12_gives 141 = .ok (.goto 4, 3) := dq_167 (zby_at (j := 13) zbX12_gives_8 rfl) (zby_at (j := 14) zbX12_gives_8 rfl) (zby_at (j := 15) zbX12_gives_8 rfl) rfl
theorem zbX12_gives_9 : zby cX12_gives 144 20 = [3, 84, 132, 6, 1, 167, 255, 205, 177, 3, 54, 6, 21, 6, 17, 4, 0, 162, 0, 222] := by decide +kernel
theorem dX12_gives_144 : decode cX12_gives 144 = .ok (.iconst 0, 1) := dq_3 (zby_at (j := 0) zbX12_gives_9 rfl)
theorem dX12_gives_145 : decode cX12_gives 145 = .ok (.bastore, 1) := dq_84 (zby_at (j := 1) zbX12_gives_9 rfl)
theorem dX12_gives_146 : decode cX12_gives 146 = .ok (.iinc 6 1, 3) := dq_132 (zby_at (j := 2) zbX12_gives_9 rfl) (zby_at (j := 3) zbX12_gives_9 rfl) (zby_at (j := 4) zbX12_gives_9 rfl) rfl
theorem dX12_gives_149 : decode cX12_gives 149 = .ok (.goto (-51), 3) := dq_167 (zby_at (j := 5) zbX12_gives_9 rfl) (zby_at (j := 6) zbX12_gives_9 rfl) (zby_at (j := 7) zbX12_gives_9 rfl) rfl
theorem dX12_gives_152 : decode cX12_gives 152 = .ok (.return_, 1) := dq_177 (zby_at (j := 8) zbX12_gives_9 rfl)
theorem dX12_gives_153 : decode cX12_gives 153 = .ok (.iconst 0, 1) := dq_3 (zby_at (j := 9) zbX12_gives_9 rfl)
theorem dX12_gives_154 : decode cX12_gives 154 = .ok (.istore 6, 2) := dq_54 (zby_at (j := 10) zbX12_gives_9 rfl) (zby_at (j := 11) zbX12_gives_9 rfl)
theorem dX12_gives_156 : decode cX12_gives 156 = .ok (.iload 6, 2) := dq_21 (zby_at (j := 12) zbX12_gives_9 rfl) (zby_at (j := 13) zbX12_gives_9 rfl)
theorem dX12_gives_158 : decode cX12_gives 158 = .ok (.sipush 1024, 3) := dq_17 (zby_at (j := 14) zbX12_gives_9 rfl) (zby_at (j := 15) zbX12_gives_9 rfl) (zby_at (j := 16) zbX12_gives_9 rfl) rfl
theorem zbX12_gives_10 : zby cX12_gives 160 20 = [0, 162, 0, 222, 21, 6, 42, 180, 0, 180, 162, 0, 7, 4, 167, 0, 4, 3, 54, 7] := by decide +kernel
theorem dX12_gives_161 : decode cX12_gives 161 = .ok (.if_icmp .ge 222, 3) := dq_162 (zby_at (j := 1) zbX12_gives_10 rfl) (zby_at (j := 2) zbX12_gives_10 rfl) (zby_at (j := 3) zbX12_gives_10 rfl) rfl
theorem dX12_gives_164 : decode cX12_gives 164 = .ok (.iload 6, 2) := dq_21 (zby_at (j := 4) zbX12_gives_10 rfl) (zby_at (j := 5) zbX12_gives_10 rfl)
theorem dX12_gives_166 : decode cX12_gives 166 = .ok (.aload_n 0, 1) := dq_42 (zby_at (j := 6) zbX12_gives_10 rfl)
theorem dX12_gives_167 : decode cX12_gives 167 = .ok (.getfield 180, 3) := dq_180 (zby_at (j := 7) zbX12_gives_10 rfl) (zby_at (j := 8) zbX12_gives_10 rfl) (zby_at (j := 9) zbX12_gives_10 rfl)
theorem dX12_gives_170 : decode cX12_gives 170 = .ok (.if_icmp .ge 7, 3) := dq_162 (zby_at (j := 10) zbX12_gives_10 rfl) (zby_at (j := 11) zbX12_gives_10 rfl) (zby_at (j := 12) zbX12_gives_10 rfl) rfl
theorem dX12_gives_173 : decode cX12_gives 173 = .ok (.iconst 1, 1) := dq_4 (zby_at (j := 13) zbX12_gives_10 rfl)
theorem dX12_gives_174 : decode cX12_gives 174 = .ok (.goto 4, 3) := dq_167 (zby_at (j := 14) zbX12_gives_10 rfl) (zby_at (j := 15) zbX12_gives_10 rfl) (zby_at (j := 16) zbX12_gives_10 rfl) rfl
theorem zbX12_gives_11 : zby cX12_gives 176 20 = [4, 3, 54, 7, 27, 154, 0, 38, 21, 7, 153, 0, 27, 44, 29, 21, 6, 96, 51, 154] := by decide +kernel
theorem dX12_gives_177 : decode cX12_gives 177 = .ok (.iconst 0, 1) := dq_3 (zby_at (j := 1) zbX12_gives_11 rfl)
theorem dX12_gives_178 : decode cX12_gives 178 = .ok (.istore 7, 2) := dq_54 (zby_at (j := 2) zbX12_gives_11 rfl) (zby_at (j := 3) zbX12_gives_11 rfl)
theorem dX12_gives_180 : decode cX12_gives 180 = .ok (.iload_n 1, 1) := dq_27 (zby_at (j := 4) zbX12_gives_11 rfl)
theorem dX12_gives_181 : decode cX12_gives 181 = .ok (.ifCond .ne 38, 3) := dq_154 (zby_at (j := 5) zbX12_gives_11 rfl) (zby_at (j := 6) zbX12_gives_11 rfl) (zby_at (j := 7) zbX12_gives_11 rfl) rfl
theorem dX12_gives_184 : decode cX12_gives 184 = .ok (.iload 7, 2) := dq_21 (zby_at (j := 8) zbX12_gives_11 rfl) (zby_at (j := 9) zbX12_gives_11 rfl)
theorem dX12_gives_186 : decode cX12_gives 186 = .ok (.ifCond .eq 27, 3) := dq_153 (zby_at (j := 10) zbX12_gives_11 rfl) (zby_at (j := 11) zbX12_gives_11 rfl) (zby_at (j := 12) zbX12_gives_11 rfl) rfl
theorem dX12_gives_189 : decode cX12_gives 189 = .ok (.aload_n 2, 1) := dq_44 (zby_at (j := 13) zbX12_gives_11 rfl)
theorem dX12_gives_190 : decode cX12_gives 190 = .ok (.iload_n 3, 1) := dq_29 (zby_at (j := 14) zbX12_gives_11 rfl)
theorem dX12_gives_191 : decode cX12_gives 191 = .ok (.iload 6, 2) := dq_21 (zby_at (j := 15) zbX12_gives_11 rfl) (zby_at (j := 16) zbX12_gives_11 rfl)
theorem zbX12_gives_12 : zby cX12_gives 192 20 = [6, 96, 51, 154, 0, 14, 25, 4, 21, 5, 21, 6, 96, 51, 153, 0, 7, 4, 167, 0] := by decide +kernel
theorem dX12_gives_193 : decode cX12_gives 193 = .ok (.iadd, 1) := dq_96 (zby_at (j := 1) zbX12_gives_12 rfl)
theorem dX12_gives_194 : decode cX12_gives 194 = .ok (.baload, 1) := dq_51 (zby_at (j := 2) zbX12_gives_12 rfl)
theorem dX12_gives_195 : decode cX12_gives 195 = .ok (.ifCond .ne 14, 3) := dq_154 (zby_at (j := 3) zbX12_gives_12 rfl) (zby_at (j := 4) zbX12_gives_12 rfl) (zby_at (j := 5) zbX12_gives_12 rfl) rfl
theorem dX12_gives_198 : decode cX12_gives 198 = .ok (.aload 4, 2) := dq_25 (zby_at (j := 6) zbX12_gives_12 rfl) (zby_at (j := 7) zbX12_gives_12 rfl)
theorem dX12_gives_200 : decode cX12_gives 200 = .ok (.iload 5, 2) := dq_21 (zby_at (j := 8) zbX12_gives_12 rfl) (zby_at (j := 9) zbX12_gives_12 rfl)
theorem dX12_gives_202 : decode cX12_gives 202 = .ok (.iload 6, 2) := dq_21 (zby_at (j := 10) zbX12_gives_12 rfl) (zby_at (j := 11) zbX12_gives_12 rfl)
theorem dX12_gives_204 : decode cX12_gives 204 = .ok (.iadd, 1) := dq_96 (zby_at (j := 12) zbX12_gives_12 rfl)
theorem dX12_gives_205 : decode cX12_gives 205 = .ok (.baload, 1) := dq_51 (zby_at (j := 13) zbX12_gives_12 rfl)
theorem dX12_gives_206 : decode cX12_gives 206 = .ok (.ifCond .eq 7, 3) := dq_153 (zby_at (j := 14) zbX12_gives_12 rfl) (zby_at (j := 15) zbX12_gives_12 rfl) (zby_at (j := 16) zbX12_gives_12 rfl) rfl
theorem zbX12_gives_13 : zby cX12_gives 208 20 = [7, 4, 167, 0, 4, 3, 54, 7, 167, 0, 152, 27, 4, 160, 0, 38, 21, 7, 153, 0] := by decide +kernel
theorem dX12_gives_209 : decode cX12_gives 209 = .ok (.iconst 1, 1) := dq_4 (zby_at (j := 1) zbX12_gives_13 rfl)
theorem dX12_gives_210 : decode cX12_gives 210 = .ok (.goto 4, 3) := dq_167 (zby_at (j := 2) zbX12_gives_13 rfl) (zby_at (j := 3) zbX12_gives_13 rfl) (zby_at (j := 4) zbX12_gives_13 rfl) rfl
theorem dX12_gives_213 : decode cX12_gives 213 = .ok (.iconst 0, 1) := dq_3 (zby_at (j := 5) zbX12_gives_13 rfl)
theorem dX12_gives_214 : decode cX12_gives 214 = .ok (.istore 7, 2) := dq_54 (zby_at (j := 6) zbX12_gives_13 rfl) (zby_at (j := 7) zbX12_gives_13 rfl)
theorem dX12_gives_216 : decode cX12_gives 216 = .ok (.goto 152, 3) := dq_167 (zby_at (j := 8) zbX12_gives_13 rfl) (zby_at (j := 9) zbX12_gives_13 rfl) (zby_at (j := 10) zbX12_gives_13 rfl) rfl
theorem dX12_gives_219 : decode cX12_gives 219 = .ok (.iload_n 1, 1) := dq_27 (zby_at (j := 11) zbX12_gives_13 rfl)
theorem dX12_gives_220 : decode cX12_gives 220 = .ok (.iconst 1, 1) := dq_4 (zby_at (j := 12) zbX12_gives_13 rfl)
theorem dX12_gives_221 : decode cX12_gives 221 = .ok (.if_icmp .ne 38, 3) := dq_160 (zby_at (j := 13) zbX12_gives_13 rfl) (zby_at (j := 14) zbX12_gives_13 rfl) (zby_at (j := 15) zbX12_gives_13 rfl) rfl
theorem zbX12_gives_14 : zby cX12_gives 224 20 = [21, 7, 153, 0, 27, 44, 29, 21, 6, 96, 51, 153, 0, 18, 25, 4, 21, 5, 21, 6] := by decide +kernel
theorem dX12_gives_224 : decode cX12_gives 224 = .ok (.iload 7, 2) := dq_21 (zby_at (j := 0) zbX12_gives_14 rfl) (zby_at (j := 1) zbX12_gives_14 rfl)
theorem dX12_gives_226 : decode cX12_gives 226 = .ok (.ifCond .eq 27, 3) := dq_153 (zby_at (j := 2) zbX12_gives_14 rfl) (zby_at (j := 3) zbX12_gives_14 rfl) (zby_at (j := 4) zbX12_gives_14 rfl) rfl
theorem dX12_gives_229 : decode cX12_gives 229 = .ok (.aload_n 2, 1) := dq_44 (zby_at (j := 5) zbX12_gives_14 rfl)
theorem dX12_gives_230 : decode cX12_gives 230 = .ok (.iload_n 3, 1) := dq_29 (zby_at (j := 6) zbX12_gives_14 rfl)
theorem dX12_gives_231 : decode cX12_gives 231 = .ok (.iload 6, 2) := dq_21 (zby_at (j := 7) zbX12_gives_14 rfl) (zby_at (j := 8) zbX12_gives_14 rfl)
theorem dX12_gives_233 : decode cX12_gives 233 = .ok (.iadd, 1) := dq_96 (zby_at (j := 9) zbX12_gives_14 rfl)
theorem dX12_gives_234 : decode cX12_gives 234 = .ok (.baload, 1) := dq_51 (zby_at (j := 10) zbX12_gives_14 rfl)
theorem dX12_gives_235 : decode cX12_gives 235 = .ok (.ifCond .eq 18, 3) := dq_153 (zby_at (j := 11) zbX12_gives_14 rfl) (zby_at (j := 12) zbX12_gives_14 rfl) (zby_at (j := 13) zbX12_gives_14 rfl) rfl
theorem dX12_gives_238 : decode cX12_gives 238 = .ok (.aload 4, 2) := dq_25 (zby_at (j := 14) zbX12_gives_14 rfl) (zby_at (j := 15) zbX12_gives_14 rfl)
theorem zbX12_gives_15 : zby cX12_gives 240 20 = [21, 5, 21, 6, 96, 51, 154, 0, 7, 4, 167, 0, 4, 3, 54, 7, 167, 0, 112, 27] := by decide +kernel
theorem dX12_gives_240 : decode cX12_gives 240 = .ok (.iload 5, 2) := dq_21 (zby_at (j := 0) zbX12_gives_15 rfl) (zby_at (j := 1) zbX12_gives_15 rfl)
theorem dX12_gives_242 : decode cX12_gives 242 = .ok (.iload 6, 2) := dq_21 (zby_at (j := 2) zbX12_gives_15 rfl) (zby_at (j := 3) zbX12_gives_15 rfl)
theorem dX12_gives_244 : decode cX12_gives 244 = .ok (.iadd, 1) := dq_96 (zby_at (j := 4) zbX12_gives_15 rfl)
theorem dX12_gives_245 : decode cX12_gives 245 = .ok (.baload, 1) := dq_51 (zby_at (j := 5) zbX12_gives_15 rfl)
theorem dX12_gives_246 : decode cX12_gives 246 = .ok (.ifCond .ne 7, 3) := dq_154 (zby_at (j := 6) zbX12_gives_15 rfl) (zby_at (j := 7) zbX12_gives_15 rfl) (zby_at (j := 8) zbX12_gives_15 rfl) rfl
theorem dX12_gives_249 : decode cX12_gives 249 = .ok (.iconst 1, 1) := dq_4 (zby_at (j := 9) zbX12_gives_15 rfl)
theorem dX12_gives_250 : decode cX12_gives 250 = .ok (.goto 4, 3) := dq_167 (zby_at (j := 10) zbX12_gives_15 rfl) (zby_at (j := 11) zbX12_gives_15 rfl) (zby_at (j := 12) zbX12_gives_15 rfl) rfl
theorem dX12_gives_253 : decode cX12_gives 253 = .ok (.iconst 0, 1) := dq_3 (zby_at (j := 13) zbX12_gives_15 rfl)
theorem dX12_gives_254 : decode cX12_gives 254 = .ok (.istore 7, 2) := dq_54 (zby_at (j := 14) zbX12_gives_15 rfl) (zby_at (j := 15) zbX12_gives_15 rfl)
theorem zbX12_gives_16 : zby cX12_gives 256 20 = [167, 0, 112, 27, 5, 160, 0, 38, 21, 7, 153, 0, 27, 44, 29, 21, 6, 96, 51, 153] := by decide +kernel
theorem dX12_gives_256 : decode cX12_gives 256 = .ok (.goto 112, 3) := dq_167 (zby_at (j := 0) zbX12_gives_16 rfl) (zby_at (j := 1) zbX12_gives_16 rfl) (zby_at (j := 2) zbX12_gives_16 rfl) rfl
theorem dX12_gives_259 : decode cX12_gives 259 = .ok (.iload_n 1, 1) := dq_27 (zby_at (j := 3) zbX12_gives_16 rfl)
theorem dX12_gives_260 : decode cX12_gives 260 = .ok (.iconst 2, 1) := dq_5 (zby_at (j := 4) zbX12_gives_16 rfl)
theorem dX12_gives_261 : decode cX12_gives 261 = .ok (.if_icmp .ne 38, 3) := dq_160 (zby_at (j := 5) zbX12_gives_16 rfl) (zby_at (j := 6) zbX12_gives_16 rfl) (zby_at (j := 7) zbX12_gives_16 rfl) rfl
theorem dX12_gives_264 : decode cX12_gives 264 = .ok (.iload 7, 2) := dq_21 (zby_at (j := 8) zbX12_gives_16 rfl) (zby_at (j := 9) zbX12_gives_16 rfl)
theorem dX12_gives_266 : decode cX12_gives 266 = .ok (.ifCond .eq 27, 3) := dq_153 (zby_at (j := 10) zbX12_gives_16 rfl) (zby_at (j := 11) zbX12_gives_16 rfl) (zby_at (j := 12) zbX12_gives_16 rfl) rfl
theorem dX12_gives_269 : decode cX12_gives 269 = .ok (.aload_n 2, 1) := dq_44 (zby_at (j := 13) zbX12_gives_16 rfl)
theorem dX12_gives_270 : decode cX12_gives 270 = .ok (.iload_n 3, 1) := dq_29 (zby_at (j := 14) zbX12_gives_16 rfl)
theorem dX12_gives_271 : decode cX12_gives 271 = .ok (.iload 6, 2) := dq_21 (zby_at (j := 15) zbX12_gives_16 rfl) (zby_at (j := 16) zbX12_gives_16 rfl)
theorem zbX12_gives_17 : zby cX12_gives 272 20 = [6, 96, 51, 153, 0, 18, 25, 4, 21, 5, 21, 6, 96, 51, 153, 0, 7, 4, 167, 0] := by decide +kernel
theorem dX12_gives_273 : decode cX12_gives 273 = .ok (.iadd, 1) := dq_96 (zby_at (j := 1) zbX12_gives_17 rfl)
theorem dX12_gives_274 : decode cX12_gives 274 = .ok (.baload, 1) := dq_51 (zby_at (j := 2) zbX12_gives_17 rfl)
theorem dX12_gives_275 : decode cX12_gives 275 = .ok (.ifCond .eq 18, 3) := dq_153 (zby_at (j := 3) zbX12_gives_17 rfl) (zby_at (j := 4) zbX12_gives_17 rfl) (zby_at (j := 5) zbX12_gives_17 rfl) rfl
theorem dX12_gives_278 : decode cX12_gives 278 = .ok (.aload 4, 2) := dq_25 (zby_at (j := 6) zbX12_gives_17 rfl) (zby_at (j := 7) zbX12_gives_17 rfl)
theorem dX12_gives_280 : decode cX12_gives 280 = .ok (.iload 5, 2) := dq_21 (zby_at (j := 8) zbX12_gives_17 rfl) (zby_at (j := 9) zbX12_gives_17 rfl)
theorem dX12_gives_282 : decode cX12_gives 282 = .ok (.iload 6, 2) := dq_21 (zby_at (j := 10) zbX12_gives_17 rfl) (zby_at (j := 11) zbX12_gives_17 rfl)
theorem dX12_gives_284 : decode cX12_gives 284 = .ok (.iadd, 1) := dq_96 (zby_at (j := 12) zbX12_gives_17 rfl)
theorem dX12_gives_285 : decode cX12_gives 285 = .ok (.baload, 1) := dq_51 (zby_at (j := 13) zbX12_gives_17 rfl)
theorem dX12_gives_286 : decode cX12_gives 286 = .ok (.ifCond .eq 7, 3) := dq_153 (zby_at (j := 14) zbX12_gives_17 rfl) (zby_at (j := 15) zbX12_gives_17 rfl) (zby_at (j := 16) zbX12_gives_17 rfl) rfl
theorem zbX12_gives_18 : zby cX12_gives 288 20 = [7, 4, 167, 0, 4, 3, 54, 7, 167, 0, 72, 27, 7, 160, 0, 33, 21, 7, 153, 0] := by decide +kernel
theorem dX12_gives_289 : decode cX12_gives 289 = .ok (.iconst 1, 1) := dq_4 (zby_at (j := 1) zbX12_gives_18 rfl)
theorem dX12_gives_290 : decode cX12_gives 290 = .ok (.goto 4, 3) := dq_167 (zby_at (j := 2) zbX12_gives_18 rfl) (zby_at (j := 3) zbX12_gives_18 rfl) (zby_at (j := 4) zbX12_gives_18 rfl) rfl
theorem dX12_gives_293 : decode cX12_gives 293 = .ok (.iconst 0, 1) := dq_3 (zby_at (j := 5) zbX12_gives_18 rfl)
theorem dX12_gives_294 : decode cX12_gives 294 = .ok (.istore 7, 2) := dq_54 (zby_at (j := 6) zbX12_gives_18 rfl) (zby_at (j := 7) zbX12_gives_18 rfl)
theorem dX12_gives_296 : decode cX12_gives 296 = .ok (.goto 72, 3) := dq_167 (zby_at (j := 8) zbX12_gives_18 rfl) (zby_at (j := 9) zbX12_gives_18 rfl) (zby_at (j := 10) zbX12_gives_18 rfl) rfl
theorem dX12_gives_299 : decode cX12_gives 299 = .ok (.iload_n 1, 1) := dq_27 (zby_at (j := 11) zbX12_gives_18 rfl)
theorem dX12_gives_300 : decode cX12_gives 300 = .ok (.iconst 4, 1) := dq_7 (zby_at (j := 12) zbX12_gives_18 rfl)
theorem dX12_gives_301 : decode cX12_gives 301 = .ok (.if_icmp .ne 33, 3) := dq_160 (zby_at (j := 13) zbX12_gives_18 rfl) (zby_at (j := 14) zbX12_gives_18 rfl) (zby_at (j := 15) zbX12_gives_18 rfl) rfl
theorem zbX12_gives_19 : zby cX12_gives 304 20 = [21, 7, 153, 0, 22, 42, 44, 29, 25, 4, 21, 5, 21, 6, 182, 0, 187, 153, 0, 7] := by decide +kernel
theorem dX12_gives_304 : decode cX12_gives 304 = .ok (.iload 7, 2) := dq_21 (zby_at (j := 0) zbX12_gives_19 rfl) (zby_at (j := 1) zbX12_gives_19 rfl)
theorem dX12_gives_306 : decode cX12_gives 306 = .ok (.ifCond .eq 22, 3) := dq_153 (zby_at (j := 2) zbX12_gives_19 rfl) (zby_at (j := 3) zbX12_gives_19 rfl) (zby_at (j := 4) zbX12_gives_19 rfl) rfl
theorem dX12_gives_309 : decode cX12_gives 309 = .ok (.aload_n 0, 1) := dq_42 (zby_at (j := 5) zbX12_gives_19 rfl)
theorem dX12_gives_310 : decode cX12_gives 310 = .ok (.aload_n 2, 1) := dq_44 (zby_at (j := 6) zbX12_gives_19 rfl)
theorem dX12_gives_311 : decode cX12_gives 311 = .ok (.iload_n 3, 1) := dq_29 (zby_at (j := 7) zbX12_gives_19 rfl)
theorem dX12_gives_312 : decode cX12_gives 312 = .ok (.aload 4, 2) := dq_25 (zby_at (j := 8) zbX12_gives_19 rfl) (zby_at (j := 9) zbX12_gives_19 rfl)
theorem dX12_gives_314 : decode cX12_gives 314 = .ok (.iload 5, 2) := dq_21 (zby_at (j := 10) zbX12_gives_19 rfl) (zby_at (j := 11) zbX12_gives_19 rfl)
theorem dX12_gives_316 : decode cX12_gives 316 = .ok (.iload 6, 2) := dq_21 (zby_at (j := 12) zbX12_gives_19 rfl) (zby_at (j := 13) zbX12_gives_19 rfl)
theorem dX12_gives_318 : decode cX12_gives 318 = .ok (.invokevirtual 187, 3) := dq_182 (zby_at (j := 14) zbX12_gives_19 rfl) (zby_at (j := 15) zbX12_gives_19 rfl) (zby_at (j := 16) zbX12_gives_19 rfl)
theorem zbX12_gives_20 : zby cX12_gives 320 20 = [187, 153, 0, 7, 4, 167, 0, 4, 3, 54, 7, 167, 0, 37, 21, 7, 153, 0, 29, 44] := by decide +kernel
theorem dX12_gives_321 : decode cX12_gives 321 = .ok (.ifCond .eq 7, 3) := dq_153 (zby_at (j := 1) zbX12_gives_20 rfl) (zby_at (j := 2) zbX12_gives_20 rfl) (zby_at (j := 3) zbX12_gives_20 rfl) rfl
theorem dX12_gives_324 : decode cX12_gives 324 = .ok (.iconst 1, 1) := dq_4 (zby_at (j := 4) zbX12_gives_20 rfl)
theorem dX12_gives_325 : decode cX12_gives 325 = .ok (.goto 4, 3) := dq_167 (zby_at (j := 5) zbX12_gives_20 rfl) (zby_at (j := 6) zbX12_gives_20 rfl) (zby_at (j := 7) zbX12_gives_20 rfl) rfl
theorem dX12_gives_328 : decode cX12_gives 328 = .ok (.iconst 0, 1) := dq_3 (zby_at (j := 8) zbX12_gives_20 rfl)
theorem dX12_gives_329 : decode cX12_gives 329 = .ok (.istore 7, 2) := dq_54 (zby_at (j := 9) zbX12_gives_20 rfl) (zby_at (j := 10) zbX12_gives_20 rfl)
theorem dX12_gives_331 : decode cX12_gives 331 = .ok (.goto 37, 3) := dq_167 (zby_at (j := 11) zbX12_gives_20 rfl) (zby_at (j := 12) zbX12_gives_20 rfl) (zby_at (j := 13) zbX12_gives_20 rfl) rfl
theorem dX12_gives_334 : decode cX12_gives 334 = .ok (.iload 7, 2) := dq_21 (zby_at (j := 14) zbX12_gives_20 rfl) (zby_at (j := 15) zbX12_gives_20 rfl)
theorem zbX12_gives_21 : zby cX12_gives 336 20 = [153, 0, 29, 44, 29, 21, 6, 96, 51, 153, 0, 20, 42, 25, 4, 21, 5, 21, 6, 182] := by decide +kernel
theorem dX12_gives_336 : decode cX12_gives 336 = .ok (.ifCond .eq 29, 3) := dq_153 (zby_at (j := 0) zbX12_gives_21 rfl) (zby_at (j := 1) zbX12_gives_21 rfl) (zby_at (j := 2) zbX12_gives_21 rfl) rfl
theorem dX12_gives_339 : decode cX12_gives 339 = .ok (.aload_n 2, 1) := dq_44 (zby_at (j := 3) zbX12_gives_21 rfl)
theorem dX12_gives_340 : decode cX12_gives 340 = .ok (.iload_n 3, 1) := dq_29 (zby_at (j := 4) zbX12_gives_21 rfl)
theorem dX12_gives_341 : decode cX12_gives 341 = .ok (.iload 6, 2) := dq_21 (zby_at (j := 5) zbX12_gives_21 rfl) (zby_at (j := 6) zbX12_gives_21 rfl)
theorem dX12_gives_343 : decode cX12_gives 343 = .ok (.iadd, 1) := dq_96 (zby_at (j := 7) zbX12_gives_21 rfl)
theorem dX12_gives_344 : decode cX12_gives 344 = .ok (.baload, 1) := dq_51 (zby_at (j := 8) zbX12_gives_21 rfl)
theorem dX12_gives_345 : decode cX12_gives 345 = .ok (.ifCond .eq 20, 3) := dq_153 (zby_at (j := 9) zbX12_gives_21 rfl) (zby_at (j := 10) zbX12_gives_21 rfl) (zby_at (j := 11) zbX12_gives_21 rfl) rfl
theorem dX12_gives_348 : decode cX12_gives 348 = .ok (.aload_n 0, 1) := dq_42 (zby_at (j := 12) zbX12_gives_21 rfl)
theorem dX12_gives_349 : decode cX12_gives 349 = .ok (.aload 4, 2) := dq_25 (zby_at (j := 13) zbX12_gives_21 rfl) (zby_at (j := 14) zbX12_gives_21 rfl)
theorem dX12_gives_351 : decode cX12_gives 351 = .ok (.iload 5, 2) := dq_21 (zby_at (j := 15) zbX12_gives_21 rfl) (zby_at (j := 16) zbX12_gives_21 rfl)
theorem zbX12_gives_22 : zby cX12_gives 352 20 = [5, 21, 6, 182, 0, 191, 153, 0, 7, 4, 167, 0, 4, 3, 54, 7, 42, 180, 0, 40] := by decide +kernel
theorem dX12_gives_353 : decode cX12_gives 353 = .ok (.iload 6, 2) := dq_21 (zby_at (j := 1) zbX12_gives_22 rfl) (zby_at (j := 2) zbX12_gives_22 rfl)
theorem dX12_gives_355 : decode cX12_gives 355 = .ok (.invokevirtual 191, 3) := dq_182 (zby_at (j := 3) zbX12_gives_22 rfl) (zby_at (j := 4) zbX12_gives_22 rfl) (zby_at (j := 5) zbX12_gives_22 rfl)
theorem dX12_gives_358 : decode cX12_gives 358 = .ok (.ifCond .eq 7, 3) := dq_153 (zby_at (j := 6) zbX12_gives_22 rfl) (zby_at (j := 7) zbX12_gives_22 rfl) (zby_at (j := 8) zbX12_gives_22 rfl) rfl
theorem dX12_gives_361 : decode cX12_gives 361 = .ok (.iconst 1, 1) := dq_4 (zby_at (j := 9) zbX12_gives_22 rfl)
theorem dX12_gives_362 : decode cX12_gives 362 = .ok (.goto 4, 3) := dq_167 (zby_at (j := 10) zbX12_gives_22 rfl) (zby_at (j := 11) zbX12_gives_22 rfl) (zby_at (j := 12) zbX12_gives_22 rfl) rfl
theorem dX12_gives_365 : decode cX12_gives 365 = .ok (.iconst 0, 1) := dq_3 (zby_at (j := 13) zbX12_gives_22 rfl)
theorem dX12_gives_366 : decode cX12_gives 366 = .ok (.istore 7, 2) := dq_54 (zby_at (j := 14) zbX12_gives_22 rfl) (zby_at (j := 15) zbX12_gives_22 rfl)
theorem zbX12_gives_23 : zby cX12_gives 368 20 = [42, 180, 0, 40, 21, 6, 21, 7, 84, 132, 6, 1, 167, 255, 32, 177] := by decide +kernel
theorem dX12_gives_368 : decode cX12_gives 368 = .ok (.aload_n 0, 1) := dq_42 (zby_at (j := 0) zbX12_gives_23 rfl)
theorem dX12_gives_369 : decode cX12_gives 369 = .ok (.getfield 40, 3) := dq_180 (zby_at (j := 1) zbX12_gives_23 rfl) (zby_at (j := 2) zbX12_gives_23 rfl) (zby_at (j := 3) zbX12_gives_23 rfl)
theorem dX12_gives_372 : decode cX12_gives 372 = .ok (.iload 6, 2) := dq_21 (zby_at (j := 4) zbX12_gives_23 rfl) (zby_at (j := 5) zbX12_gives_23 rfl)
theorem dX12_gives_374 : decode cX12_gives 374 = .ok (.iload 7, 2) := dq_21 (zby_at (j := 6) zbX12_gives_23 rfl) (zby_at (j := 7) zbX12_gives_23 rfl)
theorem dX12_gives_376 : decode cX12_gives 376 = .ok (.bastore, 1) := dq_84 (zby_at (j := 8) zbX12_gives_23 rfl)
theorem dX12_gives_377 : decode cX12_gives 377 = .ok (.iinc 6 1, 3) := dq_132 (zby_at (j := 9) zbX12_gives_23 rfl) (zby_at (j := 10) zbX12_gives_23 rfl) (zby_at (j := 11) zbX12_gives_23 rfl) rfl
theorem dX12_gives_380 : decode cX12_gives 380 = .ok (.goto (-224), 3) := dq_167 (zby_at (j := 12) zbX12_gives_23 rfl) (zby_at (j := 13) zbX12_gives_23 rfl) (zby_at (j := 14) zbX12_gives_23 rfl) rfl
theorem dX12_gives_383 : decode cX12_gives 383 = .ok (.return_, 1) := dq_177 (zby_at (j := 15) zbX12_gives_23 rfl)
theorem zbX12_isNested_0 : zby cX12_isNested 0 20 = [3, 54, 5, 21, 5, 42, 180, 0, 180, 162, 0, 52, 21, 5, 29, 159, 0, 40, 43, 28] := by decide +kernel
theorem dX12_isNested_0 : decode cX12_isNested 0 = .ok (.iconst 0, 1) := dq_3 (zby_at (j := 0) zbX12_isNested_0 rfl)
theorem dX12_isNested_1 : decode cX12_isNested 1 = .ok (.istore 5, 2) := dq_54 (zby_at (j := 1) zbX12_isNested_0 rfl) (zby_at (j := 2) zbX12_isNested_0 rfl)
theorem dX12_isNested_3 : decode cX12_isNested 3 = .ok (.iload 5, 2) := dq_21 (zby_at (j := 3) zbX12_isNested_0 rfl) (zby_at (j := 4) zbX12_isNested_0 rfl)
theorem dX12_isNested_5 : decode cX12_isNested 5 = .ok (.aload_n 0, 1) := dq_42 (zby_at (j := 5) zbX12_isNested_0 rfl)
theorem dX12_isNested_6 : decode cX12_isNested 6 = .ok (.getfield 180, 3) := dq_180 (zby_at (j := 6) zbX12_isNested_0 rfl) (zby_at (j := 7) zbX12_isNested_0 rfl) (zby_at (j := 8) zbX12_isNested_0 rfl)
theorem dX12_isNested_9 : decode cX12_isNested 9 = .ok (.if_icmp .ge 52, 3) := dq_162 (zby_at (j := 9) zbX12_isNested_0 rfl) (zby_at (j := 10) zbX12_isNested_0 rfl) (zby_at (j := 11) zbX12_isNested_0 rfl) rfl
theorem dX12_isNested_12 : decode cX12_isNested 12 = .ok (.iload 5, 2) := dq_21 (zby_at (j := 12) zbX12_isNested_0 rfl) (zby_at (j := 13) zbX12_isNested_0 rfl)
theorem dX12_isNested_14 : decode cX12_isNested 14 = .ok (.iload_n 3, 1) := dq_29 (zby_at (j := 14) zbX12_isNested_0 rfl)
theorem dX12_isNested_15 : decode cX12_isNested 15 = .ok (.if_icmp .eq 40, 3) := dq_159 (zby_at (j := 15) zbX12_isNested_0 rfl) (zby_at (j := 16) zbX12_isNested_0 rfl) (zby_at (j := 17) zbX12_isNested_0 rfl) rfl
theorem zbX12_isNested_1 : zby cX12_isNested 16 20 = [0, 40, 43, 28, 21, 5, 96, 51, 153, 0, 31, 21, 4, 153, 0, 15, 21, 5, 29, 2] := by decide +kernel
theorem dX12_isNested_18 : decode cX12_isNested 18 = .ok (.aload_n 1, 1) := dq_43 (zby_at (j := 2) zbX12_isNested_1 rfl)
theorem dX12_isNested_19 : decode cX12_isNested 19 = .ok (.iload_n 2, 1) := dq_28 (zby_at (j := 3) zbX12_isNested_1 rfl)
theorem dX12_isNested_20 : decode cX12_isNested 20 = .ok (.iload 5, 2) := dq_21 (zby_at (j := 4) zbX12_isNested_1 rfl) (zby_at (j := 5) zbX12_isNested_1 rfl)
theorem dX12_isNested_22 : decode cX12_isNested 22 = .ok (.iadd, 1) := dq_96 (zby_at (j := 6) zbX12_isNested_1 rfl)
theorem dX12_isNested_23 : decode cX12_isNested 23 = .ok (.baload, 1) := dq_51 (zby_at (j := 7) zbX12_isNested_1 rfl)
theorem dX12_isNested_24 : decode cX12_isNested 24 = .ok (.ifCond .eq 31, 3) := dq_153 (zby_at (j := 8) zbX12_isNested_1 rfl) (zby_at (j := 9) zbX12_isNested_1 rfl) (zby_at (j := 10) zbX12_isNested_1 rfl) rfl
theorem dX12_isNested_27 : decode cX12_isNested 27 = .ok (.iload 4, 2) := dq_21 (zby_at (j := 11) zbX12_isNested_1 rfl) (zby_at (j := 12) zbX12_isNested_1 rfl)
theorem dX12_isNested_29 : decode cX12_isNested 29 = .ok (.ifCond .eq 15, 3) := dq_153 (zby_at (j := 13) zbX12_isNested_1 rfl) (zby_at (j := 14) zbX12_isNested_1 rfl) (zby_at (j := 15) zbX12_isNested_1 rfl) rfl
theorem zbX12_isNested_2 : zby cX12_isNested 32 20 = [21, 5, 29, 2, 130, 126, 154, 0, 17, 167, 0, 12, 29, 21, 5, 2, 130, 126, 154, 0] := by decide +kernel
theorem dX12_isNested_32 : decode cX12_isNested 32 = .ok (.iload 5, 2) := dq_21 (zby_at (j := 0) zbX12_isNested_2 rfl) (zby_at (j := 1) zbX12_isNested_2 rfl)
theorem dX12_isNested_34 : decode cX12_isNested 34 = .ok (.iload_n 3, 1) := dq_29 (zby_at (j := 2) zbX12_isNested_2 rfl)
theorem dX12_isNested_35 : decode cX12_isNested 35 = .ok (.iconst (-1), 1) := dq_2 (zby_at (j := 3) zbX12_isNested_2 rfl)
theorem dX12_isNested_36 : decode cX12_isNested 36 = .ok (.ixor, 1) := dq_130 (zby_at (j := 4) zbX12_isNested_2 rfl)
theorem dX12_isNested_37 : decode cX12_isNested 37 = .ok (.iand, 1) := dq_126 (zby_at (j := 5) zbX12_isNested_2 rfl)
theorem dX12_isNested_38 : decode cX12_isNested 38 = .ok (.ifCond .ne 17, 3) := dq_154 (zby_at (j := 6) zbX12_isNested_2 rfl) (zby_at (j := 7) zbX12_isNested_2 rfl) (zby_at (j := 8) zbX12_isNested_2 rfl) rfl
theorem dX12_isNested_41 : decode cX12_isNested 41 = .ok (.goto 12, 3) := dq_167 (zby_at (j := 9) zbX12_isNested_2 rfl) (zby_at (j := 10) zbX12_isNested_2 rfl) (zby_at (j := 11) zbX12_isNested_2 rfl) rfl
theorem dX12_isNested_44 : decode cX12_isNested 44 = .ok (.iload_n 3, 1) := dq_29 (zby_at (j := 12) zbX12_isNested_2 rfl)
theorem dX12_isNested_45 : decode cX12_isNested 45 = .ok (.iload 5, 2) := dq_21 (zby_at (j := 13) zbX12_isNested_2 rfl) (zby_at (j := 14) zbX12_isNested_2 rfl)
theorem dX12_isNested_47 : decode cX12_isNested 47 = .ok (.iconst (-1), 1) := dq_2 (zby_at (j := 15) zbX12_isNested_2 rfl)
theorem zbX12_isNested_3 : zby cX12_isNested 48 20 = [130, 126, 154, 0, 5, 4, 172, 132, 5, 1, 167, 255, 201, 3, 172] := by decide +kernel
theorem dX12_isNested_48 : decode cX12_isNested 48 = .ok (.ixor, 1) := dq_130 (zby_at (j := 0) zbX12_isNested_3 rfl)
theorem dX12_isNested_49 : decode cX12_isNested 49 = .ok (.iand, 1) := dq_126 (zby_at (j := 1) zbX12_isNested_3 rfl)
theorem dX12_isNested_50 : decode cX12_isNested 50 = .ok (.ifCond .ne 5, 3) := dq_154 (zby_at (j := 2) zbX12_isNested_3 rfl) (zby_at (j := 3) zbX12_isNested_3 rfl) (zby_at (j := 4) zbX12_isNested_3 rfl) rfl
theorem dX12_isNested_53 : decode cX12_isNested 53 = .ok (.iconst 1, 1) := dq_4 (zby_at (j := 5) zbX12_isNested_3 rfl)
theorem dX12_isNested_54 : decode cX12_isNested 54 = .ok (.ireturn, 1) := dq_172 (zby_at (j := 6) zbX12_isNested_3 rfl)
theorem dX12_isNested_55 : decode cX12_isNested 55 = .ok (.iinc 5 1, 3) := dq_132 (zby_at (j := 7) zbX12_isNested_3 rfl) (zby_at (j := 8) zbX12_isNested_3 rfl) (zby_at (j := 9) zbX12_isNested_3 rfl) rfl
theorem dX12_isNested_58 : decode cX12_isNested 58 = .ok (.goto (-55), 3) := dq_167 (zby_at (j := 10) zbX12_isNested_3 rfl) (zby_at (j := 11) zbX12_isNested_3 rfl) (zby_at (j := 12) zbX12_isNested_3 rfl) rfl
theorem dX12_isNested_61 : decode cX12_isNested 61 = .ok (.iconst 0, 1) := dq_3 (zby_at (j := 13) zbX12_isNested_3 rfl)
theorem dX12_isNested_62 : decode cX12_isNested 62 = .ok (.ireturn, 1) := dq_172 (zby_at (j := 14) zbX12_isNested_3 rfl)
theorem zbX12_turns_0 : zby cX12_turns 0 20 = [27, 5, 160, 0, 61, 3, 54, 4, 21, 4, 17, 4, 0, 162, 0, 41, 42, 180, 0, 43] := by decide +kernel
theorem dX12_turns_0 : decode cX12_turns 0 = .ok (.iload_n 1, 1) := dq_27 (zby_at (j := 0) zbX12_turns_0 rfl)
theorem dX12_turns_1 : decode cX12_turns 1 = .ok (.iconst 2, 1) := dq_5 (zby_at (j := 1) zbX12_turns_0 rfl)
theorem dX12_turns_2 : decode cX12_turns 2 = .ok (.if_icmp .ne 61, 3) := dq_160 (zby_at (j := 2) zbX12_turns_0 rfl) (zby_at (j := 3) zbX12_turns_0 rfl) (zby_at (j := 4) zbX12_turns_0 rfl) rfl
theorem dX12_turns_5 : decode cX12_turns 5 = .ok (.iconst 0, 1) := dq_3 (zby_at (j := 5) zbX12_turns_0 rfl)
theorem dX12_turns_6 : decode cX12_turns 6 = .ok (.istore 4, 2) := dq_54 (zby_at (j := 6) zbX12_turns_0 rfl) (zby_at (j := 7) zbX12_turns_0 rfl)
theorem dX12_turns_8 : decode cX12_turns 8 = .ok (.iload 4, 2) := dq_21 (zby_at (j := 8) zbX12_turns_0 rfl) (zby_at (j := 9) zbX12_turns_0 rfl)
theorem dX12_turns_10 : decode cX12_turns 10 = .ok (.sipush 1024, 3) := dq_17 (zby_at (j := 10) zbX12_turns_0 rfl) (zby_at (j := 11) zbX12_turns_0 rfl) (zby_at (j := 12) zbX12_turns_0 rfl) rfl
theorem dX12_turns_13 : decode cX12_turns 13 = .ok (.if_icmp .ge 41, 3) := dq_162 (zby_at (j := 13) zbX12_turns_0 rfl) (zby_at (j := 14) zbX12_turns_0 rfl) (zby_at (j := 15) zbX12_turns_0 rfl) rfl
theorem zbX12_turns_1 : zby cX12_turns 16 20 = [42, 180, 0, 43, 21, 4, 21, 4, 42, 180, 0, 180, 162, 0, 18, 42, 44, 29, 21, 4] := by decide +kernel
theorem dX12_turns_16 : decode cX12_turns 16 = .ok (.aload_n 0, 1) := dq_42 (zby_at (j := 0) zbX12_turns_1 rfl)
theorem dX12_turns_17 : decode cX12_turns 17 = .ok (.getfield 43, 3) := dq_180 (zby_at (j := 1) zbX12_turns_1 rfl) (zby_at (j := 2) zbX12_turns_1 rfl) (zby_at (j := 3) zbX12_turns_1 rfl)
theorem dX12_turns_20 : decode cX12_turns 20 = .ok (.iload 4, 2) := dq_21 (zby_at (j := 4) zbX12_turns_1 rfl) (zby_at (j := 5) zbX12_turns_1 rfl)
theorem dX12_turns_22 : decode cX12_turns 22 = .ok (.iload 4, 2) := dq_21 (zby_at (j := 6) zbX12_turns_1 rfl) (zby_at (j := 7) zbX12_turns_1 rfl)
theorem dX12_turns_24 : decode cX12_turns 24 = .ok (.aload_n 0, 1) := dq_42 (zby_at (j := 8) zbX12_turns_1 rfl)
theorem dX12_turns_25 : decode cX12_turns 25 = .ok (.getfield 180, 3) := dq_180 (zby_at (j := 9) zbX12_turns_1 rfl) (zby_at (j := 10) zbX12_turns_1 rfl) (zby_at (j := 11) zbX12_turns_1 rfl)
theorem dX12_turns_28 : decode cX12_turns 28 = .ok (.if_icmp .ge 18, 3) := dq_162 (zby_at (j := 12) zbX12_turns_1 rfl) (zby_at (j := 13) zbX12_turns_1 rfl) (zby_at (j := 14) zbX12_turns_1 rfl) rfl
theorem dX12_turns_31 : decode cX12_turns 31 = .ok (.aload_n 0, 1) := dq_42 (zby_at (j := 15) zbX12_turns_1 rfl)
theorem zbX12_turns_2 : zby cX12_turns 32 20 = [44, 29, 21, 4, 182, 0, 191, 153, 0, 7, 4, 167, 0, 4, 3, 84, 132, 4, 1, 167] := by decide +kernel
theorem dX12_turns_32 : decode cX12_turns 32 = .ok (.aload_n 2, 1) := dq_44 (zby_at (j := 0) zbX12_turns_2 rfl)
theorem dX12_turns_33 : decode cX12_turns 33 = .ok (.iload_n 3, 1) := dq_29 (zby_at (j := 1) zbX12_turns_2 rfl)
theorem dX12_turns_34 : decode cX12_turns 34 = .ok (.iload 4, 2) := dq_21 (zby_at (j := 2) zbX12_turns_2 rfl) (zby_at (j := 3) zbX12_turns_2 rfl)
theorem dX12_turns_36 : decode cX12_turns 36 = .ok (.invokevirtual 191, 3) := dq_182 (zby_at (j := 4) zbX12_turns_2 rfl) (zby_at (j := 5) zbX12_turns_2 rfl) (zby_at (j := 6) zbX12_turns_2 rfl)
theorem dX12_turns_39 : decode cX12_turns 39 = .ok (.ifCond .eq 7, 3) := dq_153 (zby_at (j := 7) zbX12_turns_2 rfl) (zby_at (j := 8) zbX12_turns_2 rfl) (zby_at (j := 9) zbX12_turns_2 rfl) rfl
theorem dX12_turns_42 : decode cX12_turns 42 = .ok (.iconst 1, 1) := dq_4 (zby_at (j := 10) zbX12_turns_2 rfl)
theorem dX12_turns_43 : decode cX12_turns 43 = .ok (.goto 4, 3) := dq_167 (zby_at (j := 11) zbX12_turns_2 rfl) (zby_at (j := 12) zbX12_turns_2 rfl) (zby_at (j := 13) zbX12_turns_2 rfl) rfl
theorem dX12_turns_46 : decode cX12_turns 46 = .ok (.iconst 0, 1) := dq_3 (zby_at (j := 14) zbX12_turns_2 rfl)
theorem dX12_turns_47 : decode cX12_turns 47 = .ok (.bastore, 1) := dq_84 (zby_at (j := 15) zbX12_turns_2 rfl)
theorem zbX12_turns_3 : zby cX12_turns 48 20 = [132, 4, 1, 167, 255, 213, 42, 42, 180, 0, 43, 182, 0, 195, 177, 3, 54, 4, 21, 4] := by decide +kernel
theorem dX12_turns_48 : decode cX12_turns 48 = .ok (.iinc 4 1, 3) := dq_132 (zby_at (j := 0) zbX12_turns_3 rfl) (zby_at (j := 1) zbX12_turns_3 rfl) (zby_at (j := 2) zbX12_turns_3 rfl) rfl
theorem dX12_turns_51 : decode cX12_turns 51 = .ok (.goto (-43), 3) := dq_167 (zby_at (j := 3) zbX12_turns_3 rfl) (zby_at (j := 4) zbX12_turns_3 rfl) (zby_at (j := 5) zbX12_turns_3 rfl) rfl
theorem dX12_turns_54 : decode cX12_turns 54 = .ok (.aload_n 0, 1) := dq_42 (zby_at (j := 6) zbX12_turns_3 rfl)
theorem dX12_turns_55 : decode cX12_turns 55 = .ok (.aload_n 0, 1) := dq_42 (zby_at (j := 7) zbX12_turns_3 rfl)
theorem dX12_turns_56 : decode cX12_turns 56 = .ok (.getfield 43, 3) := dq_180 (zby_at (j := 8) zbX12_turns_3 rfl) (zby_at (j := 9) zbX12_turns_3 rfl) (zby_at (j := 10) zbX12_turns_3 rfl)
theorem dX12_turns_59 : decode cX12_turns 59 = .ok (.invokevirtual 195, 3) := dq_182 (zby_at (j := 11) zbX12_turns_3 rfl) (zby_at (j := 12) zbX12_turns_3 rfl) (zby_at (j := 13) zbX12_turns_3 rfl)
theorem dX12_turns_62 : decode cX12_turns 62 = .ok (.return_, 1) := dq_177 (zby_at (j := 14) zbX12_turns_3 rfl)
theorem dX12_turns_63 : decode cX12_turns 63 = .ok (.iconst 0, 1) := dq_3 (zby_at (j := 15) zbX12_turns_3 rfl)
theorem zbX12_turns_4 : zby cX12_turns 64 20 = [54, 4, 21, 4, 17, 4, 0, 162, 0, 192, 21, 4, 42, 180, 0, 180, 162, 0, 7, 4] := by decide +kernel
theorem dX12_turns_64 : decode cX12_turns 64 = .ok (.istore 4, 2) := dq_54 (zby_at (j := 0) zbX12_turns_4 rfl) (zby_at (j := 1) zbX12_turns_4 rfl)
theorem dX12_turns_66 : decode cX12_turns 66 = .ok (.iload 4, 2) := dq_21 (zby_at (j := 2) zbX12_turns_4 rfl) (zby_at (j := 3) zbX12_turns_4 rfl)
theorem dX12_turns_68 : decode cX12_turns 68 = .ok (.sipush 1024, 3) := dq_17 (zby_at (j := 4) zbX12_turns_4 rfl) (zby_at (j := 5) zbX12_turns_4 rfl) (zby_at (j := 6) zbX12_turns_4 rfl) rfl
theorem dX12_turns_71 : decode cX12_turns 71 = .ok (.if_icmp .ge 192, 3) := dq_162 (zby_at (j := 7) zbX12_turns_4 rfl) (zby_at (j := 8) zbX12_turns_4 rfl) (zby_at (j := 9) zbX12_turns_4 rfl) rfl
theorem dX12_turns_74 : decode cX12_turns 74 = .ok (.iload 4, 2) := dq_21 (zby_at (j := 10) zbX12_turns_4 rfl) (zby_at (j := 11) zbX12_turns_4 rfl)
theorem dX12_turns_76 : decode cX12_turns 76 = .ok (.aload_n 0, 1) := dq_42 (zby_at (j := 12) zbX12_turns_4 rfl)
theorem dX12_turns_77 : decode cX12_turns 77 = .ok (.getfield 180, 3) := dq_180 (zby_at (j := 13) zbX12_turns_4 rfl) (zby_at (j := 14) zbX12_turns_4 rfl) (zby_at (j := 15) zbX12_turns_4 rfl)
theorem zbX12_turns_5 : zby cX12_turns 80 20 = [162, 0, 7, 4, 167, 0, 4, 3, 54, 5, 27, 153, 0, 8, 27, 4, 160, 0, 47, 21] := by decide +kernel
theorem dX12_turns_80 : decode cX12_turns 80 = .ok (.if_icmp .ge 7, 3) := dq_162 (zby_at (j := 0) zbX12_turns_5 rfl) (zby_at (j := 1) zbX12_turns_5 rfl) (zby_at (j := 2) zbX12_turns_5 rfl) rfl
theorem dX12_turns_83 : decode cX12_turns 83 = .ok (.iconst 1, 1) := dq_4 (zby_at (j := 3) zbX12_turns_5 rfl)
theorem dX12_turns_84 : decode cX12_turns 84 = .ok (.goto 4, 3) := dq_167 (zby_at (j := 4) zbX12_turns_5 rfl) (zby_at (j := 5) zbX12_turns_5 rfl) (zby_at (j := 6) zbX12_turns_5 rfl) rfl
theorem dX12_turns_87 : decode cX12_turns 87 = .ok (.iconst 0, 1) := dq_3 (zby_at (j := 7) zbX12_turns_5 rfl)
theorem dX12_turns_88 : decode cX12_turns 88 = .ok (.istore 5, 2) := dq_54 (zby_at (j := 8) zbX12_turns_5 rfl) (zby_at (j := 9) zbX12_turns_5 rfl)
theorem dX12_turns_90 : decode cX12_turns 90 = .ok (.iload_n 1, 1) := dq_27 (zby_at (j := 10) zbX12_turns_5 rfl)
theorem dX12_turns_91 : decode cX12_turns 91 = .ok (.ifCond .eq 8, 3) := dq_153 (zby_at (j := 11) zbX12_turns_5 rfl) (zby_at (j := 12) zbX12_turns_5 rfl) (zby_at (j := 13) zbX12_turns_5 rfl) rfl
theorem dX12_turns_94 : decode cX12_turns 94 = .ok (.iload_n 1, 1) := dq_27 (zby_at (j := 14) zbX12_turns_5 rfl)
theorem dX12_turns_95 : decode cX12_turns 95 = .ok (.iconst 1, 1) := dq_4 (zby_at (j := 15) zbX12_turns_5 rfl)
theorem zbX12_turns_6 : zby cX12_turns 96 20 = [160, 0, 47, 21, 5, 153, 0, 36, 44, 29, 21, 4, 96, 51, 153, 0, 27, 42, 44, 29] := by decide +kernel
theorem dX12_turns_96 : decode cX12_turns 96 = .ok (.if_icmp .ne 47, 3) := dq_160 (zby_at (j := 0) zbX12_turns_6 rfl) (zby_at (j := 1) zbX12_turns_6 rfl) (zby_at (j := 2) zbX12_turns_6 rfl) rfl
theorem dX12_turns_99 : decode cX12_turns 99 = .ok (.iload 5, 2) := dq_21 (zby_at (j := 3) zbX12_turns_6 rfl) (zby_at (j := 4) zbX12_turns_6 rfl)
theorem dX12_turns_101 : decode cX12_turns 101 = .ok (.ifCond .eq 36, 3) := dq_153 (zby_at (j := 5) zbX12_turns_6 rfl) (zby_at (j := 6) zbX12_turns_6 rfl) (zby_at (j := 7) zbX12_turns_6 rfl) rfl
theorem dX12_turns_104 : decode cX12_turns 104 = .ok (.aload_n 2, 1) := dq_44 (zby_at (j := 8) zbX12_turns_6 rfl)
theorem dX12_turns_105 : decode cX12_turns 105 = .ok (.iload_n 3, 1) := dq_29 (zby_at (j := 9) zbX12_turns_6 rfl)
theorem dX12_turns_106 : decode cX12_turns 106 = .ok (.iload 4, 2) := dq_21 (zby_at (j := 10) zbX12_turns_6 rfl) (zby_at (j := 11) zbX12_turns_6 rfl)
theorem dX12_turns_108 : decode cX12_turns 108 = .ok (.iadd, 1) := dq_96 (zby_at (j := 12) zbX12_turns_6 rfl)
theorem dX12_turns_109 : decode cX12_turns 109 = .ok (.baload, 1) := dq_51 (zby_at (j := 13) zbX12_turns_6 rfl)
theorem dX12_turns_110 : decode cX12_turns 110 = .ok (.ifCond .eq 27, 3) := dq_153 (zby_at (j := 14) zbX12_turns_6 rfl) (zby_at (j := 15) zbX12_turns_6 rfl) (zby_at (j := 16) zbX12_turns_6 rfl) rfl
theorem zbX12_turns_7 : zby cX12_turns 112 20 = [27, 42, 44, 29, 21, 4, 27, 154, 0, 7, 4, 167, 0, 4, 3, 182, 0, 199, 154, 0] := by decide +kernel
theorem dX12_turns_113 : decode cX12_turns 113 = .ok (.aload_n 0, 1) := dq_42 (zby_at (j := 1) zbX12_turns_7 rfl)
theorem dX12_turns_114 : decode cX12_turns 114 = .ok (.aload_n 2, 1) := dq_44 (zby_at (j := 2) zbX12_turns_7 rfl)
theorem dX12_turns_115 : decode cX12_turns 115 = .ok (.iload_n 3, 1) := dq_29 (zby_at (j := 3) zbX12_turns_7 rfl)
theorem dX12_turns_116 : decode cX12_turns 116 = .ok (.iload 4, 2) := dq_21 (zby_at (j := 4) zbX12_turns_7 rfl) (zby_at (j := 5) zbX12_turns_7 rfl)
theorem dX12_turns_118 : decode cX12_turns 118 = .ok (.iload_n 1, 1) := dq_27 (zby_at (j := 6) zbX12_turns_7 rfl)
theorem dX12_turns_119 : decode cX12_turns 119 = .ok (.ifCond .ne 7, 3) := dq_154 (zby_at (j := 7) zbX12_turns_7 rfl) (zby_at (j := 8) zbX12_turns_7 rfl) (zby_at (j := 9) zbX12_turns_7 rfl) rfl
theorem dX12_turns_122 : decode cX12_turns 122 = .ok (.iconst 1, 1) := dq_4 (zby_at (j := 10) zbX12_turns_7 rfl)
theorem dX12_turns_123 : decode cX12_turns 123 = .ok (.goto 4, 3) := dq_167 (zby_at (j := 11) zbX12_turns_7 rfl) (zby_at (j := 12) zbX12_turns_7 rfl) (zby_at (j := 13) zbX12_turns_7 rfl) rfl
theorem dX12_turns_126 : decode cX12_turns 126 = .ok (.iconst 0, 1) := dq_3 (zby_at (j := 14) zbX12_turns_7 rfl)
theorem dX12_turns_127 : decode cX12_turns 127 = .ok (.invokevirtual 199, 3) := dq_182 (zby_at (j := 15) zbX12_turns_7 rfl) (zby_at (j := 16) zbX12_turns_7 rfl) (zby_at (j := 17) zbX12_turns_7 rfl)
theorem zbX12_turns_8 : zby cX12_turns 128 20 = [0, 199, 154, 0, 7, 4, 167, 0, 4, 3, 54, 5, 167, 0, 108, 27, 6, 160, 0, 27] := by decide +kernel
theorem dX12_turns_130 : decode cX12_turns 130 = .ok (.ifCond .ne 7, 3) := dq_154 (zby_at (j := 2) zbX12_turns_8 rfl) (zby_at (j := 3) zbX12_turns_8 rfl) (zby_at (j := 4) zbX12_turns_8 rfl) rfl
theorem dX12_turns_133 : decode cX12_turns 133 = .ok (.iconst 1, 1) := dq_4 (zby_at (j := 5) zbX12_turns_8 rfl)
theorem dX12_turns_134 : decode cX12_turns 134 = .ok (.goto 4, 3) := dq_167 (zby_at (j := 6) zbX12_turns_8 rfl) (zby_at (j := 7) zbX12_turns_8 rfl) (zby_at (j := 8) zbX12_turns_8 rfl) rfl
theorem dX12_turns_137 : decode cX12_turns 137 = .ok (.iconst 0, 1) := dq_3 (zby_at (j := 9) zbX12_turns_8 rfl)
theorem dX12_turns_138 : decode cX12_turns 138 = .ok (.istore 5, 2) := dq_54 (zby_at (j := 10) zbX12_turns_8 rfl) (zby_at (j := 11) zbX12_turns_8 rfl)
theorem dX12_turns_140 : decode cX12_turns 140 = .ok (.goto 108, 3) := dq_167 (zby_at (j := 12) zbX12_turns_8 rfl) (zby_at (j := 13) zbX12_turns_8 rfl) (zby_at (j := 14) zbX12_turns_8 rfl) rfl
theorem dX12_turns_143 : decode cX12_turns 143 = .ok (.iload_n 1, 1) := dq_27 (zby_at (j := 15) zbX12_turns_8 rfl)
theorem zbX12_turns_9 : zby cX12_turns 144 20 = [6, 160, 0, 27, 21, 5, 153, 0, 16, 44, 29, 21, 4, 96, 51, 154, 0, 7, 4, 167] := by decide +kernel
theorem dX12_turns_144 : decode cX12_turns 144 = .ok (.iconst 3, 1) := dq_6 (zby_at (j := 0) zbX12_turns_9 rfl)
theorem dX12_turns_145 : decode cX12_turns 145 = .ok (.if_icmp .ne 27, 3) := dq_160 (zby_at (j := 1) zbX12_turns_9 rfl) (zby_at (j := 2) zbX12_turns_9 rfl) (zby_at (j := 3) zbX12_turns_9 rfl) rfl
theorem dX12_turns_148 : decode cX12_turns 148 = .ok (.iload 5, 2) := dq_21 (zby_at (j := 4) zbX12_turns_9 rfl) (zby_at (j := 5) zbX12_turns_9 rfl)
theorem dX12_turns_150 : decode cX12_turns 150 = .ok (.ifCond .eq 16, 3) := dq_153 (zby_at (j := 6) zbX12_turns_9 rfl) (zby_at (j := 7) zbX12_turns_9 rfl) (zby_at (j := 8) zbX12_turns_9 rfl) rfl
theorem dX12_turns_153 : decode cX12_turns 153 = .ok (.aload_n 2, 1) := dq_44 (zby_at (j := 9) zbX12_turns_9 rfl)
theorem dX12_turns_154 : decode cX12_turns 154 = .ok (.iload_n 3, 1) := dq_29 (zby_at (j := 10) zbX12_turns_9 rfl)
theorem dX12_turns_155 : decode cX12_turns 155 = .ok (.iload 4, 2) := dq_21 (zby_at (j := 11) zbX12_turns_9 rfl) (zby_at (j := 12) zbX12_turns_9 rfl)
theorem dX12_turns_157 : decode cX12_turns 157 = .ok (.iadd, 1) := dq_96 (zby_at (j := 13) zbX12_turns_9 rfl)
theorem dX12_turns_158 : decode cX12_turns 158 = .ok (.baload, 1) := dq_51 (zby_at (j := 14) zbX12_turns_9 rfl)
theorem dX12_turns_159 : decode cX12_turns 159 = .ok (.ifCond .ne 7, 3) := dq_154 (zby_at (j := 15) zbX12_turns_9 rfl) (zby_at (j := 16) zbX12_turns_9 rfl) (zby_at (j := 17) zbX12_turns_9 rfl) rfl
theorem zbX12_turns_10 : zby cX12_turns 160 20 = [0, 7, 4, 167, 0, 4, 3, 54, 5, 167, 0, 79, 27, 7, 159, 0, 8, 27, 8, 160] := by decide +kernel
theorem dX12_turns_162 : decode cX12_turns 162 = .ok (.iconst 1, 1) := dq_4 (zby_at (j := 2) zbX12_turns_10 rfl)
theorem dX12_turns_163 : decode cX12_turns 163 = .ok (.goto 4, 3) := dq_167 (zby_at (j := 3) zbX12_turns_10 rfl) (zby_at (j := 4) zbX12_turns_10 rfl) (zby_at (j := 5) zbX12_turns_10 rfl) rfl
theorem dX12_turns_166 : decode cX12_turns 166 = .ok (.iconst 0, 1) := dq_3 (zby_at (j := 6) zbX12_turns_10 rfl)
theorem dX12_turns_167 : decode cX12_turns 167 = .ok (.istore 5, 2) := dq_54 (zby_at (j := 7) zbX12_turns_10 rfl) (zby_at (j := 8) zbX12_turns_10 rfl)
theorem dX12_turns_169 : decode cX12_turns 169 = .ok (.goto 79, 3) := dq_167 (zby_at (j := 9) zbX12_turns_10 rfl) (zby_at (j := 10) zbX12_turns_10 rfl) (zby_at (j := 11) zbX12_turns_10 rfl) rfl
theorem dX12_turns_172 : decode cX12_turns 172 = .ok (.iload_n 1, 1) := dq_27 (zby_at (j := 12) zbX12_turns_10 rfl)
theorem dX12_turns_173 : decode cX12_turns 173 = .ok (.iconst 4, 1) := dq_7 (zby_at (j := 13) zbX12_turns_10 rfl)
theorem dX12_turns_174 : decode cX12_turns 174 = .ok (.if_icmp .eq 8, 3) := dq_159 (zby_at (j := 14) zbX12_turns_10 rfl) (zby_at (j := 15) zbX12_turns_10 rfl) (zby_at (j := 16) zbX12_turns_10 rfl) rfl
theorem zbX12_turns_11 : zby cX12_turns 176 20 = [8, 27, 8, 160, 0, 48, 21, 5, 153, 0, 37, 44, 29, 21, 4, 96, 51, 154, 0, 24] := by decide +kernel
theorem dX12_turns_177 : decode cX12_turns 177 = .ok (.iload_n 1, 1) := dq_27 (zby_at (j := 1) zbX12_turns_11 rfl)
theorem dX12_turns_178 : decode cX12_turns 178 = .ok (.iconst 5, 1) := dq_8 (zby_at (j := 2) zbX12_turns_11 rfl)
theorem dX12_turns_179 : decode cX12_turns 179 = .ok (.if_icmp .ne 48, 3) := dq_160 (zby_at (j := 3) zbX12_turns_11 rfl) (zby_at (j := 4) zbX12_turns_11 rfl) (zby_at (j := 5) zbX12_turns_11 rfl) rfl
theorem dX12_turns_182 : decode cX12_turns 182 = .ok (.iload 5, 2) := dq_21 (zby_at (j := 6) zbX12_turns_11 rfl) (zby_at (j := 7) zbX12_turns_11 rfl)
theorem dX12_turns_184 : decode cX12_turns 184 = .ok (.ifCond .eq 37, 3) := dq_153 (zby_at (j := 8) zbX12_turns_11 rfl) (zby_at (j := 9) zbX12_turns_11 rfl) (zby_at (j := 10) zbX12_turns_11 rfl) rfl
theorem dX12_turns_187 : decode cX12_turns 187 = .ok (.aload_n 2, 1) := dq_44 (zby_at (j := 11) zbX12_turns_11 rfl)
theorem dX12_turns_188 : decode cX12_turns 188 = .ok (.iload_n 3, 1) := dq_29 (zby_at (j := 12) zbX12_turns_11 rfl)
theorem dX12_turns_189 : decode cX12_turns 189 = .ok (.iload 4, 2) := dq_21 (zby_at (j := 13) zbX12_turns_11 rfl) (zby_at (j := 14) zbX12_turns_11 rfl)
theorem dX12_turns_191 : decode cX12_turns 191 = .ok (.iadd, 1) := dq_96 (zby_at (j := 15) zbX12_turns_11 rfl)
theorem zbX12_turns_12 : zby cX12_turns 192 20 = [51, 154, 0, 24, 42, 44, 29, 21, 4, 27, 7, 160, 0, 7, 4, 167, 0, 4, 3, 182] := by decide +kernel
theorem dX12_turns_192 : decode cX12_turns 192 = .ok (.baload, 1) := dq_51 (zby_at (j := 0) zbX12_turns_12 rfl)
theorem dX12_turns_193 : decode cX12_turns 193 = .ok (.ifCond .ne 24, 3) := dq_154 (zby_at (j := 1) zbX12_turns_12 rfl) (zby_at (j := 2) zbX12_turns_12 rfl) (zby_at (j := 3) zbX12_turns_12 rfl) rfl
theorem dX12_turns_196 : decode cX12_turns 196 = .ok (.aload_n 0, 1) := dq_42 (zby_at (j := 4) zbX12_turns_12 rfl)
theorem dX12_turns_197 : decode cX12_turns 197 = .ok (.aload_n 2, 1) := dq_44 (zby_at (j := 5) zbX12_turns_12 rfl)
theorem dX12_turns_198 : decode cX12_turns 198 = .ok (.iload_n 3, 1) := dq_29 (zby_at (j := 6) zbX12_turns_12 rfl)
theorem dX12_turns_199 : decode cX12_turns 199 = .ok (.iload 4, 2) := dq_21 (zby_at (j := 7) zbX12_turns_12 rfl) (zby_at (j := 8) zbX12_turns_12 rfl)
theorem dX12_turns_201 : decode cX12_turns 201 = .ok (.iload_n 1, 1) := dq_27 (zby_at (j := 9) zbX12_turns_12 rfl)
theorem dX12_turns_202 : decode cX12_turns 202 = .ok (.iconst 4, 1) := dq_7 (zby_at (j := 10) zbX12_turns_12 rfl)
theorem dX12_turns_203 : decode cX12_turns 203 = .ok (.if_icmp .ne 7, 3) := dq_160 (zby_at (j := 11) zbX12_turns_12 rfl) (zby_at (j := 12) zbX12_turns_12 rfl) (zby_at (j := 13) zbX12_turns_12 rfl) rfl
theorem dX12_turns_206 : decode cX12_turns 206 = .ok (.iconst 1, 1) := dq_4 (zby_at (j := 14) zbX12_turns_12 rfl)
theorem dX12_turns_207 : decode cX12_turns 207 = .ok (.goto 4, 3) := dq_167 (zby_at (j := 15) zbX12_turns_12 rfl) (zby_at (j := 16) zbX12_turns_12 rfl) (zby_at (j := 17) zbX12_turns_12 rfl) rfl
theorem zbX12_turns_13 : zby cX12_turns 208 20 = [0, 4, 3, 182, 0, 199, 153, 0, 7, 4, 167, 0, 4, 3, 54, 5, 167, 0, 24, 21] := by decide +kernel
theorem dX12_turns_210 : decode cX12_turns 210 = .ok (.iconst 0, 1) := dq_3 (zby_at (j := 2) zbX12_turns_13 rfl)
theorem dX12_turns_211 : decode cX12_turns 211 = .ok (.invokevirtual 199, 3) := dq_182 (zby_at (j := 3) zbX12_turns_13 rfl) (zby_at (j := 4) zbX12_turns_13 rfl) (zby_at (j := 5) zbX12_turns_13 rfl)
theorem dX12_turns_214 : decode cX12_turns 214 = .ok (.ifCond .eq 7, 3) := dq_153 (zby_at (j := 6) zbX12_turns_13 rfl) (zby_at (j := 7) zbX12_turns_13 rfl) (zby_at (j := 8) zbX12_turns_13 rfl) rfl
theorem dX12_turns_217 : decode cX12_turns 217 = .ok (.iconst 1, 1) := dq_4 (zby_at (j := 9) zbX12_turns_13 rfl)
theorem dX12_turns_218 : decode cX12_turns 218 = .ok (.goto 4, 3) := dq_167 (zby_at (j := 10) zbX12_turns_13 rfl) (zby_at (j := 11) zbX12_turns_13 rfl) (zby_at (j := 12) zbX12_turns_13 rfl) rfl
theorem dX12_turns_221 : decode cX12_turns 221 = .ok (.iconst 0, 1) := dq_3 (zby_at (j := 13) zbX12_turns_13 rfl)
theorem dX12_turns_222 : decode cX12_turns 222 = .ok (.istore 5, 2) := dq_54 (zby_at (j := 14) zbX12_turns_13 rfl) (zby_at (j := 15) zbX12_turns_13 rfl)
theorem zbX12_turns_14 : zby cX12_turns 224 20 = [167, 0, 24, 21, 5, 153, 0, 16, 44, 29, 21, 4, 96, 51, 153, 0, 7, 4, 167, 0] := by decide +kernel
theorem dX12_turns_224 : decode cX12_turns 224 = .ok (.goto 24, 3) := dq_167 (zby_at (j := 0) zbX12_turns_14 rfl) (zby_at (j := 1) zbX12_turns_14 rfl) (zby_at (j := 2) zbX12_turns_14 rfl) rfl
theorem dX12_turns_227 : decode cX12_turns 227 = .ok (.iload 5, 2) := dq_21 (zby_at (j := 3) zbX12_turns_14 rfl) (zby_at (j := 4) zbX12_turns_14 rfl)
theorem dX12_turns_229 : decode cX12_turns 229 = .ok (.ifCond .eq 16, 3) := dq_153 (zby_at (j := 5) zbX12_turns_14 rfl) (zby_at (j := 6) zbX12_turns_14 rfl) (zby_at (j := 7) zbX12_turns_14 rfl) rfl
theorem dX12_turns_232 : decode cX12_turns 232 = .ok (.aload_n 2, 1) := dq_44 (zby_at (j := 8) zbX12_turns_14 rfl)
theorem dX12_turns_233 : decode cX12_turns 233 = .ok (.iload_n 3, 1) := dq_29 (zby_at (j := 9) zbX12_turns_14 rfl)
theorem dX12_turns_234 : decode cX12_turns 234 = .ok (.iload 4, 2) := dq_21 (zby_at (j := 10) zbX12_turns_14 rfl) (zby_at (j := 11) zbX12_turns_14 rfl)
theorem dX12_turns_236 : decode cX12_turns 236 = .ok (.iadd, 1) := dq_96 (zby_at (j := 12) zbX12_turns_14 rfl)
theorem dX12_turns_237 : decode cX12_turns 237 = .ok (.baload, 1) := dq_51 (zby_at (j := 13) zbX12_turns_14 rfl)
theorem dX12_turns_238 : decode cX12_turns 238 = .ok (.ifCond .eq 7, 3) := dq_153 (zby_at (j := 14) zbX12_turns_14 rfl) (zby_at (j := 15) zbX12_turns_14 rfl) (zby_at (j := 16) zbX12_turns_14 rfl) rfl
theorem zbX12_turns_15 : zby cX12_turns 240 20 = [7, 4, 167, 0, 4, 3, 54, 5, 42, 180, 0, 40, 21, 4, 21, 5, 84, 132, 4, 1] := by decide +kernel
theorem dX12_turns_241 : decode cX12_turns 241 = .ok (.iconst 1, 1) := dq_4 (zby_at (j := 1) zbX12_turns_15 rfl)
theorem dX12_turns_242 : decode cX12_turns 242 = .ok (.goto 4, 3) := dq_167 (zby_at (j := 2) zbX12_turns_15 rfl) (zby_at (j := 3) zbX12_turns_15 rfl) (zby_at (j := 4) zbX12_turns_15 rfl) rfl
theorem dX12_turns_245 : decode cX12_turns 245 = .ok (.iconst 0, 1) := dq_3 (zby_at (j := 5) zbX12_turns_15 rfl)
theorem dX12_turns_246 : decode cX12_turns 246 = .ok (.istore 5, 2) := dq_54 (zby_at (j := 6) zbX12_turns_15 rfl) (zby_at (j := 7) zbX12_turns_15 rfl)
theorem dX12_turns_248 : decode cX12_turns 248 = .ok (.aload_n 0, 1) := dq_42 (zby_at (j := 8) zbX12_turns_15 rfl)
theorem dX12_turns_249 : decode cX12_turns 249 = .ok (.getfield 40, 3) := dq_180 (zby_at (j := 9) zbX12_turns_15 rfl) (zby_at (j := 10) zbX12_turns_15 rfl) (zby_at (j := 11) zbX12_turns_15 rfl)
theorem dX12_turns_252 : decode cX12_turns 252 = .ok (.iload 4, 2) := dq_21 (zby_at (j := 12) zbX12_turns_15 rfl) (zby_at (j := 13) zbX12_turns_15 rfl)
theorem dX12_turns_254 : decode cX12_turns 254 = .ok (.iload 5, 2) := dq_21 (zby_at (j := 14) zbX12_turns_15 rfl) (zby_at (j := 15) zbX12_turns_15 rfl)
theorem zbX12_turns_16 : zby cX12_turns 256 20 = [84, 132, 4, 1, 167, 255, 62, 177] := by decide +kernel
theorem dX12_turns_256 : decode cX12_turns 256 = .ok (.bastore, 1) := dq_84 (zby_at (j := 0) zbX12_turns_16 rfl)
theorem dX12_turns_257 : decode cX12_turns 257 = .ok (.iinc 4 1, 3) := dq_132 (zby_at (j := 1) zbX12_turns_16 rfl) (zby_at (j := 2) zbX12_turns_16 rfl) (zby_at (j := 3) zbX12_turns_16 rfl) rfl
theorem dX12_turns_260 : decode cX12_turns 260 = .ok (.goto (-194), 3) := dq_167 (zby_at (j := 4) zbX12_turns_16 rfl) (zby_at (j := 5) zbX12_turns_16 rfl) (zby_at (j := 6) zbX12_turns_16 rfl) rfl
theorem dX12_turns_263 : decode cX12_turns 263 = .ok (.return_, 1) := dq_177 (zby_at (j := 7) zbX12_turns_16 rfl)
theorem zbX12_turns__0 : zby cX12_turns_ 0 20 = [3, 61, 28, 17, 4, 0, 162, 0, 45, 42, 180, 0, 40, 28, 28, 42, 180, 0, 180, 162] := by decide +kernel
theorem dX12_turns__0 : decode cX12_turns_ 0 = .ok (.iconst 0, 1) := dq_3 (zby_at (j := 0) zbX12_turns__0 rfl)
theorem dX12_turns__1 : decode cX12_turns_ 1 = .ok (.istore_n 2, 1) := dq_61 (zby_at (j := 1) zbX12_turns__0 rfl)
theorem dX12_turns__2 : decode cX12_turns_ 2 = .ok (.iload_n 2, 1) := dq_28 (zby_at (j := 2) zbX12_turns__0 rfl)
theorem dX12_turns__3 : decode cX12_turns_ 3 = .ok (.sipush 1024, 3) := dq_17 (zby_at (j := 3) zbX12_turns__0 rfl) (zby_at (j := 4) zbX12_turns__0 rfl) (zby_at (j := 5) zbX12_turns__0 rfl) rfl
theorem dX12_turns__6 : decode cX12_turns_ 6 = .ok (.if_icmp .ge 45, 3) := dq_162 (zby_at (j := 6) zbX12_turns__0 rfl) (zby_at (j := 7) zbX12_turns__0 rfl) (zby_at (j := 8) zbX12_turns__0 rfl) rfl
theorem dX12_turns__9 : decode cX12_turns_ 9 = .ok (.aload_n 0, 1) := dq_42 (zby_at (j := 9) zbX12_turns__0 rfl)
theorem dX12_turns__10 : decode cX12_turns_ 10 = .ok (.getfield 40, 3) := dq_180 (zby_at (j := 10) zbX12_turns__0 rfl) (zby_at (j := 11) zbX12_turns__0 rfl) (zby_at (j := 12) zbX12_turns__0 rfl)
theorem dX12_turns__13 : decode cX12_turns_ 13 = .ok (.iload_n 2, 1) := dq_28 (zby_at (j := 13) zbX12_turns__0 rfl)
theorem dX12_turns__14 : decode cX12_turns_ 14 = .ok (.iload_n 2, 1) := dq_28 (zby_at (j := 14) zbX12_turns__0 rfl)
theorem dX12_turns__15 : decode cX12_turns_ 15 = .ok (.aload_n 0, 1) := dq_42 (zby_at (j := 15) zbX12_turns__0 rfl)
theorem zbX12_turns__1 : zby cX12_turns_ 16 20 = [180, 0, 180, 162, 0, 24, 43, 28, 51, 153, 0, 18, 42, 43, 3, 28, 4, 182, 0, 199] := by decide +kernel
theorem dX12_turns__16 : decode cX12_turns_ 16 = .ok (.getfield 180, 3) := dq_180 (zby_at (j := 0) zbX12_turns__1 rfl) (zby_at (j := 1) zbX12_turns__1 rfl) (zby_at (j := 2) zbX12_turns__1 rfl)
theorem dX12_turns__19 : decode cX12_turns_ 19 = .ok (.if_icmp .ge 24, 3) := dq_162 (zby_at (j := 3) zbX12_turns__1 rfl) (zby_at (j := 4) zbX12_turns__1 rfl) (zby_at (j := 5) zbX12_turns__1 rfl) rfl
theorem dX12_turns__22 : decode cX12_turns_ 22 = .ok (.aload_n 1, 1) := dq_43 (zby_at (j := 6) zbX12_turns__1 rfl)
theorem dX12_turns__23 : decode cX12_turns_ 23 = .ok (.iload_n 2, 1) := dq_28 (zby_at (j := 7) zbX12_turns__1 rfl)
theorem dX12_turns__24 : decode cX12_turns_ 24 = .ok (.baload, 1) := dq_51 (zby_at (j := 8) zbX12_turns__1 rfl)
theorem dX12_turns__25 : decode cX12_turns_ 25 = .ok (.ifCond .eq 18, 3) := dq_153 (zby_at (j := 9) zbX12_turns__1 rfl) (zby_at (j := 10) zbX12_turns__1 rfl) (zby_at (j := 11) zbX12_turns__1 rfl) rfl
theorem dX12_turns__28 : decode cX12_turns_ 28 = .ok (.aload_n 0, 1) := dq_42 (zby_at (j := 12) zbX12_turns__1 rfl)
theorem dX12_turns__29 : decode cX12_turns_ 29 = .ok (.aload_n 1, 1) := dq_43 (zby_at (j := 13) zbX12_turns__1 rfl)
theorem dX12_turns__30 : decode cX12_turns_ 30 = .ok (.iconst 0, 1) := dq_3 (zby_at (j := 14) zbX12_turns__1 rfl)
theorem dX12_turns__31 : decode cX12_turns_ 31 = .ok (.iload_n 2, 1) := dq_28 (zby_at (j := 15) zbX12_turns__1 rfl)
theorem zbX12_turns__2 : zby cX12_turns_ 32 20 = [4, 182, 0, 199, 154, 0, 7, 4, 167, 0, 4, 3, 84, 132, 2, 1, 167, 255, 210, 177] := by decide +kernel
theorem dX12_turns__32 : decode cX12_turns_ 32 = .ok (.iconst 1, 1) := dq_4 (zby_at (j := 0) zbX12_turns__2 rfl)
theorem dX12_turns__33 : decode cX12_turns_ 33 = .ok (.invokevirtual 199, 3) := dq_182 (zby_at (j := 1) zbX12_turns__2 rfl) (zby_at (j := 2) zbX12_turns__2 rfl) (zby_at (j := 3) zbX12_turns__2 rfl)
theorem dX12_turns__36 : decode cX12_turns_ 36 = .ok (.ifCond .ne 7, 3) := dq_154 (zby_at (j := 4) zbX12_turns__2 rfl) (zby_at (j := 5) zbX12_turns__2 rfl) (zby_at (j := 6) zbX12_turns__2 rfl) rfl
theorem dX12_turns__39 : decode cX12_turns_ 39 = .ok (.iconst 1, 1) := dq_4 (zby_at (j := 7) zbX12_turns__2 rfl)
theorem dX12_turns__40 : decode cX12_turns_ 40 = .ok (.goto 4, 3) := dq_167 (zby_at (j := 8) zbX12_turns__2 rfl) (zby_at (j := 9) zbX12_turns__2 rfl) (zby_at (j := 10) zbX12_turns__2 rfl) rfl
theorem dX12_turns__43 : decode cX12_turns_ 43 = .ok (.iconst 0, 1) := dq_3 (zby_at (j := 11) zbX12_turns__2 rfl)
theorem dX12_turns__44 : decode cX12_turns_ 44 = .ok (.bastore, 1) := dq_84 (zby_at (j := 12) zbX12_turns__2 rfl)
theorem dX12_turns__45 : decode cX12_turns_ 45 = .ok (.iinc 2 1, 3) := dq_132 (zby_at (j := 13) zbX12_turns__2 rfl) (zby_at (j := 14) zbX12_turns__2 rfl) (zby_at (j := 15) zbX12_turns__2 rfl) rfl
theorem zbX12_turns__3 : zby cX12_turns_ 48 20 = [167, 255, 210, 177] := by decide +kernel
theorem dX12_turns__48 : decode cX12_turns_ 48 = .ok (.goto (-46), 3) := dq_167 (zby_at (j := 0) zbX12_turns__3 rfl) (zby_at (j := 1) zbX12_turns__3 rfl) (zby_at (j := 2) zbX12_turns__3 rfl) rfl
theorem dX12_turns__51 : decode cX12_turns_ 51 = .ok (.return_, 1) := dq_177 (zby_at (j := 3) zbX12_turns__3 rfl)
theorem zbX12_rank_0 : zby cX12_rank 0 20 = [26, 16, 100, 160, 0, 7, 3, 167, 0, 27, 26, 16, 50, 161, 0, 7, 6, 167, 0, 17] := by decide +kernel
theorem dX12_rank_0 : decode cX12_rank 0 = .ok (.iload_n 0, 1) := dq_26 (zby_at (j := 0) zbX12_rank_0 rfl)
theorem dX12_rank_1 : decode cX12_rank 1 = .ok (.bipush 100, 2) := dq_16 (zby_at (j := 1) zbX12_rank_0 rfl) (zby_at (j := 2) zbX12_rank_0 rfl) rfl
theorem dX12_rank_3 : decode cX12_rank 3 = .ok (.if_icmp .ne 7, 3) := dq_160 (zby_at (j := 3) zbX12_rank_0 rfl) (zby_at (j := 4) zbX12_rank_0 rfl) (zby_at (j := 5) zbX12_rank_0 rfl) rfl
theorem dX12_rank_6 : decode cX12_rank 6 = .ok (.iconst 0, 1) := dq_3 (zby_at (j := 6) zbX12_rank_0 rfl)
theorem dX12_rank_7 : decode cX12_rank 7 = .ok (.goto 27, 3) := dq_167 (zby_at (j := 7) zbX12_rank_0 rfl) (zby_at (j := 8) zbX12_rank_0 rfl) (zby_at (j := 9) zbX12_rank_0 rfl) rfl
theorem dX12_rank_10 : decode cX12_rank 10 = .ok (.iload_n 0, 1) := dq_26 (zby_at (j := 10) zbX12_rank_0 rfl)
theorem dX12_rank_11 : decode cX12_rank 11 = .ok (.bipush 50, 2) := dq_16 (zby_at (j := 11) zbX12_rank_0 rfl) (zby_at (j := 12) zbX12_rank_0 rfl) rfl
theorem dX12_rank_13 : decode cX12_rank 13 = .ok (.if_icmp .lt 7, 3) := dq_161 (zby_at (j := 13) zbX12_rank_0 rfl) (zby_at (j := 14) zbX12_rank_0 rfl) (zby_at (j := 15) zbX12_rank_0 rfl) rfl
theorem zbX12_rank_1 : zby cX12_rank 16 20 = [6, 167, 0, 17, 26, 153, 0, 8, 26, 4, 160, 0, 7, 4, 167, 0, 4, 5, 172] := by decide +kernel
theorem dX12_rank_16 : decode cX12_rank 16 = .ok (.iconst 3, 1) := dq_6 (zby_at (j := 0) zbX12_rank_1 rfl)
theorem dX12_rank_17 : decode cX12_rank 17 = .ok (.goto 17, 3) := dq_167 (zby_at (j := 1) zbX12_rank_1 rfl) (zby_at (j := 2) zbX12_rank_1 rfl) (zby_at (j := 3) zbX12_rank_1 rfl) rfl
theorem dX12_rank_20 : decode cX12_rank 20 = .ok (.iload_n 0, 1) := dq_26 (zby_at (j := 4) zbX12_rank_1 rfl)
theorem dX12_rank_21 : decode cX12_rank 21 = .ok (.ifCond .eq 8, 3) := dq_153 (zby_at (j := 5) zbX12_rank_1 rfl) (zby_at (j := 6) zbX12_rank_1 rfl) (zby_at (j := 7) zbX12_rank_1 rfl) rfl
theorem dX12_rank_24 : decode cX12_rank 24 = .ok (.iload_n 0, 1) := dq_26 (zby_at (j := 8) zbX12_rank_1 rfl)
theorem dX12_rank_25 : decode cX12_rank 25 = .ok (.iconst 1, 1) := dq_4 (zby_at (j := 9) zbX12_rank_1 rfl)
theorem dX12_rank_26 : decode cX12_rank 26 = .ok (.if_icmp .ne 7, 3) := dq_160 (zby_at (j := 10) zbX12_rank_1 rfl) (zby_at (j := 11) zbX12_rank_1 rfl) (zby_at (j := 12) zbX12_rank_1 rfl) rfl
theorem dX12_rank_29 : decode cX12_rank 29 = .ok (.iconst 1, 1) := dq_4 (zby_at (j := 13) zbX12_rank_1 rfl)
theorem dX12_rank_30 : decode cX12_rank 30 = .ok (.goto 4, 3) := dq_167 (zby_at (j := 14) zbX12_rank_1 rfl) (zby_at (j := 15) zbX12_rank_1 rfl) (zby_at (j := 16) zbX12_rank_1 rfl) rfl
theorem zbX12_rank_2 : zby cX12_rank 32 20 = [4, 5, 172] := by decide +kernel
theorem dX12_rank_33 : decode cX12_rank 33 = .ok (.iconst 2, 1) := dq_5 (zby_at (j := 1) zbX12_rank_2 rfl)
theorem dX12_rank_34 : decode cX12_rank 34 = .ok (.ireturn, 1) := dq_172 (zby_at (j := 2) zbX12_rank_2 rfl)
theorem zbX12_copiesMade_0 : zby cX12_copiesMade 0 20 = [3, 61, 28, 17, 4, 0, 162, 0, 27, 42, 180, 0, 37, 17, 4, 0, 27, 104, 28, 96] := by decide +kernel
theorem dX12_copiesMade_0 : decode cX12_copiesMade 0 = .ok (.iconst 0, 1) := dq_3 (zby_at (j := 0) zbX12_copiesMade_0 rfl)
theorem dX12_copiesMade_1 : decode cX12_copiesMade 1 = .ok (.istore_n 2, 1) := dq_61 (zby_at (j := 1) zbX12_copiesMade_0 rfl)
theorem dX12_copiesMade_2 : decode cX12_copiesMade 2 = .ok (.iload_n 2, 1) := dq_28 (zby_at (j := 2) zbX12_copiesMade_0 rfl)
theorem dX12_copiesMade_3 : decode cX12_copiesMade 3 = .ok (.sipush 1024, 3) := dq_17 (zby_at (j := 3) zbX12_copiesMade_0 rfl) (zby_at (j := 4) zbX12_copiesMade_0 rfl) (zby_at (j := 5) zbX12_copiesMade_0 rfl) rfl
theorem dX12_copiesMade_6 : decode cX12_copiesMade 6 = .ok (.if_icmp .ge 27, 3) := dq_162 (zby_at (j := 6) zbX12_copiesMade_0 rfl) (zby_at (j := 7) zbX12_copiesMade_0 rfl) (zby_at (j := 8) zbX12_copiesMade_0 rfl) rfl
theorem dX12_copiesMade_9 : decode cX12_copiesMade 9 = .ok (.aload_n 0, 1) := dq_42 (zby_at (j := 9) zbX12_copiesMade_0 rfl)
theorem dX12_copiesMade_10 : decode cX12_copiesMade 10 = .ok (.getfield 37, 3) := dq_180 (zby_at (j := 10) zbX12_copiesMade_0 rfl) (zby_at (j := 11) zbX12_copiesMade_0 rfl) (zby_at (j := 12) zbX12_copiesMade_0 rfl)
theorem dX12_copiesMade_13 : decode cX12_copiesMade 13 = .ok (.sipush 1024, 3) := dq_17 (zby_at (j := 13) zbX12_copiesMade_0 rfl) (zby_at (j := 14) zbX12_copiesMade_0 rfl) (zby_at (j := 15) zbX12_copiesMade_0 rfl) rfl
theorem zbX12_copiesMade_1 : zby cX12_copiesMade 16 20 = [27, 104, 28, 96, 42, 180, 0, 40, 28, 51, 84, 132, 2, 1, 167, 255, 228, 177] := by decide +kernel
theorem dX12_copiesMade_16 : decode cX12_copiesMade 16 = .ok (.iload_n 1, 1) := dq_27 (zby_at (j := 0) zbX12_copiesMade_1 rfl)
theorem dX12_copiesMade_17 : decode cX12_copiesMade 17 = .ok (.imul, 1) := dq_104 (zby_at (j := 1) zbX12_copiesMade_1 rfl)
theorem dX12_copiesMade_18 : decode cX12_copiesMade 18 = .ok (.iload_n 2, 1) := dq_28 (zby_at (j := 2) zbX12_copiesMade_1 rfl)
theorem dX12_copiesMade_19 : decode cX12_copiesMade 19 = .ok (.iadd, 1) := dq_96 (zby_at (j := 3) zbX12_copiesMade_1 rfl)
theorem dX12_copiesMade_20 : decode cX12_copiesMade 20 = .ok (.aload_n 0, 1) := dq_42 (zby_at (j := 4) zbX12_copiesMade_1 rfl)
theorem dX12_copiesMade_21 : decode cX12_copiesMade 21 = .ok (.getfield 40, 3) := dq_180 (zby_at (j := 5) zbX12_copiesMade_1 rfl) (zby_at (j := 6) zbX12_copiesMade_1 rfl) (zby_at (j := 7) zbX12_copiesMade_1 rfl)
theorem dX12_copiesMade_24 : decode cX12_copiesMade 24 = .ok (.iload_n 2, 1) := dq_28 (zby_at (j := 8) zbX12_copiesMade_1 rfl)
theorem dX12_copiesMade_25 : decode cX12_copiesMade 25 = .ok (.baload, 1) := dq_51 (zby_at (j := 9) zbX12_copiesMade_1 rfl)
theorem dX12_copiesMade_26 : decode cX12_copiesMade 26 = .ok (.bastore, 1) := dq_84 (zby_at (j := 10) zbX12_copiesMade_1 rfl)
theorem dX12_copiesMade_27 : decode cX12_copiesMade 27 = .ok (.iinc 2 1, 3) := dq_132 (zby_at (j := 11) zbX12_copiesMade_1 rfl) (zby_at (j := 12) zbX12_copiesMade_1 rfl) (zby_at (j := 13) zbX12_copiesMade_1 rfl) rfl
theorem dX12_copiesMade_30 : decode cX12_copiesMade 30 = .ok (.goto (-28), 3) := dq_167 (zby_at (j := 14) zbX12_copiesMade_1 rfl) (zby_at (j := 15) zbX12_copiesMade_1 rfl) (zby_at (j := 16) zbX12_copiesMade_1 rfl) rfl
theorem zbX12_copiesMade_2 : zby cX12_copiesMade 32 20 = [228, 177] := by decide +kernel
theorem dX12_copiesMade_33 : decode cX12_copiesMade 33 = .ok (.return_, 1) := dq_177 (zby_at (j := 1) zbX12_copiesMade_2 rfl)
theorem zbX12_settles_0 : zby cX12_settles 0 20 = [42, 89, 180, 0, 203, 4, 100, 181, 0, 203, 42, 180, 0, 49, 42, 180, 0, 203, 46, 60] := by decide +kernel
theorem dX12_settles_0 : decode cX12_settles 0 = .ok (.aload_n 0, 1) := dq_42 (zby_at (j := 0) zbX12_settles_0 rfl)
theorem dX12_settles_1 : decode cX12_settles 1 = .ok (.dup, 1) := dq_89 (zby_at (j := 1) zbX12_settles_0 rfl)
theorem dX12_settles_2 : decode cX12_settles 2 = .ok (.getfield 203, 3) := dq_180 (zby_at (j := 2) zbX12_settles_0 rfl) (zby_at (j := 3) zbX12_settles_0 rfl) (zby_at (j := 4) zbX12_settles_0 rfl)
theorem dX12_settles_5 : decode cX12_settles 5 = .ok (.iconst 1, 1) := dq_4 (zby_at (j := 5) zbX12_settles_0 rfl)
theorem dX12_settles_6 : decode cX12_settles 6 = .ok (.isub, 1) := dq_100 (zby_at (j := 6) zbX12_settles_0 rfl)
theorem dX12_settles_7 : decode cX12_settles 7 = .ok (.putfield 203, 3) := dq_181 (zby_at (j := 7) zbX12_settles_0 rfl) (zby_at (j := 8) zbX12_settles_0 rfl) (zby_at (j := 9) zbX12_settles_0 rfl)
theorem dX12_settles_10 : decode cX12_settles 10 = .ok (.aload_n 0, 1) := dq_42 (zby_at (j := 10) zbX12_settles_0 rfl)
theorem dX12_settles_11 : decode cX12_settles 11 = .ok (.getfield 49, 3) := dq_180 (zby_at (j := 11) zbX12_settles_0 rfl) (zby_at (j := 12) zbX12_settles_0 rfl) (zby_at (j := 13) zbX12_settles_0 rfl)
theorem dX12_settles_14 : decode cX12_settles 14 = .ok (.aload_n 0, 1) := dq_42 (zby_at (j := 14) zbX12_settles_0 rfl)
theorem dX12_settles_15 : decode cX12_settles 15 = .ok (.getfield 203, 3) := dq_180 (zby_at (j := 15) zbX12_settles_0 rfl) (zby_at (j := 16) zbX12_settles_0 rfl) (zby_at (j := 17) zbX12_settles_0 rfl)
theorem zbX12_settles_1 : zby cX12_settles 16 20 = [0, 203, 46, 60, 27, 16, 50, 161, 0, 46, 42, 27, 16, 50, 100, 42, 180, 0, 37, 17] := by decide +kernel
theorem dX12_settles_18 : decode cX12_settles 18 = .ok (.iaload, 1) := dq_46 (zby_at (j := 2) zbX12_settles_1 rfl)
theorem dX12_settles_19 : decode cX12_settles 19 = .ok (.istore_n 1, 1) := dq_60 (zby_at (j := 3) zbX12_settles_1 rfl)
theorem dX12_settles_20 : decode cX12_settles 20 = .ok (.iload_n 1, 1) := dq_27 (zby_at (j := 4) zbX12_settles_1 rfl)
theorem dX12_settles_21 : decode cX12_settles 21 = .ok (.bipush 50, 2) := dq_16 (zby_at (j := 5) zbX12_settles_1 rfl) (zby_at (j := 6) zbX12_settles_1 rfl) rfl
theorem dX12_settles_23 : decode cX12_settles 23 = .ok (.if_icmp .lt 46, 3) := dq_161 (zby_at (j := 7) zbX12_settles_1 rfl) (zby_at (j := 8) zbX12_settles_1 rfl) (zby_at (j := 9) zbX12_settles_1 rfl) rfl
theorem dX12_settles_26 : decode cX12_settles 26 = .ok (.aload_n 0, 1) := dq_42 (zby_at (j := 10) zbX12_settles_1 rfl)
theorem dX12_settles_27 : decode cX12_settles 27 = .ok (.iload_n 1, 1) := dq_27 (zby_at (j := 11) zbX12_settles_1 rfl)
theorem dX12_settles_28 : decode cX12_settles 28 = .ok (.bipush 50, 2) := dq_16 (zby_at (j := 12) zbX12_settles_1 rfl) (zby_at (j := 13) zbX12_settles_1 rfl) rfl
theorem dX12_settles_30 : decode cX12_settles 30 = .ok (.isub, 1) := dq_100 (zby_at (j := 14) zbX12_settles_1 rfl)
theorem dX12_settles_31 : decode cX12_settles 31 = .ok (.aload_n 0, 1) := dq_42 (zby_at (j := 15) zbX12_settles_1 rfl)
theorem zbX12_settles_2 : zby cX12_settles 32 20 = [180, 0, 37, 17, 4, 0, 42, 180, 0, 206, 4, 100, 104, 182, 0, 209, 42, 42, 180, 0] := by decide +kernel
theorem dX12_settles_32 : decode cX12_settles 32 = .ok (.getfield 37, 3) := dq_180 (zby_at (j := 0) zbX12_settles_2 rfl) (zby_at (j := 1) zbX12_settles_2 rfl) (zby_at (j := 2) zbX12_settles_2 rfl)
theorem dX12_settles_35 : decode cX12_settles 35 = .ok (.sipush 1024, 3) := dq_17 (zby_at (j := 3) zbX12_settles_2 rfl) (zby_at (j := 4) zbX12_settles_2 rfl) (zby_at (j := 5) zbX12_settles_2 rfl) rfl
theorem dX12_settles_38 : decode cX12_settles 38 = .ok (.aload_n 0, 1) := dq_42 (zby_at (j := 6) zbX12_settles_2 rfl)
theorem dX12_settles_39 : decode cX12_settles 39 = .ok (.getfield 206, 3) := dq_180 (zby_at (j := 7) zbX12_settles_2 rfl) (zby_at (j := 8) zbX12_settles_2 rfl) (zby_at (j := 9) zbX12_settles_2 rfl)
theorem dX12_settles_42 : decode cX12_settles 42 = .ok (.iconst 1, 1) := dq_4 (zby_at (j := 10) zbX12_settles_2 rfl)
theorem dX12_settles_43 : decode cX12_settles 43 = .ok (.isub, 1) := dq_100 (zby_at (j := 11) zbX12_settles_2 rfl)
theorem dX12_settles_44 : decode cX12_settles 44 = .ok (.imul, 1) := dq_104 (zby_at (j := 12) zbX12_settles_2 rfl)
theorem dX12_settles_45 : decode cX12_settles 45 = .ok (.invokevirtual 209, 3) := dq_182 (zby_at (j := 13) zbX12_settles_2 rfl) (zby_at (j := 14) zbX12_settles_2 rfl) (zby_at (j := 15) zbX12_settles_2 rfl)
theorem zbX12_settles_3 : zby cX12_settles 48 20 = [42, 42, 180, 0, 206, 4, 100, 182, 0, 212, 42, 89, 180, 0, 215, 4, 100, 181, 0, 215] := by decide +kernel
theorem dX12_settles_48 : decode cX12_settles 48 = .ok (.aload_n 0, 1) := dq_42 (zby_at (j := 0) zbX12_settles_3 rfl)
theorem dX12_settles_49 : decode cX12_settles 49 = .ok (.aload_n 0, 1) := dq_42 (zby_at (j := 1) zbX12_settles_3 rfl)
theorem dX12_settles_50 : decode cX12_settles 50 = .ok (.getfield 206, 3) := dq_180 (zby_at (j := 2) zbX12_settles_3 rfl) (zby_at (j := 3) zbX12_settles_3 rfl) (zby_at (j := 4) zbX12_settles_3 rfl)
theorem dX12_settles_53 : decode cX12_settles 53 = .ok (.iconst 1, 1) := dq_4 (zby_at (j := 5) zbX12_settles_3 rfl)
theorem dX12_settles_54 : decode cX12_settles 54 = .ok (.isub, 1) := dq_100 (zby_at (j := 6) zbX12_settles_3 rfl)
theorem dX12_settles_55 : decode cX12_settles 55 = .ok (.invokevirtual 212, 3) := dq_182 (zby_at (j := 7) zbX12_settles_3 rfl) (zby_at (j := 8) zbX12_settles_3 rfl) (zby_at (j := 9) zbX12_settles_3 rfl)
theorem dX12_settles_58 : decode cX12_settles 58 = .ok (.aload_n 0, 1) := dq_42 (zby_at (j := 10) zbX12_settles_3 rfl)
theorem dX12_settles_59 : decode cX12_settles 59 = .ok (.dup, 1) := dq_89 (zby_at (j := 11) zbX12_settles_3 rfl)
theorem dX12_settles_60 : decode cX12_settles 60 = .ok (.getfield 215, 3) := dq_180 (zby_at (j := 12) zbX12_settles_3 rfl) (zby_at (j := 13) zbX12_settles_3 rfl) (zby_at (j := 14) zbX12_settles_3 rfl)
theorem dX12_settles_63 : decode cX12_settles 63 = .ok (.iconst 1, 1) := dq_4 (zby_at (j := 15) zbX12_settles_3 rfl)
theorem zbX12_settles_4 : zby cX12_settles 64 20 = [100, 181, 0, 215, 177, 42, 27, 42, 180, 0, 37, 17, 4, 0, 42, 180, 0, 206, 5, 100] := by decide +kernel
theorem dX12_settles_64 : decode cX12_settles 64 = .ok (.isub, 1) := dq_100 (zby_at (j := 0) zbX12_settles_4 rfl)
theorem dX12_settles_65 : decode cX12_settles 65 = .ok (.putfield 215, 3) := dq_181 (zby_at (j := 1) zbX12_settles_4 rfl) (zby_at (j := 2) zbX12_settles_4 rfl) (zby_at (j := 3) zbX12_settles_4 rfl)
theorem dX12_settles_68 : decode cX12_settles 68 = .ok (.return_, 1) := dq_177 (zby_at (j := 4) zbX12_settles_4 rfl)
theorem dX12_settles_69 : decode cX12_settles 69 = .ok (.aload_n 0, 1) := dq_42 (zby_at (j := 5) zbX12_settles_4 rfl)
theorem dX12_settles_70 : decode cX12_settles 70 = .ok (.iload_n 1, 1) := dq_27 (zby_at (j := 6) zbX12_settles_4 rfl)
theorem dX12_settles_71 : decode cX12_settles 71 = .ok (.aload_n 0, 1) := dq_42 (zby_at (j := 7) zbX12_settles_4 rfl)
theorem dX12_settles_72 : decode cX12_settles 72 = .ok (.getfield 37, 3) := dq_180 (zby_at (j := 8) zbX12_settles_4 rfl) (zby_at (j := 9) zbX12_settles_4 rfl) (zby_at (j := 10) zbX12_settles_4 rfl)
theorem dX12_settles_75 : decode cX12_settles 75 = .ok (.sipush 1024, 3) := dq_17 (zby_at (j := 11) zbX12_settles_4 rfl) (zby_at (j := 12) zbX12_settles_4 rfl) (zby_at (j := 13) zbX12_settles_4 rfl) rfl
theorem dX12_settles_78 : decode cX12_settles 78 = .ok (.aload_n 0, 1) := dq_42 (zby_at (j := 14) zbX12_settles_4 rfl)
theorem dX12_settles_79 : decode cX12_settles 79 = .ok (.getfield 206, 3) := dq_180 (zby_at (j := 15) zbX12_settles_4 rfl) (zby_at (j := 16) zbX12_settles_4 rfl) (zby_at (j := 17) zbX12_settles_4 rfl)
theorem zbX12_settles_5 : zby cX12_settles 80 20 = [0, 206, 5, 100, 104, 42, 180, 0, 37, 17, 4, 0, 42, 180, 0, 206, 4, 100, 104, 182] := by decide +kernel
theorem dX12_settles_82 : decode cX12_settles 82 = .ok (.iconst 2, 1) := dq_5 (zby_at (j := 2) zbX12_settles_5 rfl)
theorem dX12_settles_83 : decode cX12_settles 83 = .ok (.isub, 1) := dq_100 (zby_at (j := 3) zbX12_settles_5 rfl)
theorem dX12_settles_84 : decode cX12_settles 84 = .ok (.imul, 1) := dq_104 (zby_at (j := 4) zbX12_settles_5 rfl)
theorem dX12_settles_85 : decode cX12_settles 85 = .ok (.aload_n 0, 1) := dq_42 (zby_at (j := 5) zbX12_settles_5 rfl)
theorem dX12_settles_86 : decode cX12_settles 86 = .ok (.getfield 37, 3) := dq_180 (zby_at (j := 6) zbX12_settles_5 rfl) (zby_at (j := 7) zbX12_settles_5 rfl) (zby_at (j := 8) zbX12_settles_5 rfl)
theorem dX12_settles_89 : decode cX12_settles 89 = .ok (.sipush 1024, 3) := dq_17 (zby_at (j := 9) zbX12_settles_5 rfl) (zby_at (j := 10) zbX12_settles_5 rfl) (zby_at (j := 11) zbX12_settles_5 rfl) rfl
theorem dX12_settles_92 : decode cX12_settles 92 = .ok (.aload_n 0, 1) := dq_42 (zby_at (j := 12) zbX12_settles_5 rfl)
theorem dX12_settles_93 : decode cX12_settles 93 = .ok (.getfield 206, 3) := dq_180 (zby_at (j := 13) zbX12_settles_5 rfl) (zby_at (j := 14) zbX12_settles_5 rfl) (zby_at (j := 15) zbX12_settles_5 rfl)
theorem zbX12_settles_6 : zby cX12_settles 96 20 = [4, 100, 104, 182, 0, 218, 42, 89, 180, 0, 206, 4, 100, 181, 0, 206, 42, 42, 180, 0] := by decide +kernel
theorem dX12_settles_96 : decode cX12_settles 96 = .ok (.iconst 1, 1) := dq_4 (zby_at (j := 0) zbX12_settles_6 rfl)
theorem dX12_settles_97 : decode cX12_settles 97 = .ok (.isub, 1) := dq_100 (zby_at (j := 1) zbX12_settles_6 rfl)
theorem dX12_settles_98 : decode cX12_settles 98 = .ok (.imul, 1) := dq_104 (zby_at (j := 2) zbX12_settles_6 rfl)
theorem dX12_settles_99 : decode cX12_settles 99 = .ok (.invokevirtual 218, 3) := dq_182 (zby_at (j := 3) zbX12_settles_6 rfl) (zby_at (j := 4) zbX12_settles_6 rfl) (zby_at (j := 5) zbX12_settles_6 rfl)
theorem dX12_settles_102 : decode cX12_settles 102 = .ok (.aload_n 0, 1) := dq_42 (zby_at (j := 6) zbX12_settles_6 rfl)
theorem dX12_settles_103 : decode cX12_settles 103 = .ok (.dup, 1) := dq_89 (zby_at (j := 7) zbX12_settles_6 rfl)
theorem dX12_settles_104 : decode cX12_settles 104 = .ok (.getfield 206, 3) := dq_180 (zby_at (j := 8) zbX12_settles_6 rfl) (zby_at (j := 9) zbX12_settles_6 rfl) (zby_at (j := 10) zbX12_settles_6 rfl)
theorem dX12_settles_107 : decode cX12_settles 107 = .ok (.iconst 1, 1) := dq_4 (zby_at (j := 11) zbX12_settles_6 rfl)
theorem dX12_settles_108 : decode cX12_settles 108 = .ok (.isub, 1) := dq_100 (zby_at (j := 12) zbX12_settles_6 rfl)
theorem dX12_settles_109 : decode cX12_settles 109 = .ok (.putfield 206, 3) := dq_181 (zby_at (j := 13) zbX12_settles_6 rfl) (zby_at (j := 14) zbX12_settles_6 rfl) (zby_at (j := 15) zbX12_settles_6 rfl)
theorem zbX12_settles_7 : zby cX12_settles 112 20 = [42, 42, 180, 0, 206, 4, 100, 182, 0, 212, 177] := by decide +kernel
theorem dX12_settles_112 : decode cX12_settles 112 = .ok (.aload_n 0, 1) := dq_42 (zby_at (j := 0) zbX12_settles_7 rfl)
theorem dX12_settles_113 : decode cX12_settles 113 = .ok (.aload_n 0, 1) := dq_42 (zby_at (j := 1) zbX12_settles_7 rfl)
theorem dX12_settles_114 : decode cX12_settles 114 = .ok (.getfield 206, 3) := dq_180 (zby_at (j := 2) zbX12_settles_7 rfl) (zby_at (j := 3) zbX12_settles_7 rfl) (zby_at (j := 4) zbX12_settles_7 rfl)
theorem dX12_settles_117 : decode cX12_settles 117 = .ok (.iconst 1, 1) := dq_4 (zby_at (j := 5) zbX12_settles_7 rfl)
theorem dX12_settles_118 : decode cX12_settles 118 = .ok (.isub, 1) := dq_100 (zby_at (j := 6) zbX12_settles_7 rfl)
theorem dX12_settles_119 : decode cX12_settles 119 = .ok (.invokevirtual 212, 3) := dq_182 (zby_at (j := 7) zbX12_settles_7 rfl) (zby_at (j := 8) zbX12_settles_7 rfl) (zby_at (j := 9) zbX12_settles_7 rfl)
theorem dX12_settles_122 : decode cX12_settles 122 = .ok (.return_, 1) := dq_177 (zby_at (j := 10) zbX12_settles_7 rfl)
theorem zbX12_settlesTo_0 : zby cX12_settlesTo 0 20 = [42, 180, 0, 203, 158, 0, 28, 42, 180, 0, 49, 42, 180, 0, 203, 4, 100, 46, 184, 0] := by decide +kernel
theorem dX12_settlesTo_0 : decode cX12_settlesTo 0 = .ok (.aload_n 0, 1) := dq_42 (zby_at (j := 0) zbX12_settlesTo_0 rfl)
theorem dX12_settlesTo_1 : decode cX12_settlesTo 1 = .ok (.getfield 203, 3) := dq_180 (zby_at (j := 1) zbX12_settlesTo_0 rfl) (zby_at (j := 2) zbX12_settlesTo_0 rfl) (zby_at (j := 3) zbX12_settlesTo_0 rfl)
theorem dX12_settlesTo_4 : decode cX12_settlesTo 4 = .ok (.ifCond .le 28, 3) := dq_158 (zby_at (j := 4) zbX12_settlesTo_0 rfl) (zby_at (j := 5) zbX12_settlesTo_0 rfl) (zby_at (j := 6) zbX12_settlesTo_0 rfl) rfl
theorem dX12_settlesTo_7 : decode cX12_settlesTo 7 = .ok (.aload_n 0, 1) := dq_42 (zby_at (j := 7) zbX12_settlesTo_0 rfl)
theorem dX12_settlesTo_8 : decode cX12_settlesTo 8 = .ok (.getfield 49, 3) := dq_180 (zby_at (j := 8) zbX12_settlesTo_0 rfl) (zby_at (j := 9) zbX12_settlesTo_0 rfl) (zby_at (j := 10) zbX12_settlesTo_0 rfl)
theorem dX12_settlesTo_11 : decode cX12_settlesTo 11 = .ok (.aload_n 0, 1) := dq_42 (zby_at (j := 11) zbX12_settlesTo_0 rfl)
theorem dX12_settlesTo_12 : decode cX12_settlesTo 12 = .ok (.getfield 203, 3) := dq_180 (zby_at (j := 12) zbX12_settlesTo_0 rfl) (zby_at (j := 13) zbX12_settlesTo_0 rfl) (zby_at (j := 14) zbX12_settlesTo_0 rfl)
theorem dX12_settlesTo_15 : decode cX12_settlesTo 15 = .ok (.iconst 1, 1) := dq_4 (zby_at (j := 15) zbX12_settlesTo_0 rfl)
theorem zbX12_settlesTo_1 : zby cX12_settlesTo 16 20 = [100, 46, 184, 0, 222, 27, 161, 0, 10, 42, 182, 0, 225, 167, 255, 227, 177] := by decide +kernel
theorem dX12_settlesTo_16 : decode cX12_settlesTo 16 = .ok (.isub, 1) := dq_100 (zby_at (j := 0) zbX12_settlesTo_1 rfl)
theorem dX12_settlesTo_17 : decode cX12_settlesTo 17 = .ok (.iaload, 1) := dq_46 (zby_at (j := 1) zbX12_settlesTo_1 rfl)
theorem dX12_settlesTo_18 : decode cX12_settlesTo 18 = .ok (.invokestatic 222, 3) := dq_184 (zby_at (j := 2) zbX12_settlesTo_1 rfl) (zby_at (j := 3) zbX12_settlesTo_1 rfl) (zby_at (j := 4) zbX12_settlesTo_1 rfl)
theorem dX12_settlesTo_21 : decode cX12_settlesTo 21 = .ok (.iload_n 1, 1) := dq_27 (zby_at (j := 5) zbX12_settlesTo_1 rfl)
theorem dX12_settlesTo_22 : decode cX12_settlesTo 22 = .ok (.if_icmp .lt 10, 3) := dq_161 (zby_at (j := 6) zbX12_settlesTo_1 rfl) (zby_at (j := 7) zbX12_settlesTo_1 rfl) (zby_at (j := 8) zbX12_settlesTo_1 rfl) rfl
theorem dX12_settlesTo_25 : decode cX12_settlesTo 25 = .ok (.aload_n 0, 1) := dq_42 (zby_at (j := 9) zbX12_settlesTo_1 rfl)
theorem dX12_settlesTo_26 : decode cX12_settlesTo 26 = .ok (.invokevirtual 225, 3) := dq_182 (zby_at (j := 10) zbX12_settlesTo_1 rfl) (zby_at (j := 11) zbX12_settlesTo_1 rfl) (zby_at (j := 12) zbX12_settlesTo_1 rfl)
theorem dX12_settlesTo_29 : decode cX12_settlesTo 29 = .ok (.goto (-29), 3) := dq_167 (zby_at (j := 13) zbX12_settlesTo_1 rfl) (zby_at (j := 14) zbX12_settlesTo_1 rfl) (zby_at (j := 15) zbX12_settlesTo_1 rfl) rfl
theorem zbX12_settlesTo_2 : zby cX12_settlesTo 32 20 = [177] := by decide +kernel
theorem dX12_settlesTo_32 : decode cX12_settlesTo 32 = .ok (.return_, 1) := dq_177 (zby_at (j := 0) zbX12_settlesTo_2 rfl)
theorem zbX12_opens_0 : zby cX12_opens 0 20 = [42, 180, 0, 215, 16, 6, 160, 0, 8, 42, 6, 182, 0, 176, 42, 182, 0, 157, 154, 0] := by decide +kernel
theorem dX12_opens_0 : decode cX12_opens 0 = .ok (.aload_n 0, 1) := dq_42 (zby_at (j := 0) zbX12_opens_0 rfl)
theorem dX12_opens_1 : decode cX12_opens 1 = .ok (.getfield 215, 3) := dq_180 (zby_at (j := 1) zbX12_opens_0 rfl) (zby_at (j := 2) zbX12_opens_0 rfl) (zby_at (j := 3) zbX12_opens_0 rfl)
theorem dX12_opens_4 : decode cX12_opens 4 = .ok (.bipush 6, 2) := dq_16 (zby_at (j := 4) zbX12_opens_0 rfl) (zby_at (j := 5) zbX12_opens_0 rfl) rfl
theorem dX12_opens_6 : decode cX12_opens 6 = .ok (.if_icmp .ne 8, 3) := dq_160 (zby_at (j := 6) zbX12_opens_0 rfl) (zby_at (j := 7) zbX12_opens_0 rfl) (zby_at (j := 8) zbX12_opens_0 rfl) rfl
theorem dX12_opens_9 : decode cX12_opens 9 = .ok (.aload_n 0, 1) := dq_42 (zby_at (j := 9) zbX12_opens_0 rfl)
theorem dX12_opens_10 : decode cX12_opens 10 = .ok (.iconst 3, 1) := dq_6 (zby_at (j := 10) zbX12_opens_0 rfl)
theorem dX12_opens_11 : decode cX12_opens 11 = .ok (.invokevirtual 176, 3) := dq_182 (zby_at (j := 11) zbX12_opens_0 rfl) (zby_at (j := 12) zbX12_opens_0 rfl) (zby_at (j := 13) zbX12_opens_0 rfl)
theorem dX12_opens_14 : decode cX12_opens 14 = .ok (.aload_n 0, 1) := dq_42 (zby_at (j := 14) zbX12_opens_0 rfl)
theorem dX12_opens_15 : decode cX12_opens 15 = .ok (.invokevirtual 157, 3) := dq_182 (zby_at (j := 15) zbX12_opens_0 rfl) (zby_at (j := 16) zbX12_opens_0 rfl) (zby_at (j := 17) zbX12_opens_0 rfl)
theorem zbX12_opens_1 : zby cX12_opens 16 20 = [0, 157, 154, 0, 4, 177, 42, 182, 0, 154, 42, 89, 180, 0, 215, 4, 96, 181, 0, 215] := by decide +kernel
theorem dX12_opens_18 : decode cX12_opens 18 = .ok (.ifCond .ne 4, 3) := dq_154 (zby_at (j := 2) zbX12_opens_1 rfl) (zby_at (j := 3) zbX12_opens_1 rfl) (zby_at (j := 4) zbX12_opens_1 rfl) rfl
theorem dX12_opens_21 : decode cX12_opens 21 = .ok (.return_, 1) := dq_177 (zby_at (j := 5) zbX12_opens_1 rfl)
theorem dX12_opens_22 : decode cX12_opens 22 = .ok (.aload_n 0, 1) := dq_42 (zby_at (j := 6) zbX12_opens_1 rfl)
theorem dX12_opens_23 : decode cX12_opens 23 = .ok (.invokevirtual 154, 3) := dq_182 (zby_at (j := 7) zbX12_opens_1 rfl) (zby_at (j := 8) zbX12_opens_1 rfl) (zby_at (j := 9) zbX12_opens_1 rfl)
theorem dX12_opens_26 : decode cX12_opens 26 = .ok (.aload_n 0, 1) := dq_42 (zby_at (j := 10) zbX12_opens_1 rfl)
theorem dX12_opens_27 : decode cX12_opens 27 = .ok (.dup, 1) := dq_89 (zby_at (j := 11) zbX12_opens_1 rfl)
theorem dX12_opens_28 : decode cX12_opens 28 = .ok (.getfield 215, 3) := dq_180 (zby_at (j := 12) zbX12_opens_1 rfl) (zby_at (j := 13) zbX12_opens_1 rfl) (zby_at (j := 14) zbX12_opens_1 rfl)
theorem dX12_opens_31 : decode cX12_opens 31 = .ok (.iconst 1, 1) := dq_4 (zby_at (j := 15) zbX12_opens_1 rfl)
theorem zbX12_opens_2 : zby cX12_opens 32 20 = [96, 181, 0, 215, 42, 180, 0, 49, 42, 180, 0, 203, 27, 79, 42, 89, 180, 0, 203, 4] := by decide +kernel
theorem dX12_opens_32 : decode cX12_opens 32 = .ok (.iadd, 1) := dq_96 (zby_at (j := 0) zbX12_opens_2 rfl)
theorem dX12_opens_33 : decode cX12_opens 33 = .ok (.putfield 215, 3) := dq_181 (zby_at (j := 1) zbX12_opens_2 rfl) (zby_at (j := 2) zbX12_opens_2 rfl) (zby_at (j := 3) zbX12_opens_2 rfl)
theorem dX12_opens_36 : decode cX12_opens 36 = .ok (.aload_n 0, 1) := dq_42 (zby_at (j := 4) zbX12_opens_2 rfl)
theorem dX12_opens_37 : decode cX12_opens 37 = .ok (.getfield 49, 3) := dq_180 (zby_at (j := 5) zbX12_opens_2 rfl) (zby_at (j := 6) zbX12_opens_2 rfl) (zby_at (j := 7) zbX12_opens_2 rfl)
theorem dX12_opens_40 : decode cX12_opens 40 = .ok (.aload_n 0, 1) := dq_42 (zby_at (j := 8) zbX12_opens_2 rfl)
theorem dX12_opens_41 : decode cX12_opens 41 = .ok (.getfield 203, 3) := dq_180 (zby_at (j := 9) zbX12_opens_2 rfl) (zby_at (j := 10) zbX12_opens_2 rfl) (zby_at (j := 11) zbX12_opens_2 rfl)
theorem dX12_opens_44 : decode cX12_opens 44 = .ok (.iload_n 1, 1) := dq_27 (zby_at (j := 12) zbX12_opens_2 rfl)
theorem dX12_opens_45 : decode cX12_opens 45 = .ok (.iastore, 1) := dq_79 (zby_at (j := 13) zbX12_opens_2 rfl)
theorem dX12_opens_46 : decode cX12_opens 46 = .ok (.aload_n 0, 1) := dq_42 (zby_at (j := 14) zbX12_opens_2 rfl)
theorem dX12_opens_47 : decode cX12_opens 47 = .ok (.dup, 1) := dq_89 (zby_at (j := 15) zbX12_opens_2 rfl)
theorem zbX12_opens_3 : zby cX12_opens 48 20 = [180, 0, 203, 4, 96, 181, 0, 203, 177] := by decide +kernel
theorem dX12_opens_48 : decode cX12_opens 48 = .ok (.getfield 203, 3) := dq_180 (zby_at (j := 0) zbX12_opens_3 rfl) (zby_at (j := 1) zbX12_opens_3 rfl) (zby_at (j := 2) zbX12_opens_3 rfl)
theorem dX12_opens_51 : decode cX12_opens 51 = .ok (.iconst 1, 1) := dq_4 (zby_at (j := 3) zbX12_opens_3 rfl)
theorem dX12_opens_52 : decode cX12_opens 52 = .ok (.iadd, 1) := dq_96 (zby_at (j := 4) zbX12_opens_3 rfl)
theorem dX12_opens_53 : decode cX12_opens 53 = .ok (.putfield 203, 3) := dq_181 (zby_at (j := 5) zbX12_opens_3 rfl) (zby_at (j := 6) zbX12_opens_3 rfl) (zby_at (j := 7) zbX12_opens_3 rfl)
theorem dX12_opens_56 : decode cX12_opens 56 = .ok (.return_, 1) := dq_177 (zby_at (j := 8) zbX12_opens_3 rfl)
theorem zbX12_prefixOf_0 : zby cX12_prefixOf 0 20 = [42, 18, 228, 182, 0, 169, 153, 0, 7, 3, 167, 0, 69, 42, 18, 229, 182, 0, 169, 153] := by decide +kernel
theorem dX12_prefixOf_0 : decode cX12_prefixOf 0 = .ok (.aload_n 0, 1) := dq_42 (zby_at (j := 0) zbX12_prefixOf_0 rfl)
theorem dX12_prefixOf_1 : decode cX12_prefixOf 1 = .ok (.ldc 228, 2) := dq_18 (zby_at (j := 1) zbX12_prefixOf_0 rfl) (zby_at (j := 2) zbX12_prefixOf_0 rfl)
theorem dX12_prefixOf_3 : decode cX12_prefixOf 3 = .ok (.invokevirtual 169, 3) := dq_182 (zby_at (j := 3) zbX12_prefixOf_0 rfl) (zby_at (j := 4) zbX12_prefixOf_0 rfl) (zby_at (j := 5) zbX12_prefixOf_0 rfl)
theorem dX12_prefixOf_6 : decode cX12_prefixOf 6 = .ok (.ifCond .eq 7, 3) := dq_153 (zby_at (j := 6) zbX12_prefixOf_0 rfl) (zby_at (j := 7) zbX12_prefixOf_0 rfl) (zby_at (j := 8) zbX12_prefixOf_0 rfl) rfl
theorem dX12_prefixOf_9 : decode cX12_prefixOf 9 = .ok (.iconst 0, 1) := dq_3 (zby_at (j := 9) zbX12_prefixOf_0 rfl)
theorem dX12_prefixOf_10 : decode cX12_prefixOf 10 = .ok (.goto 69, 3) := dq_167 (zby_at (j := 10) zbX12_prefixOf_0 rfl) (zby_at (j := 11) zbX12_prefixOf_0 rfl) (zby_at (j := 12) zbX12_prefixOf_0 rfl) rfl
theorem dX12_prefixOf_13 : decode cX12_prefixOf 13 = .ok (.aload_n 0, 1) := dq_42 (zby_at (j := 13) zbX12_prefixOf_0 rfl)
theorem dX12_prefixOf_14 : decode cX12_prefixOf 14 = .ok (.ldc 229, 2) := dq_18 (zby_at (j := 14) zbX12_prefixOf_0 rfl) (zby_at (j := 15) zbX12_prefixOf_0 rfl)
theorem zbX12_prefixOf_1 : zby cX12_prefixOf 16 20 = [182, 0, 169, 153, 0, 7, 4, 167, 0, 56, 42, 18, 231, 182, 0, 169, 153, 0, 7, 5] := by decide +kernel
theorem dX12_prefixOf_16 : decode cX12_prefixOf 16 = .ok (.invokevirtual 169, 3) := dq_182 (zby_at (j := 0) zbX12_prefixOf_1 rfl) (zby_at (j := 1) zbX12_prefixOf_1 rfl) (zby_at (j := 2) zbX12_prefixOf_1 rfl)
theorem dX12_prefixOf_19 : decode cX12_prefixOf 19 = .ok (.ifCond .eq 7, 3) := dq_153 (zby_at (j := 3) zbX12_prefixOf_1 rfl) (zby_at (j := 4) zbX12_prefixOf_1 rfl) (zby_at (j := 5) zbX12_prefixOf_1 rfl) rfl
theorem dX12_prefixOf_22 : decode cX12_prefixOf 22 = .ok (.iconst 1, 1) := dq_4 (zby_at (j := 6) zbX12_prefixOf_1 rfl)
theorem dX12_prefixOf_23 : decode cX12_prefixOf 23 = .ok (.goto 56, 3) := dq_167 (zby_at (j := 7) zbX12_prefixOf_1 rfl) (zby_at (j := 8) zbX12_prefixOf_1 rfl) (zby_at (j := 9) zbX12_prefixOf_1 rfl) rfl
theorem dX12_prefixOf_26 : decode cX12_prefixOf 26 = .ok (.aload_n 0, 1) := dq_42 (zby_at (j := 10) zbX12_prefixOf_1 rfl)
theorem dX12_prefixOf_27 : decode cX12_prefixOf 27 = .ok (.ldc 231, 2) := dq_18 (zby_at (j := 11) zbX12_prefixOf_1 rfl) (zby_at (j := 12) zbX12_prefixOf_1 rfl)
theorem dX12_prefixOf_29 : decode cX12_prefixOf 29 = .ok (.invokevirtual 169, 3) := dq_182 (zby_at (j := 13) zbX12_prefixOf_1 rfl) (zby_at (j := 14) zbX12_prefixOf_1 rfl) (zby_at (j := 15) zbX12_prefixOf_1 rfl)
theorem zbX12_prefixOf_2 : zby cX12_prefixOf 32 20 = [153, 0, 7, 5, 167, 0, 43, 42, 18, 233, 182, 0, 169, 153, 0, 7, 6, 167, 0, 30] := by decide +kernel
theorem dX12_prefixOf_32 : decode cX12_prefixOf 32 = .ok (.ifCond .eq 7, 3) := dq_153 (zby_at (j := 0) zbX12_prefixOf_2 rfl) (zby_at (j := 1) zbX12_prefixOf_2 rfl) (zby_at (j := 2) zbX12_prefixOf_2 rfl) rfl
theorem dX12_prefixOf_35 : decode cX12_prefixOf 35 = .ok (.iconst 2, 1) := dq_5 (zby_at (j := 3) zbX12_prefixOf_2 rfl)
theorem dX12_prefixOf_36 : decode cX12_prefixOf 36 = .ok (.goto 43, 3) := dq_167 (zby_at (j := 4) zbX12_prefixOf_2 rfl) (zby_at (j := 5) zbX12_prefixOf_2 rfl) (zby_at (j := 6) zbX12_prefixOf_2 rfl) rfl
theorem dX12_prefixOf_39 : decode cX12_prefixOf 39 = .ok (.aload_n 0, 1) := dq_42 (zby_at (j := 7) zbX12_prefixOf_2 rfl)
theorem dX12_prefixOf_40 : decode cX12_prefixOf 40 = .ok (.ldc 233, 2) := dq_18 (zby_at (j := 8) zbX12_prefixOf_2 rfl) (zby_at (j := 9) zbX12_prefixOf_2 rfl)
theorem dX12_prefixOf_42 : decode cX12_prefixOf 42 = .ok (.invokevirtual 169, 3) := dq_182 (zby_at (j := 10) zbX12_prefixOf_2 rfl) (zby_at (j := 11) zbX12_prefixOf_2 rfl) (zby_at (j := 12) zbX12_prefixOf_2 rfl)
theorem dX12_prefixOf_45 : decode cX12_prefixOf 45 = .ok (.ifCond .eq 7, 3) := dq_153 (zby_at (j := 13) zbX12_prefixOf_2 rfl) (zby_at (j := 14) zbX12_prefixOf_2 rfl) (zby_at (j := 15) zbX12_prefixOf_2 rfl) rfl
theorem zbX12_prefixOf_3 : zby cX12_prefixOf 48 20 = [6, 167, 0, 30, 42, 18, 235, 182, 0, 169, 153, 0, 7, 7, 167, 0, 17, 42, 18, 237] := by decide +kernel
theorem dX12_prefixOf_48 : decode cX12_prefixOf 48 = .ok (.iconst 3, 1) := dq_6 (zby_at (j := 0) zbX12_prefixOf_3 rfl)
theorem dX12_prefixOf_49 : decode cX12_prefixOf 49 = .ok (.goto 30, 3) := dq_167 (zby_at (j := 1) zbX12_prefixOf_3 rfl) (zby_at (j := 2) zbX12_prefixOf_3 rfl) (zby_at (j := 3) zbX12_prefixOf_3 rfl) rfl
theorem dX12_prefixOf_52 : decode cX12_prefixOf 52 = .ok (.aload_n 0, 1) := dq_42 (zby_at (j := 4) zbX12_prefixOf_3 rfl)
theorem dX12_prefixOf_53 : decode cX12_prefixOf 53 = .ok (.ldc 235, 2) := dq_18 (zby_at (j := 5) zbX12_prefixOf_3 rfl) (zby_at (j := 6) zbX12_prefixOf_3 rfl)
theorem dX12_prefixOf_55 : decode cX12_prefixOf 55 = .ok (.invokevirtual 169, 3) := dq_182 (zby_at (j := 7) zbX12_prefixOf_3 rfl) (zby_at (j := 8) zbX12_prefixOf_3 rfl) (zby_at (j := 9) zbX12_prefixOf_3 rfl)
theorem dX12_prefixOf_58 : decode cX12_prefixOf 58 = .ok (.ifCond .eq 7, 3) := dq_153 (zby_at (j := 10) zbX12_prefixOf_3 rfl) (zby_at (j := 11) zbX12_prefixOf_3 rfl) (zby_at (j := 12) zbX12_prefixOf_3 rfl) rfl
theorem dX12_prefixOf_61 : decode cX12_prefixOf 61 = .ok (.iconst 4, 1) := dq_7 (zby_at (j := 13) zbX12_prefixOf_3 rfl)
theorem dX12_prefixOf_62 : decode cX12_prefixOf 62 = .ok (.goto 17, 3) := dq_167 (zby_at (j := 14) zbX12_prefixOf_3 rfl) (zby_at (j := 15) zbX12_prefixOf_3 rfl) (zby_at (j := 16) zbX12_prefixOf_3 rfl) rfl
theorem zbX12_prefixOf_4 : zby cX12_prefixOf 64 20 = [17, 42, 18, 237, 182, 0, 169, 153, 0, 7, 8, 167, 0, 4, 2, 172] := by decide +kernel
theorem dX12_prefixOf_65 : decode cX12_prefixOf 65 = .ok (.aload_n 0, 1) := dq_42 (zby_at (j := 1) zbX12_prefixOf_4 rfl)
theorem dX12_prefixOf_66 : decode cX12_prefixOf 66 = .ok (.ldc 237, 2) := dq_18 (zby_at (j := 2) zbX12_prefixOf_4 rfl) (zby_at (j := 3) zbX12_prefixOf_4 rfl)
theorem dX12_prefixOf_68 : decode cX12_prefixOf 68 = .ok (.invokevirtual 169, 3) := dq_182 (zby_at (j := 4) zbX12_prefixOf_4 rfl) (zby_at (j := 5) zbX12_prefixOf_4 rfl) (zby_at (j := 6) zbX12_prefixOf_4 rfl)
theorem dX12_prefixOf_71 : decode cX12_prefixOf 71 = .ok (.ifCond .eq 7, 3) := dq_153 (zby_at (j := 7) zbX12_prefixOf_4 rfl) (zby_at (j := 8) zbX12_prefixOf_4 rfl) (zby_at (j := 9) zbX12_prefixOf_4 rfl) rfl
theorem dX12_prefixOf_74 : decode cX12_prefixOf 74 = .ok (.iconst 5, 1) := dq_8 (zby_at (j := 10) zbX12_prefixOf_4 rfl)
theorem dX12_prefixOf_75 : decode cX12_prefixOf 75 = .ok (.goto 4, 3) := dq_167 (zby_at (j := 11) zbX12_prefixOf_4 rfl) (zby_at (j := 12) zbX12_prefixOf_4 rfl) (zby_at (j := 13) zbX12_prefixOf_4 rfl) rfl
theorem dX12_prefixOf_78 : decode cX12_prefixOf 78 = .ok (.iconst (-1), 1) := dq_2 (zby_at (j := 14) zbX12_prefixOf_4 rfl)
theorem dX12_prefixOf_79 : decode cX12_prefixOf 79 = .ok (.ireturn, 1) := dq_172 (zby_at (j := 15) zbX12_prefixOf_4 rfl)
theorem zbX12_signOf_0 : zby cX12_signOf 0 20 = [26, 16, 43, 160, 0, 7, 3, 167, 0, 65, 26, 16, 45, 160, 0, 7, 4, 167, 0, 55] := by decide +kernel
theorem dX12_signOf_0 : decode cX12_signOf 0 = .ok (.iload_n 0, 1) := dq_26 (zby_at (j := 0) zbX12_signOf_0 rfl)
theorem dX12_signOf_1 : decode cX12_signOf 1 = .ok (.bipush 43, 2) := dq_16 (zby_at (j := 1) zbX12_signOf_0 rfl) (zby_at (j := 2) zbX12_signOf_0 rfl) rfl
theorem dX12_signOf_3 : decode cX12_signOf 3 = .ok (.if_icmp .ne 7, 3) := dq_160 (zby_at (j := 3) zbX12_signOf_0 rfl) (zby_at (j := 4) zbX12_signOf_0 rfl) (zby_at (j := 5) zbX12_signOf_0 rfl) rfl
theorem dX12_signOf_6 : decode cX12_signOf 6 = .ok (.iconst 0, 1) := dq_3 (zby_at (j := 6) zbX12_signOf_0 rfl)
theorem dX12_signOf_7 : decode cX12_signOf 7 = .ok (.goto 65, 3) := dq_167 (zby_at (j := 7) zbX12_signOf_0 rfl) (zby_at (j := 8) zbX12_signOf_0 rfl) (zby_at (j := 9) zbX12_signOf_0 rfl) rfl
theorem dX12_signOf_10 : decode cX12_signOf 10 = .ok (.iload_n 0, 1) := dq_26 (zby_at (j := 10) zbX12_signOf_0 rfl)
theorem dX12_signOf_11 : decode cX12_signOf 11 = .ok (.bipush 45, 2) := dq_16 (zby_at (j := 11) zbX12_signOf_0 rfl) (zby_at (j := 12) zbX12_signOf_0 rfl) rfl
theorem dX12_signOf_13 : decode cX12_signOf 13 = .ok (.if_icmp .ne 7, 3) := dq_160 (zby_at (j := 13) zbX12_signOf_0 rfl) (zby_at (j := 14) zbX12_signOf_0 rfl) (zby_at (j := 15) zbX12_signOf_0 rfl) rfl
theorem zbX12_signOf_1 : zby cX12_signOf 16 20 = [4, 167, 0, 55, 26, 16, 38, 160, 0, 7, 5, 167, 0, 45, 26, 16, 42, 160, 0, 7] := by decide +kernel
theorem dX12_signOf_16 : decode cX12_signOf 16 = .ok (.iconst 1, 1) := dq_4 (zby_at (j := 0) zbX12_signOf_1 rfl)
theorem dX12_signOf_17 : decode cX12_signOf 17 = .ok (.goto 55, 3) := dq_167 (zby_at (j := 1) zbX12_signOf_1 rfl) (zby_at (j := 2) zbX12_signOf_1 rfl) (zby_at (j := 3) zbX12_signOf_1 rfl) rfl
theorem dX12_signOf_20 : decode cX12_signOf 20 = .ok (.iload_n 0, 1) := dq_26 (zby_at (j := 4) zbX12_signOf_1 rfl)
theorem dX12_signOf_21 : decode cX12_signOf 21 = .ok (.bipush 38, 2) := dq_16 (zby_at (j := 5) zbX12_signOf_1 rfl) (zby_at (j := 6) zbX12_signOf_1 rfl) rfl
theorem dX12_signOf_23 : decode cX12_signOf 23 = .ok (.if_icmp .ne 7, 3) := dq_160 (zby_at (j := 7) zbX12_signOf_1 rfl) (zby_at (j := 8) zbX12_signOf_1 rfl) (zby_at (j := 9) zbX12_signOf_1 rfl) rfl
theorem dX12_signOf_26 : decode cX12_signOf 26 = .ok (.iconst 2, 1) := dq_5 (zby_at (j := 10) zbX12_signOf_1 rfl)
theorem dX12_signOf_27 : decode cX12_signOf 27 = .ok (.goto 45, 3) := dq_167 (zby_at (j := 11) zbX12_signOf_1 rfl) (zby_at (j := 12) zbX12_signOf_1 rfl) (zby_at (j := 13) zbX12_signOf_1 rfl) rfl
theorem dX12_signOf_30 : decode cX12_signOf 30 = .ok (.iload_n 0, 1) := dq_26 (zby_at (j := 14) zbX12_signOf_1 rfl)
theorem dX12_signOf_31 : decode cX12_signOf 31 = .ok (.bipush 42, 2) := dq_16 (zby_at (j := 15) zbX12_signOf_1 rfl) (zby_at (j := 16) zbX12_signOf_1 rfl) rfl
theorem zbX12_signOf_2 : zby cX12_signOf 32 20 = [42, 160, 0, 7, 6, 167, 0, 35, 26, 16, 47, 160, 0, 7, 7, 167, 0, 25, 26, 16] := by decide +kernel
theorem dX12_signOf_33 : decode cX12_signOf 33 = .ok (.if_icmp .ne 7, 3) := dq_160 (zby_at (j := 1) zbX12_signOf_2 rfl) (zby_at (j := 2) zbX12_signOf_2 rfl) (zby_at (j := 3) zbX12_signOf_2 rfl) rfl
theorem dX12_signOf_36 : decode cX12_signOf 36 = .ok (.iconst 3, 1) := dq_6 (zby_at (j := 4) zbX12_signOf_2 rfl)
theorem dX12_signOf_37 : decode cX12_signOf 37 = .ok (.goto 35, 3) := dq_167 (zby_at (j := 5) zbX12_signOf_2 rfl) (zby_at (j := 6) zbX12_signOf_2 rfl) (zby_at (j := 7) zbX12_signOf_2 rfl) rfl
theorem dX12_signOf_40 : decode cX12_signOf 40 = .ok (.iload_n 0, 1) := dq_26 (zby_at (j := 8) zbX12_signOf_2 rfl)
theorem dX12_signOf_41 : decode cX12_signOf 41 = .ok (.bipush 47, 2) := dq_16 (zby_at (j := 9) zbX12_signOf_2 rfl) (zby_at (j := 10) zbX12_signOf_2 rfl) rfl
theorem dX12_signOf_43 : decode cX12_signOf 43 = .ok (.if_icmp .ne 7, 3) := dq_160 (zby_at (j := 11) zbX12_signOf_2 rfl) (zby_at (j := 12) zbX12_signOf_2 rfl) (zby_at (j := 13) zbX12_signOf_2 rfl) rfl
theorem dX12_signOf_46 : decode cX12_signOf 46 = .ok (.iconst 4, 1) := dq_7 (zby_at (j := 14) zbX12_signOf_2 rfl)
theorem dX12_signOf_47 : decode cX12_signOf 47 = .ok (.goto 25, 3) := dq_167 (zby_at (j := 15) zbX12_signOf_2 rfl) (zby_at (j := 16) zbX12_signOf_2 rfl) (zby_at (j := 17) zbX12_signOf_2 rfl) rfl
theorem zbX12_signOf_3 : zby cX12_signOf 48 20 = [0, 25, 26, 16, 37, 160, 0, 7, 8, 167, 0, 15, 26, 16, 35, 160, 0, 8, 16, 6] := by decide +kernel
theorem dX12_signOf_50 : decode cX12_signOf 50 = .ok (.iload_n 0, 1) := dq_26 (zby_at (j := 2) zbX12_signOf_3 rfl)
theorem dX12_signOf_51 : decode cX12_signOf 51 = .ok (.bipush 37, 2) := dq_16 (zby_at (j := 3) zbX12_signOf_3 rfl) (zby_at (j := 4) zbX12_signOf_3 rfl) rfl
theorem dX12_signOf_53 : decode cX12_signOf 53 = .ok (.if_icmp .ne 7, 3) := dq_160 (zby_at (j := 5) zbX12_signOf_3 rfl) (zby_at (j := 6) zbX12_signOf_3 rfl) (zby_at (j := 7) zbX12_signOf_3 rfl) rfl
theorem dX12_signOf_56 : decode cX12_signOf 56 = .ok (.iconst 5, 1) := dq_8 (zby_at (j := 8) zbX12_signOf_3 rfl)
theorem dX12_signOf_57 : decode cX12_signOf 57 = .ok (.goto 15, 3) := dq_167 (zby_at (j := 9) zbX12_signOf_3 rfl) (zby_at (j := 10) zbX12_signOf_3 rfl) (zby_at (j := 11) zbX12_signOf_3 rfl) rfl
theorem dX12_signOf_60 : decode cX12_signOf 60 = .ok (.iload_n 0, 1) := dq_26 (zby_at (j := 12) zbX12_signOf_3 rfl)
theorem dX12_signOf_61 : decode cX12_signOf 61 = .ok (.bipush 35, 2) := dq_16 (zby_at (j := 13) zbX12_signOf_3 rfl) (zby_at (j := 14) zbX12_signOf_3 rfl) rfl
theorem dX12_signOf_63 : decode cX12_signOf 63 = .ok (.if_icmp .ne 8, 3) := dq_160 (zby_at (j := 15) zbX12_signOf_3 rfl) (zby_at (j := 16) zbX12_signOf_3 rfl) (zby_at (j := 17) zbX12_signOf_3 rfl) rfl
theorem zbX12_signOf_4 : zby cX12_signOf 64 20 = [0, 8, 16, 6, 167, 0, 4, 2, 172] := by decide +kernel
theorem dX12_signOf_66 : decode cX12_signOf 66 = .ok (.bipush 6, 2) := dq_16 (zby_at (j := 2) zbX12_signOf_4 rfl) (zby_at (j := 3) zbX12_signOf_4 rfl) rfl
theorem dX12_signOf_68 : decode cX12_signOf 68 = .ok (.goto 4, 3) := dq_167 (zby_at (j := 4) zbX12_signOf_4 rfl) (zby_at (j := 5) zbX12_signOf_4 rfl) (zby_at (j := 6) zbX12_signOf_4 rfl) rfl
theorem dX12_signOf_71 : decode cX12_signOf 71 = .ok (.iconst (-1), 1) := dq_2 (zby_at (j := 7) zbX12_signOf_4 rfl)
theorem dX12_signOf_72 : decode cX12_signOf 72 = .ok (.ireturn, 1) := dq_172 (zby_at (j := 8) zbX12_signOf_4 rfl)
theorem zbX12_wordSet_0 : zby cX12_wordSet 0 20 = [3, 61, 42, 180, 0, 120, 62, 29, 42, 180, 0, 113, 162, 0, 50, 42, 180, 0, 26, 29] := by decide +kernel
theorem dX12_wordSet_0 : decode cX12_wordSet 0 = .ok (.iconst 0, 1) := dq_3 (zby_at (j := 0) zbX12_wordSet_0 rfl)
theorem dX12_wordSet_1 : decode cX12_wordSet 1 = .ok (.istore_n 2, 1) := dq_61 (zby_at (j := 1) zbX12_wordSet_0 rfl)
theorem dX12_wordSet_2 : decode cX12_wordSet 2 = .ok (.aload_n 0, 1) := dq_42 (zby_at (j := 2) zbX12_wordSet_0 rfl)
theorem dX12_wordSet_3 : decode cX12_wordSet 3 = .ok (.getfield 120, 3) := dq_180 (zby_at (j := 3) zbX12_wordSet_0 rfl) (zby_at (j := 4) zbX12_wordSet_0 rfl) (zby_at (j := 5) zbX12_wordSet_0 rfl)
theorem dX12_wordSet_6 : decode cX12_wordSet 6 = .ok (.istore_n 3, 1) := dq_62 (zby_at (j := 6) zbX12_wordSet_0 rfl)
theorem dX12_wordSet_7 : decode cX12_wordSet 7 = .ok (.iload_n 3, 1) := dq_29 (zby_at (j := 7) zbX12_wordSet_0 rfl)
theorem dX12_wordSet_8 : decode cX12_wordSet 8 = .ok (.aload_n 0, 1) := dq_42 (zby_at (j := 8) zbX12_wordSet_0 rfl)
theorem dX12_wordSet_9 : decode cX12_wordSet 9 = .ok (.getfield 113, 3) := dq_180 (zby_at (j := 9) zbX12_wordSet_0 rfl) (zby_at (j := 10) zbX12_wordSet_0 rfl) (zby_at (j := 11) zbX12_wordSet_0 rfl)
theorem dX12_wordSet_12 : decode cX12_wordSet 12 = .ok (.if_icmp .ge 50, 3) := dq_162 (zby_at (j := 12) zbX12_wordSet_0 rfl) (zby_at (j := 13) zbX12_wordSet_0 rfl) (zby_at (j := 14) zbX12_wordSet_0 rfl) rfl
theorem dX12_wordSet_15 : decode cX12_wordSet 15 = .ok (.aload_n 0, 1) := dq_42 (zby_at (j := 15) zbX12_wordSet_0 rfl)
theorem zbX12_wordSet_1 : zby cX12_wordSet 16 20 = [180, 0, 26, 29, 51, 16, 97, 100, 54, 4, 21, 4, 27, 162, 0, 13, 28, 21, 4, 122] := by decide +kernel
theorem dX12_wordSet_16 : decode cX12_wordSet 16 = .ok (.getfield 26, 3) := dq_180 (zby_at (j := 0) zbX12_wordSet_1 rfl) (zby_at (j := 1) zbX12_wordSet_1 rfl) (zby_at (j := 2) zbX12_wordSet_1 rfl)
theorem dX12_wordSet_19 : decode cX12_wordSet 19 = .ok (.iload_n 3, 1) := dq_29 (zby_at (j := 3) zbX12_wordSet_1 rfl)
theorem dX12_wordSet_20 : decode cX12_wordSet 20 = .ok (.baload, 1) := dq_51 (zby_at (j := 4) zbX12_wordSet_1 rfl)
theorem dX12_wordSet_21 : decode cX12_wordSet 21 = .ok (.bipush 97, 2) := dq_16 (zby_at (j := 5) zbX12_wordSet_1 rfl) (zby_at (j := 6) zbX12_wordSet_1 rfl) rfl
theorem dX12_wordSet_23 : decode cX12_wordSet 23 = .ok (.isub, 1) := dq_100 (zby_at (j := 7) zbX12_wordSet_1 rfl)
theorem dX12_wordSet_24 : decode cX12_wordSet 24 = .ok (.istore 4, 2) := dq_54 (zby_at (j := 8) zbX12_wordSet_1 rfl) (zby_at (j := 9) zbX12_wordSet_1 rfl)
theorem dX12_wordSet_26 : decode cX12_wordSet 26 = .ok (.iload 4, 2) := dq_21 (zby_at (j := 10) zbX12_wordSet_1 rfl) (zby_at (j := 11) zbX12_wordSet_1 rfl)
theorem dX12_wordSet_28 : decode cX12_wordSet 28 = .ok (.iload_n 1, 1) := dq_27 (zby_at (j := 12) zbX12_wordSet_1 rfl)
theorem dX12_wordSet_29 : decode cX12_wordSet 29 = .ok (.if_icmp .ge 13, 3) := dq_162 (zby_at (j := 13) zbX12_wordSet_1 rfl) (zby_at (j := 14) zbX12_wordSet_1 rfl) (zby_at (j := 15) zbX12_wordSet_1 rfl) rfl
theorem zbX12_wordSet_2 : zby cX12_wordSet 32 20 = [28, 21, 4, 122, 4, 126, 4, 160, 0, 10, 42, 5, 182, 0, 176, 3, 172, 28, 4, 21] := by decide +kernel
theorem dX12_wordSet_32 : decode cX12_wordSet 32 = .ok (.iload_n 2, 1) := dq_28 (zby_at (j := 0) zbX12_wordSet_2 rfl)
theorem dX12_wordSet_33 : decode cX12_wordSet 33 = .ok (.iload 4, 2) := dq_21 (zby_at (j := 1) zbX12_wordSet_2 rfl) (zby_at (j := 2) zbX12_wordSet_2 rfl)
theorem dX12_wordSet_35 : decode cX12_wordSet 35 = .ok (.ishr, 1) := dq_122 (zby_at (j := 3) zbX12_wordSet_2 rfl)
theorem dX12_wordSet_36 : decode cX12_wordSet 36 = .ok (.iconst 1, 1) := dq_4 (zby_at (j := 4) zbX12_wordSet_2 rfl)
theorem dX12_wordSet_37 : decode cX12_wordSet 37 = .ok (.iand, 1) := dq_126 (zby_at (j := 5) zbX12_wordSet_2 rfl)
theorem dX12_wordSet_38 : decode cX12_wordSet 38 = .ok (.iconst 1, 1) := dq_4 (zby_at (j := 6) zbX12_wordSet_2 rfl)
theorem dX12_wordSet_39 : decode cX12_wordSet 39 = .ok (.if_icmp .ne 10, 3) := dq_160 (zby_at (j := 7) zbX12_wordSet_2 rfl) (zby_at (j := 8) zbX12_wordSet_2 rfl) (zby_at (j := 9) zbX12_wordSet_2 rfl) rfl
theorem dX12_wordSet_42 : decode cX12_wordSet 42 = .ok (.aload_n 0, 1) := dq_42 (zby_at (j := 10) zbX12_wordSet_2 rfl)
theorem dX12_wordSet_43 : decode cX12_wordSet 43 = .ok (.iconst 2, 1) := dq_5 (zby_at (j := 11) zbX12_wordSet_2 rfl)
theorem dX12_wordSet_44 : decode cX12_wordSet 44 = .ok (.invokevirtual 176, 3) := dq_182 (zby_at (j := 12) zbX12_wordSet_2 rfl) (zby_at (j := 13) zbX12_wordSet_2 rfl) (zby_at (j := 14) zbX12_wordSet_2 rfl)
theorem dX12_wordSet_47 : decode cX12_wordSet 47 = .ok (.iconst 0, 1) := dq_3 (zby_at (j := 15) zbX12_wordSet_2 rfl)
theorem zbX12_wordSet_3 : zby cX12_wordSet 48 20 = [172, 28, 4, 21, 4, 120, 128, 61, 132, 3, 1, 167, 255, 204, 28, 172] := by decide +kernel
theorem dX12_wordSet_48 : decode cX12_wordSet 48 = .ok (.ireturn, 1) := dq_172 (zby_at (j := 0) zbX12_wordSet_3 rfl)
theorem dX12_wordSet_49 : decode cX12_wordSet 49 = .ok (.iload_n 2, 1) := dq_28 (zby_at (j := 1) zbX12_wordSet_3 rfl)
theorem dX12_wordSet_50 : decode cX12_wordSet 50 = .ok (.iconst 1, 1) := dq_4 (zby_at (j := 2) zbX12_wordSet_3 rfl)
theorem dX12_wordSet_51 : decode cX12_wordSet 51 = .ok (.iload 4, 2) := dq_21 (zby_at (j := 3) zbX12_wordSet_3 rfl) (zby_at (j := 4) zbX12_wordSet_3 rfl)
theorem dX12_wordSet_53 : decode cX12_wordSet 53 = .ok (.ishl, 1) := dq_120 (zby_at (j := 5) zbX12_wordSet_3 rfl)
theorem dX12_wordSet_54 : decode cX12_wordSet 54 = .ok (.ior, 1) := dq_128 (zby_at (j := 6) zbX12_wordSet_3 rfl)
theorem dX12_wordSet_55 : decode cX12_wordSet 55 = .ok (.istore_n 2, 1) := dq_61 (zby_at (j := 7) zbX12_wordSet_3 rfl)
theorem dX12_wordSet_56 : decode cX12_wordSet 56 = .ok (.iinc 3 1, 3) := dq_132 (zby_at (j := 8) zbX12_wordSet_3 rfl) (zby_at (j := 9) zbX12_wordSet_3 rfl) (zby_at (j := 10) zbX12_wordSet_3 rfl) rfl
theorem dX12_wordSet_59 : decode cX12_wordSet 59 = .ok (.goto (-52), 3) := dq_167 (zby_at (j := 11) zbX12_wordSet_3 rfl) (zby_at (j := 12) zbX12_wordSet_3 rfl) (zby_at (j := 13) zbX12_wordSet_3 rfl) rfl
theorem dX12_wordSet_62 : decode cX12_wordSet 62 = .ok (.iload_n 2, 1) := dq_28 (zby_at (j := 14) zbX12_wordSet_3 rfl)
theorem dX12_wordSet_63 : decode cX12_wordSet 63 = .ok (.ireturn, 1) := dq_172 (zby_at (j := 15) zbX12_wordSet_3 rfl)
theorem zbX12_readsSet_0 : zby cX12_readsSet 0 20 = [3, 61, 42, 180, 0, 123, 5, 160, 0, 13, 42, 3, 3, 182, 0, 239, 61, 167, 0, 36] := by decide +kernel
theorem dX12_readsSet_0 : decode cX12_readsSet 0 = .ok (.iconst 0, 1) := dq_3 (zby_at (j := 0) zbX12_readsSet_0 rfl)
theorem dX12_readsSet_1 : decode cX12_readsSet 1 = .ok (.istore_n 2, 1) := dq_61 (zby_at (j := 1) zbX12_readsSet_0 rfl)
theorem dX12_readsSet_2 : decode cX12_readsSet 2 = .ok (.aload_n 0, 1) := dq_42 (zby_at (j := 2) zbX12_readsSet_0 rfl)
theorem dX12_readsSet_3 : decode cX12_readsSet 3 = .ok (.getfield 123, 3) := dq_180 (zby_at (j := 3) zbX12_readsSet_0 rfl) (zby_at (j := 4) zbX12_readsSet_0 rfl) (zby_at (j := 5) zbX12_readsSet_0 rfl)
theorem dX12_readsSet_6 : decode cX12_readsSet 6 = .ok (.iconst 2, 1) := dq_5 (zby_at (j := 6) zbX12_readsSet_0 rfl)
theorem dX12_readsSet_7 : decode cX12_readsSet 7 = .ok (.if_icmp .ne 13, 3) := dq_160 (zby_at (j := 7) zbX12_readsSet_0 rfl) (zby_at (j := 8) zbX12_readsSet_0 rfl) (zby_at (j := 9) zbX12_readsSet_0 rfl) rfl
theorem dX12_readsSet_10 : decode cX12_readsSet 10 = .ok (.aload_n 0, 1) := dq_42 (zby_at (j := 10) zbX12_readsSet_0 rfl)
theorem dX12_readsSet_11 : decode cX12_readsSet 11 = .ok (.iconst 0, 1) := dq_3 (zby_at (j := 11) zbX12_readsSet_0 rfl)
theorem dX12_readsSet_12 : decode cX12_readsSet 12 = .ok (.iconst 0, 1) := dq_3 (zby_at (j := 12) zbX12_readsSet_0 rfl)
theorem dX12_readsSet_13 : decode cX12_readsSet 13 = .ok (.invokevirtual 239, 3) := dq_182 (zby_at (j := 13) zbX12_readsSet_0 rfl) (zby_at (j := 14) zbX12_readsSet_0 rfl) (zby_at (j := 15) zbX12_readsSet_0 rfl)
theorem zbX12_readsSet_1 : zby cX12_readsSet 16 20 = [61, 167, 0, 36, 42, 180, 0, 123, 4, 160, 0, 23, 42, 27, 182, 0, 242, 61, 42, 182] := by decide +kernel
theorem dX12_readsSet_16 : decode cX12_readsSet 16 = .ok (.istore_n 2, 1) := dq_61 (zby_at (j := 0) zbX12_readsSet_1 rfl)
theorem dX12_readsSet_17 : decode cX12_readsSet 17 = .ok (.goto 36, 3) := dq_167 (zby_at (j := 1) zbX12_readsSet_1 rfl) (zby_at (j := 2) zbX12_readsSet_1 rfl) (zby_at (j := 3) zbX12_readsSet_1 rfl) rfl
theorem dX12_readsSet_20 : decode cX12_readsSet 20 = .ok (.aload_n 0, 1) := dq_42 (zby_at (j := 4) zbX12_readsSet_1 rfl)
theorem dX12_readsSet_21 : decode cX12_readsSet 21 = .ok (.getfield 123, 3) := dq_180 (zby_at (j := 5) zbX12_readsSet_1 rfl) (zby_at (j := 6) zbX12_readsSet_1 rfl) (zby_at (j := 7) zbX12_readsSet_1 rfl)
theorem dX12_readsSet_24 : decode cX12_readsSet 24 = .ok (.iconst 1, 1) := dq_4 (zby_at (j := 8) zbX12_readsSet_1 rfl)
theorem dX12_readsSet_25 : decode cX12_readsSet 25 = .ok (.if_icmp .ne 23, 3) := dq_160 (zby_at (j := 9) zbX12_readsSet_1 rfl) (zby_at (j := 10) zbX12_readsSet_1 rfl) (zby_at (j := 11) zbX12_readsSet_1 rfl) rfl
theorem dX12_readsSet_28 : decode cX12_readsSet 28 = .ok (.aload_n 0, 1) := dq_42 (zby_at (j := 12) zbX12_readsSet_1 rfl)
theorem dX12_readsSet_29 : decode cX12_readsSet 29 = .ok (.iload_n 1, 1) := dq_27 (zby_at (j := 13) zbX12_readsSet_1 rfl)
theorem dX12_readsSet_30 : decode cX12_readsSet 30 = .ok (.invokevirtual 242, 3) := dq_182 (zby_at (j := 14) zbX12_readsSet_1 rfl) (zby_at (j := 15) zbX12_readsSet_1 rfl) (zby_at (j := 16) zbX12_readsSet_1 rfl)
theorem zbX12_readsSet_2 : zby cX12_readsSet 32 20 = [242, 61, 42, 182, 0, 157, 153, 0, 15, 42, 182, 0, 154, 167, 0, 8, 42, 4, 182, 0] := by decide +kernel
theorem dX12_readsSet_33 : decode cX12_readsSet 33 = .ok (.istore_n 2, 1) := dq_61 (zby_at (j := 1) zbX12_readsSet_2 rfl)
theorem dX12_readsSet_34 : decode cX12_readsSet 34 = .ok (.aload_n 0, 1) := dq_42 (zby_at (j := 2) zbX12_readsSet_2 rfl)
theorem dX12_readsSet_35 : decode cX12_readsSet 35 = .ok (.invokevirtual 157, 3) := dq_182 (zby_at (j := 3) zbX12_readsSet_2 rfl) (zby_at (j := 4) zbX12_readsSet_2 rfl) (zby_at (j := 5) zbX12_readsSet_2 rfl)
theorem dX12_readsSet_38 : decode cX12_readsSet 38 = .ok (.ifCond .eq 15, 3) := dq_153 (zby_at (j := 6) zbX12_readsSet_2 rfl) (zby_at (j := 7) zbX12_readsSet_2 rfl) (zby_at (j := 8) zbX12_readsSet_2 rfl) rfl
theorem dX12_readsSet_41 : decode cX12_readsSet 41 = .ok (.aload_n 0, 1) := dq_42 (zby_at (j := 9) zbX12_readsSet_2 rfl)
theorem dX12_readsSet_42 : decode cX12_readsSet 42 = .ok (.invokevirtual 154, 3) := dq_182 (zby_at (j := 10) zbX12_readsSet_2 rfl) (zby_at (j := 11) zbX12_readsSet_2 rfl) (zby_at (j := 12) zbX12_readsSet_2 rfl)
theorem dX12_readsSet_45 : decode cX12_readsSet 45 = .ok (.goto 8, 3) := dq_167 (zby_at (j := 13) zbX12_readsSet_2 rfl) (zby_at (j := 14) zbX12_readsSet_2 rfl) (zby_at (j := 15) zbX12_readsSet_2 rfl) rfl
theorem zbX12_readsSet_3 : zby cX12_readsSet 48 20 = [42, 4, 182, 0, 176, 42, 182, 0, 157, 153, 0, 21, 42, 180, 0, 37, 17, 4, 0, 42] := by decide +kernel
theorem dX12_readsSet_48 : decode cX12_readsSet 48 = .ok (.aload_n 0, 1) := dq_42 (zby_at (j := 0) zbX12_readsSet_3 rfl)
theorem dX12_readsSet_49 : decode cX12_readsSet 49 = .ok (.iconst 1, 1) := dq_4 (zby_at (j := 1) zbX12_readsSet_3 rfl)
theorem dX12_readsSet_50 : decode cX12_readsSet 50 = .ok (.invokevirtual 176, 3) := dq_182 (zby_at (j := 2) zbX12_readsSet_3 rfl) (zby_at (j := 3) zbX12_readsSet_3 rfl) (zby_at (j := 4) zbX12_readsSet_3 rfl)
theorem dX12_readsSet_53 : decode cX12_readsSet 53 = .ok (.aload_n 0, 1) := dq_42 (zby_at (j := 5) zbX12_readsSet_3 rfl)
theorem dX12_readsSet_54 : decode cX12_readsSet 54 = .ok (.invokevirtual 157, 3) := dq_182 (zby_at (j := 6) zbX12_readsSet_3 rfl) (zby_at (j := 7) zbX12_readsSet_3 rfl) (zby_at (j := 8) zbX12_readsSet_3 rfl)
theorem dX12_readsSet_57 : decode cX12_readsSet 57 = .ok (.ifCond .eq 21, 3) := dq_153 (zby_at (j := 9) zbX12_readsSet_3 rfl) (zby_at (j := 10) zbX12_readsSet_3 rfl) (zby_at (j := 11) zbX12_readsSet_3 rfl) rfl
theorem dX12_readsSet_60 : decode cX12_readsSet 60 = .ok (.aload_n 0, 1) := dq_42 (zby_at (j := 12) zbX12_readsSet_3 rfl)
theorem dX12_readsSet_61 : decode cX12_readsSet 61 = .ok (.getfield 37, 3) := dq_180 (zby_at (j := 13) zbX12_readsSet_3 rfl) (zby_at (j := 14) zbX12_readsSet_3 rfl) (zby_at (j := 15) zbX12_readsSet_3 rfl)
theorem zbX12_readsSet_4 : zby cX12_readsSet 64 20 = [17, 4, 0, 42, 180, 0, 206, 4, 100, 104, 28, 96, 4, 84, 177] := by decide +kernel
theorem dX12_readsSet_64 : decode cX12_readsSet 64 = .ok (.sipush 1024, 3) := dq_17 (zby_at (j := 0) zbX12_readsSet_4 rfl) (zby_at (j := 1) zbX12_readsSet_4 rfl) (zby_at (j := 2) zbX12_readsSet_4 rfl) rfl
theorem dX12_readsSet_67 : decode cX12_readsSet 67 = .ok (.aload_n 0, 1) := dq_42 (zby_at (j := 3) zbX12_readsSet_4 rfl)
theorem dX12_readsSet_68 : decode cX12_readsSet 68 = .ok (.getfield 206, 3) := dq_180 (zby_at (j := 4) zbX12_readsSet_4 rfl) (zby_at (j := 5) zbX12_readsSet_4 rfl) (zby_at (j := 6) zbX12_readsSet_4 rfl)
theorem dX12_readsSet_71 : decode cX12_readsSet 71 = .ok (.iconst 1, 1) := dq_4 (zby_at (j := 7) zbX12_readsSet_4 rfl)
theorem dX12_readsSet_72 : decode cX12_readsSet 72 = .ok (.isub, 1) := dq_100 (zby_at (j := 8) zbX12_readsSet_4 rfl)
theorem dX12_readsSet_73 : decode cX12_readsSet 73 = .ok (.imul, 1) := dq_104 (zby_at (j := 9) zbX12_readsSet_4 rfl)
theorem dX12_readsSet_74 : decode cX12_readsSet 74 = .ok (.iload_n 2, 1) := dq_28 (zby_at (j := 10) zbX12_readsSet_4 rfl)
theorem dX12_readsSet_75 : decode cX12_readsSet 75 = .ok (.iadd, 1) := dq_96 (zby_at (j := 11) zbX12_readsSet_4 rfl)
theorem dX12_readsSet_76 : decode cX12_readsSet 76 = .ok (.iconst 1, 1) := dq_4 (zby_at (j := 12) zbX12_readsSet_4 rfl)
theorem dX12_readsSet_77 : decode cX12_readsSet 77 = .ok (.bastore, 1) := dq_84 (zby_at (j := 13) zbX12_readsSet_4 rfl)
theorem dX12_readsSet_78 : decode cX12_readsSet 78 = .ok (.return_, 1) := dq_177 (zby_at (j := 14) zbX12_readsSet_4 rfl)
theorem zbX12_pushesEmpty_0 : zby cX12_pushesEmpty 0 20 = [3, 60, 27, 17, 4, 0, 162, 0, 25, 42, 180, 0, 37, 17, 4, 0, 42, 180, 0, 206] := by decide +kernel
theorem dX12_pushesEmpty_0 : decode cX12_pushesEmpty 0 = .ok (.iconst 0, 1) := dq_3 (zby_at (j := 0) zbX12_pushesEmpty_0 rfl)
theorem dX12_pushesEmpty_1 : decode cX12_pushesEmpty 1 = .ok (.istore_n 1, 1) := dq_60 (zby_at (j := 1) zbX12_pushesEmpty_0 rfl)
theorem dX12_pushesEmpty_2 : decode cX12_pushesEmpty 2 = .ok (.iload_n 1, 1) := dq_27 (zby_at (j := 2) zbX12_pushesEmpty_0 rfl)
theorem dX12_pushesEmpty_3 : decode cX12_pushesEmpty 3 = .ok (.sipush 1024, 3) := dq_17 (zby_at (j := 3) zbX12_pushesEmpty_0 rfl) (zby_at (j := 4) zbX12_pushesEmpty_0 rfl) (zby_at (j := 5) zbX12_pushesEmpty_0 rfl) rfl
theorem dX12_pushesEmpty_6 : decode cX12_pushesEmpty 6 = .ok (.if_icmp .ge 25, 3) := dq_162 (zby_at (j := 6) zbX12_pushesEmpty_0 rfl) (zby_at (j := 7) zbX12_pushesEmpty_0 rfl) (zby_at (j := 8) zbX12_pushesEmpty_0 rfl) rfl
theorem dX12_pushesEmpty_9 : decode cX12_pushesEmpty 9 = .ok (.aload_n 0, 1) := dq_42 (zby_at (j := 9) zbX12_pushesEmpty_0 rfl)
theorem dX12_pushesEmpty_10 : decode cX12_pushesEmpty 10 = .ok (.getfield 37, 3) := dq_180 (zby_at (j := 10) zbX12_pushesEmpty_0 rfl) (zby_at (j := 11) zbX12_pushesEmpty_0 rfl) (zby_at (j := 12) zbX12_pushesEmpty_0 rfl)
theorem dX12_pushesEmpty_13 : decode cX12_pushesEmpty 13 = .ok (.sipush 1024, 3) := dq_17 (zby_at (j := 13) zbX12_pushesEmpty_0 rfl) (zby_at (j := 14) zbX12_pushesEmpty_0 rfl) (zby_at (j := 15) zbX12_pushesEmpty_0 rfl) rfl
theorem zbX12_pushesEmpty_1 : zby cX12_pushesEmpty 16 20 = [42, 180, 0, 206, 104, 27, 96, 3, 84, 132, 1, 1, 167, 255, 230, 42, 89, 180, 0, 206] := by decide +kernel
theorem dX12_pushesEmpty_16 : decode cX12_pushesEmpty 16 = .ok (.aload_n 0, 1) := dq_42 (zby_at (j := 0) zbX12_pushesEmpty_1 rfl)
theorem dX12_pushesEmpty_17 : decode cX12_pushesEmpty 17 = .ok (.getfield 206, 3) := dq_180 (zby_at (j := 1) zbX12_pushesEmpty_1 rfl) (zby_at (j := 2) zbX12_pushesEmpty_1 rfl) (zby_at (j := 3) zbX12_pushesEmpty_1 rfl)
theorem dX12_pushesEmpty_20 : decode cX12_pushesEmpty 20 = .ok (.imul, 1) := dq_104 (zby_at (j := 4) zbX12_pushesEmpty_1 rfl)
theorem dX12_pushesEmpty_21 : decode cX12_pushesEmpty 21 = .ok (.iload_n 1, 1) := dq_27 (zby_at (j := 5) zbX12_pushesEmpty_1 rfl)
theorem dX12_pushesEmpty_22 : decode cX12_pushesEmpty 22 = .ok (.iadd, 1) := dq_96 (zby_at (j := 6) zbX12_pushesEmpty_1 rfl)
theorem dX12_pushesEmpty_23 : decode cX12_pushesEmpty 23 = .ok (.iconst 0, 1) := dq_3 (zby_at (j := 7) zbX12_pushesEmpty_1 rfl)
theorem dX12_pushesEmpty_24 : decode cX12_pushesEmpty 24 = .ok (.bastore, 1) := dq_84 (zby_at (j := 8) zbX12_pushesEmpty_1 rfl)
theorem dX12_pushesEmpty_25 : decode cX12_pushesEmpty 25 = .ok (.iinc 1 1, 3) := dq_132 (zby_at (j := 9) zbX12_pushesEmpty_1 rfl) (zby_at (j := 10) zbX12_pushesEmpty_1 rfl) (zby_at (j := 11) zbX12_pushesEmpty_1 rfl) rfl
theorem dX12_pushesEmpty_28 : decode cX12_pushesEmpty 28 = .ok (.goto (-26), 3) := dq_167 (zby_at (j := 12) zbX12_pushesEmpty_1 rfl) (zby_at (j := 13) zbX12_pushesEmpty_1 rfl) (zby_at (j := 14) zbX12_pushesEmpty_1 rfl) rfl
theorem dX12_pushesEmpty_31 : decode cX12_pushesEmpty 31 = .ok (.aload_n 0, 1) := dq_42 (zby_at (j := 15) zbX12_pushesEmpty_1 rfl)
theorem zbX12_pushesEmpty_2 : zby cX12_pushesEmpty 32 20 = [89, 180, 0, 206, 4, 96, 181, 0, 206, 177] := by decide +kernel
theorem dX12_pushesEmpty_32 : decode cX12_pushesEmpty 32 = .ok (.dup, 1) := dq_89 (zby_at (j := 0) zbX12_pushesEmpty_2 rfl)
theorem dX12_pushesEmpty_33 : decode cX12_pushesEmpty 33 = .ok (.getfield 206, 3) := dq_180 (zby_at (j := 1) zbX12_pushesEmpty_2 rfl) (zby_at (j := 2) zbX12_pushesEmpty_2 rfl) (zby_at (j := 3) zbX12_pushesEmpty_2 rfl)
theorem dX12_pushesEmpty_36 : decode cX12_pushesEmpty 36 = .ok (.iconst 1, 1) := dq_4 (zby_at (j := 4) zbX12_pushesEmpty_2 rfl)
theorem dX12_pushesEmpty_37 : decode cX12_pushesEmpty 37 = .ok (.iadd, 1) := dq_96 (zby_at (j := 5) zbX12_pushesEmpty_2 rfl)
theorem dX12_pushesEmpty_38 : decode cX12_pushesEmpty 38 = .ok (.putfield 206, 3) := dq_181 (zby_at (j := 6) zbX12_pushesEmpty_2 rfl) (zby_at (j := 7) zbX12_pushesEmpty_2 rfl) (zby_at (j := 8) zbX12_pushesEmpty_2 rfl)
theorem dX12_pushesEmpty_41 : decode cX12_pushesEmpty 41 = .ok (.return_, 1) := dq_177 (zby_at (j := 9) zbX12_pushesEmpty_2 rfl)
theorem zbX12_readsSets_0 : zby cX12_readsSets 0 20 = [42, 182, 0, 154, 42, 182, 0, 245, 42, 180, 0, 123, 16, 125, 159, 0, 36, 42, 27, 182] := by decide +kernel
theorem dX12_readsSets_0 : decode cX12_readsSets 0 = .ok (.aload_n 0, 1) := dq_42 (zby_at (j := 0) zbX12_readsSets_0 rfl)
theorem dX12_readsSets_1 : decode cX12_readsSets 1 = .ok (.invokevirtual 154, 3) := dq_182 (zby_at (j := 1) zbX12_readsSets_0 rfl) (zby_at (j := 2) zbX12_readsSets_0 rfl) (zby_at (j := 3) zbX12_readsSets_0 rfl)
theorem dX12_readsSets_4 : decode cX12_readsSets 4 = .ok (.aload_n 0, 1) := dq_42 (zby_at (j := 4) zbX12_readsSets_0 rfl)
theorem dX12_readsSets_5 : decode cX12_readsSets 5 = .ok (.invokevirtual 245, 3) := dq_182 (zby_at (j := 5) zbX12_readsSets_0 rfl) (zby_at (j := 6) zbX12_readsSets_0 rfl) (zby_at (j := 7) zbX12_readsSets_0 rfl)
theorem dX12_readsSets_8 : decode cX12_readsSets 8 = .ok (.aload_n 0, 1) := dq_42 (zby_at (j := 8) zbX12_readsSets_0 rfl)
theorem dX12_readsSets_9 : decode cX12_readsSets 9 = .ok (.getfield 123, 3) := dq_180 (zby_at (j := 9) zbX12_readsSets_0 rfl) (zby_at (j := 10) zbX12_readsSets_0 rfl) (zby_at (j := 11) zbX12_readsSets_0 rfl)
theorem dX12_readsSets_12 : decode cX12_readsSets 12 = .ok (.bipush 125, 2) := dq_16 (zby_at (j := 12) zbX12_readsSets_0 rfl) (zby_at (j := 13) zbX12_readsSets_0 rfl) rfl
theorem dX12_readsSets_14 : decode cX12_readsSets 14 = .ok (.if_icmp .eq 36, 3) := dq_159 (zby_at (j := 14) zbX12_readsSets_0 rfl) (zby_at (j := 15) zbX12_readsSets_0 rfl) (zby_at (j := 16) zbX12_readsSets_0 rfl) rfl
theorem zbX12_readsSets_1 : zby cX12_readsSets 16 20 = [36, 42, 27, 182, 0, 248, 42, 182, 0, 157, 153, 0, 24, 42, 180, 0, 123, 16, 44, 160] := by decide +kernel
theorem dX12_readsSets_17 : decode cX12_readsSets 17 = .ok (.aload_n 0, 1) := dq_42 (zby_at (j := 1) zbX12_readsSets_1 rfl)
theorem dX12_readsSets_18 : decode cX12_readsSets 18 = .ok (.iload_n 1, 1) := dq_27 (zby_at (j := 2) zbX12_readsSets_1 rfl)
theorem dX12_readsSets_19 : decode cX12_readsSets 19 = .ok (.invokevirtual 248, 3) := dq_182 (zby_at (j := 3) zbX12_readsSets_1 rfl) (zby_at (j := 4) zbX12_readsSets_1 rfl) (zby_at (j := 5) zbX12_readsSets_1 rfl)
theorem dX12_readsSets_22 : decode cX12_readsSets 22 = .ok (.aload_n 0, 1) := dq_42 (zby_at (j := 6) zbX12_readsSets_1 rfl)
theorem dX12_readsSets_23 : decode cX12_readsSets 23 = .ok (.invokevirtual 157, 3) := dq_182 (zby_at (j := 7) zbX12_readsSets_1 rfl) (zby_at (j := 8) zbX12_readsSets_1 rfl) (zby_at (j := 9) zbX12_readsSets_1 rfl)
theorem dX12_readsSets_26 : decode cX12_readsSets 26 = .ok (.ifCond .eq 24, 3) := dq_153 (zby_at (j := 10) zbX12_readsSets_1 rfl) (zby_at (j := 11) zbX12_readsSets_1 rfl) (zby_at (j := 12) zbX12_readsSets_1 rfl) rfl
theorem dX12_readsSets_29 : decode cX12_readsSets 29 = .ok (.aload_n 0, 1) := dq_42 (zby_at (j := 13) zbX12_readsSets_1 rfl)
theorem dX12_readsSets_30 : decode cX12_readsSets 30 = .ok (.getfield 123, 3) := dq_180 (zby_at (j := 14) zbX12_readsSets_1 rfl) (zby_at (j := 15) zbX12_readsSets_1 rfl) (zby_at (j := 16) zbX12_readsSets_1 rfl)
theorem zbX12_readsSets_2 : zby cX12_readsSets 32 20 = [123, 16, 44, 160, 0, 15, 42, 182, 0, 154, 42, 27, 182, 0, 248, 167, 255, 231, 42, 16] := by decide +kernel
theorem dX12_readsSets_33 : decode cX12_readsSets 33 = .ok (.bipush 44, 2) := dq_16 (zby_at (j := 1) zbX12_readsSets_2 rfl) (zby_at (j := 2) zbX12_readsSets_2 rfl) rfl
theorem dX12_readsSets_35 : decode cX12_readsSets 35 = .ok (.if_icmp .ne 15, 3) := dq_160 (zby_at (j := 3) zbX12_readsSets_2 rfl) (zby_at (j := 4) zbX12_readsSets_2 rfl) (zby_at (j := 5) zbX12_readsSets_2 rfl) rfl
theorem dX12_readsSets_38 : decode cX12_readsSets 38 = .ok (.aload_n 0, 1) := dq_42 (zby_at (j := 6) zbX12_readsSets_2 rfl)
theorem dX12_readsSets_39 : decode cX12_readsSets 39 = .ok (.invokevirtual 154, 3) := dq_182 (zby_at (j := 7) zbX12_readsSets_2 rfl) (zby_at (j := 8) zbX12_readsSets_2 rfl) (zby_at (j := 9) zbX12_readsSets_2 rfl)
theorem dX12_readsSets_42 : decode cX12_readsSets 42 = .ok (.aload_n 0, 1) := dq_42 (zby_at (j := 10) zbX12_readsSets_2 rfl)
theorem dX12_readsSets_43 : decode cX12_readsSets 43 = .ok (.iload_n 1, 1) := dq_27 (zby_at (j := 11) zbX12_readsSets_2 rfl)
theorem dX12_readsSets_44 : decode cX12_readsSets 44 = .ok (.invokevirtual 248, 3) := dq_182 (zby_at (j := 12) zbX12_readsSets_2 rfl) (zby_at (j := 13) zbX12_readsSets_2 rfl) (zby_at (j := 14) zbX12_readsSets_2 rfl)
theorem dX12_readsSets_47 : decode cX12_readsSets 47 = .ok (.goto (-25), 3) := dq_167 (zby_at (j := 15) zbX12_readsSets_2 rfl) (zby_at (j := 16) zbX12_readsSets_2 rfl) (zby_at (j := 17) zbX12_readsSets_2 rfl) rfl
theorem zbX12_readsSets_3 : zby cX12_readsSets 48 20 = [255, 231, 42, 16, 125, 182, 0, 251, 177] := by decide +kernel
theorem dX12_readsSets_50 : decode cX12_readsSets 50 = .ok (.aload_n 0, 1) := dq_42 (zby_at (j := 2) zbX12_readsSets_3 rfl)
theorem dX12_readsSets_51 : decode cX12_readsSets 51 = .ok (.bipush 125, 2) := dq_16 (zby_at (j := 3) zbX12_readsSets_3 rfl) (zby_at (j := 4) zbX12_readsSets_3 rfl) rfl
theorem dX12_readsSets_53 : decode cX12_readsSets 53 = .ok (.invokevirtual 251, 3) := dq_182 (zby_at (j := 5) zbX12_readsSets_3 rfl) (zby_at (j := 6) zbX12_readsSets_3 rfl) (zby_at (j := 7) zbX12_readsSets_3 rfl)
theorem dX12_readsSets_56 : decode cX12_readsSets 56 = .ok (.return_, 1) := dq_177 (zby_at (j := 8) zbX12_readsSets_3 rfl)
theorem zbX12_readsPart_0 : zby cX12_readsPart 0 20 = [42, 182, 0, 254, 62, 29, 2, 160, 0, 12, 42, 180, 0, 123, 16, 40, 160, 0, 23, 42] := by decide +kernel
theorem dX12_readsPart_0 : decode cX12_readsPart 0 = .ok (.aload_n 0, 1) := dq_42 (zby_at (j := 0) zbX12_readsPart_0 rfl)
theorem dX12_readsPart_1 : decode cX12_readsPart 1 = .ok (.invokevirtual 254, 3) := dq_182 (zby_at (j := 1) zbX12_readsPart_0 rfl) (zby_at (j := 2) zbX12_readsPart_0 rfl) (zby_at (j := 3) zbX12_readsPart_0 rfl)
theorem dX12_readsPart_4 : decode cX12_readsPart 4 = .ok (.istore_n 3, 1) := dq_62 (zby_at (j := 4) zbX12_readsPart_0 rfl)
theorem dX12_readsPart_5 : decode cX12_readsPart 5 = .ok (.iload_n 3, 1) := dq_29 (zby_at (j := 5) zbX12_readsPart_0 rfl)
theorem dX12_readsPart_6 : decode cX12_readsPart 6 = .ok (.iconst (-1), 1) := dq_2 (zby_at (j := 6) zbX12_readsPart_0 rfl)
theorem dX12_readsPart_7 : decode cX12_readsPart 7 = .ok (.if_icmp .ne 12, 3) := dq_160 (zby_at (j := 7) zbX12_readsPart_0 rfl) (zby_at (j := 8) zbX12_readsPart_0 rfl) (zby_at (j := 9) zbX12_readsPart_0 rfl) rfl
theorem dX12_readsPart_10 : decode cX12_readsPart 10 = .ok (.aload_n 0, 1) := dq_42 (zby_at (j := 10) zbX12_readsPart_0 rfl)
theorem dX12_readsPart_11 : decode cX12_readsPart 11 = .ok (.getfield 123, 3) := dq_180 (zby_at (j := 11) zbX12_readsPart_0 rfl) (zby_at (j := 12) zbX12_readsPart_0 rfl) (zby_at (j := 13) zbX12_readsPart_0 rfl)
theorem dX12_readsPart_14 : decode cX12_readsPart 14 = .ok (.bipush 40, 2) := dq_16 (zby_at (j := 14) zbX12_readsPart_0 rfl) (zby_at (j := 15) zbX12_readsPart_0 rfl) rfl
theorem zbX12_readsPart_1 : zby cX12_readsPart 16 20 = [160, 0, 23, 42, 29, 2, 159, 0, 10, 16, 50, 29, 96, 167, 0, 5, 16, 100, 182, 1] := by decide +kernel
theorem dX12_readsPart_16 : decode cX12_readsPart 16 = .ok (.if_icmp .ne 23, 3) := dq_160 (zby_at (j := 0) zbX12_readsPart_1 rfl) (zby_at (j := 1) zbX12_readsPart_1 rfl) (zby_at (j := 2) zbX12_readsPart_1 rfl) rfl
theorem dX12_readsPart_19 : decode cX12_readsPart 19 = .ok (.aload_n 0, 1) := dq_42 (zby_at (j := 3) zbX12_readsPart_1 rfl)
theorem dX12_readsPart_20 : decode cX12_readsPart 20 = .ok (.iload_n 3, 1) := dq_29 (zby_at (j := 4) zbX12_readsPart_1 rfl)
theorem dX12_readsPart_21 : decode cX12_readsPart 21 = .ok (.iconst (-1), 1) := dq_2 (zby_at (j := 5) zbX12_readsPart_1 rfl)
theorem dX12_readsPart_22 : decode cX12_readsPart 22 = .ok (.if_icmp .eq 10, 3) := dq_159 (zby_at (j := 6) zbX12_readsPart_1 rfl) (zby_at (j := 7) zbX12_readsPart_1 rfl) (zby_at (j := 8) zbX12_readsPart_1 rfl) rfl
theorem dX12_readsPart_25 : decode cX12_readsPart 25 = .ok (.bipush 50, 2) := dq_16 (zby_at (j := 9) zbX12_readsPart_1 rfl) (zby_at (j := 10) zbX12_readsPart_1 rfl) rfl
theorem dX12_readsPart_27 : decode cX12_readsPart 27 = .ok (.iload_n 3, 1) := dq_29 (zby_at (j := 11) zbX12_readsPart_1 rfl)
theorem dX12_readsPart_28 : decode cX12_readsPart 28 = .ok (.iadd, 1) := dq_96 (zby_at (j := 12) zbX12_readsPart_1 rfl)
theorem dX12_readsPart_29 : decode cX12_readsPart 29 = .ok (.goto 5, 3) := dq_167 (zby_at (j := 13) zbX12_readsPart_1 rfl) (zby_at (j := 14) zbX12_readsPart_1 rfl) (zby_at (j := 15) zbX12_readsPart_1 rfl) rfl
theorem zbX12_readsPart_2 : zby cX12_readsPart 32 20 = [16, 100, 182, 1, 1, 3, 172, 42, 180, 0, 123, 5, 160, 0, 72, 42, 3, 16, 9, 182] := by decide +kernel
theorem dX12_readsPart_32 : decode cX12_readsPart 32 = .ok (.bipush 100, 2) := dq_16 (zby_at (j := 0) zbX12_readsPart_2 rfl) (zby_at (j := 1) zbX12_readsPart_2 rfl) rfl
theorem dX12_readsPart_34 : decode cX12_readsPart 34 = .ok (.invokevirtual 257, 3) := dq_182 (zby_at (j := 2) zbX12_readsPart_2 rfl) (zby_at (j := 3) zbX12_readsPart_2 rfl) (zby_at (j := 4) zbX12_readsPart_2 rfl)
theorem dX12_readsPart_37 : decode cX12_readsPart 37 = .ok (.iconst 0, 1) := dq_3 (zby_at (j := 5) zbX12_readsPart_2 rfl)
theorem dX12_readsPart_38 : decode cX12_readsPart 38 = .ok (.ireturn, 1) := dq_172 (zby_at (j := 6) zbX12_readsPart_2 rfl)
theorem dX12_readsPart_39 : decode cX12_readsPart 39 = .ok (.aload_n 0, 1) := dq_42 (zby_at (j := 7) zbX12_readsPart_2 rfl)
theorem dX12_readsPart_40 : decode cX12_readsPart 40 = .ok (.getfield 123, 3) := dq_180 (zby_at (j := 8) zbX12_readsPart_2 rfl) (zby_at (j := 9) zbX12_readsPart_2 rfl) (zby_at (j := 10) zbX12_readsPart_2 rfl)
theorem dX12_readsPart_43 : decode cX12_readsPart 43 = .ok (.iconst 2, 1) := dq_5 (zby_at (j := 11) zbX12_readsPart_2 rfl)
theorem dX12_readsPart_44 : decode cX12_readsPart 44 = .ok (.if_icmp .ne 72, 3) := dq_160 (zby_at (j := 12) zbX12_readsPart_2 rfl) (zby_at (j := 13) zbX12_readsPart_2 rfl) (zby_at (j := 14) zbX12_readsPart_2 rfl) rfl
theorem dX12_readsPart_47 : decode cX12_readsPart 47 = .ok (.aload_n 0, 1) := dq_42 (zby_at (j := 15) zbX12_readsPart_2 rfl)
theorem zbX12_readsPart_3 : zby cX12_readsPart 48 20 = [3, 16, 9, 182, 0, 239, 54, 4, 42, 182, 0, 245, 3, 54, 5, 21, 5, 17, 4, 0] := by decide +kernel
theorem dX12_readsPart_48 : decode cX12_readsPart 48 = .ok (.iconst 0, 1) := dq_3 (zby_at (j := 0) zbX12_readsPart_3 rfl)
theorem dX12_readsPart_49 : decode cX12_readsPart 49 = .ok (.bipush 9, 2) := dq_16 (zby_at (j := 1) zbX12_readsPart_3 rfl) (zby_at (j := 2) zbX12_readsPart_3 rfl) rfl
theorem dX12_readsPart_51 : decode cX12_readsPart 51 = .ok (.invokevirtual 239, 3) := dq_182 (zby_at (j := 3) zbX12_readsPart_3 rfl) (zby_at (j := 4) zbX12_readsPart_3 rfl) (zby_at (j := 5) zbX12_readsPart_3 rfl)
theorem dX12_readsPart_54 : decode cX12_readsPart 54 = .ok (.istore 4, 2) := dq_54 (zby_at (j := 6) zbX12_readsPart_3 rfl) (zby_at (j := 7) zbX12_readsPart_3 rfl)
theorem dX12_readsPart_56 : decode cX12_readsPart 56 = .ok (.aload_n 0, 1) := dq_42 (zby_at (j := 8) zbX12_readsPart_3 rfl)
theorem dX12_readsPart_57 : decode cX12_readsPart 57 = .ok (.invokevirtual 245, 3) := dq_182 (zby_at (j := 9) zbX12_readsPart_3 rfl) (zby_at (j := 10) zbX12_readsPart_3 rfl) (zby_at (j := 11) zbX12_readsPart_3 rfl)
theorem dX12_readsPart_60 : decode cX12_readsPart 60 = .ok (.iconst 0, 1) := dq_3 (zby_at (j := 12) zbX12_readsPart_3 rfl)
theorem dX12_readsPart_61 : decode cX12_readsPart 61 = .ok (.istore 5, 2) := dq_54 (zby_at (j := 13) zbX12_readsPart_3 rfl) (zby_at (j := 14) zbX12_readsPart_3 rfl)
theorem dX12_readsPart_63 : decode cX12_readsPart 63 = .ok (.iload 5, 2) := dq_21 (zby_at (j := 15) zbX12_readsPart_3 rfl) (zby_at (j := 16) zbX12_readsPart_3 rfl)
theorem zbX12_readsPart_4 : zby cX12_readsPart 64 20 = [5, 17, 4, 0, 162, 0, 45, 42, 182, 0, 157, 153, 0, 38, 42, 180, 0, 37, 17, 4] := by decide +kernel
theorem dX12_readsPart_65 : decode cX12_readsPart 65 = .ok (.sipush 1024, 3) := dq_17 (zby_at (j := 1) zbX12_readsPart_4 rfl) (zby_at (j := 2) zbX12_readsPart_4 rfl) (zby_at (j := 3) zbX12_readsPart_4 rfl) rfl
theorem dX12_readsPart_68 : decode cX12_readsPart 68 = .ok (.if_icmp .ge 45, 3) := dq_162 (zby_at (j := 4) zbX12_readsPart_4 rfl) (zby_at (j := 5) zbX12_readsPart_4 rfl) (zby_at (j := 6) zbX12_readsPart_4 rfl) rfl
theorem dX12_readsPart_71 : decode cX12_readsPart 71 = .ok (.aload_n 0, 1) := dq_42 (zby_at (j := 7) zbX12_readsPart_4 rfl)
theorem dX12_readsPart_72 : decode cX12_readsPart 72 = .ok (.invokevirtual 157, 3) := dq_182 (zby_at (j := 8) zbX12_readsPart_4 rfl) (zby_at (j := 9) zbX12_readsPart_4 rfl) (zby_at (j := 10) zbX12_readsPart_4 rfl)
theorem dX12_readsPart_75 : decode cX12_readsPart 75 = .ok (.ifCond .eq 38, 3) := dq_153 (zby_at (j := 11) zbX12_readsPart_4 rfl) (zby_at (j := 12) zbX12_readsPart_4 rfl) (zby_at (j := 13) zbX12_readsPart_4 rfl) rfl
theorem dX12_readsPart_78 : decode cX12_readsPart 78 = .ok (.aload_n 0, 1) := dq_42 (zby_at (j := 14) zbX12_readsPart_4 rfl)
theorem dX12_readsPart_79 : decode cX12_readsPart 79 = .ok (.getfield 37, 3) := dq_180 (zby_at (j := 15) zbX12_readsPart_4 rfl) (zby_at (j := 16) zbX12_readsPart_4 rfl) (zby_at (j := 17) zbX12_readsPart_4 rfl)
theorem zbX12_readsPart_5 : zby cX12_readsPart 80 20 = [0, 37, 17, 4, 0, 42, 180, 0, 206, 4, 100, 104, 21, 5, 96, 44, 17, 4, 0, 21] := by decide +kernel
theorem dX12_readsPart_82 : decode cX12_readsPart 82 = .ok (.sipush 1024, 3) := dq_17 (zby_at (j := 2) zbX12_readsPart_5 rfl) (zby_at (j := 3) zbX12_readsPart_5 rfl) (zby_at (j := 4) zbX12_readsPart_5 rfl) rfl
theorem dX12_readsPart_85 : decode cX12_readsPart 85 = .ok (.aload_n 0, 1) := dq_42 (zby_at (j := 5) zbX12_readsPart_5 rfl)
theorem dX12_readsPart_86 : decode cX12_readsPart 86 = .ok (.getfield 206, 3) := dq_180 (zby_at (j := 6) zbX12_readsPart_5 rfl) (zby_at (j := 7) zbX12_readsPart_5 rfl) (zby_at (j := 8) zbX12_readsPart_5 rfl)
theorem dX12_readsPart_89 : decode cX12_readsPart 89 = .ok (.iconst 1, 1) := dq_4 (zby_at (j := 9) zbX12_readsPart_5 rfl)
theorem dX12_readsPart_90 : decode cX12_readsPart 90 = .ok (.isub, 1) := dq_100 (zby_at (j := 10) zbX12_readsPart_5 rfl)
theorem dX12_readsPart_91 : decode cX12_readsPart 91 = .ok (.imul, 1) := dq_104 (zby_at (j := 11) zbX12_readsPart_5 rfl)
theorem dX12_readsPart_92 : decode cX12_readsPart 92 = .ok (.iload 5, 2) := dq_21 (zby_at (j := 12) zbX12_readsPart_5 rfl) (zby_at (j := 13) zbX12_readsPart_5 rfl)
theorem dX12_readsPart_94 : decode cX12_readsPart 94 = .ok (.iadd, 1) := dq_96 (zby_at (j := 14) zbX12_readsPart_5 rfl)
theorem dX12_readsPart_95 : decode cX12_readsPart 95 = .ok (.aload_n 2, 1) := dq_44 (zby_at (j := 15) zbX12_readsPart_5 rfl)
theorem zbX12_readsPart_6 : zby cX12_readsPart 96 20 = [17, 4, 0, 21, 4, 104, 21, 5, 96, 51, 84, 132, 5, 1, 167, 255, 209, 167, 0, 79] := by decide +kernel
theorem dX12_readsPart_96 : decode cX12_readsPart 96 = .ok (.sipush 1024, 3) := dq_17 (zby_at (j := 0) zbX12_readsPart_6 rfl) (zby_at (j := 1) zbX12_readsPart_6 rfl) (zby_at (j := 2) zbX12_readsPart_6 rfl) rfl
theorem dX12_readsPart_99 : decode cX12_readsPart 99 = .ok (.iload 4, 2) := dq_21 (zby_at (j := 3) zbX12_readsPart_6 rfl) (zby_at (j := 4) zbX12_readsPart_6 rfl)
theorem dX12_readsPart_101 : decode cX12_readsPart 101 = .ok (.imul, 1) := dq_104 (zby_at (j := 5) zbX12_readsPart_6 rfl)
theorem dX12_readsPart_102 : decode cX12_readsPart 102 = .ok (.iload 5, 2) := dq_21 (zby_at (j := 6) zbX12_readsPart_6 rfl) (zby_at (j := 7) zbX12_readsPart_6 rfl)
theorem dX12_readsPart_104 : decode cX12_readsPart 104 = .ok (.iadd, 1) := dq_96 (zby_at (j := 8) zbX12_readsPart_6 rfl)
theorem dX12_readsPart_105 : decode cX12_readsPart 105 = .ok (.baload, 1) := dq_51 (zby_at (j := 9) zbX12_readsPart_6 rfl)
theorem dX12_readsPart_106 : decode cX12_readsPart 106 = .ok (.bastore, 1) := dq_84 (zby_at (j := 10) zbX12_readsPart_6 rfl)
theorem dX12_readsPart_107 : decode cX12_readsPart 107 = .ok (.iinc 5 1, 3) := dq_132 (zby_at (j := 11) zbX12_readsPart_6 rfl) (zby_at (j := 12) zbX12_readsPart_6 rfl) (zby_at (j := 13) zbX12_readsPart_6 rfl) rfl
theorem dX12_readsPart_110 : decode cX12_readsPart 110 = .ok (.goto (-47), 3) := dq_167 (zby_at (j := 14) zbX12_readsPart_6 rfl) (zby_at (j := 15) zbX12_readsPart_6 rfl) (zby_at (j := 16) zbX12_readsPart_6 rfl) rfl
theorem zbX12_readsPart_7 : zby cX12_readsPart 112 20 = [209, 167, 0, 79, 42, 180, 0, 123, 16, 123, 160, 0, 11, 42, 27, 182, 1, 4, 167, 0] := by decide +kernel
theorem dX12_readsPart_113 : decode cX12_readsPart 113 = .ok (.goto 79, 3) := dq_167 (zby_at (j := 1) zbX12_readsPart_7 rfl) (zby_at (j := 2) zbX12_readsPart_7 rfl) (zby_at (j := 3) zbX12_readsPart_7 rfl) rfl
theorem dX12_readsPart_116 : decode cX12_readsPart 116 = .ok (.aload_n 0, 1) := dq_42 (zby_at (j := 4) zbX12_readsPart_7 rfl)
theorem dX12_readsPart_117 : decode cX12_readsPart 117 = .ok (.getfield 123, 3) := dq_180 (zby_at (j := 5) zbX12_readsPart_7 rfl) (zby_at (j := 6) zbX12_readsPart_7 rfl) (zby_at (j := 7) zbX12_readsPart_7 rfl)
theorem dX12_readsPart_120 : decode cX12_readsPart 120 = .ok (.bipush 123, 2) := dq_16 (zby_at (j := 8) zbX12_readsPart_7 rfl) (zby_at (j := 9) zbX12_readsPart_7 rfl) rfl
theorem dX12_readsPart_122 : decode cX12_readsPart 122 = .ok (.if_icmp .ne 11, 3) := dq_160 (zby_at (j := 10) zbX12_readsPart_7 rfl) (zby_at (j := 11) zbX12_readsPart_7 rfl) (zby_at (j := 12) zbX12_readsPart_7 rfl) rfl
theorem dX12_readsPart_125 : decode cX12_readsPart 125 = .ok (.aload_n 0, 1) := dq_42 (zby_at (j := 13) zbX12_readsPart_7 rfl)
theorem dX12_readsPart_126 : decode cX12_readsPart 126 = .ok (.iload_n 1, 1) := dq_27 (zby_at (j := 14) zbX12_readsPart_7 rfl)
theorem dX12_readsPart_127 : decode cX12_readsPart 127 = .ok (.invokevirtual 260, 3) := dq_182 (zby_at (j := 15) zbX12_readsPart_7 rfl) (zby_at (j := 16) zbX12_readsPart_7 rfl) (zby_at (j := 17) zbX12_readsPart_7 rfl)
theorem zbX12_readsPart_8 : zby cX12_readsPart 128 20 = [1, 4, 167, 0, 62, 42, 19, 1, 7, 182, 0, 173, 153, 0, 47, 42, 182, 0, 245, 3] := by decide +kernel
theorem dX12_readsPart_130 : decode cX12_readsPart 130 = .ok (.goto 62, 3) := dq_167 (zby_at (j := 2) zbX12_readsPart_8 rfl) (zby_at (j := 3) zbX12_readsPart_8 rfl) (zby_at (j := 4) zbX12_readsPart_8 rfl) rfl
theorem dX12_readsPart_133 : decode cX12_readsPart 133 = .ok (.aload_n 0, 1) := dq_42 (zby_at (j := 5) zbX12_readsPart_8 rfl)
theorem dX12_readsPart_134 : decode cX12_readsPart 134 = .ok (.ldc_w 263, 3) := dq_19 (zby_at (j := 6) zbX12_readsPart_8 rfl) (zby_at (j := 7) zbX12_readsPart_8 rfl) (zby_at (j := 8) zbX12_readsPart_8 rfl)
theorem dX12_readsPart_137 : decode cX12_readsPart 137 = .ok (.invokevirtual 173, 3) := dq_182 (zby_at (j := 9) zbX12_readsPart_8 rfl) (zby_at (j := 10) zbX12_readsPart_8 rfl) (zby_at (j := 11) zbX12_readsPart_8 rfl)
theorem dX12_readsPart_140 : decode cX12_readsPart 140 = .ok (.ifCond .eq 47, 3) := dq_153 (zby_at (j := 12) zbX12_readsPart_8 rfl) (zby_at (j := 13) zbX12_readsPart_8 rfl) (zby_at (j := 14) zbX12_readsPart_8 rfl) rfl
theorem dX12_readsPart_143 : decode cX12_readsPart 143 = .ok (.aload_n 0, 1) := dq_42 (zby_at (j := 15) zbX12_readsPart_8 rfl)
theorem zbX12_readsPart_9 : zby cX12_readsPart 144 20 = [182, 0, 245, 3, 54, 4, 21, 4, 42, 180, 0, 180, 162, 0, 28, 42, 180, 0, 37, 17] := by decide +kernel
theorem dX12_readsPart_144 : decode cX12_readsPart 144 = .ok (.invokevirtual 245, 3) := dq_182 (zby_at (j := 0) zbX12_readsPart_9 rfl) (zby_at (j := 1) zbX12_readsPart_9 rfl) (zby_at (j := 2) zbX12_readsPart_9 rfl)
theorem dX12_readsPart_147 : decode cX12_readsPart 147 = .ok (.iconst 0, 1) := dq_3 (zby_at (j := 3) zbX12_readsPart_9 rfl)
theorem dX12_readsPart_148 : decode cX12_readsPart 148 = .ok (.istore 4, 2) := dq_54 (zby_at (j := 4) zbX12_readsPart_9 rfl) (zby_at (j := 5) zbX12_readsPart_9 rfl)
theorem dX12_readsPart_150 : decode cX12_readsPart 150 = .ok (.iload 4, 2) := dq_21 (zby_at (j := 6) zbX12_readsPart_9 rfl) (zby_at (j := 7) zbX12_readsPart_9 rfl)
theorem dX12_readsPart_152 : decode cX12_readsPart 152 = .ok (.aload_n 0, 1) := dq_42 (zby_at (j := 8) zbX12_readsPart_9 rfl)
theorem dX12_readsPart_153 : decode cX12_readsPart 153 = .ok (.getfield 180, 3) := dq_180 (zby_at (j := 9) zbX12_readsPart_9 rfl) (zby_at (j := 10) zbX12_readsPart_9 rfl) (zby_at (j := 11) zbX12_readsPart_9 rfl)
theorem dX12_readsPart_156 : decode cX12_readsPart 156 = .ok (.if_icmp .ge 28, 3) := dq_162 (zby_at (j := 12) zbX12_readsPart_9 rfl) (zby_at (j := 13) zbX12_readsPart_9 rfl) (zby_at (j := 14) zbX12_readsPart_9 rfl) rfl
theorem dX12_readsPart_159 : decode cX12_readsPart 159 = .ok (.aload_n 0, 1) := dq_42 (zby_at (j := 15) zbX12_readsPart_9 rfl)
theorem zbX12_readsPart_10 : zby cX12_readsPart 160 20 = [180, 0, 37, 17, 4, 0, 42, 180, 0, 206, 4, 100, 104, 21, 4, 96, 4, 84, 132, 4] := by decide +kernel
theorem dX12_readsPart_160 : decode cX12_readsPart 160 = .ok (.getfield 37, 3) := dq_180 (zby_at (j := 0) zbX12_readsPart_10 rfl) (zby_at (j := 1) zbX12_readsPart_10 rfl) (zby_at (j := 2) zbX12_readsPart_10 rfl)
theorem dX12_readsPart_163 : decode cX12_readsPart 163 = .ok (.sipush 1024, 3) := dq_17 (zby_at (j := 3) zbX12_readsPart_10 rfl) (zby_at (j := 4) zbX12_readsPart_10 rfl) (zby_at (j := 5) zbX12_readsPart_10 rfl) rfl
theorem dX12_readsPart_166 : decode cX12_readsPart 166 = .ok (.aload_n 0, 1) := dq_42 (zby_at (j := 6) zbX12_readsPart_10 rfl)
theorem dX12_readsPart_167 : decode cX12_readsPart 167 = .ok (.getfield 206, 3) := dq_180 (zby_at (j := 7) zbX12_readsPart_10 rfl) (zby_at (j := 8) zbX12_readsPart_10 rfl) (zby_at (j := 9) zbX12_readsPart_10 rfl)
theorem dX12_readsPart_170 : decode cX12_readsPart 170 = .ok (.iconst 1, 1) := dq_4 (zby_at (j := 10) zbX12_readsPart_10 rfl)
theorem dX12_readsPart_171 : decode cX12_readsPart 171 = .ok (.isub, 1) := dq_100 (zby_at (j := 11) zbX12_readsPart_10 rfl)
theorem dX12_readsPart_172 : decode cX12_readsPart 172 = .ok (.imul, 1) := dq_104 (zby_at (j := 12) zbX12_readsPart_10 rfl)
theorem dX12_readsPart_173 : decode cX12_readsPart 173 = .ok (.iload 4, 2) := dq_21 (zby_at (j := 13) zbX12_readsPart_10 rfl) (zby_at (j := 14) zbX12_readsPart_10 rfl)
theorem dX12_readsPart_175 : decode cX12_readsPart 175 = .ok (.iadd, 1) := dq_96 (zby_at (j := 15) zbX12_readsPart_10 rfl)
theorem zbX12_readsPart_11 : zby cX12_readsPart 176 20 = [4, 84, 132, 4, 1, 167, 255, 225, 167, 0, 8, 42, 4, 182, 0, 176, 42, 182, 0, 157] := by decide +kernel
theorem dX12_readsPart_176 : decode cX12_readsPart 176 = .ok (.iconst 1, 1) := dq_4 (zby_at (j := 0) zbX12_readsPart_11 rfl)
theorem dX12_readsPart_177 : decode cX12_readsPart 177 = .ok (.bastore, 1) := dq_84 (zby_at (j := 1) zbX12_readsPart_11 rfl)
theorem dX12_readsPart_178 : decode cX12_readsPart 178 = .ok (.iinc 4 1, 3) := dq_132 (zby_at (j := 2) zbX12_readsPart_11 rfl) (zby_at (j := 3) zbX12_readsPart_11 rfl) (zby_at (j := 4) zbX12_readsPart_11 rfl) rfl
theorem dX12_readsPart_181 : decode cX12_readsPart 181 = .ok (.goto (-31), 3) := dq_167 (zby_at (j := 5) zbX12_readsPart_11 rfl) (zby_at (j := 6) zbX12_readsPart_11 rfl) (zby_at (j := 7) zbX12_readsPart_11 rfl) rfl
theorem dX12_readsPart_184 : decode cX12_readsPart 184 = .ok (.goto 8, 3) := dq_167 (zby_at (j := 8) zbX12_readsPart_11 rfl) (zby_at (j := 9) zbX12_readsPart_11 rfl) (zby_at (j := 10) zbX12_readsPart_11 rfl) rfl
theorem dX12_readsPart_187 : decode cX12_readsPart 187 = .ok (.aload_n 0, 1) := dq_42 (zby_at (j := 11) zbX12_readsPart_11 rfl)
theorem dX12_readsPart_188 : decode cX12_readsPart 188 = .ok (.iconst 1, 1) := dq_4 (zby_at (j := 12) zbX12_readsPart_11 rfl)
theorem dX12_readsPart_189 : decode cX12_readsPart 189 = .ok (.invokevirtual 176, 3) := dq_182 (zby_at (j := 13) zbX12_readsPart_11 rfl) (zby_at (j := 14) zbX12_readsPart_11 rfl) (zby_at (j := 15) zbX12_readsPart_11 rfl)
theorem zbX12_readsPart_12 : zby cX12_readsPart 192 20 = [42, 182, 0, 157, 153, 0, 8, 42, 6, 182, 1, 8, 4, 172] := by decide +kernel
theorem dX12_readsPart_192 : decode cX12_readsPart 192 = .ok (.aload_n 0, 1) := dq_42 (zby_at (j := 0) zbX12_readsPart_12 rfl)
theorem dX12_readsPart_193 : decode cX12_readsPart 193 = .ok (.invokevirtual 157, 3) := dq_182 (zby_at (j := 1) zbX12_readsPart_12 rfl) (zby_at (j := 2) zbX12_readsPart_12 rfl) (zby_at (j := 3) zbX12_readsPart_12 rfl)
theorem dX12_readsPart_196 : decode cX12_readsPart 196 = .ok (.ifCond .eq 8, 3) := dq_153 (zby_at (j := 4) zbX12_readsPart_12 rfl) (zby_at (j := 5) zbX12_readsPart_12 rfl) (zby_at (j := 6) zbX12_readsPart_12 rfl) rfl
theorem dX12_readsPart_199 : decode cX12_readsPart 199 = .ok (.aload_n 0, 1) := dq_42 (zby_at (j := 7) zbX12_readsPart_12 rfl)
theorem dX12_readsPart_200 : decode cX12_readsPart 200 = .ok (.iconst 3, 1) := dq_6 (zby_at (j := 8) zbX12_readsPart_12 rfl)
theorem dX12_readsPart_201 : decode cX12_readsPart 201 = .ok (.invokevirtual 264, 3) := dq_182 (zby_at (j := 9) zbX12_readsPart_12 rfl) (zby_at (j := 10) zbX12_readsPart_12 rfl) (zby_at (j := 11) zbX12_readsPart_12 rfl)
theorem dX12_readsPart_204 : decode cX12_readsPart 204 = .ok (.iconst 1, 1) := dq_4 (zby_at (j := 12) zbX12_readsPart_12 rfl)
theorem dX12_readsPart_205 : decode cX12_readsPart 205 = .ok (.ireturn, 1) := dq_172 (zby_at (j := 13) zbX12_readsPart_12 rfl)
theorem zbX12_isOpen_0 : zby cX12_isOpen 0 20 = [3, 60, 27, 42, 180, 0, 203, 162, 0, 22, 42, 180, 0, 49, 27, 46, 16, 100, 160, 0] := by decide +kernel
theorem dX12_isOpen_0 : decode cX12_isOpen 0 = .ok (.iconst 0, 1) := dq_3 (zby_at (j := 0) zbX12_isOpen_0 rfl)
theorem dX12_isOpen_1 : decode cX12_isOpen 1 = .ok (.istore_n 1, 1) := dq_60 (zby_at (j := 1) zbX12_isOpen_0 rfl)
theorem dX12_isOpen_2 : decode cX12_isOpen 2 = .ok (.iload_n 1, 1) := dq_27 (zby_at (j := 2) zbX12_isOpen_0 rfl)
theorem dX12_isOpen_3 : decode cX12_isOpen 3 = .ok (.aload_n 0, 1) := dq_42 (zby_at (j := 3) zbX12_isOpen_0 rfl)
theorem dX12_isOpen_4 : decode cX12_isOpen 4 = .ok (.getfield 203, 3) := dq_180 (zby_at (j := 4) zbX12_isOpen_0 rfl) (zby_at (j := 5) zbX12_isOpen_0 rfl) (zby_at (j := 6) zbX12_isOpen_0 rfl)
theorem dX12_isOpen_7 : decode cX12_isOpen 7 = .ok (.if_icmp .ge 22, 3) := dq_162 (zby_at (j := 7) zbX12_isOpen_0 rfl) (zby_at (j := 8) zbX12_isOpen_0 rfl) (zby_at (j := 9) zbX12_isOpen_0 rfl) rfl
theorem dX12_isOpen_10 : decode cX12_isOpen 10 = .ok (.aload_n 0, 1) := dq_42 (zby_at (j := 10) zbX12_isOpen_0 rfl)
theorem dX12_isOpen_11 : decode cX12_isOpen 11 = .ok (.getfield 49, 3) := dq_180 (zby_at (j := 11) zbX12_isOpen_0 rfl) (zby_at (j := 12) zbX12_isOpen_0 rfl) (zby_at (j := 13) zbX12_isOpen_0 rfl)
theorem dX12_isOpen_14 : decode cX12_isOpen 14 = .ok (.iload_n 1, 1) := dq_27 (zby_at (j := 14) zbX12_isOpen_0 rfl)
theorem dX12_isOpen_15 : decode cX12_isOpen 15 = .ok (.iaload, 1) := dq_46 (zby_at (j := 15) zbX12_isOpen_0 rfl)
theorem zbX12_isOpen_1 : zby cX12_isOpen 16 20 = [16, 100, 160, 0, 5, 4, 172, 132, 1, 1, 167, 255, 232, 3, 172] := by decide +kernel
theorem dX12_isOpen_16 : decode cX12_isOpen 16 = .ok (.bipush 100, 2) := dq_16 (zby_at (j := 0) zbX12_isOpen_1 rfl) (zby_at (j := 1) zbX12_isOpen_1 rfl) rfl
theorem dX12_isOpen_18 : decode cX12_isOpen 18 = .ok (.if_icmp .ne 5, 3) := dq_160 (zby_at (j := 2) zbX12_isOpen_1 rfl) (zby_at (j := 3) zbX12_isOpen_1 rfl) (zby_at (j := 4) zbX12_isOpen_1 rfl) rfl
theorem dX12_isOpen_21 : decode cX12_isOpen 21 = .ok (.iconst 1, 1) := dq_4 (zby_at (j := 5) zbX12_isOpen_1 rfl)
theorem dX12_isOpen_22 : decode cX12_isOpen 22 = .ok (.ireturn, 1) := dq_172 (zby_at (j := 6) zbX12_isOpen_1 rfl)
theorem dX12_isOpen_23 : decode cX12_isOpen 23 = .ok (.iinc 1 1, 3) := dq_132 (zby_at (j := 7) zbX12_isOpen_1 rfl) (zby_at (j := 8) zbX12_isOpen_1 rfl) (zby_at (j := 9) zbX12_isOpen_1 rfl) rfl
theorem dX12_isOpen_26 : decode cX12_isOpen 26 = .ok (.goto (-24), 3) := dq_167 (zby_at (j := 10) zbX12_isOpen_1 rfl) (zby_at (j := 11) zbX12_isOpen_1 rfl) (zby_at (j := 12) zbX12_isOpen_1 rfl) rfl
theorem dX12_isOpen_29 : decode cX12_isOpen 29 = .ok (.iconst 0, 1) := dq_3 (zby_at (j := 13) zbX12_isOpen_1 rfl)
theorem dX12_isOpen_30 : decode cX12_isOpen 30 = .ok (.ireturn, 1) := dq_172 (zby_at (j := 14) zbX12_isOpen_1 rfl)
theorem zbX12_goesBehind_0 : zby cX12_goesBehind 0 20 = [42, 180, 0, 123, 184, 1, 11, 60, 27, 2, 159, 0, 70, 42, 180, 0, 151, 16, 24, 160] := by decide +kernel
theorem dX12_goesBehind_0 : decode cX12_goesBehind 0 = .ok (.aload_n 0, 1) := dq_42 (zby_at (j := 0) zbX12_goesBehind_0 rfl)
theorem dX12_goesBehind_1 : decode cX12_goesBehind 1 = .ok (.getfield 123, 3) := dq_180 (zby_at (j := 1) zbX12_goesBehind_0 rfl) (zby_at (j := 2) zbX12_goesBehind_0 rfl) (zby_at (j := 3) zbX12_goesBehind_0 rfl)
theorem dX12_goesBehind_4 : decode cX12_goesBehind 4 = .ok (.invokestatic 267, 3) := dq_184 (zby_at (j := 4) zbX12_goesBehind_0 rfl) (zby_at (j := 5) zbX12_goesBehind_0 rfl) (zby_at (j := 6) zbX12_goesBehind_0 rfl)
theorem dX12_goesBehind_7 : decode cX12_goesBehind 7 = .ok (.istore_n 1, 1) := dq_60 (zby_at (j := 7) zbX12_goesBehind_0 rfl)
theorem dX12_goesBehind_8 : decode cX12_goesBehind 8 = .ok (.iload_n 1, 1) := dq_27 (zby_at (j := 8) zbX12_goesBehind_0 rfl)
theorem dX12_goesBehind_9 : decode cX12_goesBehind 9 = .ok (.iconst (-1), 1) := dq_2 (zby_at (j := 9) zbX12_goesBehind_0 rfl)
theorem dX12_goesBehind_10 : decode cX12_goesBehind 10 = .ok (.if_icmp .eq 70, 3) := dq_159 (zby_at (j := 10) zbX12_goesBehind_0 rfl) (zby_at (j := 11) zbX12_goesBehind_0 rfl) (zby_at (j := 12) zbX12_goesBehind_0 rfl) rfl
theorem dX12_goesBehind_13 : decode cX12_goesBehind 13 = .ok (.aload_n 0, 1) := dq_42 (zby_at (j := 13) zbX12_goesBehind_0 rfl)
theorem dX12_goesBehind_14 : decode cX12_goesBehind 14 = .ok (.getfield 151, 3) := dq_180 (zby_at (j := 14) zbX12_goesBehind_0 rfl) (zby_at (j := 15) zbX12_goesBehind_0 rfl) (zby_at (j := 16) zbX12_goesBehind_0 rfl)
theorem zbX12_goesBehind_1 : zby cX12_goesBehind 16 20 = [151, 16, 24, 160, 0, 8, 42, 6, 182, 0, 176, 42, 182, 0, 157, 154, 0, 5, 2, 172] := by decide +kernel
theorem dX12_goesBehind_17 : decode cX12_goesBehind 17 = .ok (.bipush 24, 2) := dq_16 (zby_at (j := 1) zbX12_goesBehind_1 rfl) (zby_at (j := 2) zbX12_goesBehind_1 rfl) rfl
theorem dX12_goesBehind_19 : decode cX12_goesBehind 19 = .ok (.if_icmp .ne 8, 3) := dq_160 (zby_at (j := 3) zbX12_goesBehind_1 rfl) (zby_at (j := 4) zbX12_goesBehind_1 rfl) (zby_at (j := 5) zbX12_goesBehind_1 rfl) rfl
theorem dX12_goesBehind_22 : decode cX12_goesBehind 22 = .ok (.aload_n 0, 1) := dq_42 (zby_at (j := 6) zbX12_goesBehind_1 rfl)
theorem dX12_goesBehind_23 : decode cX12_goesBehind 23 = .ok (.iconst 3, 1) := dq_6 (zby_at (j := 7) zbX12_goesBehind_1 rfl)
theorem dX12_goesBehind_24 : decode cX12_goesBehind 24 = .ok (.invokevirtual 176, 3) := dq_182 (zby_at (j := 8) zbX12_goesBehind_1 rfl) (zby_at (j := 9) zbX12_goesBehind_1 rfl) (zby_at (j := 10) zbX12_goesBehind_1 rfl)
theorem dX12_goesBehind_27 : decode cX12_goesBehind 27 = .ok (.aload_n 0, 1) := dq_42 (zby_at (j := 11) zbX12_goesBehind_1 rfl)
theorem dX12_goesBehind_28 : decode cX12_goesBehind 28 = .ok (.invokevirtual 157, 3) := dq_182 (zby_at (j := 12) zbX12_goesBehind_1 rfl) (zby_at (j := 13) zbX12_goesBehind_1 rfl) (zby_at (j := 14) zbX12_goesBehind_1 rfl)
theorem dX12_goesBehind_31 : decode cX12_goesBehind 31 = .ok (.ifCond .ne 5, 3) := dq_154 (zby_at (j := 15) zbX12_goesBehind_1 rfl) (zby_at (j := 16) zbX12_goesBehind_1 rfl) (zby_at (j := 17) zbX12_goesBehind_1 rfl) rfl
theorem zbX12_goesBehind_2 : zby cX12_goesBehind 32 20 = [0, 5, 2, 172, 42, 89, 180, 0, 151, 4, 96, 181, 0, 151, 42, 27, 184, 0, 222, 182] := by decide +kernel
theorem dX12_goesBehind_34 : decode cX12_goesBehind 34 = .ok (.iconst (-1), 1) := dq_2 (zby_at (j := 2) zbX12_goesBehind_2 rfl)
theorem dX12_goesBehind_35 : decode cX12_goesBehind 35 = .ok (.ireturn, 1) := dq_172 (zby_at (j := 3) zbX12_goesBehind_2 rfl)
theorem dX12_goesBehind_36 : decode cX12_goesBehind 36 = .ok (.aload_n 0, 1) := dq_42 (zby_at (j := 4) zbX12_goesBehind_2 rfl)
theorem dX12_goesBehind_37 : decode cX12_goesBehind 37 = .ok (.dup, 1) := dq_89 (zby_at (j := 5) zbX12_goesBehind_2 rfl)
theorem dX12_goesBehind_38 : decode cX12_goesBehind 38 = .ok (.getfield 151, 3) := dq_180 (zby_at (j := 6) zbX12_goesBehind_2 rfl) (zby_at (j := 7) zbX12_goesBehind_2 rfl) (zby_at (j := 8) zbX12_goesBehind_2 rfl)
theorem dX12_goesBehind_41 : decode cX12_goesBehind 41 = .ok (.iconst 1, 1) := dq_4 (zby_at (j := 9) zbX12_goesBehind_2 rfl)
theorem dX12_goesBehind_42 : decode cX12_goesBehind 42 = .ok (.iadd, 1) := dq_96 (zby_at (j := 10) zbX12_goesBehind_2 rfl)
theorem dX12_goesBehind_43 : decode cX12_goesBehind 43 = .ok (.putfield 151, 3) := dq_181 (zby_at (j := 11) zbX12_goesBehind_2 rfl) (zby_at (j := 12) zbX12_goesBehind_2 rfl) (zby_at (j := 13) zbX12_goesBehind_2 rfl)
theorem dX12_goesBehind_46 : decode cX12_goesBehind 46 = .ok (.aload_n 0, 1) := dq_42 (zby_at (j := 14) zbX12_goesBehind_2 rfl)
theorem dX12_goesBehind_47 : decode cX12_goesBehind 47 = .ok (.iload_n 1, 1) := dq_27 (zby_at (j := 15) zbX12_goesBehind_2 rfl)
theorem zbX12_goesBehind_3 : zby cX12_goesBehind 48 20 = [184, 0, 222, 182, 1, 8, 42, 180, 0, 49, 42, 180, 0, 203, 27, 79, 42, 89, 180, 0] := by decide +kernel
theorem dX12_goesBehind_48 : decode cX12_goesBehind 48 = .ok (.invokestatic 222, 3) := dq_184 (zby_at (j := 0) zbX12_goesBehind_3 rfl) (zby_at (j := 1) zbX12_goesBehind_3 rfl) (zby_at (j := 2) zbX12_goesBehind_3 rfl)
theorem dX12_goesBehind_51 : decode cX12_goesBehind 51 = .ok (.invokevirtual 264, 3) := dq_182 (zby_at (j := 3) zbX12_goesBehind_3 rfl) (zby_at (j := 4) zbX12_goesBehind_3 rfl) (zby_at (j := 5) zbX12_goesBehind_3 rfl)
theorem dX12_goesBehind_54 : decode cX12_goesBehind 54 = .ok (.aload_n 0, 1) := dq_42 (zby_at (j := 6) zbX12_goesBehind_3 rfl)
theorem dX12_goesBehind_55 : decode cX12_goesBehind 55 = .ok (.getfield 49, 3) := dq_180 (zby_at (j := 7) zbX12_goesBehind_3 rfl) (zby_at (j := 8) zbX12_goesBehind_3 rfl) (zby_at (j := 9) zbX12_goesBehind_3 rfl)
theorem dX12_goesBehind_58 : decode cX12_goesBehind 58 = .ok (.aload_n 0, 1) := dq_42 (zby_at (j := 10) zbX12_goesBehind_3 rfl)
theorem dX12_goesBehind_59 : decode cX12_goesBehind 59 = .ok (.getfield 203, 3) := dq_180 (zby_at (j := 11) zbX12_goesBehind_3 rfl) (zby_at (j := 12) zbX12_goesBehind_3 rfl) (zby_at (j := 13) zbX12_goesBehind_3 rfl)
theorem dX12_goesBehind_62 : decode cX12_goesBehind 62 = .ok (.iload_n 1, 1) := dq_27 (zby_at (j := 14) zbX12_goesBehind_3 rfl)
theorem dX12_goesBehind_63 : decode cX12_goesBehind 63 = .ok (.iastore, 1) := dq_79 (zby_at (j := 15) zbX12_goesBehind_3 rfl)
theorem zbX12_goesBehind_4 : zby cX12_goesBehind 64 20 = [42, 89, 180, 0, 203, 4, 96, 181, 0, 203, 42, 182, 0, 154, 4, 172, 42, 180, 0, 123] := by decide +kernel
theorem dX12_goesBehind_64 : decode cX12_goesBehind 64 = .ok (.aload_n 0, 1) := dq_42 (zby_at (j := 0) zbX12_goesBehind_4 rfl)
theorem dX12_goesBehind_65 : decode cX12_goesBehind 65 = .ok (.dup, 1) := dq_89 (zby_at (j := 1) zbX12_goesBehind_4 rfl)
theorem dX12_goesBehind_66 : decode cX12_goesBehind 66 = .ok (.getfield 203, 3) := dq_180 (zby_at (j := 2) zbX12_goesBehind_4 rfl) (zby_at (j := 3) zbX12_goesBehind_4 rfl) (zby_at (j := 4) zbX12_goesBehind_4 rfl)
theorem dX12_goesBehind_69 : decode cX12_goesBehind 69 = .ok (.iconst 1, 1) := dq_4 (zby_at (j := 5) zbX12_goesBehind_4 rfl)
theorem dX12_goesBehind_70 : decode cX12_goesBehind 70 = .ok (.iadd, 1) := dq_96 (zby_at (j := 6) zbX12_goesBehind_4 rfl)
theorem dX12_goesBehind_71 : decode cX12_goesBehind 71 = .ok (.putfield 203, 3) := dq_181 (zby_at (j := 7) zbX12_goesBehind_4 rfl) (zby_at (j := 8) zbX12_goesBehind_4 rfl) (zby_at (j := 9) zbX12_goesBehind_4 rfl)
theorem dX12_goesBehind_74 : decode cX12_goesBehind 74 = .ok (.aload_n 0, 1) := dq_42 (zby_at (j := 10) zbX12_goesBehind_4 rfl)
theorem dX12_goesBehind_75 : decode cX12_goesBehind 75 = .ok (.invokevirtual 154, 3) := dq_182 (zby_at (j := 11) zbX12_goesBehind_4 rfl) (zby_at (j := 12) zbX12_goesBehind_4 rfl) (zby_at (j := 13) zbX12_goesBehind_4 rfl)
theorem dX12_goesBehind_78 : decode cX12_goesBehind 78 = .ok (.iconst 1, 1) := dq_4 (zby_at (j := 14) zbX12_goesBehind_4 rfl)
theorem dX12_goesBehind_79 : decode cX12_goesBehind 79 = .ok (.ireturn, 1) := dq_172 (zby_at (j := 15) zbX12_goesBehind_4 rfl)
theorem zbX12_goesBehind_5 : zby cX12_goesBehind 80 20 = [42, 180, 0, 123, 16, 41, 160, 0, 10, 42, 182, 1, 14, 154, 0, 5, 2, 172, 42, 4] := by decide +kernel
theorem dX12_goesBehind_80 : decode cX12_goesBehind 80 = .ok (.aload_n 0, 1) := dq_42 (zby_at (j := 0) zbX12_goesBehind_5 rfl)
theorem dX12_goesBehind_81 : decode cX12_goesBehind 81 = .ok (.getfield 123, 3) := dq_180 (zby_at (j := 1) zbX12_goesBehind_5 rfl) (zby_at (j := 2) zbX12_goesBehind_5 rfl) (zby_at (j := 3) zbX12_goesBehind_5 rfl)
theorem dX12_goesBehind_84 : decode cX12_goesBehind 84 = .ok (.bipush 41, 2) := dq_16 (zby_at (j := 4) zbX12_goesBehind_5 rfl) (zby_at (j := 5) zbX12_goesBehind_5 rfl) rfl
theorem dX12_goesBehind_86 : decode cX12_goesBehind 86 = .ok (.if_icmp .ne 10, 3) := dq_160 (zby_at (j := 6) zbX12_goesBehind_5 rfl) (zby_at (j := 7) zbX12_goesBehind_5 rfl) (zby_at (j := 8) zbX12_goesBehind_5 rfl) rfl
theorem dX12_goesBehind_89 : decode cX12_goesBehind 89 = .ok (.aload_n 0, 1) := dq_42 (zby_at (j := 9) zbX12_goesBehind_5 rfl)
theorem dX12_goesBehind_90 : decode cX12_goesBehind 90 = .ok (.invokevirtual 270, 3) := dq_182 (zby_at (j := 10) zbX12_goesBehind_5 rfl) (zby_at (j := 11) zbX12_goesBehind_5 rfl) (zby_at (j := 12) zbX12_goesBehind_5 rfl)
theorem dX12_goesBehind_93 : decode cX12_goesBehind 93 = .ok (.ifCond .ne 5, 3) := dq_154 (zby_at (j := 13) zbX12_goesBehind_5 rfl) (zby_at (j := 14) zbX12_goesBehind_5 rfl) (zby_at (j := 15) zbX12_goesBehind_5 rfl) rfl
theorem zbX12_goesBehind_6 : zby cX12_goesBehind 96 20 = [2, 172, 42, 4, 182, 1, 8, 42, 89, 180, 0, 203, 4, 100, 181, 0, 203, 42, 89, 180] := by decide +kernel
theorem dX12_goesBehind_96 : decode cX12_goesBehind 96 = .ok (.iconst (-1), 1) := dq_2 (zby_at (j := 0) zbX12_goesBehind_6 rfl)
theorem dX12_goesBehind_97 : decode cX12_goesBehind 97 = .ok (.ireturn, 1) := dq_172 (zby_at (j := 1) zbX12_goesBehind_6 rfl)
theorem dX12_goesBehind_98 : decode cX12_goesBehind 98 = .ok (.aload_n 0, 1) := dq_42 (zby_at (j := 2) zbX12_goesBehind_6 rfl)
theorem dX12_goesBehind_99 : decode cX12_goesBehind 99 = .ok (.iconst 1, 1) := dq_4 (zby_at (j := 3) zbX12_goesBehind_6 rfl)
theorem dX12_goesBehind_100 : decode cX12_goesBehind 100 = .ok (.invokevirtual 264, 3) := dq_182 (zby_at (j := 4) zbX12_goesBehind_6 rfl) (zby_at (j := 5) zbX12_goesBehind_6 rfl) (zby_at (j := 6) zbX12_goesBehind_6 rfl)
theorem dX12_goesBehind_103 : decode cX12_goesBehind 103 = .ok (.aload_n 0, 1) := dq_42 (zby_at (j := 7) zbX12_goesBehind_6 rfl)
theorem dX12_goesBehind_104 : decode cX12_goesBehind 104 = .ok (.dup, 1) := dq_89 (zby_at (j := 8) zbX12_goesBehind_6 rfl)
theorem dX12_goesBehind_105 : decode cX12_goesBehind 105 = .ok (.getfield 203, 3) := dq_180 (zby_at (j := 9) zbX12_goesBehind_6 rfl) (zby_at (j := 10) zbX12_goesBehind_6 rfl) (zby_at (j := 11) zbX12_goesBehind_6 rfl)
theorem dX12_goesBehind_108 : decode cX12_goesBehind 108 = .ok (.iconst 1, 1) := dq_4 (zby_at (j := 12) zbX12_goesBehind_6 rfl)
theorem dX12_goesBehind_109 : decode cX12_goesBehind 109 = .ok (.isub, 1) := dq_100 (zby_at (j := 13) zbX12_goesBehind_6 rfl)
theorem dX12_goesBehind_110 : decode cX12_goesBehind 110 = .ok (.putfield 203, 3) := dq_181 (zby_at (j := 14) zbX12_goesBehind_6 rfl) (zby_at (j := 15) zbX12_goesBehind_6 rfl) (zby_at (j := 16) zbX12_goesBehind_6 rfl)
theorem zbX12_goesBehind_7 : zby cX12_goesBehind 112 20 = [203, 42, 89, 180, 0, 215, 4, 100, 181, 0, 215, 42, 182, 0, 154, 42, 6, 182, 1, 8] := by decide +kernel
theorem dX12_goesBehind_113 : decode cX12_goesBehind 113 = .ok (.aload_n 0, 1) := dq_42 (zby_at (j := 1) zbX12_goesBehind_7 rfl)
theorem dX12_goesBehind_114 : decode cX12_goesBehind 114 = .ok (.dup, 1) := dq_89 (zby_at (j := 2) zbX12_goesBehind_7 rfl)
theorem dX12_goesBehind_115 : decode cX12_goesBehind 115 = .ok (.getfield 215, 3) := dq_180 (zby_at (j := 3) zbX12_goesBehind_7 rfl) (zby_at (j := 4) zbX12_goesBehind_7 rfl) (zby_at (j := 5) zbX12_goesBehind_7 rfl)
theorem dX12_goesBehind_118 : decode cX12_goesBehind 118 = .ok (.iconst 1, 1) := dq_4 (zby_at (j := 6) zbX12_goesBehind_7 rfl)
theorem dX12_goesBehind_119 : decode cX12_goesBehind 119 = .ok (.isub, 1) := dq_100 (zby_at (j := 7) zbX12_goesBehind_7 rfl)
theorem dX12_goesBehind_120 : decode cX12_goesBehind 120 = .ok (.putfield 215, 3) := dq_181 (zby_at (j := 8) zbX12_goesBehind_7 rfl) (zby_at (j := 9) zbX12_goesBehind_7 rfl) (zby_at (j := 10) zbX12_goesBehind_7 rfl)
theorem dX12_goesBehind_123 : decode cX12_goesBehind 123 = .ok (.aload_n 0, 1) := dq_42 (zby_at (j := 11) zbX12_goesBehind_7 rfl)
theorem dX12_goesBehind_124 : decode cX12_goesBehind 124 = .ok (.invokevirtual 154, 3) := dq_182 (zby_at (j := 12) zbX12_goesBehind_7 rfl) (zby_at (j := 13) zbX12_goesBehind_7 rfl) (zby_at (j := 14) zbX12_goesBehind_7 rfl)
theorem dX12_goesBehind_127 : decode cX12_goesBehind 127 = .ok (.aload_n 0, 1) := dq_42 (zby_at (j := 15) zbX12_goesBehind_7 rfl)
theorem zbX12_goesBehind_8 : zby cX12_goesBehind 128 20 = [6, 182, 1, 8, 3, 172] := by decide +kernel
theorem dX12_goesBehind_128 : decode cX12_goesBehind 128 = .ok (.iconst 3, 1) := dq_6 (zby_at (j := 0) zbX12_goesBehind_8 rfl)
theorem dX12_goesBehind_129 : decode cX12_goesBehind 129 = .ok (.invokevirtual 264, 3) := dq_182 (zby_at (j := 1) zbX12_goesBehind_8 rfl) (zby_at (j := 2) zbX12_goesBehind_8 rfl) (zby_at (j := 3) zbX12_goesBehind_8 rfl)
theorem dX12_goesBehind_132 : decode cX12_goesBehind 132 = .ok (.iconst 0, 1) := dq_3 (zby_at (j := 4) zbX12_goesBehind_8 rfl)
theorem dX12_goesBehind_133 : decode cX12_goesBehind 133 = .ok (.ireturn, 1) := dq_172 (zby_at (j := 5) zbX12_goesBehind_8 rfl)
theorem zbX12_readsSum_0 : zby cX12_readsSum 0 20 = [42, 4, 27, 120, 181, 0, 180, 42, 3, 181, 0, 203, 42, 3, 181, 0, 206, 42, 3, 181] := by decide +kernel
theorem dX12_readsSum_0 : decode cX12_readsSum 0 = .ok (.aload_n 0, 1) := dq_42 (zby_at (j := 0) zbX12_readsSum_0 rfl)
theorem dX12_readsSum_1 : decode cX12_readsSum 1 = .ok (.iconst 1, 1) := dq_4 (zby_at (j := 1) zbX12_readsSum_0 rfl)
theorem dX12_readsSum_2 : decode cX12_readsSum 2 = .ok (.iload_n 1, 1) := dq_27 (zby_at (j := 2) zbX12_readsSum_0 rfl)
theorem dX12_readsSum_3 : decode cX12_readsSum 3 = .ok (.ishl, 1) := dq_120 (zby_at (j := 3) zbX12_readsSum_0 rfl)
theorem dX12_readsSum_4 : decode cX12_readsSum 4 = .ok (.putfield 180, 3) := dq_181 (zby_at (j := 4) zbX12_readsSum_0 rfl) (zby_at (j := 5) zbX12_readsSum_0 rfl) (zby_at (j := 6) zbX12_readsSum_0 rfl)
theorem dX12_readsSum_7 : decode cX12_readsSum 7 = .ok (.aload_n 0, 1) := dq_42 (zby_at (j := 7) zbX12_readsSum_0 rfl)
theorem dX12_readsSum_8 : decode cX12_readsSum 8 = .ok (.iconst 0, 1) := dq_3 (zby_at (j := 8) zbX12_readsSum_0 rfl)
theorem dX12_readsSum_9 : decode cX12_readsSum 9 = .ok (.putfield 203, 3) := dq_181 (zby_at (j := 9) zbX12_readsSum_0 rfl) (zby_at (j := 10) zbX12_readsSum_0 rfl) (zby_at (j := 11) zbX12_readsSum_0 rfl)
theorem dX12_readsSum_12 : decode cX12_readsSum 12 = .ok (.aload_n 0, 1) := dq_42 (zby_at (j := 12) zbX12_readsSum_0 rfl)
theorem dX12_readsSum_13 : decode cX12_readsSum 13 = .ok (.iconst 0, 1) := dq_3 (zby_at (j := 13) zbX12_readsSum_0 rfl)
theorem dX12_readsSum_14 : decode cX12_readsSum 14 = .ok (.putfield 206, 3) := dq_181 (zby_at (j := 14) zbX12_readsSum_0 rfl) (zby_at (j := 15) zbX12_readsSum_0 rfl) (zby_at (j := 16) zbX12_readsSum_0 rfl)
theorem zbX12_readsSum_1 : zby cX12_readsSum 16 20 = [206, 42, 3, 181, 0, 215, 3, 62, 4, 54, 4, 42, 182, 0, 157, 153, 0, 55, 21, 4] := by decide +kernel
theorem dX12_readsSum_17 : decode cX12_readsSum 17 = .ok (.aload_n 0, 1) := dq_42 (zby_at (j := 1) zbX12_readsSum_1 rfl)
theorem dX12_readsSum_18 : decode cX12_readsSum 18 = .ok (.iconst 0, 1) := dq_3 (zby_at (j := 2) zbX12_readsSum_1 rfl)
theorem dX12_readsSum_19 : decode cX12_readsSum 19 = .ok (.putfield 215, 3) := dq_181 (zby_at (j := 3) zbX12_readsSum_1 rfl) (zby_at (j := 4) zbX12_readsSum_1 rfl) (zby_at (j := 5) zbX12_readsSum_1 rfl)
theorem dX12_readsSum_22 : decode cX12_readsSum 22 = .ok (.iconst 0, 1) := dq_3 (zby_at (j := 6) zbX12_readsSum_1 rfl)
theorem dX12_readsSum_23 : decode cX12_readsSum 23 = .ok (.istore_n 3, 1) := dq_62 (zby_at (j := 7) zbX12_readsSum_1 rfl)
theorem dX12_readsSum_24 : decode cX12_readsSum 24 = .ok (.iconst 1, 1) := dq_4 (zby_at (j := 8) zbX12_readsSum_1 rfl)
theorem dX12_readsSum_25 : decode cX12_readsSum 25 = .ok (.istore 4, 2) := dq_54 (zby_at (j := 9) zbX12_readsSum_1 rfl) (zby_at (j := 10) zbX12_readsSum_1 rfl)
theorem dX12_readsSum_27 : decode cX12_readsSum 27 = .ok (.aload_n 0, 1) := dq_42 (zby_at (j := 11) zbX12_readsSum_1 rfl)
theorem dX12_readsSum_28 : decode cX12_readsSum 28 = .ok (.invokevirtual 157, 3) := dq_182 (zby_at (j := 12) zbX12_readsSum_1 rfl) (zby_at (j := 13) zbX12_readsSum_1 rfl) (zby_at (j := 14) zbX12_readsSum_1 rfl)
theorem dX12_readsSum_31 : decode cX12_readsSum 31 = .ok (.ifCond .eq 55, 3) := dq_153 (zby_at (j := 15) zbX12_readsSum_1 rfl) (zby_at (j := 16) zbX12_readsSum_1 rfl) (zby_at (j := 17) zbX12_readsSum_1 rfl) rfl
theorem zbX12_readsSum_2 : zby cX12_readsSum 32 20 = [0, 55, 21, 4, 153, 0, 50, 29, 154, 0, 13, 42, 27, 44, 182, 1, 17, 62, 167, 255] := by decide +kernel
theorem dX12_readsSum_34 : decode cX12_readsSum 34 = .ok (.iload 4, 2) := dq_21 (zby_at (j := 2) zbX12_readsSum_2 rfl) (zby_at (j := 3) zbX12_readsSum_2 rfl)
theorem dX12_readsSum_36 : decode cX12_readsSum 36 = .ok (.ifCond .eq 50, 3) := dq_153 (zby_at (j := 4) zbX12_readsSum_2 rfl) (zby_at (j := 5) zbX12_readsSum_2 rfl) (zby_at (j := 6) zbX12_readsSum_2 rfl) rfl
theorem dX12_readsSum_39 : decode cX12_readsSum 39 = .ok (.iload_n 3, 1) := dq_29 (zby_at (j := 7) zbX12_readsSum_2 rfl)
theorem dX12_readsSum_40 : decode cX12_readsSum 40 = .ok (.ifCond .ne 13, 3) := dq_154 (zby_at (j := 8) zbX12_readsSum_2 rfl) (zby_at (j := 9) zbX12_readsSum_2 rfl) (zby_at (j := 10) zbX12_readsSum_2 rfl) rfl
theorem dX12_readsSum_43 : decode cX12_readsSum 43 = .ok (.aload_n 0, 1) := dq_42 (zby_at (j := 11) zbX12_readsSum_2 rfl)
theorem dX12_readsSum_44 : decode cX12_readsSum 44 = .ok (.iload_n 1, 1) := dq_27 (zby_at (j := 12) zbX12_readsSum_2 rfl)
theorem dX12_readsSum_45 : decode cX12_readsSum 45 = .ok (.aload_n 2, 1) := dq_44 (zby_at (j := 13) zbX12_readsSum_2 rfl)
theorem dX12_readsSum_46 : decode cX12_readsSum 46 = .ok (.invokevirtual 273, 3) := dq_182 (zby_at (j := 14) zbX12_readsSum_2 rfl) (zby_at (j := 15) zbX12_readsSum_2 rfl) (zby_at (j := 16) zbX12_readsSum_2 rfl)
theorem zbX12_readsSum_3 : zby cX12_readsSum 48 20 = [17, 62, 167, 255, 233, 42, 182, 1, 21, 54, 5, 21, 5, 154, 0, 7, 4, 167, 0, 4] := by decide +kernel
theorem dX12_readsSum_49 : decode cX12_readsSum 49 = .ok (.istore_n 3, 1) := dq_62 (zby_at (j := 1) zbX12_readsSum_3 rfl)
theorem dX12_readsSum_50 : decode cX12_readsSum 50 = .ok (.goto (-23), 3) := dq_167 (zby_at (j := 2) zbX12_readsSum_3 rfl) (zby_at (j := 3) zbX12_readsSum_3 rfl) (zby_at (j := 4) zbX12_readsSum_3 rfl) rfl
theorem dX12_readsSum_53 : decode cX12_readsSum 53 = .ok (.aload_n 0, 1) := dq_42 (zby_at (j := 5) zbX12_readsSum_3 rfl)
theorem dX12_readsSum_54 : decode cX12_readsSum 54 = .ok (.invokevirtual 277, 3) := dq_182 (zby_at (j := 6) zbX12_readsSum_3 rfl) (zby_at (j := 7) zbX12_readsSum_3 rfl) (zby_at (j := 8) zbX12_readsSum_3 rfl)
theorem dX12_readsSum_57 : decode cX12_readsSum 57 = .ok (.istore 5, 2) := dq_54 (zby_at (j := 9) zbX12_readsSum_3 rfl) (zby_at (j := 10) zbX12_readsSum_3 rfl)
theorem dX12_readsSum_59 : decode cX12_readsSum 59 = .ok (.iload 5, 2) := dq_21 (zby_at (j := 11) zbX12_readsSum_3 rfl) (zby_at (j := 12) zbX12_readsSum_3 rfl)
theorem dX12_readsSum_61 : decode cX12_readsSum 61 = .ok (.ifCond .ne 7, 3) := dq_154 (zby_at (j := 13) zbX12_readsSum_3 rfl) (zby_at (j := 14) zbX12_readsSum_3 rfl) (zby_at (j := 15) zbX12_readsSum_3 rfl) rfl
theorem zbX12_readsSum_4 : zby cX12_readsSum 64 20 = [4, 167, 0, 4, 3, 62, 21, 5, 2, 159, 0, 7, 4, 167, 0, 4, 3, 54, 4, 167] := by decide +kernel
theorem dX12_readsSum_64 : decode cX12_readsSum 64 = .ok (.iconst 1, 1) := dq_4 (zby_at (j := 0) zbX12_readsSum_4 rfl)
theorem dX12_readsSum_65 : decode cX12_readsSum 65 = .ok (.goto 4, 3) := dq_167 (zby_at (j := 1) zbX12_readsSum_4 rfl) (zby_at (j := 2) zbX12_readsSum_4 rfl) (zby_at (j := 3) zbX12_readsSum_4 rfl) rfl
theorem dX12_readsSum_68 : decode cX12_readsSum 68 = .ok (.iconst 0, 1) := dq_3 (zby_at (j := 4) zbX12_readsSum_4 rfl)
theorem dX12_readsSum_69 : decode cX12_readsSum 69 = .ok (.istore_n 3, 1) := dq_62 (zby_at (j := 5) zbX12_readsSum_4 rfl)
theorem dX12_readsSum_70 : decode cX12_readsSum 70 = .ok (.iload 5, 2) := dq_21 (zby_at (j := 6) zbX12_readsSum_4 rfl) (zby_at (j := 7) zbX12_readsSum_4 rfl)
theorem dX12_readsSum_72 : decode cX12_readsSum 72 = .ok (.iconst (-1), 1) := dq_2 (zby_at (j := 8) zbX12_readsSum_4 rfl)
theorem dX12_readsSum_73 : decode cX12_readsSum 73 = .ok (.if_icmp .eq 7, 3) := dq_159 (zby_at (j := 9) zbX12_readsSum_4 rfl) (zby_at (j := 10) zbX12_readsSum_4 rfl) (zby_at (j := 11) zbX12_readsSum_4 rfl) rfl
theorem dX12_readsSum_76 : decode cX12_readsSum 76 = .ok (.iconst 1, 1) := dq_4 (zby_at (j := 12) zbX12_readsSum_4 rfl)
theorem dX12_readsSum_77 : decode cX12_readsSum 77 = .ok (.goto 4, 3) := dq_167 (zby_at (j := 13) zbX12_readsSum_4 rfl) (zby_at (j := 14) zbX12_readsSum_4 rfl) (zby_at (j := 15) zbX12_readsSum_4 rfl) rfl
theorem zbX12_readsSum_5 : zby cX12_readsSum 80 20 = [3, 54, 4, 167, 255, 200, 42, 182, 1, 14, 153, 0, 8, 42, 4, 182, 0, 176, 42, 182] := by decide +kernel
theorem dX12_readsSum_80 : decode cX12_readsSum 80 = .ok (.iconst 0, 1) := dq_3 (zby_at (j := 0) zbX12_readsSum_5 rfl)
theorem dX12_readsSum_81 : decode cX12_readsSum 81 = .ok (.istore 4, 2) := dq_54 (zby_at (j := 1) zbX12_readsSum_5 rfl) (zby_at (j := 2) zbX12_readsSum_5 rfl)
theorem dX12_readsSum_83 : decode cX12_readsSum 83 = .ok (.goto (-56), 3) := dq_167 (zby_at (j := 3) zbX12_readsSum_5 rfl) (zby_at (j := 4) zbX12_readsSum_5 rfl) (zby_at (j := 5) zbX12_readsSum_5 rfl) rfl
theorem dX12_readsSum_86 : decode cX12_readsSum 86 = .ok (.aload_n 0, 1) := dq_42 (zby_at (j := 6) zbX12_readsSum_5 rfl)
theorem dX12_readsSum_87 : decode cX12_readsSum 87 = .ok (.invokevirtual 270, 3) := dq_182 (zby_at (j := 7) zbX12_readsSum_5 rfl) (zby_at (j := 8) zbX12_readsSum_5 rfl) (zby_at (j := 9) zbX12_readsSum_5 rfl)
theorem dX12_readsSum_90 : decode cX12_readsSum 90 = .ok (.ifCond .eq 8, 3) := dq_153 (zby_at (j := 10) zbX12_readsSum_5 rfl) (zby_at (j := 11) zbX12_readsSum_5 rfl) (zby_at (j := 12) zbX12_readsSum_5 rfl) rfl
theorem dX12_readsSum_93 : decode cX12_readsSum 93 = .ok (.aload_n 0, 1) := dq_42 (zby_at (j := 13) zbX12_readsSum_5 rfl)
theorem dX12_readsSum_94 : decode cX12_readsSum 94 = .ok (.iconst 1, 1) := dq_4 (zby_at (j := 14) zbX12_readsSum_5 rfl)
theorem dX12_readsSum_95 : decode cX12_readsSum 95 = .ok (.invokevirtual 176, 3) := dq_182 (zby_at (j := 15) zbX12_readsSum_5 rfl) (zby_at (j := 16) zbX12_readsSum_5 rfl) (zby_at (j := 17) zbX12_readsSum_5 rfl)
theorem zbX12_readsSum_6 : zby cX12_readsSum 96 20 = [0, 176, 42, 182, 0, 157, 153, 0, 8, 42, 4, 182, 1, 8, 177] := by decide +kernel
theorem dX12_readsSum_98 : decode cX12_readsSum 98 = .ok (.aload_n 0, 1) := dq_42 (zby_at (j := 2) zbX12_readsSum_6 rfl)
theorem dX12_readsSum_99 : decode cX12_readsSum 99 = .ok (.invokevirtual 157, 3) := dq_182 (zby_at (j := 3) zbX12_readsSum_6 rfl) (zby_at (j := 4) zbX12_readsSum_6 rfl) (zby_at (j := 5) zbX12_readsSum_6 rfl)
theorem dX12_readsSum_102 : decode cX12_readsSum 102 = .ok (.ifCond .eq 8, 3) := dq_153 (zby_at (j := 6) zbX12_readsSum_6 rfl) (zby_at (j := 7) zbX12_readsSum_6 rfl) (zby_at (j := 8) zbX12_readsSum_6 rfl) rfl
theorem dX12_readsSum_105 : decode cX12_readsSum 105 = .ok (.aload_n 0, 1) := dq_42 (zby_at (j := 9) zbX12_readsSum_6 rfl)
theorem dX12_readsSum_106 : decode cX12_readsSum 106 = .ok (.iconst 1, 1) := dq_4 (zby_at (j := 10) zbX12_readsSum_6 rfl)
theorem dX12_readsSum_107 : decode cX12_readsSum 107 = .ok (.invokevirtual 264, 3) := dq_182 (zby_at (j := 11) zbX12_readsSum_6 rfl) (zby_at (j := 12) zbX12_readsSum_6 rfl) (zby_at (j := 13) zbX12_readsSum_6 rfl)
theorem dX12_readsSum_110 : decode cX12_readsSum 110 = .ok (.return_, 1) := dq_177 (zby_at (j := 14) zbX12_readsSum_6 rfl)
theorem zbX12_readsNames_0 : zby cX12_readsNames 0 20 = [42, 19, 1, 24, 182, 1, 26, 42, 180, 0, 52, 3, 42, 4, 16, 10, 182, 0, 239, 79] := by decide +kernel
theorem dX12_readsNames_0 : decode cX12_readsNames 0 = .ok (.aload_n 0, 1) := dq_42 (zby_at (j := 0) zbX12_readsNames_0 rfl)
theorem dX12_readsNames_1 : decode cX12_readsNames 1 = .ok (.ldc_w 280, 3) := dq_19 (zby_at (j := 1) zbX12_readsNames_0 rfl) (zby_at (j := 2) zbX12_readsNames_0 rfl) (zby_at (j := 3) zbX12_readsNames_0 rfl)
theorem dX12_readsNames_4 : decode cX12_readsNames 4 = .ok (.invokevirtual 282, 3) := dq_182 (zby_at (j := 4) zbX12_readsNames_0 rfl) (zby_at (j := 5) zbX12_readsNames_0 rfl) (zby_at (j := 6) zbX12_readsNames_0 rfl)
theorem dX12_readsNames_7 : decode cX12_readsNames 7 = .ok (.aload_n 0, 1) := dq_42 (zby_at (j := 7) zbX12_readsNames_0 rfl)
theorem dX12_readsNames_8 : decode cX12_readsNames 8 = .ok (.getfield 52, 3) := dq_180 (zby_at (j := 8) zbX12_readsNames_0 rfl) (zby_at (j := 9) zbX12_readsNames_0 rfl) (zby_at (j := 10) zbX12_readsNames_0 rfl)
theorem dX12_readsNames_11 : decode cX12_readsNames 11 = .ok (.iconst 0, 1) := dq_3 (zby_at (j := 11) zbX12_readsNames_0 rfl)
theorem dX12_readsNames_12 : decode cX12_readsNames 12 = .ok (.aload_n 0, 1) := dq_42 (zby_at (j := 12) zbX12_readsNames_0 rfl)
theorem dX12_readsNames_13 : decode cX12_readsNames 13 = .ok (.iconst 1, 1) := dq_4 (zby_at (j := 13) zbX12_readsNames_0 rfl)
theorem dX12_readsNames_14 : decode cX12_readsNames 14 = .ok (.bipush 10, 2) := dq_16 (zby_at (j := 14) zbX12_readsNames_0 rfl) (zby_at (j := 15) zbX12_readsNames_0 rfl) rfl
theorem zbX12_readsNames_1 : zby cX12_readsNames 16 20 = [182, 0, 239, 79, 3, 60, 27, 16, 10, 162, 0, 28, 42, 180, 0, 52, 6, 27, 96, 4] := by decide +kernel
theorem dX12_readsNames_16 : decode cX12_readsNames 16 = .ok (.invokevirtual 239, 3) := dq_182 (zby_at (j := 0) zbX12_readsNames_1 rfl) (zby_at (j := 1) zbX12_readsNames_1 rfl) (zby_at (j := 2) zbX12_readsNames_1 rfl)
theorem dX12_readsNames_19 : decode cX12_readsNames 19 = .ok (.iastore, 1) := dq_79 (zby_at (j := 3) zbX12_readsNames_1 rfl)
theorem dX12_readsNames_20 : decode cX12_readsNames 20 = .ok (.iconst 0, 1) := dq_3 (zby_at (j := 4) zbX12_readsNames_1 rfl)
theorem dX12_readsNames_21 : decode cX12_readsNames 21 = .ok (.istore_n 1, 1) := dq_60 (zby_at (j := 5) zbX12_readsNames_1 rfl)
theorem dX12_readsNames_22 : decode cX12_readsNames 22 = .ok (.iload_n 1, 1) := dq_27 (zby_at (j := 6) zbX12_readsNames_1 rfl)
theorem dX12_readsNames_23 : decode cX12_readsNames 23 = .ok (.bipush 10, 2) := dq_16 (zby_at (j := 7) zbX12_readsNames_1 rfl) (zby_at (j := 8) zbX12_readsNames_1 rfl) rfl
theorem dX12_readsNames_25 : decode cX12_readsNames 25 = .ok (.if_icmp .ge 28, 3) := dq_162 (zby_at (j := 9) zbX12_readsNames_1 rfl) (zby_at (j := 10) zbX12_readsNames_1 rfl) (zby_at (j := 11) zbX12_readsNames_1 rfl) rfl
theorem dX12_readsNames_28 : decode cX12_readsNames 28 = .ok (.aload_n 0, 1) := dq_42 (zby_at (j := 12) zbX12_readsNames_1 rfl)
theorem dX12_readsNames_29 : decode cX12_readsNames 29 = .ok (.getfield 52, 3) := dq_180 (zby_at (j := 13) zbX12_readsNames_1 rfl) (zby_at (j := 14) zbX12_readsNames_1 rfl) (zby_at (j := 15) zbX12_readsNames_1 rfl)
theorem zbX12_readsNames_2 : zby cX12_readsNames 32 20 = [6, 27, 96, 4, 79, 42, 180, 0, 52, 16, 33, 27, 96, 27, 79, 132, 1, 1, 167, 255] := by decide +kernel
theorem dX12_readsNames_32 : decode cX12_readsNames 32 = .ok (.iconst 3, 1) := dq_6 (zby_at (j := 0) zbX12_readsNames_2 rfl)
theorem dX12_readsNames_33 : decode cX12_readsNames 33 = .ok (.iload_n 1, 1) := dq_27 (zby_at (j := 1) zbX12_readsNames_2 rfl)
theorem dX12_readsNames_34 : decode cX12_readsNames 34 = .ok (.iadd, 1) := dq_96 (zby_at (j := 2) zbX12_readsNames_2 rfl)
theorem dX12_readsNames_35 : decode cX12_readsNames 35 = .ok (.iconst 1, 1) := dq_4 (zby_at (j := 3) zbX12_readsNames_2 rfl)
theorem dX12_readsNames_36 : decode cX12_readsNames 36 = .ok (.iastore, 1) := dq_79 (zby_at (j := 4) zbX12_readsNames_2 rfl)
theorem dX12_readsNames_37 : decode cX12_readsNames 37 = .ok (.aload_n 0, 1) := dq_42 (zby_at (j := 5) zbX12_readsNames_2 rfl)
theorem dX12_readsNames_38 : decode cX12_readsNames 38 = .ok (.getfield 52, 3) := dq_180 (zby_at (j := 6) zbX12_readsNames_2 rfl) (zby_at (j := 7) zbX12_readsNames_2 rfl) (zby_at (j := 8) zbX12_readsNames_2 rfl)
theorem dX12_readsNames_41 : decode cX12_readsNames 41 = .ok (.bipush 33, 2) := dq_16 (zby_at (j := 9) zbX12_readsNames_2 rfl) (zby_at (j := 10) zbX12_readsNames_2 rfl) rfl
theorem dX12_readsNames_43 : decode cX12_readsNames 43 = .ok (.iload_n 1, 1) := dq_27 (zby_at (j := 11) zbX12_readsNames_2 rfl)
theorem dX12_readsNames_44 : decode cX12_readsNames 44 = .ok (.iadd, 1) := dq_96 (zby_at (j := 12) zbX12_readsNames_2 rfl)
theorem dX12_readsNames_45 : decode cX12_readsNames 45 = .ok (.iload_n 1, 1) := dq_27 (zby_at (j := 13) zbX12_readsNames_2 rfl)
theorem dX12_readsNames_46 : decode cX12_readsNames 46 = .ok (.iastore, 1) := dq_79 (zby_at (j := 14) zbX12_readsNames_2 rfl)
theorem dX12_readsNames_47 : decode cX12_readsNames 47 = .ok (.iinc 1 1, 3) := dq_132 (zby_at (j := 15) zbX12_readsNames_2 rfl) (zby_at (j := 16) zbX12_readsNames_2 rfl) (zby_at (j := 17) zbX12_readsNames_2 rfl) rfl
theorem zbX12_readsNames_3 : zby cX12_readsNames 48 20 = [1, 1, 167, 255, 228, 177] := by decide +kernel
theorem dX12_readsNames_50 : decode cX12_readsNames 50 = .ok (.goto (-28), 3) := dq_167 (zby_at (j := 2) zbX12_readsNames_3 rfl) (zby_at (j := 3) zbX12_readsNames_3 rfl) (zby_at (j := 4) zbX12_readsNames_3 rfl) rfl
theorem dX12_readsNames_53 : decode cX12_readsNames 53 = .ok (.return_, 1) := dq_177 (zby_at (j := 5) zbX12_readsNames_3 rfl)
theorem zbX12_readsName_0 : zby cX12_readsName 0 20 = [42, 182, 0, 157, 153, 0, 16, 42, 180, 0, 123, 4, 159, 0, 8, 42, 4, 182, 0, 176] := by decide +kernel
theorem dX12_readsName_0 : decode cX12_readsName 0 = .ok (.aload_n 0, 1) := dq_42 (zby_at (j := 0) zbX12_readsName_0 rfl)
theorem dX12_readsName_1 : decode cX12_readsName 1 = .ok (.invokevirtual 157, 3) := dq_182 (zby_at (j := 1) zbX12_readsName_0 rfl) (zby_at (j := 2) zbX12_readsName_0 rfl) (zby_at (j := 3) zbX12_readsName_0 rfl)
theorem dX12_readsName_4 : decode cX12_readsName 4 = .ok (.ifCond .eq 16, 3) := dq_153 (zby_at (j := 4) zbX12_readsName_0 rfl) (zby_at (j := 5) zbX12_readsName_0 rfl) (zby_at (j := 6) zbX12_readsName_0 rfl) rfl
theorem dX12_readsName_7 : decode cX12_readsName 7 = .ok (.aload_n 0, 1) := dq_42 (zby_at (j := 7) zbX12_readsName_0 rfl)
theorem dX12_readsName_8 : decode cX12_readsName 8 = .ok (.getfield 123, 3) := dq_180 (zby_at (j := 8) zbX12_readsName_0 rfl) (zby_at (j := 9) zbX12_readsName_0 rfl) (zby_at (j := 10) zbX12_readsName_0 rfl)
theorem dX12_readsName_11 : decode cX12_readsName 11 = .ok (.iconst 1, 1) := dq_4 (zby_at (j := 11) zbX12_readsName_0 rfl)
theorem dX12_readsName_12 : decode cX12_readsName 12 = .ok (.if_icmp .eq 8, 3) := dq_159 (zby_at (j := 12) zbX12_readsName_0 rfl) (zby_at (j := 13) zbX12_readsName_0 rfl) (zby_at (j := 14) zbX12_readsName_0 rfl) rfl
theorem dX12_readsName_15 : decode cX12_readsName 15 = .ok (.aload_n 0, 1) := dq_42 (zby_at (j := 15) zbX12_readsName_0 rfl)
theorem zbX12_readsName_1 : zby cX12_readsName 16 20 = [4, 182, 0, 176, 42, 182, 0, 157, 153, 0, 42, 42, 180, 0, 113, 42, 180, 0, 120, 100] := by decide +kernel
theorem dX12_readsName_16 : decode cX12_readsName 16 = .ok (.iconst 1, 1) := dq_4 (zby_at (j := 0) zbX12_readsName_1 rfl)
theorem dX12_readsName_17 : decode cX12_readsName 17 = .ok (.invokevirtual 176, 3) := dq_182 (zby_at (j := 1) zbX12_readsName_1 rfl) (zby_at (j := 2) zbX12_readsName_1 rfl) (zby_at (j := 3) zbX12_readsName_1 rfl)
theorem dX12_readsName_20 : decode cX12_readsName 20 = .ok (.aload_n 0, 1) := dq_42 (zby_at (j := 4) zbX12_readsName_1 rfl)
theorem dX12_readsName_21 : decode cX12_readsName 21 = .ok (.invokevirtual 157, 3) := dq_182 (zby_at (j := 5) zbX12_readsName_1 rfl) (zby_at (j := 6) zbX12_readsName_1 rfl) (zby_at (j := 7) zbX12_readsName_1 rfl)
theorem dX12_readsName_24 : decode cX12_readsName 24 = .ok (.ifCond .eq 42, 3) := dq_153 (zby_at (j := 8) zbX12_readsName_1 rfl) (zby_at (j := 9) zbX12_readsName_1 rfl) (zby_at (j := 10) zbX12_readsName_1 rfl) rfl
theorem dX12_readsName_27 : decode cX12_readsName 27 = .ok (.aload_n 0, 1) := dq_42 (zby_at (j := 11) zbX12_readsName_1 rfl)
theorem dX12_readsName_28 : decode cX12_readsName 28 = .ok (.getfield 113, 3) := dq_180 (zby_at (j := 12) zbX12_readsName_1 rfl) (zby_at (j := 13) zbX12_readsName_1 rfl) (zby_at (j := 14) zbX12_readsName_1 rfl)
theorem dX12_readsName_31 : decode cX12_readsName 31 = .ok (.aload_n 0, 1) := dq_42 (zby_at (j := 15) zbX12_readsName_1 rfl)
theorem zbX12_readsName_2 : zby cX12_readsName 32 20 = [180, 0, 120, 100, 4, 163, 0, 24, 42, 180, 0, 26, 42, 180, 0, 120, 51, 16, 97, 100] := by decide +kernel
theorem dX12_readsName_32 : decode cX12_readsName 32 = .ok (.getfield 120, 3) := dq_180 (zby_at (j := 0) zbX12_readsName_2 rfl) (zby_at (j := 1) zbX12_readsName_2 rfl) (zby_at (j := 2) zbX12_readsName_2 rfl)
theorem dX12_readsName_35 : decode cX12_readsName 35 = .ok (.isub, 1) := dq_100 (zby_at (j := 3) zbX12_readsName_2 rfl)
theorem dX12_readsName_36 : decode cX12_readsName 36 = .ok (.iconst 1, 1) := dq_4 (zby_at (j := 4) zbX12_readsName_2 rfl)
theorem dX12_readsName_37 : decode cX12_readsName 37 = .ok (.if_icmp .gt 24, 3) := dq_163 (zby_at (j := 5) zbX12_readsName_2 rfl) (zby_at (j := 6) zbX12_readsName_2 rfl) (zby_at (j := 7) zbX12_readsName_2 rfl) rfl
theorem dX12_readsName_40 : decode cX12_readsName 40 = .ok (.aload_n 0, 1) := dq_42 (zby_at (j := 8) zbX12_readsName_2 rfl)
theorem dX12_readsName_41 : decode cX12_readsName 41 = .ok (.getfield 26, 3) := dq_180 (zby_at (j := 9) zbX12_readsName_2 rfl) (zby_at (j := 10) zbX12_readsName_2 rfl) (zby_at (j := 11) zbX12_readsName_2 rfl)
theorem dX12_readsName_44 : decode cX12_readsName 44 = .ok (.aload_n 0, 1) := dq_42 (zby_at (j := 12) zbX12_readsName_2 rfl)
theorem dX12_readsName_45 : decode cX12_readsName 45 = .ok (.getfield 120, 3) := dq_180 (zby_at (j := 13) zbX12_readsName_2 rfl) (zby_at (j := 14) zbX12_readsName_2 rfl) (zby_at (j := 15) zbX12_readsName_2 rfl)
theorem zbX12_readsName_3 : zby cX12_readsName 48 20 = [51, 16, 97, 100, 42, 180, 0, 52, 3, 46, 161, 0, 8, 42, 5, 182, 0, 176, 42, 182] := by decide +kernel
theorem dX12_readsName_48 : decode cX12_readsName 48 = .ok (.baload, 1) := dq_51 (zby_at (j := 0) zbX12_readsName_3 rfl)
theorem dX12_readsName_49 : decode cX12_readsName 49 = .ok (.bipush 97, 2) := dq_16 (zby_at (j := 1) zbX12_readsName_3 rfl) (zby_at (j := 2) zbX12_readsName_3 rfl) rfl
theorem dX12_readsName_51 : decode cX12_readsName 51 = .ok (.isub, 1) := dq_100 (zby_at (j := 3) zbX12_readsName_3 rfl)
theorem dX12_readsName_52 : decode cX12_readsName 52 = .ok (.aload_n 0, 1) := dq_42 (zby_at (j := 4) zbX12_readsName_3 rfl)
theorem dX12_readsName_53 : decode cX12_readsName 53 = .ok (.getfield 52, 3) := dq_180 (zby_at (j := 5) zbX12_readsName_3 rfl) (zby_at (j := 6) zbX12_readsName_3 rfl) (zby_at (j := 7) zbX12_readsName_3 rfl)
theorem dX12_readsName_56 : decode cX12_readsName 56 = .ok (.iconst 0, 1) := dq_3 (zby_at (j := 8) zbX12_readsName_3 rfl)
theorem dX12_readsName_57 : decode cX12_readsName 57 = .ok (.iaload, 1) := dq_46 (zby_at (j := 9) zbX12_readsName_3 rfl)
theorem dX12_readsName_58 : decode cX12_readsName 58 = .ok (.if_icmp .lt 8, 3) := dq_161 (zby_at (j := 10) zbX12_readsName_3 rfl) (zby_at (j := 11) zbX12_readsName_3 rfl) (zby_at (j := 12) zbX12_readsName_3 rfl) rfl
theorem dX12_readsName_61 : decode cX12_readsName 61 = .ok (.aload_n 0, 1) := dq_42 (zby_at (j := 13) zbX12_readsName_3 rfl)
theorem dX12_readsName_62 : decode cX12_readsName 62 = .ok (.iconst 2, 1) := dq_5 (zby_at (j := 14) zbX12_readsName_3 rfl)
theorem dX12_readsName_63 : decode cX12_readsName 63 = .ok (.invokevirtual 176, 3) := dq_182 (zby_at (j := 15) zbX12_readsName_3 rfl) (zby_at (j := 16) zbX12_readsName_3 rfl) (zby_at (j := 17) zbX12_readsName_3 rfl)
theorem zbX12_readsName_4 : zby cX12_readsName 64 20 = [0, 176, 42, 182, 0, 157, 153, 0, 18, 42, 180, 0, 26, 42, 180, 0, 120, 51, 16, 97] := by decide +kernel
theorem dX12_readsName_66 : decode cX12_readsName 66 = .ok (.aload_n 0, 1) := dq_42 (zby_at (j := 2) zbX12_readsName_4 rfl)
theorem dX12_readsName_67 : decode cX12_readsName 67 = .ok (.invokevirtual 157, 3) := dq_182 (zby_at (j := 3) zbX12_readsName_4 rfl) (zby_at (j := 4) zbX12_readsName_4 rfl) (zby_at (j := 5) zbX12_readsName_4 rfl)
theorem dX12_readsName_70 : decode cX12_readsName 70 = .ok (.ifCond .eq 18, 3) := dq_153 (zby_at (j := 6) zbX12_readsName_4 rfl) (zby_at (j := 7) zbX12_readsName_4 rfl) (zby_at (j := 8) zbX12_readsName_4 rfl) rfl
theorem dX12_readsName_73 : decode cX12_readsName 73 = .ok (.aload_n 0, 1) := dq_42 (zby_at (j := 9) zbX12_readsName_4 rfl)
theorem dX12_readsName_74 : decode cX12_readsName 74 = .ok (.getfield 26, 3) := dq_180 (zby_at (j := 10) zbX12_readsName_4 rfl) (zby_at (j := 11) zbX12_readsName_4 rfl) (zby_at (j := 12) zbX12_readsName_4 rfl)
theorem dX12_readsName_77 : decode cX12_readsName 77 = .ok (.aload_n 0, 1) := dq_42 (zby_at (j := 13) zbX12_readsName_4 rfl)
theorem dX12_readsName_78 : decode cX12_readsName 78 = .ok (.getfield 120, 3) := dq_180 (zby_at (j := 14) zbX12_readsName_4 rfl) (zby_at (j := 15) zbX12_readsName_4 rfl) (zby_at (j := 16) zbX12_readsName_4 rfl)
theorem zbX12_readsName_5 : zby cX12_readsName 80 20 = [120, 51, 16, 97, 100, 167, 0, 4, 3, 60, 42, 182, 0, 157, 153, 0, 7, 42, 182, 0] := by decide +kernel
theorem dX12_readsName_81 : decode cX12_readsName 81 = .ok (.baload, 1) := dq_51 (zby_at (j := 1) zbX12_readsName_5 rfl)
theorem dX12_readsName_82 : decode cX12_readsName 82 = .ok (.bipush 97, 2) := dq_16 (zby_at (j := 2) zbX12_readsName_5 rfl) (zby_at (j := 3) zbX12_readsName_5 rfl) rfl
theorem dX12_readsName_84 : decode cX12_readsName 84 = .ok (.isub, 1) := dq_100 (zby_at (j := 4) zbX12_readsName_5 rfl)
theorem dX12_readsName_85 : decode cX12_readsName 85 = .ok (.goto 4, 3) := dq_167 (zby_at (j := 5) zbX12_readsName_5 rfl) (zby_at (j := 6) zbX12_readsName_5 rfl) (zby_at (j := 7) zbX12_readsName_5 rfl) rfl
theorem dX12_readsName_88 : decode cX12_readsName 88 = .ok (.iconst 0, 1) := dq_3 (zby_at (j := 8) zbX12_readsName_5 rfl)
theorem dX12_readsName_89 : decode cX12_readsName 89 = .ok (.istore_n 1, 1) := dq_60 (zby_at (j := 9) zbX12_readsName_5 rfl)
theorem dX12_readsName_90 : decode cX12_readsName 90 = .ok (.aload_n 0, 1) := dq_42 (zby_at (j := 10) zbX12_readsName_5 rfl)
theorem dX12_readsName_91 : decode cX12_readsName 91 = .ok (.invokevirtual 157, 3) := dq_182 (zby_at (j := 11) zbX12_readsName_5 rfl) (zby_at (j := 12) zbX12_readsName_5 rfl) (zby_at (j := 13) zbX12_readsName_5 rfl)
theorem dX12_readsName_94 : decode cX12_readsName 94 = .ok (.ifCond .eq 7, 3) := dq_153 (zby_at (j := 14) zbX12_readsName_5 rfl) (zby_at (j := 15) zbX12_readsName_5 rfl) (zby_at (j := 16) zbX12_readsName_5 rfl) rfl
theorem zbX12_readsName_6 : zby cX12_readsName 96 20 = [7, 42, 182, 0, 154, 27, 172] := by decide +kernel
theorem dX12_readsName_97 : decode cX12_readsName 97 = .ok (.aload_n 0, 1) := dq_42 (zby_at (j := 1) zbX12_readsName_6 rfl)
theorem dX12_readsName_98 : decode cX12_readsName 98 = .ok (.invokevirtual 154, 3) := dq_182 (zby_at (j := 2) zbX12_readsName_6 rfl) (zby_at (j := 3) zbX12_readsName_6 rfl) (zby_at (j := 4) zbX12_readsName_6 rfl)
theorem dX12_readsName_101 : decode cX12_readsName 101 = .ok (.iload_n 1, 1) := dq_27 (zby_at (j := 5) zbX12_readsName_6 rfl)
theorem dX12_readsName_102 : decode cX12_readsName 102 = .ok (.ireturn, 1) := dq_172 (zby_at (j := 6) zbX12_readsName_6 rfl)
theorem zbX12_readsEdge_0 : zby cX12_readsEdge 0 20 = [42, 3, 16, 7, 182, 0, 239, 60, 42, 182, 0, 157, 153, 0, 24, 42, 180, 0, 123, 5] := by decide +kernel
theorem dX12_readsEdge_0 : decode cX12_readsEdge 0 = .ok (.aload_n 0, 1) := dq_42 (zby_at (j := 0) zbX12_readsEdge_0 rfl)
theorem dX12_readsEdge_1 : decode cX12_readsEdge 1 = .ok (.iconst 0, 1) := dq_3 (zby_at (j := 1) zbX12_readsEdge_0 rfl)
theorem dX12_readsEdge_2 : decode cX12_readsEdge 2 = .ok (.bipush 7, 2) := dq_16 (zby_at (j := 2) zbX12_readsEdge_0 rfl) (zby_at (j := 3) zbX12_readsEdge_0 rfl) rfl
theorem dX12_readsEdge_4 : decode cX12_readsEdge 4 = .ok (.invokevirtual 239, 3) := dq_182 (zby_at (j := 4) zbX12_readsEdge_0 rfl) (zby_at (j := 5) zbX12_readsEdge_0 rfl) (zby_at (j := 6) zbX12_readsEdge_0 rfl)
theorem dX12_readsEdge_7 : decode cX12_readsEdge 7 = .ok (.istore_n 1, 1) := dq_60 (zby_at (j := 7) zbX12_readsEdge_0 rfl)
theorem dX12_readsEdge_8 : decode cX12_readsEdge 8 = .ok (.aload_n 0, 1) := dq_42 (zby_at (j := 8) zbX12_readsEdge_0 rfl)
theorem dX12_readsEdge_9 : decode cX12_readsEdge 9 = .ok (.invokevirtual 157, 3) := dq_182 (zby_at (j := 9) zbX12_readsEdge_0 rfl) (zby_at (j := 10) zbX12_readsEdge_0 rfl) (zby_at (j := 11) zbX12_readsEdge_0 rfl)
theorem dX12_readsEdge_12 : decode cX12_readsEdge 12 = .ok (.ifCond .eq 24, 3) := dq_153 (zby_at (j := 12) zbX12_readsEdge_0 rfl) (zby_at (j := 13) zbX12_readsEdge_0 rfl) (zby_at (j := 14) zbX12_readsEdge_0 rfl) rfl
theorem dX12_readsEdge_15 : decode cX12_readsEdge 15 = .ok (.aload_n 0, 1) := dq_42 (zby_at (j := 15) zbX12_readsEdge_0 rfl)
theorem zbX12_readsEdge_1 : zby cX12_readsEdge 16 20 = [180, 0, 123, 5, 160, 0, 16, 42, 180, 0, 134, 27, 160, 0, 8, 42, 5, 182, 0, 176] := by decide +kernel
theorem dX12_readsEdge_16 : decode cX12_readsEdge 16 = .ok (.getfield 123, 3) := dq_180 (zby_at (j := 0) zbX12_readsEdge_1 rfl) (zby_at (j := 1) zbX12_readsEdge_1 rfl) (zby_at (j := 2) zbX12_readsEdge_1 rfl)
theorem dX12_readsEdge_19 : decode cX12_readsEdge 19 = .ok (.iconst 2, 1) := dq_5 (zby_at (j := 3) zbX12_readsEdge_1 rfl)
theorem dX12_readsEdge_20 : decode cX12_readsEdge 20 = .ok (.if_icmp .ne 16, 3) := dq_160 (zby_at (j := 4) zbX12_readsEdge_1 rfl) (zby_at (j := 5) zbX12_readsEdge_1 rfl) (zby_at (j := 6) zbX12_readsEdge_1 rfl) rfl
theorem dX12_readsEdge_23 : decode cX12_readsEdge 23 = .ok (.aload_n 0, 1) := dq_42 (zby_at (j := 7) zbX12_readsEdge_1 rfl)
theorem dX12_readsEdge_24 : decode cX12_readsEdge 24 = .ok (.getfield 134, 3) := dq_180 (zby_at (j := 8) zbX12_readsEdge_1 rfl) (zby_at (j := 9) zbX12_readsEdge_1 rfl) (zby_at (j := 10) zbX12_readsEdge_1 rfl)
theorem dX12_readsEdge_27 : decode cX12_readsEdge 27 = .ok (.iload_n 1, 1) := dq_27 (zby_at (j := 11) zbX12_readsEdge_1 rfl)
theorem dX12_readsEdge_28 : decode cX12_readsEdge 28 = .ok (.if_icmp .ne 8, 3) := dq_160 (zby_at (j := 12) zbX12_readsEdge_1 rfl) (zby_at (j := 13) zbX12_readsEdge_1 rfl) (zby_at (j := 14) zbX12_readsEdge_1 rfl) rfl
theorem dX12_readsEdge_31 : decode cX12_readsEdge 31 = .ok (.aload_n 0, 1) := dq_42 (zby_at (j := 15) zbX12_readsEdge_1 rfl)
theorem zbX12_readsEdge_2 : zby cX12_readsEdge 32 20 = [5, 182, 0, 176, 42, 3, 16, 7, 182, 0, 239, 61, 42, 182, 0, 157, 154, 0, 4, 177] := by decide +kernel
theorem dX12_readsEdge_32 : decode cX12_readsEdge 32 = .ok (.iconst 2, 1) := dq_5 (zby_at (j := 0) zbX12_readsEdge_2 rfl)
theorem dX12_readsEdge_33 : decode cX12_readsEdge 33 = .ok (.invokevirtual 176, 3) := dq_182 (zby_at (j := 1) zbX12_readsEdge_2 rfl) (zby_at (j := 2) zbX12_readsEdge_2 rfl) (zby_at (j := 3) zbX12_readsEdge_2 rfl)
theorem dX12_readsEdge_36 : decode cX12_readsEdge 36 = .ok (.aload_n 0, 1) := dq_42 (zby_at (j := 4) zbX12_readsEdge_2 rfl)
theorem dX12_readsEdge_37 : decode cX12_readsEdge 37 = .ok (.iconst 0, 1) := dq_3 (zby_at (j := 5) zbX12_readsEdge_2 rfl)
theorem dX12_readsEdge_38 : decode cX12_readsEdge 38 = .ok (.bipush 7, 2) := dq_16 (zby_at (j := 6) zbX12_readsEdge_2 rfl) (zby_at (j := 7) zbX12_readsEdge_2 rfl) rfl
theorem dX12_readsEdge_40 : decode cX12_readsEdge 40 = .ok (.invokevirtual 239, 3) := dq_182 (zby_at (j := 8) zbX12_readsEdge_2 rfl) (zby_at (j := 9) zbX12_readsEdge_2 rfl) (zby_at (j := 10) zbX12_readsEdge_2 rfl)
theorem dX12_readsEdge_43 : decode cX12_readsEdge 43 = .ok (.istore_n 2, 1) := dq_61 (zby_at (j := 11) zbX12_readsEdge_2 rfl)
theorem dX12_readsEdge_44 : decode cX12_readsEdge 44 = .ok (.aload_n 0, 1) := dq_42 (zby_at (j := 12) zbX12_readsEdge_2 rfl)
theorem dX12_readsEdge_45 : decode cX12_readsEdge 45 = .ok (.invokevirtual 157, 3) := dq_182 (zby_at (j := 13) zbX12_readsEdge_2 rfl) (zby_at (j := 14) zbX12_readsEdge_2 rfl) (zby_at (j := 15) zbX12_readsEdge_2 rfl)
theorem zbX12_readsEdge_3 : zby cX12_readsEdge 48 20 = [154, 0, 4, 177, 42, 180, 0, 52, 16, 13, 42, 180, 0, 52, 5, 46, 96, 27, 79, 42] := by decide +kernel
theorem dX12_readsEdge_48 : decode cX12_readsEdge 48 = .ok (.ifCond .ne 4, 3) := dq_154 (zby_at (j := 0) zbX12_readsEdge_3 rfl) (zby_at (j := 1) zbX12_readsEdge_3 rfl) (zby_at (j := 2) zbX12_readsEdge_3 rfl) rfl
theorem dX12_readsEdge_51 : decode cX12_readsEdge 51 = .ok (.return_, 1) := dq_177 (zby_at (j := 3) zbX12_readsEdge_3 rfl)
theorem dX12_readsEdge_52 : decode cX12_readsEdge 52 = .ok (.aload_n 0, 1) := dq_42 (zby_at (j := 4) zbX12_readsEdge_3 rfl)
theorem dX12_readsEdge_53 : decode cX12_readsEdge 53 = .ok (.getfield 52, 3) := dq_180 (zby_at (j := 5) zbX12_readsEdge_3 rfl) (zby_at (j := 6) zbX12_readsEdge_3 rfl) (zby_at (j := 7) zbX12_readsEdge_3 rfl)
theorem dX12_readsEdge_56 : decode cX12_readsEdge 56 = .ok (.bipush 13, 2) := dq_16 (zby_at (j := 8) zbX12_readsEdge_3 rfl) (zby_at (j := 9) zbX12_readsEdge_3 rfl) rfl
theorem dX12_readsEdge_58 : decode cX12_readsEdge 58 = .ok (.aload_n 0, 1) := dq_42 (zby_at (j := 10) zbX12_readsEdge_3 rfl)
theorem dX12_readsEdge_59 : decode cX12_readsEdge 59 = .ok (.getfield 52, 3) := dq_180 (zby_at (j := 11) zbX12_readsEdge_3 rfl) (zby_at (j := 12) zbX12_readsEdge_3 rfl) (zby_at (j := 13) zbX12_readsEdge_3 rfl)
theorem dX12_readsEdge_62 : decode cX12_readsEdge 62 = .ok (.iconst 2, 1) := dq_5 (zby_at (j := 14) zbX12_readsEdge_3 rfl)
theorem dX12_readsEdge_63 : decode cX12_readsEdge 63 = .ok (.iaload, 1) := dq_46 (zby_at (j := 15) zbX12_readsEdge_3 rfl)
theorem zbX12_readsEdge_4 : zby cX12_readsEdge 64 20 = [96, 27, 79, 42, 180, 0, 52, 16, 23, 42, 180, 0, 52, 5, 46, 96, 28, 79, 42, 180] := by decide +kernel
theorem dX12_readsEdge_64 : decode cX12_readsEdge 64 = .ok (.iadd, 1) := dq_96 (zby_at (j := 0) zbX12_readsEdge_4 rfl)
theorem dX12_readsEdge_65 : decode cX12_readsEdge 65 = .ok (.iload_n 1, 1) := dq_27 (zby_at (j := 1) zbX12_readsEdge_4 rfl)
theorem dX12_readsEdge_66 : decode cX12_readsEdge 66 = .ok (.iastore, 1) := dq_79 (zby_at (j := 2) zbX12_readsEdge_4 rfl)
theorem dX12_readsEdge_67 : decode cX12_readsEdge 67 = .ok (.aload_n 0, 1) := dq_42 (zby_at (j := 3) zbX12_readsEdge_4 rfl)
theorem dX12_readsEdge_68 : decode cX12_readsEdge 68 = .ok (.getfield 52, 3) := dq_180 (zby_at (j := 4) zbX12_readsEdge_4 rfl) (zby_at (j := 5) zbX12_readsEdge_4 rfl) (zby_at (j := 6) zbX12_readsEdge_4 rfl)
theorem dX12_readsEdge_71 : decode cX12_readsEdge 71 = .ok (.bipush 23, 2) := dq_16 (zby_at (j := 7) zbX12_readsEdge_4 rfl) (zby_at (j := 8) zbX12_readsEdge_4 rfl) rfl
theorem dX12_readsEdge_73 : decode cX12_readsEdge 73 = .ok (.aload_n 0, 1) := dq_42 (zby_at (j := 9) zbX12_readsEdge_4 rfl)
theorem dX12_readsEdge_74 : decode cX12_readsEdge 74 = .ok (.getfield 52, 3) := dq_180 (zby_at (j := 10) zbX12_readsEdge_4 rfl) (zby_at (j := 11) zbX12_readsEdge_4 rfl) (zby_at (j := 12) zbX12_readsEdge_4 rfl)
theorem dX12_readsEdge_77 : decode cX12_readsEdge 77 = .ok (.iconst 2, 1) := dq_5 (zby_at (j := 13) zbX12_readsEdge_4 rfl)
theorem dX12_readsEdge_78 : decode cX12_readsEdge 78 = .ok (.iaload, 1) := dq_46 (zby_at (j := 14) zbX12_readsEdge_4 rfl)
theorem dX12_readsEdge_79 : decode cX12_readsEdge 79 = .ok (.iadd, 1) := dq_96 (zby_at (j := 15) zbX12_readsEdge_4 rfl)
theorem zbX12_readsEdge_5 : zby cX12_readsEdge 80 20 = [28, 79, 42, 180, 0, 52, 5, 92, 46, 4, 96, 79, 177] := by decide +kernel
theorem dX12_readsEdge_80 : decode cX12_readsEdge 80 = .ok (.iload_n 2, 1) := dq_28 (zby_at (j := 0) zbX12_readsEdge_5 rfl)
theorem dX12_readsEdge_81 : decode cX12_readsEdge 81 = .ok (.iastore, 1) := dq_79 (zby_at (j := 1) zbX12_readsEdge_5 rfl)
theorem dX12_readsEdge_82 : decode cX12_readsEdge 82 = .ok (.aload_n 0, 1) := dq_42 (zby_at (j := 2) zbX12_readsEdge_5 rfl)
theorem dX12_readsEdge_83 : decode cX12_readsEdge 83 = .ok (.getfield 52, 3) := dq_180 (zby_at (j := 3) zbX12_readsEdge_5 rfl) (zby_at (j := 4) zbX12_readsEdge_5 rfl) (zby_at (j := 5) zbX12_readsEdge_5 rfl)
theorem dX12_readsEdge_86 : decode cX12_readsEdge 86 = .ok (.iconst 2, 1) := dq_5 (zby_at (j := 6) zbX12_readsEdge_5 rfl)
theorem dX12_readsEdge_87 : decode cX12_readsEdge 87 = .ok (.dup2, 1) := dq_92 (zby_at (j := 7) zbX12_readsEdge_5 rfl)
theorem dX12_readsEdge_88 : decode cX12_readsEdge 88 = .ok (.iaload, 1) := dq_46 (zby_at (j := 8) zbX12_readsEdge_5 rfl)
theorem dX12_readsEdge_89 : decode cX12_readsEdge 89 = .ok (.iconst 1, 1) := dq_4 (zby_at (j := 9) zbX12_readsEdge_5 rfl)
theorem dX12_readsEdge_90 : decode cX12_readsEdge 90 = .ok (.iadd, 1) := dq_96 (zby_at (j := 10) zbX12_readsEdge_5 rfl)
theorem dX12_readsEdge_91 : decode cX12_readsEdge 91 = .ok (.iastore, 1) := dq_79 (zby_at (j := 11) zbX12_readsEdge_5 rfl)
theorem dX12_readsEdge_92 : decode cX12_readsEdge 92 = .ok (.return_, 1) := dq_177 (zby_at (j := 12) zbX12_readsEdge_5 rfl)
theorem zbX12_readsLet_0 : zby cX12_readsLet 0 20 = [42, 3, 16, 9, 182, 0, 239, 60, 42, 16, 61, 182, 0, 251, 42, 182, 0, 157, 153, 0] := by decide +kernel
theorem dX12_readsLet_0 : decode cX12_readsLet 0 = .ok (.aload_n 0, 1) := dq_42 (zby_at (j := 0) zbX12_readsLet_0 rfl)
theorem dX12_readsLet_1 : decode cX12_readsLet 1 = .ok (.iconst 0, 1) := dq_3 (zby_at (j := 1) zbX12_readsLet_0 rfl)
theorem dX12_readsLet_2 : decode cX12_readsLet 2 = .ok (.bipush 9, 2) := dq_16 (zby_at (j := 2) zbX12_readsLet_0 rfl) (zby_at (j := 3) zbX12_readsLet_0 rfl) rfl
theorem dX12_readsLet_4 : decode cX12_readsLet 4 = .ok (.invokevirtual 239, 3) := dq_182 (zby_at (j := 4) zbX12_readsLet_0 rfl) (zby_at (j := 5) zbX12_readsLet_0 rfl) (zby_at (j := 6) zbX12_readsLet_0 rfl)
theorem dX12_readsLet_7 : decode cX12_readsLet 7 = .ok (.istore_n 1, 1) := dq_60 (zby_at (j := 7) zbX12_readsLet_0 rfl)
theorem dX12_readsLet_8 : decode cX12_readsLet 8 = .ok (.aload_n 0, 1) := dq_42 (zby_at (j := 8) zbX12_readsLet_0 rfl)
theorem dX12_readsLet_9 : decode cX12_readsLet 9 = .ok (.bipush 61, 2) := dq_16 (zby_at (j := 9) zbX12_readsLet_0 rfl) (zby_at (j := 10) zbX12_readsLet_0 rfl) rfl
theorem dX12_readsLet_11 : decode cX12_readsLet 11 = .ok (.invokevirtual 251, 3) := dq_182 (zby_at (j := 11) zbX12_readsLet_0 rfl) (zby_at (j := 12) zbX12_readsLet_0 rfl) (zby_at (j := 13) zbX12_readsLet_0 rfl)
theorem dX12_readsLet_14 : decode cX12_readsLet 14 = .ok (.aload_n 0, 1) := dq_42 (zby_at (j := 14) zbX12_readsLet_0 rfl)
theorem dX12_readsLet_15 : decode cX12_readsLet 15 = .ok (.invokevirtual 157, 3) := dq_182 (zby_at (j := 15) zbX12_readsLet_0 rfl) (zby_at (j := 16) zbX12_readsLet_0 rfl) (zby_at (j := 17) zbX12_readsLet_0 rfl)
theorem zbX12_readsLet_1 : zby cX12_readsLet 16 20 = [0, 157, 153, 0, 17, 42, 42, 180, 0, 52, 3, 46, 42, 180, 0, 55, 182, 1, 30, 3] := by decide +kernel
theorem dX12_readsLet_18 : decode cX12_readsLet 18 = .ok (.ifCond .eq 17, 3) := dq_153 (zby_at (j := 2) zbX12_readsLet_1 rfl) (zby_at (j := 3) zbX12_readsLet_1 rfl) (zby_at (j := 4) zbX12_readsLet_1 rfl) rfl
theorem dX12_readsLet_21 : decode cX12_readsLet 21 = .ok (.aload_n 0, 1) := dq_42 (zby_at (j := 5) zbX12_readsLet_1 rfl)
theorem dX12_readsLet_22 : decode cX12_readsLet 22 = .ok (.aload_n 0, 1) := dq_42 (zby_at (j := 6) zbX12_readsLet_1 rfl)
theorem dX12_readsLet_23 : decode cX12_readsLet 23 = .ok (.getfield 52, 3) := dq_180 (zby_at (j := 7) zbX12_readsLet_1 rfl) (zby_at (j := 8) zbX12_readsLet_1 rfl) (zby_at (j := 9) zbX12_readsLet_1 rfl)
theorem dX12_readsLet_26 : decode cX12_readsLet 26 = .ok (.iconst 0, 1) := dq_3 (zby_at (j := 10) zbX12_readsLet_1 rfl)
theorem dX12_readsLet_27 : decode cX12_readsLet 27 = .ok (.iaload, 1) := dq_46 (zby_at (j := 11) zbX12_readsLet_1 rfl)
theorem dX12_readsLet_28 : decode cX12_readsLet 28 = .ok (.aload_n 0, 1) := dq_42 (zby_at (j := 12) zbX12_readsLet_1 rfl)
theorem dX12_readsLet_29 : decode cX12_readsLet 29 = .ok (.getfield 55, 3) := dq_180 (zby_at (j := 13) zbX12_readsLet_1 rfl) (zby_at (j := 14) zbX12_readsLet_1 rfl) (zby_at (j := 15) zbX12_readsLet_1 rfl)
theorem zbX12_readsLet_2 : zby cX12_readsLet 32 20 = [182, 1, 30, 3, 61, 28, 17, 4, 0, 162, 0, 34, 42, 182, 0, 157, 153, 0, 27, 42] := by decide +kernel
theorem dX12_readsLet_32 : decode cX12_readsLet 32 = .ok (.invokevirtual 286, 3) := dq_182 (zby_at (j := 0) zbX12_readsLet_2 rfl) (zby_at (j := 1) zbX12_readsLet_2 rfl) (zby_at (j := 2) zbX12_readsLet_2 rfl)
theorem dX12_readsLet_35 : decode cX12_readsLet 35 = .ok (.iconst 0, 1) := dq_3 (zby_at (j := 3) zbX12_readsLet_2 rfl)
theorem dX12_readsLet_36 : decode cX12_readsLet 36 = .ok (.istore_n 2, 1) := dq_61 (zby_at (j := 4) zbX12_readsLet_2 rfl)
theorem dX12_readsLet_37 : decode cX12_readsLet 37 = .ok (.iload_n 2, 1) := dq_28 (zby_at (j := 5) zbX12_readsLet_2 rfl)
theorem dX12_readsLet_38 : decode cX12_readsLet 38 = .ok (.sipush 1024, 3) := dq_17 (zby_at (j := 6) zbX12_readsLet_2 rfl) (zby_at (j := 7) zbX12_readsLet_2 rfl) (zby_at (j := 8) zbX12_readsLet_2 rfl) rfl
theorem dX12_readsLet_41 : decode cX12_readsLet 41 = .ok (.if_icmp .ge 34, 3) := dq_162 (zby_at (j := 9) zbX12_readsLet_2 rfl) (zby_at (j := 10) zbX12_readsLet_2 rfl) (zby_at (j := 11) zbX12_readsLet_2 rfl) rfl
theorem dX12_readsLet_44 : decode cX12_readsLet 44 = .ok (.aload_n 0, 1) := dq_42 (zby_at (j := 12) zbX12_readsLet_2 rfl)
theorem dX12_readsLet_45 : decode cX12_readsLet 45 = .ok (.invokevirtual 157, 3) := dq_182 (zby_at (j := 13) zbX12_readsLet_2 rfl) (zby_at (j := 14) zbX12_readsLet_2 rfl) (zby_at (j := 15) zbX12_readsLet_2 rfl)
theorem zbX12_readsLet_3 : zby cX12_readsLet 48 20 = [153, 0, 27, 42, 180, 0, 55, 17, 4, 0, 27, 104, 28, 96, 42, 180, 0, 37, 28, 51] := by decide +kernel
theorem dX12_readsLet_48 : decode cX12_readsLet 48 = .ok (.ifCond .eq 27, 3) := dq_153 (zby_at (j := 0) zbX12_readsLet_3 rfl) (zby_at (j := 1) zbX12_readsLet_3 rfl) (zby_at (j := 2) zbX12_readsLet_3 rfl) rfl
theorem dX12_readsLet_51 : decode cX12_readsLet 51 = .ok (.aload_n 0, 1) := dq_42 (zby_at (j := 3) zbX12_readsLet_3 rfl)
theorem dX12_readsLet_52 : decode cX12_readsLet 52 = .ok (.getfield 55, 3) := dq_180 (zby_at (j := 4) zbX12_readsLet_3 rfl) (zby_at (j := 5) zbX12_readsLet_3 rfl) (zby_at (j := 6) zbX12_readsLet_3 rfl)
theorem dX12_readsLet_55 : decode cX12_readsLet 55 = .ok (.sipush 1024, 3) := dq_17 (zby_at (j := 7) zbX12_readsLet_3 rfl) (zby_at (j := 8) zbX12_readsLet_3 rfl) (zby_at (j := 9) zbX12_readsLet_3 rfl) rfl
theorem dX12_readsLet_58 : decode cX12_readsLet 58 = .ok (.iload_n 1, 1) := dq_27 (zby_at (j := 10) zbX12_readsLet_3 rfl)
theorem dX12_readsLet_59 : decode cX12_readsLet 59 = .ok (.imul, 1) := dq_104 (zby_at (j := 11) zbX12_readsLet_3 rfl)
theorem dX12_readsLet_60 : decode cX12_readsLet 60 = .ok (.iload_n 2, 1) := dq_28 (zby_at (j := 12) zbX12_readsLet_3 rfl)
theorem dX12_readsLet_61 : decode cX12_readsLet 61 = .ok (.iadd, 1) := dq_96 (zby_at (j := 13) zbX12_readsLet_3 rfl)
theorem dX12_readsLet_62 : decode cX12_readsLet 62 = .ok (.aload_n 0, 1) := dq_42 (zby_at (j := 14) zbX12_readsLet_3 rfl)
theorem dX12_readsLet_63 : decode cX12_readsLet 63 = .ok (.getfield 37, 3) := dq_180 (zby_at (j := 15) zbX12_readsLet_3 rfl) (zby_at (j := 16) zbX12_readsLet_3 rfl) (zby_at (j := 17) zbX12_readsLet_3 rfl)
theorem zbX12_readsLet_4 : zby cX12_readsLet 64 20 = [0, 37, 28, 51, 84, 132, 2, 1, 167, 255, 221, 177] := by decide +kernel
theorem dX12_readsLet_66 : decode cX12_readsLet 66 = .ok (.iload_n 2, 1) := dq_28 (zby_at (j := 2) zbX12_readsLet_4 rfl)
theorem dX12_readsLet_67 : decode cX12_readsLet 67 = .ok (.baload, 1) := dq_51 (zby_at (j := 3) zbX12_readsLet_4 rfl)
theorem dX12_readsLet_68 : decode cX12_readsLet 68 = .ok (.bastore, 1) := dq_84 (zby_at (j := 4) zbX12_readsLet_4 rfl)
theorem dX12_readsLet_69 : decode cX12_readsLet 69 = .ok (.iinc 2 1, 3) := dq_132 (zby_at (j := 5) zbX12_readsLet_4 rfl) (zby_at (j := 6) zbX12_readsLet_4 rfl) (zby_at (j := 7) zbX12_readsLet_4 rfl) rfl
theorem dX12_readsLet_72 : decode cX12_readsLet 72 = .ok (.goto (-35), 3) := dq_167 (zby_at (j := 8) zbX12_readsLet_4 rfl) (zby_at (j := 9) zbX12_readsLet_4 rfl) (zby_at (j := 10) zbX12_readsLet_4 rfl) rfl
theorem dX12_readsLet_75 : decode cX12_readsLet 75 = .ok (.return_, 1) := dq_177 (zby_at (j := 11) zbX12_readsLet_4 rfl)
theorem zbX12_readsLine_0 : zby cX12_readsLine 0 20 = [42, 19, 1, 34, 182, 0, 169, 154, 0, 28, 42, 19, 1, 36, 182, 0, 169, 154, 0, 18] := by decide +kernel
theorem dX12_readsLine_0 : decode cX12_readsLine 0 = .ok (.aload_n 0, 1) := dq_42 (zby_at (j := 0) zbX12_readsLine_0 rfl)
theorem dX12_readsLine_1 : decode cX12_readsLine 1 = .ok (.ldc_w 290, 3) := dq_19 (zby_at (j := 1) zbX12_readsLine_0 rfl) (zby_at (j := 2) zbX12_readsLine_0 rfl) (zby_at (j := 3) zbX12_readsLine_0 rfl)
theorem dX12_readsLine_4 : decode cX12_readsLine 4 = .ok (.invokevirtual 169, 3) := dq_182 (zby_at (j := 4) zbX12_readsLine_0 rfl) (zby_at (j := 5) zbX12_readsLine_0 rfl) (zby_at (j := 6) zbX12_readsLine_0 rfl)
theorem dX12_readsLine_7 : decode cX12_readsLine 7 = .ok (.ifCond .ne 28, 3) := dq_154 (zby_at (j := 7) zbX12_readsLine_0 rfl) (zby_at (j := 8) zbX12_readsLine_0 rfl) (zby_at (j := 9) zbX12_readsLine_0 rfl) rfl
theorem dX12_readsLine_10 : decode cX12_readsLine 10 = .ok (.aload_n 0, 1) := dq_42 (zby_at (j := 10) zbX12_readsLine_0 rfl)
theorem dX12_readsLine_11 : decode cX12_readsLine 11 = .ok (.ldc_w 292, 3) := dq_19 (zby_at (j := 11) zbX12_readsLine_0 rfl) (zby_at (j := 12) zbX12_readsLine_0 rfl) (zby_at (j := 13) zbX12_readsLine_0 rfl)
theorem dX12_readsLine_14 : decode cX12_readsLine 14 = .ok (.invokevirtual 169, 3) := dq_182 (zby_at (j := 14) zbX12_readsLine_0 rfl) (zby_at (j := 15) zbX12_readsLine_0 rfl) (zby_at (j := 16) zbX12_readsLine_0 rfl)
theorem zbX12_readsLine_1 : zby cX12_readsLine 16 20 = [169, 154, 0, 18, 42, 19, 1, 38, 182, 0, 169, 154, 0, 8, 42, 4, 182, 0, 176, 42] := by decide +kernel
theorem dX12_readsLine_17 : decode cX12_readsLine 17 = .ok (.ifCond .ne 18, 3) := dq_154 (zby_at (j := 1) zbX12_readsLine_1 rfl) (zby_at (j := 2) zbX12_readsLine_1 rfl) (zby_at (j := 3) zbX12_readsLine_1 rfl) rfl
theorem dX12_readsLine_20 : decode cX12_readsLine 20 = .ok (.aload_n 0, 1) := dq_42 (zby_at (j := 4) zbX12_readsLine_1 rfl)
theorem dX12_readsLine_21 : decode cX12_readsLine 21 = .ok (.ldc_w 294, 3) := dq_19 (zby_at (j := 5) zbX12_readsLine_1 rfl) (zby_at (j := 6) zbX12_readsLine_1 rfl) (zby_at (j := 7) zbX12_readsLine_1 rfl)
theorem dX12_readsLine_24 : decode cX12_readsLine 24 = .ok (.invokevirtual 169, 3) := dq_182 (zby_at (j := 8) zbX12_readsLine_1 rfl) (zby_at (j := 9) zbX12_readsLine_1 rfl) (zby_at (j := 10) zbX12_readsLine_1 rfl)
theorem dX12_readsLine_27 : decode cX12_readsLine 27 = .ok (.ifCond .ne 8, 3) := dq_154 (zby_at (j := 11) zbX12_readsLine_1 rfl) (zby_at (j := 12) zbX12_readsLine_1 rfl) (zby_at (j := 13) zbX12_readsLine_1 rfl) rfl
theorem dX12_readsLine_30 : decode cX12_readsLine 30 = .ok (.aload_n 0, 1) := dq_42 (zby_at (j := 14) zbX12_readsLine_1 rfl)
theorem dX12_readsLine_31 : decode cX12_readsLine 31 = .ok (.iconst 1, 1) := dq_4 (zby_at (j := 15) zbX12_readsLine_1 rfl)
theorem zbX12_readsLine_2 : zby cX12_readsLine 32 20 = [182, 0, 176, 42, 19, 1, 36, 182, 0, 169, 153, 0, 23, 42, 180, 0, 52, 5, 46, 42] := by decide +kernel
theorem dX12_readsLine_32 : decode cX12_readsLine 32 = .ok (.invokevirtual 176, 3) := dq_182 (zby_at (j := 0) zbX12_readsLine_2 rfl) (zby_at (j := 1) zbX12_readsLine_2 rfl) (zby_at (j := 2) zbX12_readsLine_2 rfl)
theorem dX12_readsLine_35 : decode cX12_readsLine 35 = .ok (.aload_n 0, 1) := dq_42 (zby_at (j := 3) zbX12_readsLine_2 rfl)
theorem dX12_readsLine_36 : decode cX12_readsLine 36 = .ok (.ldc_w 292, 3) := dq_19 (zby_at (j := 4) zbX12_readsLine_2 rfl) (zby_at (j := 5) zbX12_readsLine_2 rfl) (zby_at (j := 6) zbX12_readsLine_2 rfl)
theorem dX12_readsLine_39 : decode cX12_readsLine 39 = .ok (.invokevirtual 169, 3) := dq_182 (zby_at (j := 7) zbX12_readsLine_2 rfl) (zby_at (j := 8) zbX12_readsLine_2 rfl) (zby_at (j := 9) zbX12_readsLine_2 rfl)
theorem dX12_readsLine_42 : decode cX12_readsLine 42 = .ok (.ifCond .eq 23, 3) := dq_153 (zby_at (j := 10) zbX12_readsLine_2 rfl) (zby_at (j := 11) zbX12_readsLine_2 rfl) (zby_at (j := 12) zbX12_readsLine_2 rfl) rfl
theorem dX12_readsLine_45 : decode cX12_readsLine 45 = .ok (.aload_n 0, 1) := dq_42 (zby_at (j := 13) zbX12_readsLine_2 rfl)
theorem dX12_readsLine_46 : decode cX12_readsLine 46 = .ok (.getfield 52, 3) := dq_180 (zby_at (j := 14) zbX12_readsLine_2 rfl) (zby_at (j := 15) zbX12_readsLine_2 rfl) (zby_at (j := 16) zbX12_readsLine_2 rfl)
theorem zbX12_readsLine_3 : zby cX12_readsLine 48 20 = [52, 5, 46, 42, 180, 0, 52, 3, 46, 160, 0, 8, 42, 6, 182, 0, 176, 42, 182, 0] := by decide +kernel
theorem dX12_readsLine_49 : decode cX12_readsLine 49 = .ok (.iconst 2, 1) := dq_5 (zby_at (j := 1) zbX12_readsLine_3 rfl)
theorem dX12_readsLine_50 : decode cX12_readsLine 50 = .ok (.iaload, 1) := dq_46 (zby_at (j := 2) zbX12_readsLine_3 rfl)
theorem dX12_readsLine_51 : decode cX12_readsLine 51 = .ok (.aload_n 0, 1) := dq_42 (zby_at (j := 3) zbX12_readsLine_3 rfl)
theorem dX12_readsLine_52 : decode cX12_readsLine 52 = .ok (.getfield 52, 3) := dq_180 (zby_at (j := 4) zbX12_readsLine_3 rfl) (zby_at (j := 5) zbX12_readsLine_3 rfl) (zby_at (j := 6) zbX12_readsLine_3 rfl)
theorem dX12_readsLine_55 : decode cX12_readsLine 55 = .ok (.iconst 0, 1) := dq_3 (zby_at (j := 7) zbX12_readsLine_3 rfl)
theorem dX12_readsLine_56 : decode cX12_readsLine 56 = .ok (.iaload, 1) := dq_46 (zby_at (j := 8) zbX12_readsLine_3 rfl)
theorem dX12_readsLine_57 : decode cX12_readsLine 57 = .ok (.if_icmp .ne 8, 3) := dq_160 (zby_at (j := 9) zbX12_readsLine_3 rfl) (zby_at (j := 10) zbX12_readsLine_3 rfl) (zby_at (j := 11) zbX12_readsLine_3 rfl) rfl
theorem dX12_readsLine_60 : decode cX12_readsLine 60 = .ok (.aload_n 0, 1) := dq_42 (zby_at (j := 12) zbX12_readsLine_3 rfl)
theorem dX12_readsLine_61 : decode cX12_readsLine 61 = .ok (.iconst 3, 1) := dq_6 (zby_at (j := 13) zbX12_readsLine_3 rfl)
theorem dX12_readsLine_62 : decode cX12_readsLine 62 = .ok (.invokevirtual 176, 3) := dq_182 (zby_at (j := 14) zbX12_readsLine_3 rfl) (zby_at (j := 15) zbX12_readsLine_3 rfl) (zby_at (j := 16) zbX12_readsLine_3 rfl)
theorem zbX12_readsLine_4 : zby cX12_readsLine 64 20 = [176, 42, 182, 0, 157, 154, 0, 4, 177, 42, 19, 1, 34, 182, 0, 173, 153, 0, 26, 42] := by decide +kernel
theorem dX12_readsLine_65 : decode cX12_readsLine 65 = .ok (.aload_n 0, 1) := dq_42 (zby_at (j := 1) zbX12_readsLine_4 rfl)
theorem dX12_readsLine_66 : decode cX12_readsLine 66 = .ok (.invokevirtual 157, 3) := dq_182 (zby_at (j := 2) zbX12_readsLine_4 rfl) (zby_at (j := 3) zbX12_readsLine_4 rfl) (zby_at (j := 4) zbX12_readsLine_4 rfl)
theorem dX12_readsLine_69 : decode cX12_readsLine 69 = .ok (.ifCond .ne 4, 3) := dq_154 (zby_at (j := 5) zbX12_readsLine_4 rfl) (zby_at (j := 6) zbX12_readsLine_4 rfl) (zby_at (j := 7) zbX12_readsLine_4 rfl) rfl
theorem dX12_readsLine_72 : decode cX12_readsLine 72 = .ok (.return_, 1) := dq_177 (zby_at (j := 8) zbX12_readsLine_4 rfl)
theorem dX12_readsLine_73 : decode cX12_readsLine 73 = .ok (.aload_n 0, 1) := dq_42 (zby_at (j := 9) zbX12_readsLine_4 rfl)
theorem dX12_readsLine_74 : decode cX12_readsLine 74 = .ok (.ldc_w 290, 3) := dq_19 (zby_at (j := 10) zbX12_readsLine_4 rfl) (zby_at (j := 11) zbX12_readsLine_4 rfl) (zby_at (j := 12) zbX12_readsLine_4 rfl)
theorem dX12_readsLine_77 : decode cX12_readsLine 77 = .ok (.invokevirtual 173, 3) := dq_182 (zby_at (j := 13) zbX12_readsLine_4 rfl) (zby_at (j := 14) zbX12_readsLine_4 rfl) (zby_at (j := 15) zbX12_readsLine_4 rfl)
theorem zbX12_readsLine_5 : zby cX12_readsLine 80 20 = [153, 0, 26, 42, 182, 1, 40, 60, 42, 180, 0, 52, 6, 27, 96, 42, 3, 16, 99, 182] := by decide +kernel
theorem dX12_readsLine_80 : decode cX12_readsLine 80 = .ok (.ifCond .eq 26, 3) := dq_153 (zby_at (j := 0) zbX12_readsLine_5 rfl) (zby_at (j := 1) zbX12_readsLine_5 rfl) (zby_at (j := 2) zbX12_readsLine_5 rfl) rfl
theorem dX12_readsLine_83 : decode cX12_readsLine 83 = .ok (.aload_n 0, 1) := dq_42 (zby_at (j := 3) zbX12_readsLine_5 rfl)
theorem dX12_readsLine_84 : decode cX12_readsLine 84 = .ok (.invokevirtual 296, 3) := dq_182 (zby_at (j := 4) zbX12_readsLine_5 rfl) (zby_at (j := 5) zbX12_readsLine_5 rfl) (zby_at (j := 6) zbX12_readsLine_5 rfl)
theorem dX12_readsLine_87 : decode cX12_readsLine 87 = .ok (.istore_n 1, 1) := dq_60 (zby_at (j := 7) zbX12_readsLine_5 rfl)
theorem dX12_readsLine_88 : decode cX12_readsLine 88 = .ok (.aload_n 0, 1) := dq_42 (zby_at (j := 8) zbX12_readsLine_5 rfl)
theorem dX12_readsLine_89 : decode cX12_readsLine 89 = .ok (.getfield 52, 3) := dq_180 (zby_at (j := 9) zbX12_readsLine_5 rfl) (zby_at (j := 10) zbX12_readsLine_5 rfl) (zby_at (j := 11) zbX12_readsLine_5 rfl)
theorem dX12_readsLine_92 : decode cX12_readsLine 92 = .ok (.iconst 3, 1) := dq_6 (zby_at (j := 12) zbX12_readsLine_5 rfl)
theorem dX12_readsLine_93 : decode cX12_readsLine 93 = .ok (.iload_n 1, 1) := dq_27 (zby_at (j := 13) zbX12_readsLine_5 rfl)
theorem dX12_readsLine_94 : decode cX12_readsLine 94 = .ok (.iadd, 1) := dq_96 (zby_at (j := 14) zbX12_readsLine_5 rfl)
theorem dX12_readsLine_95 : decode cX12_readsLine 95 = .ok (.aload_n 0, 1) := dq_42 (zby_at (j := 15) zbX12_readsLine_5 rfl)
theorem zbX12_readsLine_6 : zby cX12_readsLine 96 20 = [3, 16, 99, 182, 0, 239, 79, 167, 0, 28, 42, 19, 1, 36, 182, 0, 173, 153, 0, 10] := by decide +kernel
theorem dX12_readsLine_96 : decode cX12_readsLine 96 = .ok (.iconst 0, 1) := dq_3 (zby_at (j := 0) zbX12_readsLine_6 rfl)
theorem dX12_readsLine_97 : decode cX12_readsLine 97 = .ok (.bipush 99, 2) := dq_16 (zby_at (j := 1) zbX12_readsLine_6 rfl) (zby_at (j := 2) zbX12_readsLine_6 rfl) rfl
theorem dX12_readsLine_99 : decode cX12_readsLine 99 = .ok (.invokevirtual 239, 3) := dq_182 (zby_at (j := 3) zbX12_readsLine_6 rfl) (zby_at (j := 4) zbX12_readsLine_6 rfl) (zby_at (j := 5) zbX12_readsLine_6 rfl)
theorem dX12_readsLine_102 : decode cX12_readsLine 102 = .ok (.iastore, 1) := dq_79 (zby_at (j := 6) zbX12_readsLine_6 rfl)
theorem dX12_readsLine_103 : decode cX12_readsLine 103 = .ok (.goto 28, 3) := dq_167 (zby_at (j := 7) zbX12_readsLine_6 rfl) (zby_at (j := 8) zbX12_readsLine_6 rfl) (zby_at (j := 9) zbX12_readsLine_6 rfl) rfl
theorem dX12_readsLine_106 : decode cX12_readsLine 106 = .ok (.aload_n 0, 1) := dq_42 (zby_at (j := 10) zbX12_readsLine_6 rfl)
theorem dX12_readsLine_107 : decode cX12_readsLine 107 = .ok (.ldc_w 292, 3) := dq_19 (zby_at (j := 11) zbX12_readsLine_6 rfl) (zby_at (j := 12) zbX12_readsLine_6 rfl) (zby_at (j := 13) zbX12_readsLine_6 rfl)
theorem dX12_readsLine_110 : decode cX12_readsLine 110 = .ok (.invokevirtual 173, 3) := dq_182 (zby_at (j := 14) zbX12_readsLine_6 rfl) (zby_at (j := 15) zbX12_readsLine_6 rfl) (zby_at (j := 16) zbX12_readsLine_6 rfl)
theorem zbX12_readsLine_7 : zby cX12_readsLine 112 20 = [173, 153, 0, 10, 42, 182, 1, 43, 167, 0, 11, 42, 182, 0, 154, 42, 182, 1, 46, 177] := by decide +kernel
theorem dX12_readsLine_113 : decode cX12_readsLine 113 = .ok (.ifCond .eq 10, 3) := dq_153 (zby_at (j := 1) zbX12_readsLine_7 rfl) (zby_at (j := 2) zbX12_readsLine_7 rfl) (zby_at (j := 3) zbX12_readsLine_7 rfl) rfl
theorem dX12_readsLine_116 : decode cX12_readsLine 116 = .ok (.aload_n 0, 1) := dq_42 (zby_at (j := 4) zbX12_readsLine_7 rfl)
theorem dX12_readsLine_117 : decode cX12_readsLine 117 = .ok (.invokevirtual 299, 3) := dq_182 (zby_at (j := 5) zbX12_readsLine_7 rfl) (zby_at (j := 6) zbX12_readsLine_7 rfl) (zby_at (j := 7) zbX12_readsLine_7 rfl)
theorem dX12_readsLine_120 : decode cX12_readsLine 120 = .ok (.goto 11, 3) := dq_167 (zby_at (j := 8) zbX12_readsLine_7 rfl) (zby_at (j := 9) zbX12_readsLine_7 rfl) (zby_at (j := 10) zbX12_readsLine_7 rfl) rfl
theorem dX12_readsLine_123 : decode cX12_readsLine 123 = .ok (.aload_n 0, 1) := dq_42 (zby_at (j := 11) zbX12_readsLine_7 rfl)
theorem dX12_readsLine_124 : decode cX12_readsLine 124 = .ok (.invokevirtual 154, 3) := dq_182 (zby_at (j := 12) zbX12_readsLine_7 rfl) (zby_at (j := 13) zbX12_readsLine_7 rfl) (zby_at (j := 14) zbX12_readsLine_7 rfl)
theorem dX12_readsLine_127 : decode cX12_readsLine 127 = .ok (.aload_n 0, 1) := dq_42 (zby_at (j := 15) zbX12_readsLine_7 rfl)
theorem zbX12_readsLine_8 : zby cX12_readsLine 128 20 = [182, 1, 46, 177] := by decide +kernel
theorem dX12_readsLine_128 : decode cX12_readsLine 128 = .ok (.invokevirtual 302, 3) := dq_182 (zby_at (j := 0) zbX12_readsLine_8 rfl) (zby_at (j := 1) zbX12_readsLine_8 rfl) (zby_at (j := 2) zbX12_readsLine_8 rfl)
theorem dX12_readsLine_131 : decode cX12_readsLine 131 = .ok (.return_, 1) := dq_177 (zby_at (j := 3) zbX12_readsLine_8 rfl)
theorem zbX12_world_0 : zby cX12_world 0 20 = [42, 182, 1, 49, 3, 60, 27, 16, 43, 162, 0, 16, 42, 180, 0, 52, 27, 3, 79, 132] := by decide +kernel
theorem dX12_world_0 : decode cX12_world 0 = .ok (.aload_n 0, 1) := dq_42 (zby_at (j := 0) zbX12_world_0 rfl)
theorem dX12_world_1 : decode cX12_world 1 = .ok (.invokevirtual 305, 3) := dq_182 (zby_at (j := 1) zbX12_world_0 rfl) (zby_at (j := 2) zbX12_world_0 rfl) (zby_at (j := 3) zbX12_world_0 rfl)
theorem dX12_world_4 : decode cX12_world 4 = .ok (.iconst 0, 1) := dq_3 (zby_at (j := 4) zbX12_world_0 rfl)
theorem dX12_world_5 : decode cX12_world 5 = .ok (.istore_n 1, 1) := dq_60 (zby_at (j := 5) zbX12_world_0 rfl)
theorem dX12_world_6 : decode cX12_world 6 = .ok (.iload_n 1, 1) := dq_27 (zby_at (j := 6) zbX12_world_0 rfl)
theorem dX12_world_7 : decode cX12_world 7 = .ok (.bipush 43, 2) := dq_16 (zby_at (j := 7) zbX12_world_0 rfl) (zby_at (j := 8) zbX12_world_0 rfl) rfl
theorem dX12_world_9 : decode cX12_world 9 = .ok (.if_icmp .ge 16, 3) := dq_162 (zby_at (j := 9) zbX12_world_0 rfl) (zby_at (j := 10) zbX12_world_0 rfl) (zby_at (j := 11) zbX12_world_0 rfl) rfl
theorem dX12_world_12 : decode cX12_world 12 = .ok (.aload_n 0, 1) := dq_42 (zby_at (j := 12) zbX12_world_0 rfl)
theorem dX12_world_13 : decode cX12_world 13 = .ok (.getfield 52, 3) := dq_180 (zby_at (j := 13) zbX12_world_0 rfl) (zby_at (j := 14) zbX12_world_0 rfl) (zby_at (j := 15) zbX12_world_0 rfl)
theorem zbX12_world_1 : zby cX12_world 16 20 = [27, 3, 79, 132, 1, 1, 167, 255, 240, 3, 60, 27, 17, 40, 0, 162, 0, 16, 42, 180] := by decide +kernel
theorem dX12_world_16 : decode cX12_world 16 = .ok (.iload_n 1, 1) := dq_27 (zby_at (j := 0) zbX12_world_1 rfl)
theorem dX12_world_17 : decode cX12_world 17 = .ok (.iconst 0, 1) := dq_3 (zby_at (j := 1) zbX12_world_1 rfl)
theorem dX12_world_18 : decode cX12_world 18 = .ok (.iastore, 1) := dq_79 (zby_at (j := 2) zbX12_world_1 rfl)
theorem dX12_world_19 : decode cX12_world 19 = .ok (.iinc 1 1, 3) := dq_132 (zby_at (j := 3) zbX12_world_1 rfl) (zby_at (j := 4) zbX12_world_1 rfl) (zby_at (j := 5) zbX12_world_1 rfl) rfl
theorem dX12_world_22 : decode cX12_world 22 = .ok (.goto (-16), 3) := dq_167 (zby_at (j := 6) zbX12_world_1 rfl) (zby_at (j := 7) zbX12_world_1 rfl) (zby_at (j := 8) zbX12_world_1 rfl) rfl
theorem dX12_world_25 : decode cX12_world 25 = .ok (.iconst 0, 1) := dq_3 (zby_at (j := 9) zbX12_world_1 rfl)
theorem dX12_world_26 : decode cX12_world 26 = .ok (.istore_n 1, 1) := dq_60 (zby_at (j := 10) zbX12_world_1 rfl)
theorem dX12_world_27 : decode cX12_world 27 = .ok (.iload_n 1, 1) := dq_27 (zby_at (j := 11) zbX12_world_1 rfl)
theorem dX12_world_28 : decode cX12_world 28 = .ok (.sipush 10240, 3) := dq_17 (zby_at (j := 12) zbX12_world_1 rfl) (zby_at (j := 13) zbX12_world_1 rfl) (zby_at (j := 14) zbX12_world_1 rfl) rfl
theorem dX12_world_31 : decode cX12_world 31 = .ok (.if_icmp .ge 16, 3) := dq_162 (zby_at (j := 15) zbX12_world_1 rfl) (zby_at (j := 16) zbX12_world_1 rfl) (zby_at (j := 17) zbX12_world_1 rfl) rfl
theorem zbX12_world_2 : zby cX12_world 32 20 = [0, 16, 42, 180, 0, 55, 27, 3, 84, 132, 1, 1, 167, 255, 239, 42, 182, 0, 157, 153] := by decide +kernel
theorem dX12_world_34 : decode cX12_world 34 = .ok (.aload_n 0, 1) := dq_42 (zby_at (j := 2) zbX12_world_2 rfl)
theorem dX12_world_35 : decode cX12_world 35 = .ok (.getfield 55, 3) := dq_180 (zby_at (j := 3) zbX12_world_2 rfl) (zby_at (j := 4) zbX12_world_2 rfl) (zby_at (j := 5) zbX12_world_2 rfl)
theorem dX12_world_38 : decode cX12_world 38 = .ok (.iload_n 1, 1) := dq_27 (zby_at (j := 6) zbX12_world_2 rfl)
theorem dX12_world_39 : decode cX12_world 39 = .ok (.iconst 0, 1) := dq_3 (zby_at (j := 7) zbX12_world_2 rfl)
theorem dX12_world_40 : decode cX12_world 40 = .ok (.bastore, 1) := dq_84 (zby_at (j := 8) zbX12_world_2 rfl)
theorem dX12_world_41 : decode cX12_world 41 = .ok (.iinc 1 1, 3) := dq_132 (zby_at (j := 9) zbX12_world_2 rfl) (zby_at (j := 10) zbX12_world_2 rfl) (zby_at (j := 11) zbX12_world_2 rfl) rfl
theorem dX12_world_44 : decode cX12_world 44 = .ok (.goto (-17), 3) := dq_167 (zby_at (j := 12) zbX12_world_2 rfl) (zby_at (j := 13) zbX12_world_2 rfl) (zby_at (j := 14) zbX12_world_2 rfl) rfl
theorem dX12_world_47 : decode cX12_world 47 = .ok (.aload_n 0, 1) := dq_42 (zby_at (j := 15) zbX12_world_2 rfl)
theorem zbX12_world_3 : zby cX12_world 48 20 = [182, 0, 157, 153, 0, 49, 42, 180, 0, 123, 153, 0, 42, 42, 180, 0, 52, 4, 46, 154] := by decide +kernel
theorem dX12_world_48 : decode cX12_world 48 = .ok (.invokevirtual 157, 3) := dq_182 (zby_at (j := 0) zbX12_world_3 rfl) (zby_at (j := 1) zbX12_world_3 rfl) (zby_at (j := 2) zbX12_world_3 rfl)
theorem dX12_world_51 : decode cX12_world 51 = .ok (.ifCond .eq 49, 3) := dq_153 (zby_at (j := 3) zbX12_world_3 rfl) (zby_at (j := 4) zbX12_world_3 rfl) (zby_at (j := 5) zbX12_world_3 rfl) rfl
theorem dX12_world_54 : decode cX12_world 54 = .ok (.aload_n 0, 1) := dq_42 (zby_at (j := 6) zbX12_world_3 rfl)
theorem dX12_world_55 : decode cX12_world 55 = .ok (.getfield 123, 3) := dq_180 (zby_at (j := 7) zbX12_world_3 rfl) (zby_at (j := 8) zbX12_world_3 rfl) (zby_at (j := 9) zbX12_world_3 rfl)
theorem dX12_world_58 : decode cX12_world 58 = .ok (.ifCond .eq 42, 3) := dq_153 (zby_at (j := 10) zbX12_world_3 rfl) (zby_at (j := 11) zbX12_world_3 rfl) (zby_at (j := 12) zbX12_world_3 rfl) rfl
theorem dX12_world_61 : decode cX12_world 61 = .ok (.aload_n 0, 1) := dq_42 (zby_at (j := 13) zbX12_world_3 rfl)
theorem dX12_world_62 : decode cX12_world 62 = .ok (.getfield 52, 3) := dq_180 (zby_at (j := 14) zbX12_world_3 rfl) (zby_at (j := 15) zbX12_world_3 rfl) (zby_at (j := 16) zbX12_world_3 rfl)
theorem zbX12_world_4 : zby cX12_world 64 20 = [52, 4, 46, 154, 0, 10, 42, 182, 1, 52, 167, 0, 7, 42, 182, 1, 55, 42, 16, 59] := by decide +kernel
theorem dX12_world_65 : decode cX12_world 65 = .ok (.iconst 1, 1) := dq_4 (zby_at (j := 1) zbX12_world_4 rfl)
theorem dX12_world_66 : decode cX12_world 66 = .ok (.iaload, 1) := dq_46 (zby_at (j := 2) zbX12_world_4 rfl)
theorem dX12_world_67 : decode cX12_world 67 = .ok (.ifCond .ne 10, 3) := dq_154 (zby_at (j := 3) zbX12_world_4 rfl) (zby_at (j := 4) zbX12_world_4 rfl) (zby_at (j := 5) zbX12_world_4 rfl) rfl
theorem dX12_world_70 : decode cX12_world 70 = .ok (.aload_n 0, 1) := dq_42 (zby_at (j := 6) zbX12_world_4 rfl)
theorem dX12_world_71 : decode cX12_world 71 = .ok (.invokevirtual 308, 3) := dq_182 (zby_at (j := 7) zbX12_world_4 rfl) (zby_at (j := 8) zbX12_world_4 rfl) (zby_at (j := 9) zbX12_world_4 rfl)
theorem dX12_world_74 : decode cX12_world 74 = .ok (.goto 7, 3) := dq_167 (zby_at (j := 10) zbX12_world_4 rfl) (zby_at (j := 11) zbX12_world_4 rfl) (zby_at (j := 12) zbX12_world_4 rfl) rfl
theorem dX12_world_77 : decode cX12_world 77 = .ok (.aload_n 0, 1) := dq_42 (zby_at (j := 13) zbX12_world_4 rfl)
theorem dX12_world_78 : decode cX12_world 78 = .ok (.invokevirtual 311, 3) := dq_182 (zby_at (j := 14) zbX12_world_4 rfl) (zby_at (j := 15) zbX12_world_4 rfl) (zby_at (j := 16) zbX12_world_4 rfl)
theorem zbX12_world_5 : zby cX12_world 80 20 = [55, 42, 16, 59, 182, 0, 251, 42, 180, 0, 52, 4, 92, 46, 4, 96, 79, 167, 255, 206] := by decide +kernel
theorem dX12_world_81 : decode cX12_world 81 = .ok (.aload_n 0, 1) := dq_42 (zby_at (j := 1) zbX12_world_5 rfl)
theorem dX12_world_82 : decode cX12_world 82 = .ok (.bipush 59, 2) := dq_16 (zby_at (j := 2) zbX12_world_5 rfl) (zby_at (j := 3) zbX12_world_5 rfl) rfl
theorem dX12_world_84 : decode cX12_world 84 = .ok (.invokevirtual 251, 3) := dq_182 (zby_at (j := 4) zbX12_world_5 rfl) (zby_at (j := 5) zbX12_world_5 rfl) (zby_at (j := 6) zbX12_world_5 rfl)
theorem dX12_world_87 : decode cX12_world 87 = .ok (.aload_n 0, 1) := dq_42 (zby_at (j := 7) zbX12_world_5 rfl)
theorem dX12_world_88 : decode cX12_world 88 = .ok (.getfield 52, 3) := dq_180 (zby_at (j := 8) zbX12_world_5 rfl) (zby_at (j := 9) zbX12_world_5 rfl) (zby_at (j := 10) zbX12_world_5 rfl)
theorem dX12_world_91 : decode cX12_world 91 = .ok (.iconst 1, 1) := dq_4 (zby_at (j := 11) zbX12_world_5 rfl)
theorem dX12_world_92 : decode cX12_world 92 = .ok (.dup2, 1) := dq_92 (zby_at (j := 12) zbX12_world_5 rfl)
theorem dX12_world_93 : decode cX12_world 93 = .ok (.iaload, 1) := dq_46 (zby_at (j := 13) zbX12_world_5 rfl)
theorem dX12_world_94 : decode cX12_world 94 = .ok (.iconst 1, 1) := dq_4 (zby_at (j := 14) zbX12_world_5 rfl)
theorem dX12_world_95 : decode cX12_world 95 = .ok (.iadd, 1) := dq_96 (zby_at (j := 15) zbX12_world_5 rfl)
theorem zbX12_world_6 : zby cX12_world 96 20 = [79, 167, 255, 206, 42, 182, 0, 157, 154, 0, 6, 16, 252, 172, 3, 60, 27, 16, 43, 162] := by decide +kernel
theorem dX12_world_96 : decode cX12_world 96 = .ok (.iastore, 1) := dq_79 (zby_at (j := 0) zbX12_world_6 rfl)
theorem dX12_world_97 : decode cX12_world 97 = .ok (.goto (-50), 3) := dq_167 (zby_at (j := 1) zbX12_world_6 rfl) (zby_at (j := 2) zbX12_world_6 rfl) (zby_at (j := 3) zbX12_world_6 rfl) rfl
theorem dX12_world_100 : decode cX12_world 100 = .ok (.aload_n 0, 1) := dq_42 (zby_at (j := 4) zbX12_world_6 rfl)
theorem dX12_world_101 : decode cX12_world 101 = .ok (.invokevirtual 157, 3) := dq_182 (zby_at (j := 5) zbX12_world_6 rfl) (zby_at (j := 6) zbX12_world_6 rfl) (zby_at (j := 7) zbX12_world_6 rfl)
theorem dX12_world_104 : decode cX12_world 104 = .ok (.ifCond .ne 6, 3) := dq_154 (zby_at (j := 8) zbX12_world_6 rfl) (zby_at (j := 9) zbX12_world_6 rfl) (zby_at (j := 10) zbX12_world_6 rfl) rfl
theorem dX12_world_107 : decode cX12_world 107 = .ok (.bipush (-4), 2) := dq_16 (zby_at (j := 11) zbX12_world_6 rfl) (zby_at (j := 12) zbX12_world_6 rfl) rfl
theorem dX12_world_109 : decode cX12_world 109 = .ok (.ireturn, 1) := dq_172 (zby_at (j := 13) zbX12_world_6 rfl)
theorem dX12_world_110 : decode cX12_world 110 = .ok (.iconst 0, 1) := dq_3 (zby_at (j := 14) zbX12_world_6 rfl)
theorem dX12_world_111 : decode cX12_world 111 = .ok (.istore_n 1, 1) := dq_60 (zby_at (j := 15) zbX12_world_6 rfl)
theorem zbX12_world_7 : zby cX12_world 112 20 = [27, 16, 43, 162, 0, 21, 42, 180, 0, 9, 27, 42, 180, 0, 52, 27, 46, 79, 132, 1] := by decide +kernel
theorem dX12_world_112 : decode cX12_world 112 = .ok (.iload_n 1, 1) := dq_27 (zby_at (j := 0) zbX12_world_7 rfl)
theorem dX12_world_113 : decode cX12_world 113 = .ok (.bipush 43, 2) := dq_16 (zby_at (j := 1) zbX12_world_7 rfl) (zby_at (j := 2) zbX12_world_7 rfl) rfl
theorem dX12_world_115 : decode cX12_world 115 = .ok (.if_icmp .ge 21, 3) := dq_162 (zby_at (j := 3) zbX12_world_7 rfl) (zby_at (j := 4) zbX12_world_7 rfl) (zby_at (j := 5) zbX12_world_7 rfl) rfl
theorem dX12_world_118 : decode cX12_world 118 = .ok (.aload_n 0, 1) := dq_42 (zby_at (j := 6) zbX12_world_7 rfl)
theorem dX12_world_119 : decode cX12_world 119 = .ok (.getfield 9, 3) := dq_180 (zby_at (j := 7) zbX12_world_7 rfl) (zby_at (j := 8) zbX12_world_7 rfl) (zby_at (j := 9) zbX12_world_7 rfl)
theorem dX12_world_122 : decode cX12_world 122 = .ok (.iload_n 1, 1) := dq_27 (zby_at (j := 10) zbX12_world_7 rfl)
theorem dX12_world_123 : decode cX12_world 123 = .ok (.aload_n 0, 1) := dq_42 (zby_at (j := 11) zbX12_world_7 rfl)
theorem dX12_world_124 : decode cX12_world 124 = .ok (.getfield 52, 3) := dq_180 (zby_at (j := 12) zbX12_world_7 rfl) (zby_at (j := 13) zbX12_world_7 rfl) (zby_at (j := 14) zbX12_world_7 rfl)
theorem dX12_world_127 : decode cX12_world 127 = .ok (.iload_n 1, 1) := dq_27 (zby_at (j := 15) zbX12_world_7 rfl)
theorem zbX12_world_8 : zby cX12_world 128 20 = [46, 79, 132, 1, 1, 167, 255, 235, 3, 60, 27, 17, 40, 0, 162, 0, 21, 42, 180, 0] := by decide +kernel
theorem dX12_world_128 : decode cX12_world 128 = .ok (.iaload, 1) := dq_46 (zby_at (j := 0) zbX12_world_8 rfl)
theorem dX12_world_129 : decode cX12_world 129 = .ok (.iastore, 1) := dq_79 (zby_at (j := 1) zbX12_world_8 rfl)
theorem dX12_world_130 : decode cX12_world 130 = .ok (.iinc 1 1, 3) := dq_132 (zby_at (j := 2) zbX12_world_8 rfl) (zby_at (j := 3) zbX12_world_8 rfl) (zby_at (j := 4) zbX12_world_8 rfl) rfl
theorem dX12_world_133 : decode cX12_world 133 = .ok (.goto (-21), 3) := dq_167 (zby_at (j := 5) zbX12_world_8 rfl) (zby_at (j := 6) zbX12_world_8 rfl) (zby_at (j := 7) zbX12_world_8 rfl) rfl
theorem dX12_world_136 : decode cX12_world 136 = .ok (.iconst 0, 1) := dq_3 (zby_at (j := 8) zbX12_world_8 rfl)
theorem dX12_world_137 : decode cX12_world 137 = .ok (.istore_n 1, 1) := dq_60 (zby_at (j := 9) zbX12_world_8 rfl)
theorem dX12_world_138 : decode cX12_world 138 = .ok (.iload_n 1, 1) := dq_27 (zby_at (j := 10) zbX12_world_8 rfl)
theorem dX12_world_139 : decode cX12_world 139 = .ok (.sipush 10240, 3) := dq_17 (zby_at (j := 11) zbX12_world_8 rfl) (zby_at (j := 12) zbX12_world_8 rfl) (zby_at (j := 13) zbX12_world_8 rfl) rfl
theorem dX12_world_142 : decode cX12_world 142 = .ok (.if_icmp .ge 21, 3) := dq_162 (zby_at (j := 14) zbX12_world_8 rfl) (zby_at (j := 15) zbX12_world_8 rfl) (zby_at (j := 16) zbX12_world_8 rfl) rfl
theorem zbX12_world_9 : zby cX12_world 144 20 = [21, 42, 180, 0, 13, 27, 42, 180, 0, 55, 27, 51, 84, 132, 1, 1, 167, 255, 234, 42] := by decide +kernel
theorem dX12_world_145 : decode cX12_world 145 = .ok (.aload_n 0, 1) := dq_42 (zby_at (j := 1) zbX12_world_9 rfl)
theorem dX12_world_146 : decode cX12_world 146 = .ok (.getfield 13, 3) := dq_180 (zby_at (j := 2) zbX12_world_9 rfl) (zby_at (j := 3) zbX12_world_9 rfl) (zby_at (j := 4) zbX12_world_9 rfl)
theorem dX12_world_149 : decode cX12_world 149 = .ok (.iload_n 1, 1) := dq_27 (zby_at (j := 5) zbX12_world_9 rfl)
theorem dX12_world_150 : decode cX12_world 150 = .ok (.aload_n 0, 1) := dq_42 (zby_at (j := 6) zbX12_world_9 rfl)
theorem dX12_world_151 : decode cX12_world 151 = .ok (.getfield 55, 3) := dq_180 (zby_at (j := 7) zbX12_world_9 rfl) (zby_at (j := 8) zbX12_world_9 rfl) (zby_at (j := 9) zbX12_world_9 rfl)
theorem dX12_world_154 : decode cX12_world 154 = .ok (.iload_n 1, 1) := dq_27 (zby_at (j := 10) zbX12_world_9 rfl)
theorem dX12_world_155 : decode cX12_world 155 = .ok (.baload, 1) := dq_51 (zby_at (j := 11) zbX12_world_9 rfl)
theorem dX12_world_156 : decode cX12_world 156 = .ok (.bastore, 1) := dq_84 (zby_at (j := 12) zbX12_world_9 rfl)
theorem dX12_world_157 : decode cX12_world 157 = .ok (.iinc 1 1, 3) := dq_132 (zby_at (j := 13) zbX12_world_9 rfl) (zby_at (j := 14) zbX12_world_9 rfl) (zby_at (j := 15) zbX12_world_9 rfl) rfl
theorem zbX12_world_10 : zby cX12_world 160 20 = [167, 255, 234, 42, 180, 0, 9, 4, 46, 172] := by decide +kernel
theorem dX12_world_160 : decode cX12_world 160 = .ok (.goto (-22), 3) := dq_167 (zby_at (j := 0) zbX12_world_10 rfl) (zby_at (j := 1) zbX12_world_10 rfl) (zby_at (j := 2) zbX12_world_10 rfl) rfl
theorem dX12_world_163 : decode cX12_world 163 = .ok (.aload_n 0, 1) := dq_42 (zby_at (j := 3) zbX12_world_10 rfl)
theorem dX12_world_164 : decode cX12_world 164 = .ok (.getfield 9, 3) := dq_180 (zby_at (j := 4) zbX12_world_10 rfl) (zby_at (j := 5) zbX12_world_10 rfl) (zby_at (j := 6) zbX12_world_10 rfl)
theorem dX12_world_167 : decode cX12_world 167 = .ok (.iconst 1, 1) := dq_4 (zby_at (j := 7) zbX12_world_10 rfl)
theorem dX12_world_168 : decode cX12_world 168 = .ok (.iaload, 1) := dq_46 (zby_at (j := 8) zbX12_world_10 rfl)
theorem dX12_world_169 : decode cX12_world 169 = .ok (.ireturn, 1) := dq_172 (zby_at (j := 9) zbX12_world_10 rfl)
theorem zbX12_sizeOf_0 : zby cX12_sizeOf 0 20 = [3, 61, 3, 62, 29, 42, 182, 0, 104, 162, 0, 26, 28, 42, 27, 29, 182, 1, 58, 153] := by decide +kernel
theorem dX12_sizeOf_0 : decode cX12_sizeOf 0 = .ok (.iconst 0, 1) := dq_3 (zby_at (j := 0) zbX12_sizeOf_0 rfl)
theorem dX12_sizeOf_1 : decode cX12_sizeOf 1 = .ok (.istore_n 2, 1) := dq_61 (zby_at (j := 1) zbX12_sizeOf_0 rfl)
theorem dX12_sizeOf_2 : decode cX12_sizeOf 2 = .ok (.iconst 0, 1) := dq_3 (zby_at (j := 2) zbX12_sizeOf_0 rfl)
theorem dX12_sizeOf_3 : decode cX12_sizeOf 3 = .ok (.istore_n 3, 1) := dq_62 (zby_at (j := 3) zbX12_sizeOf_0 rfl)
theorem dX12_sizeOf_4 : decode cX12_sizeOf 4 = .ok (.iload_n 3, 1) := dq_29 (zby_at (j := 4) zbX12_sizeOf_0 rfl)
theorem dX12_sizeOf_5 : decode cX12_sizeOf 5 = .ok (.aload_n 0, 1) := dq_42 (zby_at (j := 5) zbX12_sizeOf_0 rfl)
theorem dX12_sizeOf_6 : decode cX12_sizeOf 6 = .ok (.invokevirtual 104, 3) := dq_182 (zby_at (j := 6) zbX12_sizeOf_0 rfl) (zby_at (j := 7) zbX12_sizeOf_0 rfl) (zby_at (j := 8) zbX12_sizeOf_0 rfl)
theorem dX12_sizeOf_9 : decode cX12_sizeOf 9 = .ok (.if_icmp .ge 26, 3) := dq_162 (zby_at (j := 9) zbX12_sizeOf_0 rfl) (zby_at (j := 10) zbX12_sizeOf_0 rfl) (zby_at (j := 11) zbX12_sizeOf_0 rfl) rfl
theorem dX12_sizeOf_12 : decode cX12_sizeOf 12 = .ok (.iload_n 2, 1) := dq_28 (zby_at (j := 12) zbX12_sizeOf_0 rfl)
theorem dX12_sizeOf_13 : decode cX12_sizeOf 13 = .ok (.aload_n 0, 1) := dq_42 (zby_at (j := 13) zbX12_sizeOf_0 rfl)
theorem dX12_sizeOf_14 : decode cX12_sizeOf 14 = .ok (.iload_n 1, 1) := dq_27 (zby_at (j := 14) zbX12_sizeOf_0 rfl)
theorem dX12_sizeOf_15 : decode cX12_sizeOf 15 = .ok (.iload_n 3, 1) := dq_29 (zby_at (j := 15) zbX12_sizeOf_0 rfl)
theorem zbX12_sizeOf_1 : zby cX12_sizeOf 16 20 = [182, 1, 58, 153, 0, 7, 4, 167, 0, 4, 3, 96, 61, 132, 3, 1, 167, 255, 228, 28] := by decide +kernel
theorem dX12_sizeOf_16 : decode cX12_sizeOf 16 = .ok (.invokevirtual 314, 3) := dq_182 (zby_at (j := 0) zbX12_sizeOf_1 rfl) (zby_at (j := 1) zbX12_sizeOf_1 rfl) (zby_at (j := 2) zbX12_sizeOf_1 rfl)
theorem dX12_sizeOf_19 : decode cX12_sizeOf 19 = .ok (.ifCond .eq 7, 3) := dq_153 (zby_at (j := 3) zbX12_sizeOf_1 rfl) (zby_at (j := 4) zbX12_sizeOf_1 rfl) (zby_at (j := 5) zbX12_sizeOf_1 rfl) rfl
theorem dX12_sizeOf_22 : decode cX12_sizeOf 22 = .ok (.iconst 1, 1) := dq_4 (zby_at (j := 6) zbX12_sizeOf_1 rfl)
theorem dX12_sizeOf_23 : decode cX12_sizeOf 23 = .ok (.goto 4, 3) := dq_167 (zby_at (j := 7) zbX12_sizeOf_1 rfl) (zby_at (j := 8) zbX12_sizeOf_1 rfl) (zby_at (j := 9) zbX12_sizeOf_1 rfl) rfl
theorem dX12_sizeOf_26 : decode cX12_sizeOf 26 = .ok (.iconst 0, 1) := dq_3 (zby_at (j := 10) zbX12_sizeOf_1 rfl)
theorem dX12_sizeOf_27 : decode cX12_sizeOf 27 = .ok (.iadd, 1) := dq_96 (zby_at (j := 11) zbX12_sizeOf_1 rfl)
theorem dX12_sizeOf_28 : decode cX12_sizeOf 28 = .ok (.istore_n 2, 1) := dq_61 (zby_at (j := 12) zbX12_sizeOf_1 rfl)
theorem dX12_sizeOf_29 : decode cX12_sizeOf 29 = .ok (.iinc 3 1, 3) := dq_132 (zby_at (j := 13) zbX12_sizeOf_1 rfl) (zby_at (j := 14) zbX12_sizeOf_1 rfl) (zby_at (j := 15) zbX12_sizeOf_1 rfl) rfl
theorem zbX12_sizeOf_2 : zby cX12_sizeOf 32 20 = [167, 255, 228, 28, 172] := by decide +kernel
theorem dX12_sizeOf_32 : decode cX12_sizeOf 32 = .ok (.goto (-28), 3) := dq_167 (zby_at (j := 0) zbX12_sizeOf_2 rfl) (zby_at (j := 1) zbX12_sizeOf_2 rfl) (zby_at (j := 2) zbX12_sizeOf_2 rfl) rfl
theorem dX12_sizeOf_35 : decode cX12_sizeOf 35 = .ok (.iload_n 2, 1) := dq_28 (zby_at (j := 3) zbX12_sizeOf_2 rfl)
theorem dX12_sizeOf_36 : decode cX12_sizeOf 36 = .ok (.ireturn, 1) := dq_172 (zby_at (j := 4) zbX12_sizeOf_2 rfl)
theorem zbX12_lays_0 : zby cX12_lays 0 20 = [3, 61, 28, 17, 4, 0, 162, 0, 27, 42, 180, 0, 13, 17, 4, 0, 27, 104, 28, 96] := by decide +kernel
theorem dX12_lays_0 : decode cX12_lays 0 = .ok (.iconst 0, 1) := dq_3 (zby_at (j := 0) zbX12_lays_0 rfl)
theorem dX12_lays_1 : decode cX12_lays 1 = .ok (.istore_n 2, 1) := dq_61 (zby_at (j := 1) zbX12_lays_0 rfl)
theorem dX12_lays_2 : decode cX12_lays 2 = .ok (.iload_n 2, 1) := dq_28 (zby_at (j := 2) zbX12_lays_0 rfl)
theorem dX12_lays_3 : decode cX12_lays 3 = .ok (.sipush 1024, 3) := dq_17 (zby_at (j := 3) zbX12_lays_0 rfl) (zby_at (j := 4) zbX12_lays_0 rfl) (zby_at (j := 5) zbX12_lays_0 rfl) rfl
theorem dX12_lays_6 : decode cX12_lays 6 = .ok (.if_icmp .ge 27, 3) := dq_162 (zby_at (j := 6) zbX12_lays_0 rfl) (zby_at (j := 7) zbX12_lays_0 rfl) (zby_at (j := 8) zbX12_lays_0 rfl) rfl
theorem dX12_lays_9 : decode cX12_lays 9 = .ok (.aload_n 0, 1) := dq_42 (zby_at (j := 9) zbX12_lays_0 rfl)
theorem dX12_lays_10 : decode cX12_lays 10 = .ok (.getfield 13, 3) := dq_180 (zby_at (j := 10) zbX12_lays_0 rfl) (zby_at (j := 11) zbX12_lays_0 rfl) (zby_at (j := 12) zbX12_lays_0 rfl)
theorem dX12_lays_13 : decode cX12_lays 13 = .ok (.sipush 1024, 3) := dq_17 (zby_at (j := 13) zbX12_lays_0 rfl) (zby_at (j := 14) zbX12_lays_0 rfl) (zby_at (j := 15) zbX12_lays_0 rfl) rfl
theorem zbX12_lays_1 : zby cX12_lays 16 20 = [27, 104, 28, 96, 42, 180, 0, 40, 28, 51, 84, 132, 2, 1, 167, 255, 228, 42, 27, 182] := by decide +kernel
theorem dX12_lays_16 : decode cX12_lays 16 = .ok (.iload_n 1, 1) := dq_27 (zby_at (j := 0) zbX12_lays_1 rfl)
theorem dX12_lays_17 : decode cX12_lays 17 = .ok (.imul, 1) := dq_104 (zby_at (j := 1) zbX12_lays_1 rfl)
theorem dX12_lays_18 : decode cX12_lays 18 = .ok (.iload_n 2, 1) := dq_28 (zby_at (j := 2) zbX12_lays_1 rfl)
theorem dX12_lays_19 : decode cX12_lays 19 = .ok (.iadd, 1) := dq_96 (zby_at (j := 3) zbX12_lays_1 rfl)
theorem dX12_lays_20 : decode cX12_lays 20 = .ok (.aload_n 0, 1) := dq_42 (zby_at (j := 4) zbX12_lays_1 rfl)
theorem dX12_lays_21 : decode cX12_lays 21 = .ok (.getfield 40, 3) := dq_180 (zby_at (j := 5) zbX12_lays_1 rfl) (zby_at (j := 6) zbX12_lays_1 rfl) (zby_at (j := 7) zbX12_lays_1 rfl)
theorem dX12_lays_24 : decode cX12_lays 24 = .ok (.iload_n 2, 1) := dq_28 (zby_at (j := 8) zbX12_lays_1 rfl)
theorem dX12_lays_25 : decode cX12_lays 25 = .ok (.baload, 1) := dq_51 (zby_at (j := 9) zbX12_lays_1 rfl)
theorem dX12_lays_26 : decode cX12_lays 26 = .ok (.bastore, 1) := dq_84 (zby_at (j := 10) zbX12_lays_1 rfl)
theorem dX12_lays_27 : decode cX12_lays 27 = .ok (.iinc 2 1, 3) := dq_132 (zby_at (j := 11) zbX12_lays_1 rfl) (zby_at (j := 12) zbX12_lays_1 rfl) (zby_at (j := 13) zbX12_lays_1 rfl) rfl
theorem dX12_lays_30 : decode cX12_lays 30 = .ok (.goto (-28), 3) := dq_167 (zby_at (j := 14) zbX12_lays_1 rfl) (zby_at (j := 15) zbX12_lays_1 rfl) (zby_at (j := 16) zbX12_lays_1 rfl) rfl
theorem zbX12_lays_2 : zby cX12_lays 32 20 = [228, 42, 27, 182, 1, 62, 172] := by decide +kernel
theorem dX12_lays_33 : decode cX12_lays 33 = .ok (.aload_n 0, 1) := dq_42 (zby_at (j := 1) zbX12_lays_2 rfl)
theorem dX12_lays_34 : decode cX12_lays 34 = .ok (.iload_n 1, 1) := dq_27 (zby_at (j := 2) zbX12_lays_2 rfl)
theorem dX12_lays_35 : decode cX12_lays 35 = .ok (.invokevirtual 318, 3) := dq_182 (zby_at (j := 3) zbX12_lays_2 rfl) (zby_at (j := 4) zbX12_lays_2 rfl) (zby_at (j := 5) zbX12_lays_2 rfl)
theorem dX12_lays_38 : decode cX12_lays 38 = .ok (.ireturn, 1) := dq_172 (zby_at (j := 6) zbX12_lays_2 rfl)
theorem zbX12_put_0 : zby cX12_put 0 20 = [42, 27, 182, 1, 65, 154, 0, 11, 42, 3, 181, 0, 107, 16, 254, 172, 42, 182, 1, 49] := by decide +kernel
theorem dX12_put_0 : decode cX12_put 0 = .ok (.aload_n 0, 1) := dq_42 (zby_at (j := 0) zbX12_put_0 rfl)
theorem dX12_put_1 : decode cX12_put 1 = .ok (.iload_n 1, 1) := dq_27 (zby_at (j := 1) zbX12_put_0 rfl)
theorem dX12_put_2 : decode cX12_put 2 = .ok (.invokevirtual 321, 3) := dq_182 (zby_at (j := 2) zbX12_put_0 rfl) (zby_at (j := 3) zbX12_put_0 rfl) (zby_at (j := 4) zbX12_put_0 rfl)
theorem dX12_put_5 : decode cX12_put 5 = .ok (.ifCond .ne 11, 3) := dq_154 (zby_at (j := 5) zbX12_put_0 rfl) (zby_at (j := 6) zbX12_put_0 rfl) (zby_at (j := 7) zbX12_put_0 rfl) rfl
theorem dX12_put_8 : decode cX12_put 8 = .ok (.aload_n 0, 1) := dq_42 (zby_at (j := 8) zbX12_put_0 rfl)
theorem dX12_put_9 : decode cX12_put 9 = .ok (.iconst 0, 1) := dq_3 (zby_at (j := 9) zbX12_put_0 rfl)
theorem dX12_put_10 : decode cX12_put 10 = .ok (.putfield 107, 3) := dq_181 (zby_at (j := 10) zbX12_put_0 rfl) (zby_at (j := 11) zbX12_put_0 rfl) (zby_at (j := 12) zbX12_put_0 rfl)
theorem dX12_put_13 : decode cX12_put 13 = .ok (.bipush (-2), 2) := dq_16 (zby_at (j := 13) zbX12_put_0 rfl) (zby_at (j := 14) zbX12_put_0 rfl) rfl
theorem dX12_put_15 : decode cX12_put 15 = .ok (.ireturn, 1) := dq_172 (zby_at (j := 15) zbX12_put_0 rfl)
theorem zbX12_put_1 : zby cX12_put 16 20 = [42, 182, 1, 49, 42, 42, 180, 0, 9, 3, 46, 42, 180, 0, 13, 182, 1, 30, 42, 182] := by decide +kernel
theorem dX12_put_16 : decode cX12_put 16 = .ok (.aload_n 0, 1) := dq_42 (zby_at (j := 0) zbX12_put_1 rfl)
theorem dX12_put_17 : decode cX12_put 17 = .ok (.invokevirtual 305, 3) := dq_182 (zby_at (j := 1) zbX12_put_1 rfl) (zby_at (j := 2) zbX12_put_1 rfl) (zby_at (j := 3) zbX12_put_1 rfl)
theorem dX12_put_20 : decode cX12_put 20 = .ok (.aload_n 0, 1) := dq_42 (zby_at (j := 4) zbX12_put_1 rfl)
theorem dX12_put_21 : decode cX12_put 21 = .ok (.aload_n 0, 1) := dq_42 (zby_at (j := 5) zbX12_put_1 rfl)
theorem dX12_put_22 : decode cX12_put 22 = .ok (.getfield 9, 3) := dq_180 (zby_at (j := 6) zbX12_put_1 rfl) (zby_at (j := 7) zbX12_put_1 rfl) (zby_at (j := 8) zbX12_put_1 rfl)
theorem dX12_put_25 : decode cX12_put 25 = .ok (.iconst 0, 1) := dq_3 (zby_at (j := 9) zbX12_put_1 rfl)
theorem dX12_put_26 : decode cX12_put 26 = .ok (.iaload, 1) := dq_46 (zby_at (j := 10) zbX12_put_1 rfl)
theorem dX12_put_27 : decode cX12_put 27 = .ok (.aload_n 0, 1) := dq_42 (zby_at (j := 11) zbX12_put_1 rfl)
theorem dX12_put_28 : decode cX12_put 28 = .ok (.getfield 13, 3) := dq_180 (zby_at (j := 12) zbX12_put_1 rfl) (zby_at (j := 13) zbX12_put_1 rfl) (zby_at (j := 14) zbX12_put_1 rfl)
theorem dX12_put_31 : decode cX12_put 31 = .ok (.invokevirtual 286, 3) := dq_182 (zby_at (j := 15) zbX12_put_1 rfl) (zby_at (j := 16) zbX12_put_1 rfl) (zby_at (j := 17) zbX12_put_1 rfl)
theorem zbX12_put_2 : zby cX12_put 32 20 = [1, 30, 42, 182, 0, 157, 153, 0, 15, 42, 180, 0, 123, 153, 0, 8, 42, 4, 182, 0] := by decide +kernel
theorem dX12_put_34 : decode cX12_put 34 = .ok (.aload_n 0, 1) := dq_42 (zby_at (j := 2) zbX12_put_2 rfl)
theorem dX12_put_35 : decode cX12_put 35 = .ok (.invokevirtual 157, 3) := dq_182 (zby_at (j := 3) zbX12_put_2 rfl) (zby_at (j := 4) zbX12_put_2 rfl) (zby_at (j := 5) zbX12_put_2 rfl)
theorem dX12_put_38 : decode cX12_put 38 = .ok (.ifCond .eq 15, 3) := dq_153 (zby_at (j := 6) zbX12_put_2 rfl) (zby_at (j := 7) zbX12_put_2 rfl) (zby_at (j := 8) zbX12_put_2 rfl) rfl
theorem dX12_put_41 : decode cX12_put 41 = .ok (.aload_n 0, 1) := dq_42 (zby_at (j := 9) zbX12_put_2 rfl)
theorem dX12_put_42 : decode cX12_put 42 = .ok (.getfield 123, 3) := dq_180 (zby_at (j := 10) zbX12_put_2 rfl) (zby_at (j := 11) zbX12_put_2 rfl) (zby_at (j := 12) zbX12_put_2 rfl)
theorem dX12_put_45 : decode cX12_put 45 = .ok (.ifCond .eq 8, 3) := dq_153 (zby_at (j := 13) zbX12_put_2 rfl) (zby_at (j := 14) zbX12_put_2 rfl) (zby_at (j := 15) zbX12_put_2 rfl) rfl
theorem zbX12_put_3 : zby cX12_put 48 20 = [42, 4, 182, 0, 176, 42, 182, 0, 157, 154, 0, 6, 16, 252, 172, 3, 61, 28, 17, 4] := by decide +kernel
theorem dX12_put_48 : decode cX12_put 48 = .ok (.aload_n 0, 1) := dq_42 (zby_at (j := 0) zbX12_put_3 rfl)
theorem dX12_put_49 : decode cX12_put 49 = .ok (.iconst 1, 1) := dq_4 (zby_at (j := 1) zbX12_put_3 rfl)
theorem dX12_put_50 : decode cX12_put 50 = .ok (.invokevirtual 176, 3) := dq_182 (zby_at (j := 2) zbX12_put_3 rfl) (zby_at (j := 3) zbX12_put_3 rfl) (zby_at (j := 4) zbX12_put_3 rfl)
theorem dX12_put_53 : decode cX12_put 53 = .ok (.aload_n 0, 1) := dq_42 (zby_at (j := 5) zbX12_put_3 rfl)
theorem dX12_put_54 : decode cX12_put 54 = .ok (.invokevirtual 157, 3) := dq_182 (zby_at (j := 6) zbX12_put_3 rfl) (zby_at (j := 7) zbX12_put_3 rfl) (zby_at (j := 8) zbX12_put_3 rfl)
theorem dX12_put_57 : decode cX12_put 57 = .ok (.ifCond .ne 6, 3) := dq_154 (zby_at (j := 9) zbX12_put_3 rfl) (zby_at (j := 10) zbX12_put_3 rfl) (zby_at (j := 11) zbX12_put_3 rfl) rfl
theorem dX12_put_60 : decode cX12_put 60 = .ok (.bipush (-4), 2) := dq_16 (zby_at (j := 12) zbX12_put_3 rfl) (zby_at (j := 13) zbX12_put_3 rfl) rfl
theorem dX12_put_62 : decode cX12_put 62 = .ok (.ireturn, 1) := dq_172 (zby_at (j := 14) zbX12_put_3 rfl)
theorem dX12_put_63 : decode cX12_put 63 = .ok (.iconst 0, 1) := dq_3 (zby_at (j := 15) zbX12_put_3 rfl)
theorem zbX12_put_4 : zby cX12_put 64 20 = [61, 28, 17, 4, 0, 162, 0, 21, 42, 180, 0, 40, 28, 42, 180, 0, 37, 28, 51, 84] := by decide +kernel
theorem dX12_put_64 : decode cX12_put 64 = .ok (.istore_n 2, 1) := dq_61 (zby_at (j := 0) zbX12_put_4 rfl)
theorem dX12_put_65 : decode cX12_put 65 = .ok (.iload_n 2, 1) := dq_28 (zby_at (j := 1) zbX12_put_4 rfl)
theorem dX12_put_66 : decode cX12_put 66 = .ok (.sipush 1024, 3) := dq_17 (zby_at (j := 2) zbX12_put_4 rfl) (zby_at (j := 3) zbX12_put_4 rfl) (zby_at (j := 4) zbX12_put_4 rfl) rfl
theorem dX12_put_69 : decode cX12_put 69 = .ok (.if_icmp .ge 21, 3) := dq_162 (zby_at (j := 5) zbX12_put_4 rfl) (zby_at (j := 6) zbX12_put_4 rfl) (zby_at (j := 7) zbX12_put_4 rfl) rfl
theorem dX12_put_72 : decode cX12_put 72 = .ok (.aload_n 0, 1) := dq_42 (zby_at (j := 8) zbX12_put_4 rfl)
theorem dX12_put_73 : decode cX12_put 73 = .ok (.getfield 40, 3) := dq_180 (zby_at (j := 9) zbX12_put_4 rfl) (zby_at (j := 10) zbX12_put_4 rfl) (zby_at (j := 11) zbX12_put_4 rfl)
theorem dX12_put_76 : decode cX12_put 76 = .ok (.iload_n 2, 1) := dq_28 (zby_at (j := 12) zbX12_put_4 rfl)
theorem dX12_put_77 : decode cX12_put 77 = .ok (.aload_n 0, 1) := dq_42 (zby_at (j := 13) zbX12_put_4 rfl)
theorem dX12_put_78 : decode cX12_put 78 = .ok (.getfield 37, 3) := dq_180 (zby_at (j := 14) zbX12_put_4 rfl) (zby_at (j := 15) zbX12_put_4 rfl) (zby_at (j := 16) zbX12_put_4 rfl)
theorem zbX12_put_5 : zby cX12_put 80 20 = [37, 28, 51, 84, 132, 2, 1, 167, 255, 234, 42, 27, 182, 1, 68, 172] := by decide +kernel
theorem dX12_put_81 : decode cX12_put 81 = .ok (.iload_n 2, 1) := dq_28 (zby_at (j := 1) zbX12_put_5 rfl)
theorem dX12_put_82 : decode cX12_put 82 = .ok (.baload, 1) := dq_51 (zby_at (j := 2) zbX12_put_5 rfl)
theorem dX12_put_83 : decode cX12_put 83 = .ok (.bastore, 1) := dq_84 (zby_at (j := 3) zbX12_put_5 rfl)
theorem dX12_put_84 : decode cX12_put 84 = .ok (.iinc 2 1, 3) := dq_132 (zby_at (j := 4) zbX12_put_5 rfl) (zby_at (j := 5) zbX12_put_5 rfl) (zby_at (j := 6) zbX12_put_5 rfl) rfl
theorem dX12_put_87 : decode cX12_put 87 = .ok (.goto (-22), 3) := dq_167 (zby_at (j := 7) zbX12_put_5 rfl) (zby_at (j := 8) zbX12_put_5 rfl) (zby_at (j := 9) zbX12_put_5 rfl) rfl
theorem dX12_put_90 : decode cX12_put 90 = .ok (.aload_n 0, 1) := dq_42 (zby_at (j := 10) zbX12_put_5 rfl)
theorem dX12_put_91 : decode cX12_put 91 = .ok (.iload_n 1, 1) := dq_27 (zby_at (j := 11) zbX12_put_5 rfl)
theorem dX12_put_92 : decode cX12_put 92 = .ok (.invokevirtual 324, 3) := dq_182 (zby_at (j := 12) zbX12_put_5 rfl) (zby_at (j := 13) zbX12_put_5 rfl) (zby_at (j := 14) zbX12_put_5 rfl)
theorem dX12_put_95 : decode cX12_put 95 = .ok (.ireturn, 1) := dq_172 (zby_at (j := 15) zbX12_put_5 rfl)
theorem zbX12_size_0 : zby cX12_size 0 20 = [42, 27, 182, 1, 65, 153, 0, 11, 42, 27, 182, 1, 62, 167, 0, 5, 16, 254, 172] := by decide +kernel
theorem dX12_size_0 : decode cX12_size 0 = .ok (.aload_n 0, 1) := dq_42 (zby_at (j := 0) zbX12_size_0 rfl)
theorem dX12_size_1 : decode cX12_size 1 = .ok (.iload_n 1, 1) := dq_27 (zby_at (j := 1) zbX12_size_0 rfl)
theorem dX12_size_2 : decode cX12_size 2 = .ok (.invokevirtual 321, 3) := dq_182 (zby_at (j := 2) zbX12_size_0 rfl) (zby_at (j := 3) zbX12_size_0 rfl) (zby_at (j := 4) zbX12_size_0 rfl)
theorem dX12_size_5 : decode cX12_size 5 = .ok (.ifCond .eq 11, 3) := dq_153 (zby_at (j := 5) zbX12_size_0 rfl) (zby_at (j := 6) zbX12_size_0 rfl) (zby_at (j := 7) zbX12_size_0 rfl) rfl
theorem dX12_size_8 : decode cX12_size 8 = .ok (.aload_n 0, 1) := dq_42 (zby_at (j := 8) zbX12_size_0 rfl)
theorem dX12_size_9 : decode cX12_size 9 = .ok (.iload_n 1, 1) := dq_27 (zby_at (j := 9) zbX12_size_0 rfl)
theorem dX12_size_10 : decode cX12_size 10 = .ok (.invokevirtual 318, 3) := dq_182 (zby_at (j := 10) zbX12_size_0 rfl) (zby_at (j := 11) zbX12_size_0 rfl) (zby_at (j := 12) zbX12_size_0 rfl)
theorem dX12_size_13 : decode cX12_size 13 = .ok (.goto 5, 3) := dq_167 (zby_at (j := 13) zbX12_size_0 rfl) (zby_at (j := 14) zbX12_size_0 rfl) (zby_at (j := 15) zbX12_size_0 rfl) rfl
theorem zbX12_size_1 : zby cX12_size 16 20 = [16, 254, 172] := by decide +kernel
theorem dX12_size_16 : decode cX12_size 16 = .ok (.bipush (-2), 2) := dq_16 (zby_at (j := 0) zbX12_size_1 rfl) (zby_at (j := 1) zbX12_size_1 rfl) rfl
theorem dX12_size_18 : decode cX12_size 18 = .ok (.ireturn, 1) := dq_172 (zby_at (j := 2) zbX12_size_1 rfl)
theorem zbX12_has_0 : zby cX12_has 0 20 = [42, 27, 182, 1, 65, 153, 0, 28, 42, 28, 182, 1, 71, 153, 0, 20, 42, 27, 28, 182] := by decide +kernel
theorem dX12_has_0 : decode cX12_has 0 = .ok (.aload_n 0, 1) := dq_42 (zby_at (j := 0) zbX12_has_0 rfl)
theorem dX12_has_1 : decode cX12_has 1 = .ok (.iload_n 1, 1) := dq_27 (zby_at (j := 1) zbX12_has_0 rfl)
theorem dX12_has_2 : decode cX12_has 2 = .ok (.invokevirtual 321, 3) := dq_182 (zby_at (j := 2) zbX12_has_0 rfl) (zby_at (j := 3) zbX12_has_0 rfl) (zby_at (j := 4) zbX12_has_0 rfl)
theorem dX12_has_5 : decode cX12_has 5 = .ok (.ifCond .eq 28, 3) := dq_153 (zby_at (j := 5) zbX12_has_0 rfl) (zby_at (j := 6) zbX12_has_0 rfl) (zby_at (j := 7) zbX12_has_0 rfl) rfl
theorem dX12_has_8 : decode cX12_has 8 = .ok (.aload_n 0, 1) := dq_42 (zby_at (j := 8) zbX12_has_0 rfl)
theorem dX12_has_9 : decode cX12_has 9 = .ok (.iload_n 2, 1) := dq_28 (zby_at (j := 9) zbX12_has_0 rfl)
theorem dX12_has_10 : decode cX12_has 10 = .ok (.invokevirtual 327, 3) := dq_182 (zby_at (j := 10) zbX12_has_0 rfl) (zby_at (j := 11) zbX12_has_0 rfl) (zby_at (j := 12) zbX12_has_0 rfl)
theorem dX12_has_13 : decode cX12_has 13 = .ok (.ifCond .eq 20, 3) := dq_153 (zby_at (j := 13) zbX12_has_0 rfl) (zby_at (j := 14) zbX12_has_0 rfl) (zby_at (j := 15) zbX12_has_0 rfl) rfl
theorem zbX12_has_1 : zby cX12_has 16 20 = [42, 27, 28, 182, 1, 58, 153, 0, 7, 4, 167, 0, 9, 3, 167, 0, 5, 16, 254, 172] := by decide +kernel
theorem dX12_has_16 : decode cX12_has 16 = .ok (.aload_n 0, 1) := dq_42 (zby_at (j := 0) zbX12_has_1 rfl)
theorem dX12_has_17 : decode cX12_has 17 = .ok (.iload_n 1, 1) := dq_27 (zby_at (j := 1) zbX12_has_1 rfl)
theorem dX12_has_18 : decode cX12_has 18 = .ok (.iload_n 2, 1) := dq_28 (zby_at (j := 2) zbX12_has_1 rfl)
theorem dX12_has_19 : decode cX12_has 19 = .ok (.invokevirtual 314, 3) := dq_182 (zby_at (j := 3) zbX12_has_1 rfl) (zby_at (j := 4) zbX12_has_1 rfl) (zby_at (j := 5) zbX12_has_1 rfl)
theorem dX12_has_22 : decode cX12_has 22 = .ok (.ifCond .eq 7, 3) := dq_153 (zby_at (j := 6) zbX12_has_1 rfl) (zby_at (j := 7) zbX12_has_1 rfl) (zby_at (j := 8) zbX12_has_1 rfl) rfl
theorem dX12_has_25 : decode cX12_has 25 = .ok (.iconst 1, 1) := dq_4 (zby_at (j := 9) zbX12_has_1 rfl)
theorem dX12_has_26 : decode cX12_has 26 = .ok (.goto 9, 3) := dq_167 (zby_at (j := 10) zbX12_has_1 rfl) (zby_at (j := 11) zbX12_has_1 rfl) (zby_at (j := 12) zbX12_has_1 rfl) rfl
theorem dX12_has_29 : decode cX12_has 29 = .ok (.iconst 0, 1) := dq_3 (zby_at (j := 13) zbX12_has_1 rfl)
theorem dX12_has_30 : decode cX12_has 30 = .ok (.goto 5, 3) := dq_167 (zby_at (j := 14) zbX12_has_1 rfl) (zby_at (j := 15) zbX12_has_1 rfl) (zby_at (j := 16) zbX12_has_1 rfl) rfl
theorem zbX12_has_2 : zby cX12_has 32 20 = [5, 16, 254, 172] := by decide +kernel
theorem dX12_has_33 : decode cX12_has 33 = .ok (.bipush (-2), 2) := dq_16 (zby_at (j := 1) zbX12_has_2 rfl) (zby_at (j := 2) zbX12_has_2 rfl) rfl
theorem dX12_has_35 : decode cX12_has 35 = .ok (.ireturn, 1) := dq_172 (zby_at (j := 3) zbX12_has_2 rfl)
theorem zbX12_makes_0 : zby cX12_makes 0 20 = [42, 27, 182, 1, 65, 153, 0, 32, 28, 133, 9, 20, 1, 74, 184, 0, 94, 153, 0, 20] := by decide +kernel
theorem dX12_makes_0 : decode cX12_makes 0 = .ok (.aload_n 0, 1) := dq_42 (zby_at (j := 0) zbX12_makes_0 rfl)
theorem dX12_makes_1 : decode cX12_makes 1 = .ok (.iload_n 1, 1) := dq_27 (zby_at (j := 1) zbX12_makes_0 rfl)
theorem dX12_makes_2 : decode cX12_makes 2 = .ok (.invokevirtual 321, 3) := dq_182 (zby_at (j := 2) zbX12_makes_0 rfl) (zby_at (j := 3) zbX12_makes_0 rfl) (zby_at (j := 4) zbX12_makes_0 rfl)
theorem dX12_makes_5 : decode cX12_makes 5 = .ok (.ifCond .eq 32, 3) := dq_153 (zby_at (j := 5) zbX12_makes_0 rfl) (zby_at (j := 6) zbX12_makes_0 rfl) (zby_at (j := 7) zbX12_makes_0 rfl) rfl
theorem dX12_makes_8 : decode cX12_makes 8 = .ok (.iload_n 2, 1) := dq_28 (zby_at (j := 8) zbX12_makes_0 rfl)
theorem dX12_makes_9 : decode cX12_makes 9 = .ok (.i2l, 1) := dq_133 (zby_at (j := 9) zbX12_makes_0 rfl)
theorem dX12_makes_10 : decode cX12_makes 10 = .ok (.lconst 0, 1) := dq_9 (zby_at (j := 10) zbX12_makes_0 rfl)
theorem dX12_makes_11 : decode cX12_makes 11 = .ok (.ldc2_w 330, 3) := dq_20 (zby_at (j := 11) zbX12_makes_0 rfl) (zby_at (j := 12) zbX12_makes_0 rfl) (zby_at (j := 13) zbX12_makes_0 rfl)
theorem dX12_makes_14 : decode cX12_makes 14 = .ok (.invokestatic 94, 3) := dq_184 (zby_at (j := 14) zbX12_makes_0 rfl) (zby_at (j := 15) zbX12_makes_0 rfl) (zby_at (j := 16) zbX12_makes_0 rfl)
theorem zbX12_makes_1 : zby cX12_makes 16 20 = [94, 153, 0, 20, 42, 29, 182, 1, 65, 153, 0, 12, 42, 21, 4, 182, 1, 65, 154, 0] := by decide +kernel
theorem dX12_makes_17 : decode cX12_makes 17 = .ok (.ifCond .eq 20, 3) := dq_153 (zby_at (j := 1) zbX12_makes_1 rfl) (zby_at (j := 2) zbX12_makes_1 rfl) (zby_at (j := 3) zbX12_makes_1 rfl) rfl
theorem dX12_makes_20 : decode cX12_makes 20 = .ok (.aload_n 0, 1) := dq_42 (zby_at (j := 4) zbX12_makes_1 rfl)
theorem dX12_makes_21 : decode cX12_makes 21 = .ok (.iload_n 3, 1) := dq_29 (zby_at (j := 5) zbX12_makes_1 rfl)
theorem dX12_makes_22 : decode cX12_makes 22 = .ok (.invokevirtual 321, 3) := dq_182 (zby_at (j := 6) zbX12_makes_1 rfl) (zby_at (j := 7) zbX12_makes_1 rfl) (zby_at (j := 8) zbX12_makes_1 rfl)
theorem dX12_makes_25 : decode cX12_makes 25 = .ok (.ifCond .eq 12, 3) := dq_153 (zby_at (j := 9) zbX12_makes_1 rfl) (zby_at (j := 10) zbX12_makes_1 rfl) (zby_at (j := 11) zbX12_makes_1 rfl) rfl
theorem dX12_makes_28 : decode cX12_makes 28 = .ok (.aload_n 0, 1) := dq_42 (zby_at (j := 12) zbX12_makes_1 rfl)
theorem dX12_makes_29 : decode cX12_makes 29 = .ok (.iload 4, 2) := dq_21 (zby_at (j := 13) zbX12_makes_1 rfl) (zby_at (j := 14) zbX12_makes_1 rfl)
theorem dX12_makes_31 : decode cX12_makes 31 = .ok (.invokevirtual 321, 3) := dq_182 (zby_at (j := 15) zbX12_makes_1 rfl) (zby_at (j := 16) zbX12_makes_1 rfl) (zby_at (j := 17) zbX12_makes_1 rfl)
theorem zbX12_makes_2 : zby cX12_makes 32 20 = [1, 65, 154, 0, 6, 16, 254, 172, 42, 42, 182, 0, 104, 181, 0, 180, 42, 28, 42, 180] := by decide +kernel
theorem dX12_makes_34 : decode cX12_makes 34 = .ok (.ifCond .ne 6, 3) := dq_154 (zby_at (j := 2) zbX12_makes_2 rfl) (zby_at (j := 3) zbX12_makes_2 rfl) (zby_at (j := 4) zbX12_makes_2 rfl) rfl
theorem dX12_makes_37 : decode cX12_makes 37 = .ok (.bipush (-2), 2) := dq_16 (zby_at (j := 5) zbX12_makes_2 rfl) (zby_at (j := 6) zbX12_makes_2 rfl) rfl
theorem dX12_makes_39 : decode cX12_makes 39 = .ok (.ireturn, 1) := dq_172 (zby_at (j := 7) zbX12_makes_2 rfl)
theorem dX12_makes_40 : decode cX12_makes 40 = .ok (.aload_n 0, 1) := dq_42 (zby_at (j := 8) zbX12_makes_2 rfl)
theorem dX12_makes_41 : decode cX12_makes 41 = .ok (.aload_n 0, 1) := dq_42 (zby_at (j := 9) zbX12_makes_2 rfl)
theorem dX12_makes_42 : decode cX12_makes 42 = .ok (.invokevirtual 104, 3) := dq_182 (zby_at (j := 10) zbX12_makes_2 rfl) (zby_at (j := 11) zbX12_makes_2 rfl) (zby_at (j := 12) zbX12_makes_2 rfl)
theorem dX12_makes_45 : decode cX12_makes 45 = .ok (.putfield 180, 3) := dq_181 (zby_at (j := 13) zbX12_makes_2 rfl) (zby_at (j := 14) zbX12_makes_2 rfl) (zby_at (j := 15) zbX12_makes_2 rfl)
theorem zbX12_makes_3 : zby cX12_makes 48 20 = [42, 28, 42, 180, 0, 13, 17, 4, 0, 29, 104, 42, 180, 0, 13, 17, 4, 0, 21, 4] := by decide +kernel
theorem dX12_makes_48 : decode cX12_makes 48 = .ok (.aload_n 0, 1) := dq_42 (zby_at (j := 0) zbX12_makes_3 rfl)
theorem dX12_makes_49 : decode cX12_makes 49 = .ok (.iload_n 2, 1) := dq_28 (zby_at (j := 1) zbX12_makes_3 rfl)
theorem dX12_makes_50 : decode cX12_makes 50 = .ok (.aload_n 0, 1) := dq_42 (zby_at (j := 2) zbX12_makes_3 rfl)
theorem dX12_makes_51 : decode cX12_makes 51 = .ok (.getfield 13, 3) := dq_180 (zby_at (j := 3) zbX12_makes_3 rfl) (zby_at (j := 4) zbX12_makes_3 rfl) (zby_at (j := 5) zbX12_makes_3 rfl)
theorem dX12_makes_54 : decode cX12_makes 54 = .ok (.sipush 1024, 3) := dq_17 (zby_at (j := 6) zbX12_makes_3 rfl) (zby_at (j := 7) zbX12_makes_3 rfl) (zby_at (j := 8) zbX12_makes_3 rfl) rfl
theorem dX12_makes_57 : decode cX12_makes 57 = .ok (.iload_n 3, 1) := dq_29 (zby_at (j := 9) zbX12_makes_3 rfl)
theorem dX12_makes_58 : decode cX12_makes 58 = .ok (.imul, 1) := dq_104 (zby_at (j := 10) zbX12_makes_3 rfl)
theorem dX12_makes_59 : decode cX12_makes 59 = .ok (.aload_n 0, 1) := dq_42 (zby_at (j := 11) zbX12_makes_3 rfl)
theorem dX12_makes_60 : decode cX12_makes 60 = .ok (.getfield 13, 3) := dq_180 (zby_at (j := 12) zbX12_makes_3 rfl) (zby_at (j := 13) zbX12_makes_3 rfl) (zby_at (j := 14) zbX12_makes_3 rfl)
theorem dX12_makes_63 : decode cX12_makes 63 = .ok (.sipush 1024, 3) := dq_17 (zby_at (j := 15) zbX12_makes_3 rfl) (zby_at (j := 16) zbX12_makes_3 rfl) (zby_at (j := 17) zbX12_makes_3 rfl) rfl
theorem zbX12_makes_4 : zby cX12_makes 64 20 = [4, 0, 21, 4, 104, 182, 0, 218, 42, 27, 182, 1, 68, 172] := by decide +kernel
theorem dX12_makes_66 : decode cX12_makes 66 = .ok (.iload 4, 2) := dq_21 (zby_at (j := 2) zbX12_makes_4 rfl) (zby_at (j := 3) zbX12_makes_4 rfl)
theorem dX12_makes_68 : decode cX12_makes 68 = .ok (.imul, 1) := dq_104 (zby_at (j := 4) zbX12_makes_4 rfl)
theorem dX12_makes_69 : decode cX12_makes 69 = .ok (.invokevirtual 218, 3) := dq_182 (zby_at (j := 5) zbX12_makes_4 rfl) (zby_at (j := 6) zbX12_makes_4 rfl) (zby_at (j := 7) zbX12_makes_4 rfl)
theorem dX12_makes_72 : decode cX12_makes 72 = .ok (.aload_n 0, 1) := dq_42 (zby_at (j := 8) zbX12_makes_4 rfl)
theorem dX12_makes_73 : decode cX12_makes 73 = .ok (.iload_n 1, 1) := dq_27 (zby_at (j := 9) zbX12_makes_4 rfl)
theorem dX12_makes_74 : decode cX12_makes 74 = .ok (.invokevirtual 324, 3) := dq_182 (zby_at (j := 10) zbX12_makes_4 rfl) (zby_at (j := 11) zbX12_makes_4 rfl) (zby_at (j := 12) zbX12_makes_4 rfl)
theorem dX12_makes_77 : decode cX12_makes 77 = .ok (.ireturn, 1) := dq_172 (zby_at (j := 13) zbX12_makes_4 rfl)
theorem zbX12_turn_0 : zby cX12_turn 0 20 = [42, 27, 182, 1, 65, 153, 0, 23, 28, 133, 9, 20, 1, 74, 184, 0, 94, 153, 0, 11] := by decide +kernel
theorem dX12_turn_0 : decode cX12_turn 0 = .ok (.aload_n 0, 1) := dq_42 (zby_at (j := 0) zbX12_turn_0 rfl)
theorem dX12_turn_1 : decode cX12_turn 1 = .ok (.iload_n 1, 1) := dq_27 (zby_at (j := 1) zbX12_turn_0 rfl)
theorem dX12_turn_2 : decode cX12_turn 2 = .ok (.invokevirtual 321, 3) := dq_182 (zby_at (j := 2) zbX12_turn_0 rfl) (zby_at (j := 3) zbX12_turn_0 rfl) (zby_at (j := 4) zbX12_turn_0 rfl)
theorem dX12_turn_5 : decode cX12_turn 5 = .ok (.ifCond .eq 23, 3) := dq_153 (zby_at (j := 5) zbX12_turn_0 rfl) (zby_at (j := 6) zbX12_turn_0 rfl) (zby_at (j := 7) zbX12_turn_0 rfl) rfl
theorem dX12_turn_8 : decode cX12_turn 8 = .ok (.iload_n 2, 1) := dq_28 (zby_at (j := 8) zbX12_turn_0 rfl)
theorem dX12_turn_9 : decode cX12_turn 9 = .ok (.i2l, 1) := dq_133 (zby_at (j := 9) zbX12_turn_0 rfl)
theorem dX12_turn_10 : decode cX12_turn 10 = .ok (.lconst 0, 1) := dq_9 (zby_at (j := 10) zbX12_turn_0 rfl)
theorem dX12_turn_11 : decode cX12_turn 11 = .ok (.ldc2_w 330, 3) := dq_20 (zby_at (j := 11) zbX12_turn_0 rfl) (zby_at (j := 12) zbX12_turn_0 rfl) (zby_at (j := 13) zbX12_turn_0 rfl)
theorem dX12_turn_14 : decode cX12_turn 14 = .ok (.invokestatic 94, 3) := dq_184 (zby_at (j := 14) zbX12_turn_0 rfl) (zby_at (j := 15) zbX12_turn_0 rfl) (zby_at (j := 16) zbX12_turn_0 rfl)
theorem zbX12_turn_1 : zby cX12_turn 16 20 = [94, 153, 0, 11, 42, 29, 182, 1, 65, 154, 0, 6, 16, 254, 172, 42, 42, 182, 0, 104] := by decide +kernel
theorem dX12_turn_17 : decode cX12_turn 17 = .ok (.ifCond .eq 11, 3) := dq_153 (zby_at (j := 1) zbX12_turn_1 rfl) (zby_at (j := 2) zbX12_turn_1 rfl) (zby_at (j := 3) zbX12_turn_1 rfl) rfl
theorem dX12_turn_20 : decode cX12_turn 20 = .ok (.aload_n 0, 1) := dq_42 (zby_at (j := 4) zbX12_turn_1 rfl)
theorem dX12_turn_21 : decode cX12_turn 21 = .ok (.iload_n 3, 1) := dq_29 (zby_at (j := 5) zbX12_turn_1 rfl)
theorem dX12_turn_22 : decode cX12_turn 22 = .ok (.invokevirtual 321, 3) := dq_182 (zby_at (j := 6) zbX12_turn_1 rfl) (zby_at (j := 7) zbX12_turn_1 rfl) (zby_at (j := 8) zbX12_turn_1 rfl)
theorem dX12_turn_25 : decode cX12_turn 25 = .ok (.ifCond .ne 6, 3) := dq_154 (zby_at (j := 9) zbX12_turn_1 rfl) (zby_at (j := 10) zbX12_turn_1 rfl) (zby_at (j := 11) zbX12_turn_1 rfl) rfl
theorem dX12_turn_28 : decode cX12_turn 28 = .ok (.bipush (-2), 2) := dq_16 (zby_at (j := 12) zbX12_turn_1 rfl) (zby_at (j := 13) zbX12_turn_1 rfl) rfl
theorem dX12_turn_30 : decode cX12_turn 30 = .ok (.ireturn, 1) := dq_172 (zby_at (j := 14) zbX12_turn_1 rfl)
theorem dX12_turn_31 : decode cX12_turn 31 = .ok (.aload_n 0, 1) := dq_42 (zby_at (j := 15) zbX12_turn_1 rfl)
theorem zbX12_turn_2 : zby cX12_turn 32 20 = [42, 182, 0, 104, 181, 0, 180, 42, 28, 42, 180, 0, 13, 17, 4, 0, 29, 104, 182, 0] := by decide +kernel
theorem dX12_turn_32 : decode cX12_turn 32 = .ok (.aload_n 0, 1) := dq_42 (zby_at (j := 0) zbX12_turn_2 rfl)
theorem dX12_turn_33 : decode cX12_turn 33 = .ok (.invokevirtual 104, 3) := dq_182 (zby_at (j := 1) zbX12_turn_2 rfl) (zby_at (j := 2) zbX12_turn_2 rfl) (zby_at (j := 3) zbX12_turn_2 rfl)
theorem dX12_turn_36 : decode cX12_turn 36 = .ok (.putfield 180, 3) := dq_181 (zby_at (j := 4) zbX12_turn_2 rfl) (zby_at (j := 5) zbX12_turn_2 rfl) (zby_at (j := 6) zbX12_turn_2 rfl)
theorem dX12_turn_39 : decode cX12_turn 39 = .ok (.aload_n 0, 1) := dq_42 (zby_at (j := 7) zbX12_turn_2 rfl)
theorem dX12_turn_40 : decode cX12_turn 40 = .ok (.iload_n 2, 1) := dq_28 (zby_at (j := 8) zbX12_turn_2 rfl)
theorem dX12_turn_41 : decode cX12_turn 41 = .ok (.aload_n 0, 1) := dq_42 (zby_at (j := 9) zbX12_turn_2 rfl)
theorem dX12_turn_42 : decode cX12_turn 42 = .ok (.getfield 13, 3) := dq_180 (zby_at (j := 10) zbX12_turn_2 rfl) (zby_at (j := 11) zbX12_turn_2 rfl) (zby_at (j := 12) zbX12_turn_2 rfl)
theorem dX12_turn_45 : decode cX12_turn 45 = .ok (.sipush 1024, 3) := dq_17 (zby_at (j := 13) zbX12_turn_2 rfl) (zby_at (j := 14) zbX12_turn_2 rfl) (zby_at (j := 15) zbX12_turn_2 rfl) rfl
theorem zbX12_turn_3 : zby cX12_turn 48 20 = [29, 104, 182, 0, 209, 42, 27, 182, 1, 68, 172] := by decide +kernel
theorem dX12_turn_48 : decode cX12_turn 48 = .ok (.iload_n 3, 1) := dq_29 (zby_at (j := 0) zbX12_turn_3 rfl)
theorem dX12_turn_49 : decode cX12_turn 49 = .ok (.imul, 1) := dq_104 (zby_at (j := 1) zbX12_turn_3 rfl)
theorem dX12_turn_50 : decode cX12_turn 50 = .ok (.invokevirtual 209, 3) := dq_182 (zby_at (j := 2) zbX12_turn_3 rfl) (zby_at (j := 3) zbX12_turn_3 rfl) (zby_at (j := 4) zbX12_turn_3 rfl)
theorem dX12_turn_53 : decode cX12_turn 53 = .ok (.aload_n 0, 1) := dq_42 (zby_at (j := 5) zbX12_turn_3 rfl)
theorem dX12_turn_54 : decode cX12_turn 54 = .ok (.iload_n 1, 1) := dq_27 (zby_at (j := 6) zbX12_turn_3 rfl)
theorem dX12_turn_55 : decode cX12_turn 55 = .ok (.invokevirtual 324, 3) := dq_182 (zby_at (j := 7) zbX12_turn_3 rfl) (zby_at (j := 8) zbX12_turn_3 rfl) (zby_at (j := 9) zbX12_turn_3 rfl)
theorem dX12_turn_58 : decode cX12_turn 58 = .ok (.ireturn, 1) := dq_172 (zby_at (j := 10) zbX12_turn_3 rfl)
theorem zbX12_sets_0 : zby cX12_sets 0 20 = [42, 27, 182, 1, 65, 153, 0, 11, 42, 28, 182, 1, 71, 154, 0, 6, 16, 254, 172, 42] := by decide +kernel
theorem dX12_sets_0 : decode cX12_sets 0 = .ok (.aload_n 0, 1) := dq_42 (zby_at (j := 0) zbX12_sets_0 rfl)
theorem dX12_sets_1 : decode cX12_sets 1 = .ok (.iload_n 1, 1) := dq_27 (zby_at (j := 1) zbX12_sets_0 rfl)
theorem dX12_sets_2 : decode cX12_sets 2 = .ok (.invokevirtual 321, 3) := dq_182 (zby_at (j := 2) zbX12_sets_0 rfl) (zby_at (j := 3) zbX12_sets_0 rfl) (zby_at (j := 4) zbX12_sets_0 rfl)
theorem dX12_sets_5 : decode cX12_sets 5 = .ok (.ifCond .eq 11, 3) := dq_153 (zby_at (j := 5) zbX12_sets_0 rfl) (zby_at (j := 6) zbX12_sets_0 rfl) (zby_at (j := 7) zbX12_sets_0 rfl) rfl
theorem dX12_sets_8 : decode cX12_sets 8 = .ok (.aload_n 0, 1) := dq_42 (zby_at (j := 8) zbX12_sets_0 rfl)
theorem dX12_sets_9 : decode cX12_sets 9 = .ok (.iload_n 2, 1) := dq_28 (zby_at (j := 9) zbX12_sets_0 rfl)
theorem dX12_sets_10 : decode cX12_sets 10 = .ok (.invokevirtual 327, 3) := dq_182 (zby_at (j := 10) zbX12_sets_0 rfl) (zby_at (j := 11) zbX12_sets_0 rfl) (zby_at (j := 12) zbX12_sets_0 rfl)
theorem dX12_sets_13 : decode cX12_sets 13 = .ok (.ifCond .ne 6, 3) := dq_154 (zby_at (j := 13) zbX12_sets_0 rfl) (zby_at (j := 14) zbX12_sets_0 rfl) (zby_at (j := 15) zbX12_sets_0 rfl) rfl
theorem zbX12_sets_1 : zby cX12_sets 16 20 = [16, 254, 172, 42, 27, 28, 182, 1, 58, 54, 4, 42, 180, 0, 13, 17, 4, 0, 27, 104] := by decide +kernel
theorem dX12_sets_16 : decode cX12_sets 16 = .ok (.bipush (-2), 2) := dq_16 (zby_at (j := 0) zbX12_sets_1 rfl) (zby_at (j := 1) zbX12_sets_1 rfl) rfl
theorem dX12_sets_18 : decode cX12_sets 18 = .ok (.ireturn, 1) := dq_172 (zby_at (j := 2) zbX12_sets_1 rfl)
theorem dX12_sets_19 : decode cX12_sets 19 = .ok (.aload_n 0, 1) := dq_42 (zby_at (j := 3) zbX12_sets_1 rfl)
theorem dX12_sets_20 : decode cX12_sets 20 = .ok (.iload_n 1, 1) := dq_27 (zby_at (j := 4) zbX12_sets_1 rfl)
theorem dX12_sets_21 : decode cX12_sets 21 = .ok (.iload_n 2, 1) := dq_28 (zby_at (j := 5) zbX12_sets_1 rfl)
theorem dX12_sets_22 : decode cX12_sets 22 = .ok (.invokevirtual 314, 3) := dq_182 (zby_at (j := 6) zbX12_sets_1 rfl) (zby_at (j := 7) zbX12_sets_1 rfl) (zby_at (j := 8) zbX12_sets_1 rfl)
theorem dX12_sets_25 : decode cX12_sets 25 = .ok (.istore 4, 2) := dq_54 (zby_at (j := 9) zbX12_sets_1 rfl) (zby_at (j := 10) zbX12_sets_1 rfl)
theorem dX12_sets_27 : decode cX12_sets 27 = .ok (.aload_n 0, 1) := dq_42 (zby_at (j := 11) zbX12_sets_1 rfl)
theorem dX12_sets_28 : decode cX12_sets 28 = .ok (.getfield 13, 3) := dq_180 (zby_at (j := 12) zbX12_sets_1 rfl) (zby_at (j := 13) zbX12_sets_1 rfl) (zby_at (j := 14) zbX12_sets_1 rfl)
theorem dX12_sets_31 : decode cX12_sets 31 = .ok (.sipush 1024, 3) := dq_17 (zby_at (j := 15) zbX12_sets_1 rfl) (zby_at (j := 16) zbX12_sets_1 rfl) (zby_at (j := 17) zbX12_sets_1 rfl) rfl
theorem zbX12_sets_2 : zby cX12_sets 32 20 = [4, 0, 27, 104, 28, 96, 29, 84, 21, 4, 29, 160, 0, 7, 3, 167, 0, 4, 4, 172] := by decide +kernel
theorem dX12_sets_34 : decode cX12_sets 34 = .ok (.iload_n 1, 1) := dq_27 (zby_at (j := 2) zbX12_sets_2 rfl)
theorem dX12_sets_35 : decode cX12_sets 35 = .ok (.imul, 1) := dq_104 (zby_at (j := 3) zbX12_sets_2 rfl)
theorem dX12_sets_36 : decode cX12_sets 36 = .ok (.iload_n 2, 1) := dq_28 (zby_at (j := 4) zbX12_sets_2 rfl)
theorem dX12_sets_37 : decode cX12_sets 37 = .ok (.iadd, 1) := dq_96 (zby_at (j := 5) zbX12_sets_2 rfl)
theorem dX12_sets_38 : decode cX12_sets 38 = .ok (.iload_n 3, 1) := dq_29 (zby_at (j := 6) zbX12_sets_2 rfl)
theorem dX12_sets_39 : decode cX12_sets 39 = .ok (.bastore, 1) := dq_84 (zby_at (j := 7) zbX12_sets_2 rfl)
theorem dX12_sets_40 : decode cX12_sets 40 = .ok (.iload 4, 2) := dq_21 (zby_at (j := 8) zbX12_sets_2 rfl) (zby_at (j := 9) zbX12_sets_2 rfl)
theorem dX12_sets_42 : decode cX12_sets 42 = .ok (.iload_n 3, 1) := dq_29 (zby_at (j := 10) zbX12_sets_2 rfl)
theorem dX12_sets_43 : decode cX12_sets 43 = .ok (.if_icmp .ne 7, 3) := dq_160 (zby_at (j := 11) zbX12_sets_2 rfl) (zby_at (j := 12) zbX12_sets_2 rfl) (zby_at (j := 13) zbX12_sets_2 rfl) rfl
theorem dX12_sets_46 : decode cX12_sets 46 = .ok (.iconst 0, 1) := dq_3 (zby_at (j := 14) zbX12_sets_2 rfl)
theorem dX12_sets_47 : decode cX12_sets 47 = .ok (.goto 4, 3) := dq_167 (zby_at (j := 15) zbX12_sets_2 rfl) (zby_at (j := 16) zbX12_sets_2 rfl) (zby_at (j := 17) zbX12_sets_2 rfl) rfl
theorem zbX12_sets_3 : zby cX12_sets 48 20 = [0, 4, 4, 172] := by decide +kernel
theorem dX12_sets_50 : decode cX12_sets 50 = .ok (.iconst 1, 1) := dq_4 (zby_at (j := 2) zbX12_sets_3 rfl)
theorem dX12_sets_51 : decode cX12_sets 51 = .ok (.ireturn, 1) := dq_172 (zby_at (j := 3) zbX12_sets_3 rfl)
theorem zbX12_change_0 : zby cX12_change 0 20 = [42, 27, 182, 1, 65, 153, 0, 19, 42, 28, 182, 1, 65, 153, 0, 11, 42, 29, 182, 1] := by decide +kernel
theorem dX12_change_0 : decode cX12_change 0 = .ok (.aload_n 0, 1) := dq_42 (zby_at (j := 0) zbX12_change_0 rfl)
theorem dX12_change_1 : decode cX12_change 1 = .ok (.iload_n 1, 1) := dq_27 (zby_at (j := 1) zbX12_change_0 rfl)
theorem dX12_change_2 : decode cX12_change 2 = .ok (.invokevirtual 321, 3) := dq_182 (zby_at (j := 2) zbX12_change_0 rfl) (zby_at (j := 3) zbX12_change_0 rfl) (zby_at (j := 4) zbX12_change_0 rfl)
theorem dX12_change_5 : decode cX12_change 5 = .ok (.ifCond .eq 19, 3) := dq_153 (zby_at (j := 5) zbX12_change_0 rfl) (zby_at (j := 6) zbX12_change_0 rfl) (zby_at (j := 7) zbX12_change_0 rfl) rfl
theorem dX12_change_8 : decode cX12_change 8 = .ok (.aload_n 0, 1) := dq_42 (zby_at (j := 8) zbX12_change_0 rfl)
theorem dX12_change_9 : decode cX12_change 9 = .ok (.iload_n 2, 1) := dq_28 (zby_at (j := 9) zbX12_change_0 rfl)
theorem dX12_change_10 : decode cX12_change 10 = .ok (.invokevirtual 321, 3) := dq_182 (zby_at (j := 10) zbX12_change_0 rfl) (zby_at (j := 11) zbX12_change_0 rfl) (zby_at (j := 12) zbX12_change_0 rfl)
theorem dX12_change_13 : decode cX12_change 13 = .ok (.ifCond .eq 11, 3) := dq_153 (zby_at (j := 13) zbX12_change_0 rfl) (zby_at (j := 14) zbX12_change_0 rfl) (zby_at (j := 15) zbX12_change_0 rfl) rfl
theorem zbX12_change_1 : zby cX12_change 16 20 = [42, 29, 182, 1, 76, 154, 0, 6, 16, 254, 172, 3, 54, 4, 21, 4, 17, 4, 0, 162] := by decide +kernel
theorem dX12_change_16 : decode cX12_change 16 = .ok (.aload_n 0, 1) := dq_42 (zby_at (j := 0) zbX12_change_1 rfl)
theorem dX12_change_17 : decode cX12_change 17 = .ok (.iload_n 3, 1) := dq_29 (zby_at (j := 1) zbX12_change_1 rfl)
theorem dX12_change_18 : decode cX12_change 18 = .ok (.invokevirtual 332, 3) := dq_182 (zby_at (j := 2) zbX12_change_1 rfl) (zby_at (j := 3) zbX12_change_1 rfl) (zby_at (j := 4) zbX12_change_1 rfl)
theorem dX12_change_21 : decode cX12_change 21 = .ok (.ifCond .ne 6, 3) := dq_154 (zby_at (j := 5) zbX12_change_1 rfl) (zby_at (j := 6) zbX12_change_1 rfl) (zby_at (j := 7) zbX12_change_1 rfl) rfl
theorem dX12_change_24 : decode cX12_change 24 = .ok (.bipush (-2), 2) := dq_16 (zby_at (j := 8) zbX12_change_1 rfl) (zby_at (j := 9) zbX12_change_1 rfl) rfl
theorem dX12_change_26 : decode cX12_change 26 = .ok (.ireturn, 1) := dq_172 (zby_at (j := 10) zbX12_change_1 rfl)
theorem dX12_change_27 : decode cX12_change 27 = .ok (.iconst 0, 1) := dq_3 (zby_at (j := 11) zbX12_change_1 rfl)
theorem dX12_change_28 : decode cX12_change 28 = .ok (.istore 4, 2) := dq_54 (zby_at (j := 12) zbX12_change_1 rfl) (zby_at (j := 13) zbX12_change_1 rfl)
theorem dX12_change_30 : decode cX12_change 30 = .ok (.iload 4, 2) := dq_21 (zby_at (j := 14) zbX12_change_1 rfl) (zby_at (j := 15) zbX12_change_1 rfl)
theorem zbX12_change_2 : zby cX12_change 32 20 = [17, 4, 0, 162, 0, 44, 42, 180, 0, 40, 21, 4, 21, 4, 42, 182, 0, 104, 162, 0] := by decide +kernel
theorem dX12_change_32 : decode cX12_change 32 = .ok (.sipush 1024, 3) := dq_17 (zby_at (j := 0) zbX12_change_2 rfl) (zby_at (j := 1) zbX12_change_2 rfl) (zby_at (j := 2) zbX12_change_2 rfl) rfl
theorem dX12_change_35 : decode cX12_change 35 = .ok (.if_icmp .ge 44, 3) := dq_162 (zby_at (j := 3) zbX12_change_2 rfl) (zby_at (j := 4) zbX12_change_2 rfl) (zby_at (j := 5) zbX12_change_2 rfl) rfl
theorem dX12_change_38 : decode cX12_change 38 = .ok (.aload_n 0, 1) := dq_42 (zby_at (j := 6) zbX12_change_2 rfl)
theorem dX12_change_39 : decode cX12_change 39 = .ok (.getfield 40, 3) := dq_180 (zby_at (j := 7) zbX12_change_2 rfl) (zby_at (j := 8) zbX12_change_2 rfl) (zby_at (j := 9) zbX12_change_2 rfl)
theorem dX12_change_42 : decode cX12_change 42 = .ok (.iload 4, 2) := dq_21 (zby_at (j := 10) zbX12_change_2 rfl) (zby_at (j := 11) zbX12_change_2 rfl)
theorem dX12_change_44 : decode cX12_change 44 = .ok (.iload 4, 2) := dq_21 (zby_at (j := 12) zbX12_change_2 rfl) (zby_at (j := 13) zbX12_change_2 rfl)
theorem dX12_change_46 : decode cX12_change 46 = .ok (.aload_n 0, 1) := dq_42 (zby_at (j := 14) zbX12_change_2 rfl)
theorem dX12_change_47 : decode cX12_change 47 = .ok (.invokevirtual 104, 3) := dq_182 (zby_at (j := 15) zbX12_change_2 rfl) (zby_at (j := 16) zbX12_change_2 rfl) (zby_at (j := 17) zbX12_change_2 rfl)
theorem zbX12_change_3 : zby cX12_change 48 20 = [0, 104, 162, 0, 21, 42, 28, 21, 4, 4, 29, 120, 130, 182, 1, 58, 153, 0, 7, 4] := by decide +kernel
theorem dX12_change_50 : decode cX12_change 50 = .ok (.if_icmp .ge 21, 3) := dq_162 (zby_at (j := 2) zbX12_change_3 rfl) (zby_at (j := 3) zbX12_change_3 rfl) (zby_at (j := 4) zbX12_change_3 rfl) rfl
theorem dX12_change_53 : decode cX12_change 53 = .ok (.aload_n 0, 1) := dq_42 (zby_at (j := 5) zbX12_change_3 rfl)
theorem dX12_change_54 : decode cX12_change 54 = .ok (.iload_n 2, 1) := dq_28 (zby_at (j := 6) zbX12_change_3 rfl)
theorem dX12_change_55 : decode cX12_change 55 = .ok (.iload 4, 2) := dq_21 (zby_at (j := 7) zbX12_change_3 rfl) (zby_at (j := 8) zbX12_change_3 rfl)
theorem dX12_change_57 : decode cX12_change 57 = .ok (.iconst 1, 1) := dq_4 (zby_at (j := 9) zbX12_change_3 rfl)
theorem dX12_change_58 : decode cX12_change 58 = .ok (.iload_n 3, 1) := dq_29 (zby_at (j := 10) zbX12_change_3 rfl)
theorem dX12_change_59 : decode cX12_change 59 = .ok (.ishl, 1) := dq_120 (zby_at (j := 11) zbX12_change_3 rfl)
theorem dX12_change_60 : decode cX12_change 60 = .ok (.ixor, 1) := dq_130 (zby_at (j := 12) zbX12_change_3 rfl)
theorem dX12_change_61 : decode cX12_change 61 = .ok (.invokevirtual 314, 3) := dq_182 (zby_at (j := 13) zbX12_change_3 rfl) (zby_at (j := 14) zbX12_change_3 rfl) (zby_at (j := 15) zbX12_change_3 rfl)
theorem zbX12_change_4 : zby cX12_change 64 20 = [153, 0, 7, 4, 167, 0, 4, 3, 84, 132, 4, 1, 167, 255, 210, 42, 27, 182, 1, 68] := by decide +kernel
theorem dX12_change_64 : decode cX12_change 64 = .ok (.ifCond .eq 7, 3) := dq_153 (zby_at (j := 0) zbX12_change_4 rfl) (zby_at (j := 1) zbX12_change_4 rfl) (zby_at (j := 2) zbX12_change_4 rfl) rfl
theorem dX12_change_67 : decode cX12_change 67 = .ok (.iconst 1, 1) := dq_4 (zby_at (j := 3) zbX12_change_4 rfl)
theorem dX12_change_68 : decode cX12_change 68 = .ok (.goto 4, 3) := dq_167 (zby_at (j := 4) zbX12_change_4 rfl) (zby_at (j := 5) zbX12_change_4 rfl) (zby_at (j := 6) zbX12_change_4 rfl) rfl
theorem dX12_change_71 : decode cX12_change 71 = .ok (.iconst 0, 1) := dq_3 (zby_at (j := 7) zbX12_change_4 rfl)
theorem dX12_change_72 : decode cX12_change 72 = .ok (.bastore, 1) := dq_84 (zby_at (j := 8) zbX12_change_4 rfl)
theorem dX12_change_73 : decode cX12_change 73 = .ok (.iinc 4 1, 3) := dq_132 (zby_at (j := 9) zbX12_change_4 rfl) (zby_at (j := 10) zbX12_change_4 rfl) (zby_at (j := 11) zbX12_change_4 rfl) rfl
theorem dX12_change_76 : decode cX12_change 76 = .ok (.goto (-46), 3) := dq_167 (zby_at (j := 12) zbX12_change_4 rfl) (zby_at (j := 13) zbX12_change_4 rfl) (zby_at (j := 14) zbX12_change_4 rfl) rfl
theorem dX12_change_79 : decode cX12_change 79 = .ok (.aload_n 0, 1) := dq_42 (zby_at (j := 15) zbX12_change_4 rfl)
theorem zbX12_change_5 : zby cX12_change 80 20 = [27, 182, 1, 68, 172] := by decide +kernel
theorem dX12_change_80 : decode cX12_change 80 = .ok (.iload_n 1, 1) := dq_27 (zby_at (j := 0) zbX12_change_5 rfl)
theorem dX12_change_81 : decode cX12_change 81 = .ok (.invokevirtual 324, 3) := dq_182 (zby_at (j := 1) zbX12_change_5 rfl) (zby_at (j := 2) zbX12_change_5 rfl) (zby_at (j := 3) zbX12_change_5 rfl)
theorem dX12_change_84 : decode cX12_change 84 = .ok (.ireturn, 1) := dq_172 (zby_at (j := 4) zbX12_change_5 rfl)
theorem zbX12_half_0 : zby cX12_half 0 20 = [42, 27, 182, 1, 65, 153, 0, 19, 42, 28, 182, 1, 65, 153, 0, 11, 42, 29, 182, 1] := by decide +kernel
theorem dX12_half_0 : decode cX12_half 0 = .ok (.aload_n 0, 1) := dq_42 (zby_at (j := 0) zbX12_half_0 rfl)
theorem dX12_half_1 : decode cX12_half 1 = .ok (.iload_n 1, 1) := dq_27 (zby_at (j := 1) zbX12_half_0 rfl)
theorem dX12_half_2 : decode cX12_half 2 = .ok (.invokevirtual 321, 3) := dq_182 (zby_at (j := 2) zbX12_half_0 rfl) (zby_at (j := 3) zbX12_half_0 rfl) (zby_at (j := 4) zbX12_half_0 rfl)
theorem dX12_half_5 : decode cX12_half 5 = .ok (.ifCond .eq 19, 3) := dq_153 (zby_at (j := 5) zbX12_half_0 rfl) (zby_at (j := 6) zbX12_half_0 rfl) (zby_at (j := 7) zbX12_half_0 rfl) rfl
theorem dX12_half_8 : decode cX12_half 8 = .ok (.aload_n 0, 1) := dq_42 (zby_at (j := 8) zbX12_half_0 rfl)
theorem dX12_half_9 : decode cX12_half 9 = .ok (.iload_n 2, 1) := dq_28 (zby_at (j := 9) zbX12_half_0 rfl)
theorem dX12_half_10 : decode cX12_half 10 = .ok (.invokevirtual 321, 3) := dq_182 (zby_at (j := 10) zbX12_half_0 rfl) (zby_at (j := 11) zbX12_half_0 rfl) (zby_at (j := 12) zbX12_half_0 rfl)
theorem dX12_half_13 : decode cX12_half 13 = .ok (.ifCond .eq 11, 3) := dq_153 (zby_at (j := 13) zbX12_half_0 rfl) (zby_at (j := 14) zbX12_half_0 rfl) (zby_at (j := 15) zbX12_half_0 rfl) rfl
theorem zbX12_half_1 : zby cX12_half 16 20 = [42, 29, 182, 1, 76, 154, 0, 6, 16, 254, 172, 4, 29, 120, 54, 5, 3, 54, 6, 21] := by decide +kernel
theorem dX12_half_16 : decode cX12_half 16 = .ok (.aload_n 0, 1) := dq_42 (zby_at (j := 0) zbX12_half_1 rfl)
theorem dX12_half_17 : decode cX12_half 17 = .ok (.iload_n 3, 1) := dq_29 (zby_at (j := 1) zbX12_half_1 rfl)
theorem dX12_half_18 : decode cX12_half 18 = .ok (.invokevirtual 332, 3) := dq_182 (zby_at (j := 2) zbX12_half_1 rfl) (zby_at (j := 3) zbX12_half_1 rfl) (zby_at (j := 4) zbX12_half_1 rfl)
theorem dX12_half_21 : decode cX12_half 21 = .ok (.ifCond .ne 6, 3) := dq_154 (zby_at (j := 5) zbX12_half_1 rfl) (zby_at (j := 6) zbX12_half_1 rfl) (zby_at (j := 7) zbX12_half_1 rfl) rfl
theorem dX12_half_24 : decode cX12_half 24 = .ok (.bipush (-2), 2) := dq_16 (zby_at (j := 8) zbX12_half_1 rfl) (zby_at (j := 9) zbX12_half_1 rfl) rfl
theorem dX12_half_26 : decode cX12_half 26 = .ok (.ireturn, 1) := dq_172 (zby_at (j := 10) zbX12_half_1 rfl)
theorem dX12_half_27 : decode cX12_half 27 = .ok (.iconst 1, 1) := dq_4 (zby_at (j := 11) zbX12_half_1 rfl)
theorem dX12_half_28 : decode cX12_half 28 = .ok (.iload_n 3, 1) := dq_29 (zby_at (j := 12) zbX12_half_1 rfl)
theorem dX12_half_29 : decode cX12_half 29 = .ok (.ishl, 1) := dq_120 (zby_at (j := 13) zbX12_half_1 rfl)
theorem dX12_half_30 : decode cX12_half 30 = .ok (.istore 5, 2) := dq_54 (zby_at (j := 14) zbX12_half_1 rfl) (zby_at (j := 15) zbX12_half_1 rfl)
theorem zbX12_half_2 : zby cX12_half 32 20 = [3, 54, 6, 21, 6, 17, 4, 0, 162, 0, 61, 42, 180, 0, 40, 21, 6, 21, 6, 42] := by decide +kernel
theorem dX12_half_32 : decode cX12_half 32 = .ok (.iconst 0, 1) := dq_3 (zby_at (j := 0) zbX12_half_2 rfl)
theorem dX12_half_33 : decode cX12_half 33 = .ok (.istore 6, 2) := dq_54 (zby_at (j := 1) zbX12_half_2 rfl) (zby_at (j := 2) zbX12_half_2 rfl)
theorem dX12_half_35 : decode cX12_half 35 = .ok (.iload 6, 2) := dq_21 (zby_at (j := 3) zbX12_half_2 rfl) (zby_at (j := 4) zbX12_half_2 rfl)
theorem dX12_half_37 : decode cX12_half 37 = .ok (.sipush 1024, 3) := dq_17 (zby_at (j := 5) zbX12_half_2 rfl) (zby_at (j := 6) zbX12_half_2 rfl) (zby_at (j := 7) zbX12_half_2 rfl) rfl
theorem dX12_half_40 : decode cX12_half 40 = .ok (.if_icmp .ge 61, 3) := dq_162 (zby_at (j := 8) zbX12_half_2 rfl) (zby_at (j := 9) zbX12_half_2 rfl) (zby_at (j := 10) zbX12_half_2 rfl) rfl
theorem dX12_half_43 : decode cX12_half 43 = .ok (.aload_n 0, 1) := dq_42 (zby_at (j := 11) zbX12_half_2 rfl)
theorem dX12_half_44 : decode cX12_half 44 = .ok (.getfield 40, 3) := dq_180 (zby_at (j := 12) zbX12_half_2 rfl) (zby_at (j := 13) zbX12_half_2 rfl) (zby_at (j := 14) zbX12_half_2 rfl)
theorem dX12_half_47 : decode cX12_half 47 = .ok (.iload 6, 2) := dq_21 (zby_at (j := 15) zbX12_half_2 rfl) (zby_at (j := 16) zbX12_half_2 rfl)
theorem zbX12_half_3 : zby cX12_half 48 20 = [6, 21, 6, 42, 182, 0, 104, 162, 0, 38, 21, 6, 21, 5, 126, 154, 0, 30, 42, 28] := by decide +kernel
theorem dX12_half_49 : decode cX12_half 49 = .ok (.iload 6, 2) := dq_21 (zby_at (j := 1) zbX12_half_3 rfl) (zby_at (j := 2) zbX12_half_3 rfl)
theorem dX12_half_51 : decode cX12_half 51 = .ok (.aload_n 0, 1) := dq_42 (zby_at (j := 3) zbX12_half_3 rfl)
theorem dX12_half_52 : decode cX12_half 52 = .ok (.invokevirtual 104, 3) := dq_182 (zby_at (j := 4) zbX12_half_3 rfl) (zby_at (j := 5) zbX12_half_3 rfl) (zby_at (j := 6) zbX12_half_3 rfl)
theorem dX12_half_55 : decode cX12_half 55 = .ok (.if_icmp .ge 38, 3) := dq_162 (zby_at (j := 7) zbX12_half_3 rfl) (zby_at (j := 8) zbX12_half_3 rfl) (zby_at (j := 9) zbX12_half_3 rfl) rfl
theorem dX12_half_58 : decode cX12_half 58 = .ok (.iload 6, 2) := dq_21 (zby_at (j := 10) zbX12_half_3 rfl) (zby_at (j := 11) zbX12_half_3 rfl)
theorem dX12_half_60 : decode cX12_half 60 = .ok (.iload 5, 2) := dq_21 (zby_at (j := 12) zbX12_half_3 rfl) (zby_at (j := 13) zbX12_half_3 rfl)
theorem dX12_half_62 : decode cX12_half 62 = .ok (.iand, 1) := dq_126 (zby_at (j := 14) zbX12_half_3 rfl)
theorem dX12_half_63 : decode cX12_half 63 = .ok (.ifCond .ne 30, 3) := dq_154 (zby_at (j := 15) zbX12_half_3 rfl) (zby_at (j := 16) zbX12_half_3 rfl) (zby_at (j := 17) zbX12_half_3 rfl) rfl
theorem zbX12_half_4 : zby cX12_half 64 20 = [0, 30, 42, 28, 21, 4, 153, 0, 11, 21, 6, 21, 5, 128, 167, 0, 5, 21, 6, 182] := by decide +kernel
theorem dX12_half_66 : decode cX12_half 66 = .ok (.aload_n 0, 1) := dq_42 (zby_at (j := 2) zbX12_half_4 rfl)
theorem dX12_half_67 : decode cX12_half 67 = .ok (.iload_n 2, 1) := dq_28 (zby_at (j := 3) zbX12_half_4 rfl)
theorem dX12_half_68 : decode cX12_half 68 = .ok (.iload 4, 2) := dq_21 (zby_at (j := 4) zbX12_half_4 rfl) (zby_at (j := 5) zbX12_half_4 rfl)
theorem dX12_half_70 : decode cX12_half 70 = .ok (.ifCond .eq 11, 3) := dq_153 (zby_at (j := 6) zbX12_half_4 rfl) (zby_at (j := 7) zbX12_half_4 rfl) (zby_at (j := 8) zbX12_half_4 rfl) rfl
theorem dX12_half_73 : decode cX12_half 73 = .ok (.iload 6, 2) := dq_21 (zby_at (j := 9) zbX12_half_4 rfl) (zby_at (j := 10) zbX12_half_4 rfl)
theorem dX12_half_75 : decode cX12_half 75 = .ok (.iload 5, 2) := dq_21 (zby_at (j := 11) zbX12_half_4 rfl) (zby_at (j := 12) zbX12_half_4 rfl)
theorem dX12_half_77 : decode cX12_half 77 = .ok (.ior, 1) := dq_128 (zby_at (j := 13) zbX12_half_4 rfl)
theorem dX12_half_78 : decode cX12_half 78 = .ok (.goto 5, 3) := dq_167 (zby_at (j := 14) zbX12_half_4 rfl) (zby_at (j := 15) zbX12_half_4 rfl) (zby_at (j := 16) zbX12_half_4 rfl) rfl
theorem zbX12_half_5 : zby cX12_half 80 20 = [5, 21, 6, 182, 1, 58, 153, 0, 7, 4, 167, 0, 4, 3, 84, 132, 6, 1, 167, 255] := by decide +kernel
theorem dX12_half_81 : decode cX12_half 81 = .ok (.iload 6, 2) := dq_21 (zby_at (j := 1) zbX12_half_5 rfl) (zby_at (j := 2) zbX12_half_5 rfl)
theorem dX12_half_83 : decode cX12_half 83 = .ok (.invokevirtual 314, 3) := dq_182 (zby_at (j := 3) zbX12_half_5 rfl) (zby_at (j := 4) zbX12_half_5 rfl) (zby_at (j := 5) zbX12_half_5 rfl)
theorem dX12_half_86 : decode cX12_half 86 = .ok (.ifCond .eq 7, 3) := dq_153 (zby_at (j := 6) zbX12_half_5 rfl) (zby_at (j := 7) zbX12_half_5 rfl) (zby_at (j := 8) zbX12_half_5 rfl) rfl
theorem dX12_half_89 : decode cX12_half 89 = .ok (.iconst 1, 1) := dq_4 (zby_at (j := 9) zbX12_half_5 rfl)
theorem dX12_half_90 : decode cX12_half 90 = .ok (.goto 4, 3) := dq_167 (zby_at (j := 10) zbX12_half_5 rfl) (zby_at (j := 11) zbX12_half_5 rfl) (zby_at (j := 12) zbX12_half_5 rfl) rfl
theorem dX12_half_93 : decode cX12_half 93 = .ok (.iconst 0, 1) := dq_3 (zby_at (j := 13) zbX12_half_5 rfl)
theorem dX12_half_94 : decode cX12_half 94 = .ok (.bastore, 1) := dq_84 (zby_at (j := 14) zbX12_half_5 rfl)
theorem dX12_half_95 : decode cX12_half 95 = .ok (.iinc 6 1, 3) := dq_132 (zby_at (j := 15) zbX12_half_5 rfl) (zby_at (j := 16) zbX12_half_5 rfl) (zby_at (j := 17) zbX12_half_5 rfl) rfl
theorem zbX12_half_6 : zby cX12_half 96 20 = [6, 1, 167, 255, 193, 42, 27, 182, 1, 68, 172] := by decide +kernel
theorem dX12_half_98 : decode cX12_half 98 = .ok (.goto (-63), 3) := dq_167 (zby_at (j := 2) zbX12_half_6 rfl) (zby_at (j := 3) zbX12_half_6 rfl) (zby_at (j := 4) zbX12_half_6 rfl) rfl
theorem dX12_half_101 : decode cX12_half 101 = .ok (.aload_n 0, 1) := dq_42 (zby_at (j := 5) zbX12_half_6 rfl)
theorem dX12_half_102 : decode cX12_half 102 = .ok (.iload_n 1, 1) := dq_27 (zby_at (j := 6) zbX12_half_6 rfl)
theorem dX12_half_103 : decode cX12_half 103 = .ok (.invokevirtual 324, 3) := dq_182 (zby_at (j := 7) zbX12_half_6 rfl) (zby_at (j := 8) zbX12_half_6 rfl) (zby_at (j := 9) zbX12_half_6 rfl)
theorem dX12_half_106 : decode cX12_half 106 = .ok (.ireturn, 1) := dq_172 (zby_at (j := 10) zbX12_half_6 rfl)
theorem zbX12_level_0 : zby cX12_level 0 20 = [42, 27, 182, 1, 65, 153, 0, 23, 42, 28, 182, 1, 65, 153, 0, 15, 29, 133, 9, 20] := by decide +kernel
theorem dX12_level_0 : decode cX12_level 0 = .ok (.aload_n 0, 1) := dq_42 (zby_at (j := 0) zbX12_level_0 rfl)
theorem dX12_level_1 : decode cX12_level 1 = .ok (.iload_n 1, 1) := dq_27 (zby_at (j := 1) zbX12_level_0 rfl)
theorem dX12_level_2 : decode cX12_level 2 = .ok (.invokevirtual 321, 3) := dq_182 (zby_at (j := 2) zbX12_level_0 rfl) (zby_at (j := 3) zbX12_level_0 rfl) (zby_at (j := 4) zbX12_level_0 rfl)
theorem dX12_level_5 : decode cX12_level 5 = .ok (.ifCond .eq 23, 3) := dq_153 (zby_at (j := 5) zbX12_level_0 rfl) (zby_at (j := 6) zbX12_level_0 rfl) (zby_at (j := 7) zbX12_level_0 rfl) rfl
theorem dX12_level_8 : decode cX12_level 8 = .ok (.aload_n 0, 1) := dq_42 (zby_at (j := 8) zbX12_level_0 rfl)
theorem dX12_level_9 : decode cX12_level 9 = .ok (.iload_n 2, 1) := dq_28 (zby_at (j := 9) zbX12_level_0 rfl)
theorem dX12_level_10 : decode cX12_level 10 = .ok (.invokevirtual 321, 3) := dq_182 (zby_at (j := 10) zbX12_level_0 rfl) (zby_at (j := 11) zbX12_level_0 rfl) (zby_at (j := 12) zbX12_level_0 rfl)
theorem dX12_level_13 : decode cX12_level 13 = .ok (.ifCond .eq 15, 3) := dq_153 (zby_at (j := 13) zbX12_level_0 rfl) (zby_at (j := 14) zbX12_level_0 rfl) (zby_at (j := 15) zbX12_level_0 rfl) rfl
theorem zbX12_level_1 : zby cX12_level 16 20 = [29, 133, 9, 20, 1, 79, 184, 0, 94, 154, 0, 6, 16, 254, 172, 3, 54, 4, 21, 4] := by decide +kernel
theorem dX12_level_16 : decode cX12_level 16 = .ok (.iload_n 3, 1) := dq_29 (zby_at (j := 0) zbX12_level_1 rfl)
theorem dX12_level_17 : decode cX12_level 17 = .ok (.i2l, 1) := dq_133 (zby_at (j := 1) zbX12_level_1 rfl)
theorem dX12_level_18 : decode cX12_level 18 = .ok (.lconst 0, 1) := dq_9 (zby_at (j := 2) zbX12_level_1 rfl)
theorem dX12_level_19 : decode cX12_level 19 = .ok (.ldc2_w 335, 3) := dq_20 (zby_at (j := 3) zbX12_level_1 rfl) (zby_at (j := 4) zbX12_level_1 rfl) (zby_at (j := 5) zbX12_level_1 rfl)
theorem dX12_level_22 : decode cX12_level 22 = .ok (.invokestatic 94, 3) := dq_184 (zby_at (j := 6) zbX12_level_1 rfl) (zby_at (j := 7) zbX12_level_1 rfl) (zby_at (j := 8) zbX12_level_1 rfl)
theorem dX12_level_25 : decode cX12_level 25 = .ok (.ifCond .ne 6, 3) := dq_154 (zby_at (j := 9) zbX12_level_1 rfl) (zby_at (j := 10) zbX12_level_1 rfl) (zby_at (j := 11) zbX12_level_1 rfl) rfl
theorem dX12_level_28 : decode cX12_level 28 = .ok (.bipush (-2), 2) := dq_16 (zby_at (j := 12) zbX12_level_1 rfl) (zby_at (j := 13) zbX12_level_1 rfl) rfl
theorem dX12_level_30 : decode cX12_level 30 = .ok (.ireturn, 1) := dq_172 (zby_at (j := 14) zbX12_level_1 rfl)
theorem dX12_level_31 : decode cX12_level 31 = .ok (.iconst 0, 1) := dq_3 (zby_at (j := 15) zbX12_level_1 rfl)
theorem zbX12_level_2 : zby cX12_level 32 20 = [54, 4, 21, 4, 17, 4, 0, 162, 0, 49, 42, 180, 0, 40, 21, 4, 21, 4, 42, 182] := by decide +kernel
theorem dX12_level_32 : decode cX12_level 32 = .ok (.istore 4, 2) := dq_54 (zby_at (j := 0) zbX12_level_2 rfl) (zby_at (j := 1) zbX12_level_2 rfl)
theorem dX12_level_34 : decode cX12_level 34 = .ok (.iload 4, 2) := dq_21 (zby_at (j := 2) zbX12_level_2 rfl) (zby_at (j := 3) zbX12_level_2 rfl)
theorem dX12_level_36 : decode cX12_level 36 = .ok (.sipush 1024, 3) := dq_17 (zby_at (j := 4) zbX12_level_2 rfl) (zby_at (j := 5) zbX12_level_2 rfl) (zby_at (j := 6) zbX12_level_2 rfl) rfl
theorem dX12_level_39 : decode cX12_level 39 = .ok (.if_icmp .ge 49, 3) := dq_162 (zby_at (j := 7) zbX12_level_2 rfl) (zby_at (j := 8) zbX12_level_2 rfl) (zby_at (j := 9) zbX12_level_2 rfl) rfl
theorem dX12_level_42 : decode cX12_level 42 = .ok (.aload_n 0, 1) := dq_42 (zby_at (j := 10) zbX12_level_2 rfl)
theorem dX12_level_43 : decode cX12_level 43 = .ok (.getfield 40, 3) := dq_180 (zby_at (j := 11) zbX12_level_2 rfl) (zby_at (j := 12) zbX12_level_2 rfl) (zby_at (j := 13) zbX12_level_2 rfl)
theorem dX12_level_46 : decode cX12_level 46 = .ok (.iload 4, 2) := dq_21 (zby_at (j := 14) zbX12_level_2 rfl) (zby_at (j := 15) zbX12_level_2 rfl)
theorem zbX12_level_3 : zby cX12_level 48 20 = [21, 4, 42, 182, 0, 104, 162, 0, 26, 42, 28, 21, 4, 182, 1, 58, 153, 0, 16, 21] := by decide +kernel
theorem dX12_level_48 : decode cX12_level 48 = .ok (.iload 4, 2) := dq_21 (zby_at (j := 0) zbX12_level_3 rfl) (zby_at (j := 1) zbX12_level_3 rfl)
theorem dX12_level_50 : decode cX12_level 50 = .ok (.aload_n 0, 1) := dq_42 (zby_at (j := 2) zbX12_level_3 rfl)
theorem dX12_level_51 : decode cX12_level 51 = .ok (.invokevirtual 104, 3) := dq_182 (zby_at (j := 3) zbX12_level_3 rfl) (zby_at (j := 4) zbX12_level_3 rfl) (zby_at (j := 5) zbX12_level_3 rfl)
theorem dX12_level_54 : decode cX12_level 54 = .ok (.if_icmp .ge 26, 3) := dq_162 (zby_at (j := 6) zbX12_level_3 rfl) (zby_at (j := 7) zbX12_level_3 rfl) (zby_at (j := 8) zbX12_level_3 rfl) rfl
theorem dX12_level_57 : decode cX12_level 57 = .ok (.aload_n 0, 1) := dq_42 (zby_at (j := 9) zbX12_level_3 rfl)
theorem dX12_level_58 : decode cX12_level 58 = .ok (.iload_n 2, 1) := dq_28 (zby_at (j := 10) zbX12_level_3 rfl)
theorem dX12_level_59 : decode cX12_level 59 = .ok (.iload 4, 2) := dq_21 (zby_at (j := 11) zbX12_level_3 rfl) (zby_at (j := 12) zbX12_level_3 rfl)
theorem dX12_level_61 : decode cX12_level 61 = .ok (.invokevirtual 314, 3) := dq_182 (zby_at (j := 13) zbX12_level_3 rfl) (zby_at (j := 14) zbX12_level_3 rfl) (zby_at (j := 15) zbX12_level_3 rfl)
theorem zbX12_level_4 : zby cX12_level 64 20 = [153, 0, 16, 21, 4, 184, 1, 81, 29, 160, 0, 7, 4, 167, 0, 4, 3, 84, 132, 4] := by decide +kernel
theorem dX12_level_64 : decode cX12_level 64 = .ok (.ifCond .eq 16, 3) := dq_153 (zby_at (j := 0) zbX12_level_4 rfl) (zby_at (j := 1) zbX12_level_4 rfl) (zby_at (j := 2) zbX12_level_4 rfl) rfl
theorem dX12_level_67 : decode cX12_level 67 = .ok (.iload 4, 2) := dq_21 (zby_at (j := 3) zbX12_level_4 rfl) (zby_at (j := 4) zbX12_level_4 rfl)
theorem dX12_level_69 : decode cX12_level 69 = .ok (.invokestatic 337, 3) := dq_184 (zby_at (j := 5) zbX12_level_4 rfl) (zby_at (j := 6) zbX12_level_4 rfl) (zby_at (j := 7) zbX12_level_4 rfl)
theorem dX12_level_72 : decode cX12_level 72 = .ok (.iload_n 3, 1) := dq_29 (zby_at (j := 8) zbX12_level_4 rfl)
theorem dX12_level_73 : decode cX12_level 73 = .ok (.if_icmp .ne 7, 3) := dq_160 (zby_at (j := 9) zbX12_level_4 rfl) (zby_at (j := 10) zbX12_level_4 rfl) (zby_at (j := 11) zbX12_level_4 rfl) rfl
theorem dX12_level_76 : decode cX12_level 76 = .ok (.iconst 1, 1) := dq_4 (zby_at (j := 12) zbX12_level_4 rfl)
theorem dX12_level_77 : decode cX12_level 77 = .ok (.goto 4, 3) := dq_167 (zby_at (j := 13) zbX12_level_4 rfl) (zby_at (j := 14) zbX12_level_4 rfl) (zby_at (j := 15) zbX12_level_4 rfl) rfl
theorem zbX12_level_5 : zby cX12_level 80 20 = [3, 84, 132, 4, 1, 167, 255, 205, 42, 27, 182, 1, 68, 172] := by decide +kernel
theorem dX12_level_80 : decode cX12_level 80 = .ok (.iconst 0, 1) := dq_3 (zby_at (j := 0) zbX12_level_5 rfl)
theorem dX12_level_81 : decode cX12_level 81 = .ok (.bastore, 1) := dq_84 (zby_at (j := 1) zbX12_level_5 rfl)
theorem dX12_level_82 : decode cX12_level 82 = .ok (.iinc 4 1, 3) := dq_132 (zby_at (j := 2) zbX12_level_5 rfl) (zby_at (j := 3) zbX12_level_5 rfl) (zby_at (j := 4) zbX12_level_5 rfl) rfl
theorem dX12_level_85 : decode cX12_level 85 = .ok (.goto (-51), 3) := dq_167 (zby_at (j := 5) zbX12_level_5 rfl) (zby_at (j := 6) zbX12_level_5 rfl) (zby_at (j := 7) zbX12_level_5 rfl) rfl
theorem dX12_level_88 : decode cX12_level 88 = .ok (.aload_n 0, 1) := dq_42 (zby_at (j := 8) zbX12_level_5 rfl)
theorem dX12_level_89 : decode cX12_level 89 = .ok (.iload_n 1, 1) := dq_27 (zby_at (j := 9) zbX12_level_5 rfl)
theorem dX12_level_90 : decode cX12_level 90 = .ok (.invokevirtual 324, 3) := dq_182 (zby_at (j := 10) zbX12_level_5 rfl) (zby_at (j := 11) zbX12_level_5 rfl) (zby_at (j := 12) zbX12_level_5 rfl)
theorem dX12_level_93 : decode cX12_level 93 = .ok (.ireturn, 1) := dq_172 (zby_at (j := 13) zbX12_level_5 rfl)
theorem zbX12_nthOf_0 : zby cX12_nthOf 0 20 = [3, 62, 3, 54, 4, 21, 4, 42, 182, 0, 104, 162, 0, 33, 42, 27, 21, 4, 182, 1] := by decide +kernel
theorem dX12_nthOf_0 : decode cX12_nthOf 0 = .ok (.iconst 0, 1) := dq_3 (zby_at (j := 0) zbX12_nthOf_0 rfl)
theorem dX12_nthOf_1 : decode cX12_nthOf 1 = .ok (.istore_n 3, 1) := dq_62 (zby_at (j := 1) zbX12_nthOf_0 rfl)
theorem dX12_nthOf_2 : decode cX12_nthOf 2 = .ok (.iconst 0, 1) := dq_3 (zby_at (j := 2) zbX12_nthOf_0 rfl)
theorem dX12_nthOf_3 : decode cX12_nthOf 3 = .ok (.istore 4, 2) := dq_54 (zby_at (j := 3) zbX12_nthOf_0 rfl) (zby_at (j := 4) zbX12_nthOf_0 rfl)
theorem dX12_nthOf_5 : decode cX12_nthOf 5 = .ok (.iload 4, 2) := dq_21 (zby_at (j := 5) zbX12_nthOf_0 rfl) (zby_at (j := 6) zbX12_nthOf_0 rfl)
theorem dX12_nthOf_7 : decode cX12_nthOf 7 = .ok (.aload_n 0, 1) := dq_42 (zby_at (j := 7) zbX12_nthOf_0 rfl)
theorem dX12_nthOf_8 : decode cX12_nthOf 8 = .ok (.invokevirtual 104, 3) := dq_182 (zby_at (j := 8) zbX12_nthOf_0 rfl) (zby_at (j := 9) zbX12_nthOf_0 rfl) (zby_at (j := 10) zbX12_nthOf_0 rfl)
theorem dX12_nthOf_11 : decode cX12_nthOf 11 = .ok (.if_icmp .ge 33, 3) := dq_162 (zby_at (j := 11) zbX12_nthOf_0 rfl) (zby_at (j := 12) zbX12_nthOf_0 rfl) (zby_at (j := 13) zbX12_nthOf_0 rfl) rfl
theorem dX12_nthOf_14 : decode cX12_nthOf 14 = .ok (.aload_n 0, 1) := dq_42 (zby_at (j := 14) zbX12_nthOf_0 rfl)
theorem dX12_nthOf_15 : decode cX12_nthOf 15 = .ok (.iload_n 1, 1) := dq_27 (zby_at (j := 15) zbX12_nthOf_0 rfl)
theorem zbX12_nthOf_1 : zby cX12_nthOf 16 20 = [21, 4, 182, 1, 58, 154, 0, 6, 167, 0, 14, 29, 28, 160, 0, 6, 21, 4, 172, 132] := by decide +kernel
theorem dX12_nthOf_16 : decode cX12_nthOf 16 = .ok (.iload 4, 2) := dq_21 (zby_at (j := 0) zbX12_nthOf_1 rfl) (zby_at (j := 1) zbX12_nthOf_1 rfl)
theorem dX12_nthOf_18 : decode cX12_nthOf 18 = .ok (.invokevirtual 314, 3) := dq_182 (zby_at (j := 2) zbX12_nthOf_1 rfl) (zby_at (j := 3) zbX12_nthOf_1 rfl) (zby_at (j := 4) zbX12_nthOf_1 rfl)
theorem dX12_nthOf_21 : decode cX12_nthOf 21 = .ok (.ifCond .ne 6, 3) := dq_154 (zby_at (j := 5) zbX12_nthOf_1 rfl) (zby_at (j := 6) zbX12_nthOf_1 rfl) (zby_at (j := 7) zbX12_nthOf_1 rfl) rfl
theorem dX12_nthOf_24 : decode cX12_nthOf 24 = .ok (.goto 14, 3) := dq_167 (zby_at (j := 8) zbX12_nthOf_1 rfl) (zby_at (j := 9) zbX12_nthOf_1 rfl) (zby_at (j := 10) zbX12_nthOf_1 rfl) rfl
theorem dX12_nthOf_27 : decode cX12_nthOf 27 = .ok (.iload_n 3, 1) := dq_29 (zby_at (j := 11) zbX12_nthOf_1 rfl)
theorem dX12_nthOf_28 : decode cX12_nthOf 28 = .ok (.iload_n 2, 1) := dq_28 (zby_at (j := 12) zbX12_nthOf_1 rfl)
theorem dX12_nthOf_29 : decode cX12_nthOf 29 = .ok (.if_icmp .ne 6, 3) := dq_160 (zby_at (j := 13) zbX12_nthOf_1 rfl) (zby_at (j := 14) zbX12_nthOf_1 rfl) (zby_at (j := 15) zbX12_nthOf_1 rfl) rfl
theorem zbX12_nthOf_2 : zby cX12_nthOf 32 20 = [21, 4, 172, 132, 3, 1, 132, 4, 1, 167, 255, 220, 2, 172] := by decide +kernel
theorem dX12_nthOf_32 : decode cX12_nthOf 32 = .ok (.iload 4, 2) := dq_21 (zby_at (j := 0) zbX12_nthOf_2 rfl) (zby_at (j := 1) zbX12_nthOf_2 rfl)
theorem dX12_nthOf_34 : decode cX12_nthOf 34 = .ok (.ireturn, 1) := dq_172 (zby_at (j := 2) zbX12_nthOf_2 rfl)
theorem dX12_nthOf_35 : decode cX12_nthOf 35 = .ok (.iinc 3 1, 3) := dq_132 (zby_at (j := 3) zbX12_nthOf_2 rfl) (zby_at (j := 4) zbX12_nthOf_2 rfl) (zby_at (j := 5) zbX12_nthOf_2 rfl) rfl
theorem dX12_nthOf_38 : decode cX12_nthOf 38 = .ok (.iinc 4 1, 3) := dq_132 (zby_at (j := 6) zbX12_nthOf_2 rfl) (zby_at (j := 7) zbX12_nthOf_2 rfl) (zby_at (j := 8) zbX12_nthOf_2 rfl) rfl
theorem dX12_nthOf_41 : decode cX12_nthOf 41 = .ok (.goto (-36), 3) := dq_167 (zby_at (j := 9) zbX12_nthOf_2 rfl) (zby_at (j := 10) zbX12_nthOf_2 rfl) (zby_at (j := 11) zbX12_nthOf_2 rfl) rfl
theorem dX12_nthOf_44 : decode cX12_nthOf 44 = .ok (.iconst (-1), 1) := dq_2 (zby_at (j := 12) zbX12_nthOf_2 rfl)
theorem dX12_nthOf_45 : decode cX12_nthOf 45 = .ok (.ireturn, 1) := dq_172 (zby_at (j := 13) zbX12_nthOf_2 rfl)
theorem zbX12_nth_0 : zby cX12_nth 0 20 = [42, 27, 182, 1, 65, 153, 0, 12, 42, 27, 28, 182, 1, 84, 167, 0, 5, 16, 254, 172] := by decide +kernel
theorem dX12_nth_0 : decode cX12_nth 0 = .ok (.aload_n 0, 1) := dq_42 (zby_at (j := 0) zbX12_nth_0 rfl)
theorem dX12_nth_1 : decode cX12_nth 1 = .ok (.iload_n 1, 1) := dq_27 (zby_at (j := 1) zbX12_nth_0 rfl)
theorem dX12_nth_2 : decode cX12_nth 2 = .ok (.invokevirtual 321, 3) := dq_182 (zby_at (j := 2) zbX12_nth_0 rfl) (zby_at (j := 3) zbX12_nth_0 rfl) (zby_at (j := 4) zbX12_nth_0 rfl)
theorem dX12_nth_5 : decode cX12_nth 5 = .ok (.ifCond .eq 12, 3) := dq_153 (zby_at (j := 5) zbX12_nth_0 rfl) (zby_at (j := 6) zbX12_nth_0 rfl) (zby_at (j := 7) zbX12_nth_0 rfl) rfl
theorem dX12_nth_8 : decode cX12_nth 8 = .ok (.aload_n 0, 1) := dq_42 (zby_at (j := 8) zbX12_nth_0 rfl)
theorem dX12_nth_9 : decode cX12_nth 9 = .ok (.iload_n 1, 1) := dq_27 (zby_at (j := 9) zbX12_nth_0 rfl)
theorem dX12_nth_10 : decode cX12_nth 10 = .ok (.iload_n 2, 1) := dq_28 (zby_at (j := 10) zbX12_nth_0 rfl)
theorem dX12_nth_11 : decode cX12_nth 11 = .ok (.invokevirtual 340, 3) := dq_182 (zby_at (j := 11) zbX12_nth_0 rfl) (zby_at (j := 12) zbX12_nth_0 rfl) (zby_at (j := 13) zbX12_nth_0 rfl)
theorem dX12_nth_14 : decode cX12_nth 14 = .ok (.goto 5, 3) := dq_167 (zby_at (j := 14) zbX12_nth_0 rfl) (zby_at (j := 15) zbX12_nth_0 rfl) (zby_at (j := 16) zbX12_nth_0 rfl) rfl
theorem zbX12_nth_1 : zby cX12_nth 16 20 = [5, 16, 254, 172] := by decide +kernel
theorem dX12_nth_17 : decode cX12_nth 17 = .ok (.bipush (-2), 2) := dq_16 (zby_at (j := 1) zbX12_nth_1 rfl) (zby_at (j := 2) zbX12_nth_1 rfl) rfl
theorem dX12_nth_19 : decode cX12_nth 19 = .ok (.ireturn, 1) := dq_172 (zby_at (j := 3) zbX12_nth_1 rfl)
theorem zbX12_rank__0 : zby cX12_rank_ 0 20 = [42, 27, 182, 1, 65, 153, 0, 11, 42, 28, 182, 1, 71, 154, 0, 6, 16, 254, 172, 3] := by decide +kernel
theorem dX12_rank__0 : decode cX12_rank_ 0 = .ok (.aload_n 0, 1) := dq_42 (zby_at (j := 0) zbX12_rank__0 rfl)
theorem dX12_rank__1 : decode cX12_rank_ 1 = .ok (.iload_n 1, 1) := dq_27 (zby_at (j := 1) zbX12_rank__0 rfl)
theorem dX12_rank__2 : decode cX12_rank_ 2 = .ok (.invokevirtual 321, 3) := dq_182 (zby_at (j := 2) zbX12_rank__0 rfl) (zby_at (j := 3) zbX12_rank__0 rfl) (zby_at (j := 4) zbX12_rank__0 rfl)
theorem dX12_rank__5 : decode cX12_rank_ 5 = .ok (.ifCond .eq 11, 3) := dq_153 (zby_at (j := 5) zbX12_rank__0 rfl) (zby_at (j := 6) zbX12_rank__0 rfl) (zby_at (j := 7) zbX12_rank__0 rfl) rfl
theorem dX12_rank__8 : decode cX12_rank_ 8 = .ok (.aload_n 0, 1) := dq_42 (zby_at (j := 8) zbX12_rank__0 rfl)
theorem dX12_rank__9 : decode cX12_rank_ 9 = .ok (.iload_n 2, 1) := dq_28 (zby_at (j := 9) zbX12_rank__0 rfl)
theorem dX12_rank__10 : decode cX12_rank_ 10 = .ok (.invokevirtual 327, 3) := dq_182 (zby_at (j := 10) zbX12_rank__0 rfl) (zby_at (j := 11) zbX12_rank__0 rfl) (zby_at (j := 12) zbX12_rank__0 rfl)
theorem dX12_rank__13 : decode cX12_rank_ 13 = .ok (.ifCond .ne 6, 3) := dq_154 (zby_at (j := 13) zbX12_rank__0 rfl) (zby_at (j := 14) zbX12_rank__0 rfl) (zby_at (j := 15) zbX12_rank__0 rfl) rfl
theorem zbX12_rank__1 : zby cX12_rank_ 16 20 = [16, 254, 172, 3, 62, 3, 54, 4, 21, 4, 28, 162, 0, 27, 29, 42, 27, 21, 4, 182] := by decide +kernel
theorem dX12_rank__16 : decode cX12_rank_ 16 = .ok (.bipush (-2), 2) := dq_16 (zby_at (j := 0) zbX12_rank__1 rfl) (zby_at (j := 1) zbX12_rank__1 rfl) rfl
theorem dX12_rank__18 : decode cX12_rank_ 18 = .ok (.ireturn, 1) := dq_172 (zby_at (j := 2) zbX12_rank__1 rfl)
theorem dX12_rank__19 : decode cX12_rank_ 19 = .ok (.iconst 0, 1) := dq_3 (zby_at (j := 3) zbX12_rank__1 rfl)
theorem dX12_rank__20 : decode cX12_rank_ 20 = .ok (.istore_n 3, 1) := dq_62 (zby_at (j := 4) zbX12_rank__1 rfl)
theorem dX12_rank__21 : decode cX12_rank_ 21 = .ok (.iconst 0, 1) := dq_3 (zby_at (j := 5) zbX12_rank__1 rfl)
theorem dX12_rank__22 : decode cX12_rank_ 22 = .ok (.istore 4, 2) := dq_54 (zby_at (j := 6) zbX12_rank__1 rfl) (zby_at (j := 7) zbX12_rank__1 rfl)
theorem dX12_rank__24 : decode cX12_rank_ 24 = .ok (.iload 4, 2) := dq_21 (zby_at (j := 8) zbX12_rank__1 rfl) (zby_at (j := 9) zbX12_rank__1 rfl)
theorem dX12_rank__26 : decode cX12_rank_ 26 = .ok (.iload_n 2, 1) := dq_28 (zby_at (j := 10) zbX12_rank__1 rfl)
theorem dX12_rank__27 : decode cX12_rank_ 27 = .ok (.if_icmp .ge 27, 3) := dq_162 (zby_at (j := 11) zbX12_rank__1 rfl) (zby_at (j := 12) zbX12_rank__1 rfl) (zby_at (j := 13) zbX12_rank__1 rfl) rfl
theorem dX12_rank__30 : decode cX12_rank_ 30 = .ok (.iload_n 3, 1) := dq_29 (zby_at (j := 14) zbX12_rank__1 rfl)
theorem dX12_rank__31 : decode cX12_rank_ 31 = .ok (.aload_n 0, 1) := dq_42 (zby_at (j := 15) zbX12_rank__1 rfl)
theorem zbX12_rank__2 : zby cX12_rank_ 32 20 = [27, 21, 4, 182, 1, 58, 153, 0, 7, 4, 167, 0, 4, 3, 96, 62, 132, 4, 1, 167] := by decide +kernel
theorem dX12_rank__32 : decode cX12_rank_ 32 = .ok (.iload_n 1, 1) := dq_27 (zby_at (j := 0) zbX12_rank__2 rfl)
theorem dX12_rank__33 : decode cX12_rank_ 33 = .ok (.iload 4, 2) := dq_21 (zby_at (j := 1) zbX12_rank__2 rfl) (zby_at (j := 2) zbX12_rank__2 rfl)
theorem dX12_rank__35 : decode cX12_rank_ 35 = .ok (.invokevirtual 314, 3) := dq_182 (zby_at (j := 3) zbX12_rank__2 rfl) (zby_at (j := 4) zbX12_rank__2 rfl) (zby_at (j := 5) zbX12_rank__2 rfl)
theorem dX12_rank__38 : decode cX12_rank_ 38 = .ok (.ifCond .eq 7, 3) := dq_153 (zby_at (j := 6) zbX12_rank__2 rfl) (zby_at (j := 7) zbX12_rank__2 rfl) (zby_at (j := 8) zbX12_rank__2 rfl) rfl
theorem dX12_rank__41 : decode cX12_rank_ 41 = .ok (.iconst 1, 1) := dq_4 (zby_at (j := 9) zbX12_rank__2 rfl)
theorem dX12_rank__42 : decode cX12_rank_ 42 = .ok (.goto 4, 3) := dq_167 (zby_at (j := 10) zbX12_rank__2 rfl) (zby_at (j := 11) zbX12_rank__2 rfl) (zby_at (j := 12) zbX12_rank__2 rfl) rfl
theorem dX12_rank__45 : decode cX12_rank_ 45 = .ok (.iconst 0, 1) := dq_3 (zby_at (j := 13) zbX12_rank__2 rfl)
theorem dX12_rank__46 : decode cX12_rank_ 46 = .ok (.iadd, 1) := dq_96 (zby_at (j := 14) zbX12_rank__2 rfl)
theorem dX12_rank__47 : decode cX12_rank_ 47 = .ok (.istore_n 3, 1) := dq_62 (zby_at (j := 15) zbX12_rank__2 rfl)
theorem zbX12_rank__3 : zby cX12_rank_ 48 20 = [132, 4, 1, 167, 255, 229, 29, 172] := by decide +kernel
theorem dX12_rank__48 : decode cX12_rank_ 48 = .ok (.iinc 4 1, 3) := dq_132 (zby_at (j := 0) zbX12_rank__3 rfl) (zby_at (j := 1) zbX12_rank__3 rfl) (zby_at (j := 2) zbX12_rank__3 rfl) rfl
theorem dX12_rank__51 : decode cX12_rank_ 51 = .ok (.goto (-27), 3) := dq_167 (zby_at (j := 3) zbX12_rank__3 rfl) (zby_at (j := 4) zbX12_rank__3 rfl) (zby_at (j := 5) zbX12_rank__3 rfl) rfl
theorem dX12_rank__54 : decode cX12_rank_ 54 = .ok (.iload_n 3, 1) := dq_29 (zby_at (j := 6) zbX12_rank__3 rfl)
theorem dX12_rank__55 : decode cX12_rank_ 55 = .ok (.ireturn, 1) := dq_172 (zby_at (j := 7) zbX12_rank__3 rfl)
theorem zbX12_weightOf_0 : zby cX12_weightOf 0 20 = [3, 61, 3, 62, 29, 16, 10, 162, 0, 26, 28, 27, 29, 122, 4, 126, 42, 180, 0, 9] := by decide +kernel
theorem dX12_weightOf_0 : decode cX12_weightOf 0 = .ok (.iconst 0, 1) := dq_3 (zby_at (j := 0) zbX12_weightOf_0 rfl)
theorem dX12_weightOf_1 : decode cX12_weightOf 1 = .ok (.istore_n 2, 1) := dq_61 (zby_at (j := 1) zbX12_weightOf_0 rfl)
theorem dX12_weightOf_2 : decode cX12_weightOf 2 = .ok (.iconst 0, 1) := dq_3 (zby_at (j := 2) zbX12_weightOf_0 rfl)
theorem dX12_weightOf_3 : decode cX12_weightOf 3 = .ok (.istore_n 3, 1) := dq_62 (zby_at (j := 3) zbX12_weightOf_0 rfl)
theorem dX12_weightOf_4 : decode cX12_weightOf 4 = .ok (.iload_n 3, 1) := dq_29 (zby_at (j := 4) zbX12_weightOf_0 rfl)
theorem dX12_weightOf_5 : decode cX12_weightOf 5 = .ok (.bipush 10, 2) := dq_16 (zby_at (j := 5) zbX12_weightOf_0 rfl) (zby_at (j := 6) zbX12_weightOf_0 rfl) rfl
theorem dX12_weightOf_7 : decode cX12_weightOf 7 = .ok (.if_icmp .ge 26, 3) := dq_162 (zby_at (j := 7) zbX12_weightOf_0 rfl) (zby_at (j := 8) zbX12_weightOf_0 rfl) (zby_at (j := 9) zbX12_weightOf_0 rfl) rfl
theorem dX12_weightOf_10 : decode cX12_weightOf 10 = .ok (.iload_n 2, 1) := dq_28 (zby_at (j := 10) zbX12_weightOf_0 rfl)
theorem dX12_weightOf_11 : decode cX12_weightOf 11 = .ok (.iload_n 1, 1) := dq_27 (zby_at (j := 11) zbX12_weightOf_0 rfl)
theorem dX12_weightOf_12 : decode cX12_weightOf 12 = .ok (.iload_n 3, 1) := dq_29 (zby_at (j := 12) zbX12_weightOf_0 rfl)
theorem dX12_weightOf_13 : decode cX12_weightOf 13 = .ok (.ishr, 1) := dq_122 (zby_at (j := 13) zbX12_weightOf_0 rfl)
theorem dX12_weightOf_14 : decode cX12_weightOf 14 = .ok (.iconst 1, 1) := dq_4 (zby_at (j := 14) zbX12_weightOf_0 rfl)
theorem dX12_weightOf_15 : decode cX12_weightOf 15 = .ok (.iand, 1) := dq_126 (zby_at (j := 15) zbX12_weightOf_0 rfl)
theorem zbX12_weightOf_1 : zby cX12_weightOf 16 20 = [42, 180, 0, 9, 6, 29, 96, 46, 104, 96, 61, 132, 3, 1, 167, 255, 230, 28, 172] := by decide +kernel
theorem dX12_weightOf_16 : decode cX12_weightOf 16 = .ok (.aload_n 0, 1) := dq_42 (zby_at (j := 0) zbX12_weightOf_1 rfl)
theorem dX12_weightOf_17 : decode cX12_weightOf 17 = .ok (.getfield 9, 3) := dq_180 (zby_at (j := 1) zbX12_weightOf_1 rfl) (zby_at (j := 2) zbX12_weightOf_1 rfl) (zby_at (j := 3) zbX12_weightOf_1 rfl)
theorem dX12_weightOf_20 : decode cX12_weightOf 20 = .ok (.iconst 3, 1) := dq_6 (zby_at (j := 4) zbX12_weightOf_1 rfl)
theorem dX12_weightOf_21 : decode cX12_weightOf 21 = .ok (.iload_n 3, 1) := dq_29 (zby_at (j := 5) zbX12_weightOf_1 rfl)
theorem dX12_weightOf_22 : decode cX12_weightOf 22 = .ok (.iadd, 1) := dq_96 (zby_at (j := 6) zbX12_weightOf_1 rfl)
theorem dX12_weightOf_23 : decode cX12_weightOf 23 = .ok (.iaload, 1) := dq_46 (zby_at (j := 7) zbX12_weightOf_1 rfl)
theorem dX12_weightOf_24 : decode cX12_weightOf 24 = .ok (.imul, 1) := dq_104 (zby_at (j := 8) zbX12_weightOf_1 rfl)
theorem dX12_weightOf_25 : decode cX12_weightOf 25 = .ok (.iadd, 1) := dq_96 (zby_at (j := 9) zbX12_weightOf_1 rfl)
theorem dX12_weightOf_26 : decode cX12_weightOf 26 = .ok (.istore_n 2, 1) := dq_61 (zby_at (j := 10) zbX12_weightOf_1 rfl)
theorem dX12_weightOf_27 : decode cX12_weightOf 27 = .ok (.iinc 3 1, 3) := dq_132 (zby_at (j := 11) zbX12_weightOf_1 rfl) (zby_at (j := 12) zbX12_weightOf_1 rfl) (zby_at (j := 13) zbX12_weightOf_1 rfl) rfl
theorem dX12_weightOf_30 : decode cX12_weightOf 30 = .ok (.goto (-26), 3) := dq_167 (zby_at (j := 14) zbX12_weightOf_1 rfl) (zby_at (j := 15) zbX12_weightOf_1 rfl) (zby_at (j := 16) zbX12_weightOf_1 rfl) rfl
theorem zbX12_weightOf_2 : zby cX12_weightOf 32 20 = [230, 28, 172] := by decide +kernel
theorem dX12_weightOf_33 : decode cX12_weightOf 33 = .ok (.iload_n 2, 1) := dq_28 (zby_at (j := 1) zbX12_weightOf_2 rfl)
theorem dX12_weightOf_34 : decode cX12_weightOf 34 = .ok (.ireturn, 1) := dq_172 (zby_at (j := 2) zbX12_weightOf_2 rfl)
theorem zbX12_light_0 : zby cX12_light 0 20 = [42, 27, 182, 1, 65, 154, 0, 6, 16, 254, 172, 3, 62, 3, 54, 4, 21, 4, 17, 3] := by decide +kernel
theorem dX12_light_0 : decode cX12_light 0 = .ok (.aload_n 0, 1) := dq_42 (zby_at (j := 0) zbX12_light_0 rfl)
theorem dX12_light_1 : decode cX12_light 1 = .ok (.iload_n 1, 1) := dq_27 (zby_at (j := 1) zbX12_light_0 rfl)
theorem dX12_light_2 : decode cX12_light 2 = .ok (.invokevirtual 321, 3) := dq_182 (zby_at (j := 2) zbX12_light_0 rfl) (zby_at (j := 3) zbX12_light_0 rfl) (zby_at (j := 4) zbX12_light_0 rfl)
theorem dX12_light_5 : decode cX12_light 5 = .ok (.ifCond .ne 6, 3) := dq_154 (zby_at (j := 5) zbX12_light_0 rfl) (zby_at (j := 6) zbX12_light_0 rfl) (zby_at (j := 7) zbX12_light_0 rfl) rfl
theorem dX12_light_8 : decode cX12_light 8 = .ok (.bipush (-2), 2) := dq_16 (zby_at (j := 8) zbX12_light_0 rfl) (zby_at (j := 9) zbX12_light_0 rfl) rfl
theorem dX12_light_10 : decode cX12_light 10 = .ok (.ireturn, 1) := dq_172 (zby_at (j := 10) zbX12_light_0 rfl)
theorem dX12_light_11 : decode cX12_light 11 = .ok (.iconst 0, 1) := dq_3 (zby_at (j := 11) zbX12_light_0 rfl)
theorem dX12_light_12 : decode cX12_light 12 = .ok (.istore_n 3, 1) := dq_62 (zby_at (j := 12) zbX12_light_0 rfl)
theorem dX12_light_13 : decode cX12_light 13 = .ok (.iconst 0, 1) := dq_3 (zby_at (j := 13) zbX12_light_0 rfl)
theorem dX12_light_14 : decode cX12_light 14 = .ok (.istore 4, 2) := dq_54 (zby_at (j := 14) zbX12_light_0 rfl) (zby_at (j := 15) zbX12_light_0 rfl)
theorem zbX12_light_1 : zby cX12_light 16 20 = [21, 4, 17, 3, 222, 163, 0, 62, 3, 54, 5, 21, 5, 42, 182, 0, 104, 162, 0, 44] := by decide +kernel
theorem dX12_light_16 : decode cX12_light 16 = .ok (.iload 4, 2) := dq_21 (zby_at (j := 0) zbX12_light_1 rfl) (zby_at (j := 1) zbX12_light_1 rfl)
theorem dX12_light_18 : decode cX12_light 18 = .ok (.sipush 990, 3) := dq_17 (zby_at (j := 2) zbX12_light_1 rfl) (zby_at (j := 3) zbX12_light_1 rfl) (zby_at (j := 4) zbX12_light_1 rfl) rfl
theorem dX12_light_21 : decode cX12_light 21 = .ok (.if_icmp .gt 62, 3) := dq_163 (zby_at (j := 5) zbX12_light_1 rfl) (zby_at (j := 6) zbX12_light_1 rfl) (zby_at (j := 7) zbX12_light_1 rfl) rfl
theorem dX12_light_24 : decode cX12_light 24 = .ok (.iconst 0, 1) := dq_3 (zby_at (j := 8) zbX12_light_1 rfl)
theorem dX12_light_25 : decode cX12_light 25 = .ok (.istore 5, 2) := dq_54 (zby_at (j := 9) zbX12_light_1 rfl) (zby_at (j := 10) zbX12_light_1 rfl)
theorem dX12_light_27 : decode cX12_light 27 = .ok (.iload 5, 2) := dq_21 (zby_at (j := 11) zbX12_light_1 rfl) (zby_at (j := 12) zbX12_light_1 rfl)
theorem dX12_light_29 : decode cX12_light 29 = .ok (.aload_n 0, 1) := dq_42 (zby_at (j := 13) zbX12_light_1 rfl)
theorem dX12_light_30 : decode cX12_light 30 = .ok (.invokevirtual 104, 3) := dq_182 (zby_at (j := 14) zbX12_light_1 rfl) (zby_at (j := 15) zbX12_light_1 rfl) (zby_at (j := 16) zbX12_light_1 rfl)
theorem zbX12_light_2 : zby cX12_light 32 20 = [104, 162, 0, 44, 42, 27, 21, 5, 182, 1, 58, 153, 0, 28, 42, 21, 5, 182, 1, 87] := by decide +kernel
theorem dX12_light_33 : decode cX12_light 33 = .ok (.if_icmp .ge 44, 3) := dq_162 (zby_at (j := 1) zbX12_light_2 rfl) (zby_at (j := 2) zbX12_light_2 rfl) (zby_at (j := 3) zbX12_light_2 rfl) rfl
theorem dX12_light_36 : decode cX12_light 36 = .ok (.aload_n 0, 1) := dq_42 (zby_at (j := 4) zbX12_light_2 rfl)
theorem dX12_light_37 : decode cX12_light 37 = .ok (.iload_n 1, 1) := dq_27 (zby_at (j := 5) zbX12_light_2 rfl)
theorem dX12_light_38 : decode cX12_light 38 = .ok (.iload 5, 2) := dq_21 (zby_at (j := 6) zbX12_light_2 rfl) (zby_at (j := 7) zbX12_light_2 rfl)
theorem dX12_light_40 : decode cX12_light 40 = .ok (.invokevirtual 314, 3) := dq_182 (zby_at (j := 8) zbX12_light_2 rfl) (zby_at (j := 9) zbX12_light_2 rfl) (zby_at (j := 10) zbX12_light_2 rfl)
theorem dX12_light_43 : decode cX12_light 43 = .ok (.ifCond .eq 28, 3) := dq_153 (zby_at (j := 11) zbX12_light_2 rfl) (zby_at (j := 12) zbX12_light_2 rfl) (zby_at (j := 13) zbX12_light_2 rfl) rfl
theorem dX12_light_46 : decode cX12_light 46 = .ok (.aload_n 0, 1) := dq_42 (zby_at (j := 14) zbX12_light_2 rfl)
theorem dX12_light_47 : decode cX12_light 47 = .ok (.iload 5, 2) := dq_21 (zby_at (j := 15) zbX12_light_2 rfl) (zby_at (j := 16) zbX12_light_2 rfl)
theorem zbX12_light_3 : zby cX12_light 48 20 = [5, 182, 1, 87, 21, 4, 159, 0, 6, 167, 0, 14, 29, 28, 160, 0, 6, 21, 5, 172] := by decide +kernel
theorem dX12_light_49 : decode cX12_light 49 = .ok (.invokevirtual 343, 3) := dq_182 (zby_at (j := 1) zbX12_light_3 rfl) (zby_at (j := 2) zbX12_light_3 rfl) (zby_at (j := 3) zbX12_light_3 rfl)
theorem dX12_light_52 : decode cX12_light 52 = .ok (.iload 4, 2) := dq_21 (zby_at (j := 4) zbX12_light_3 rfl) (zby_at (j := 5) zbX12_light_3 rfl)
theorem dX12_light_54 : decode cX12_light 54 = .ok (.if_icmp .eq 6, 3) := dq_159 (zby_at (j := 6) zbX12_light_3 rfl) (zby_at (j := 7) zbX12_light_3 rfl) (zby_at (j := 8) zbX12_light_3 rfl) rfl
theorem dX12_light_57 : decode cX12_light 57 = .ok (.goto 14, 3) := dq_167 (zby_at (j := 9) zbX12_light_3 rfl) (zby_at (j := 10) zbX12_light_3 rfl) (zby_at (j := 11) zbX12_light_3 rfl) rfl
theorem dX12_light_60 : decode cX12_light 60 = .ok (.iload_n 3, 1) := dq_29 (zby_at (j := 12) zbX12_light_3 rfl)
theorem dX12_light_61 : decode cX12_light 61 = .ok (.iload_n 2, 1) := dq_28 (zby_at (j := 13) zbX12_light_3 rfl)
theorem dX12_light_62 : decode cX12_light 62 = .ok (.if_icmp .ne 6, 3) := dq_160 (zby_at (j := 14) zbX12_light_3 rfl) (zby_at (j := 15) zbX12_light_3 rfl) (zby_at (j := 16) zbX12_light_3 rfl) rfl
theorem zbX12_light_4 : zby cX12_light 64 20 = [6, 21, 5, 172, 132, 3, 1, 132, 5, 1, 167, 255, 209, 132, 4, 1, 167, 255, 192, 2] := by decide +kernel
theorem dX12_light_65 : decode cX12_light 65 = .ok (.iload 5, 2) := dq_21 (zby_at (j := 1) zbX12_light_4 rfl) (zby_at (j := 2) zbX12_light_4 rfl)
theorem dX12_light_67 : decode cX12_light 67 = .ok (.ireturn, 1) := dq_172 (zby_at (j := 3) zbX12_light_4 rfl)
theorem dX12_light_68 : decode cX12_light 68 = .ok (.iinc 3 1, 3) := dq_132 (zby_at (j := 4) zbX12_light_4 rfl) (zby_at (j := 5) zbX12_light_4 rfl) (zby_at (j := 6) zbX12_light_4 rfl) rfl
theorem dX12_light_71 : decode cX12_light 71 = .ok (.iinc 5 1, 3) := dq_132 (zby_at (j := 7) zbX12_light_4 rfl) (zby_at (j := 8) zbX12_light_4 rfl) (zby_at (j := 9) zbX12_light_4 rfl) rfl
theorem dX12_light_74 : decode cX12_light 74 = .ok (.goto (-47), 3) := dq_167 (zby_at (j := 10) zbX12_light_4 rfl) (zby_at (j := 11) zbX12_light_4 rfl) (zby_at (j := 12) zbX12_light_4 rfl) rfl
theorem dX12_light_77 : decode cX12_light 77 = .ok (.iinc 4 1, 3) := dq_132 (zby_at (j := 13) zbX12_light_4 rfl) (zby_at (j := 14) zbX12_light_4 rfl) (zby_at (j := 15) zbX12_light_4 rfl) rfl
theorem zbX12_light_5 : zby cX12_light 80 20 = [167, 255, 192, 2, 172] := by decide +kernel
theorem dX12_light_80 : decode cX12_light 80 = .ok (.goto (-64), 3) := dq_167 (zby_at (j := 0) zbX12_light_5 rfl) (zby_at (j := 1) zbX12_light_5 rfl) (zby_at (j := 2) zbX12_light_5 rfl) rfl
theorem dX12_light_83 : decode cX12_light 83 = .ok (.iconst (-1), 1) := dq_2 (zby_at (j := 3) zbX12_light_5 rfl)
theorem dX12_light_84 : decode cX12_light 84 = .ok (.ireturn, 1) := dq_172 (zby_at (j := 4) zbX12_light_5 rfl)
theorem zbX12_weight_0 : zby cX12_weight 0 20 = [42, 27, 182, 1, 71, 153, 0, 11, 42, 27, 182, 1, 87, 167, 0, 5, 16, 254, 172] := by decide +kernel
theorem dX12_weight_0 : decode cX12_weight 0 = .ok (.aload_n 0, 1) := dq_42 (zby_at (j := 0) zbX12_weight_0 rfl)
theorem dX12_weight_1 : decode cX12_weight 1 = .ok (.iload_n 1, 1) := dq_27 (zby_at (j := 1) zbX12_weight_0 rfl)
theorem dX12_weight_2 : decode cX12_weight 2 = .ok (.invokevirtual 327, 3) := dq_182 (zby_at (j := 2) zbX12_weight_0 rfl) (zby_at (j := 3) zbX12_weight_0 rfl) (zby_at (j := 4) zbX12_weight_0 rfl)
theorem dX12_weight_5 : decode cX12_weight 5 = .ok (.ifCond .eq 11, 3) := dq_153 (zby_at (j := 5) zbX12_weight_0 rfl) (zby_at (j := 6) zbX12_weight_0 rfl) (zby_at (j := 7) zbX12_weight_0 rfl) rfl
theorem dX12_weight_8 : decode cX12_weight 8 = .ok (.aload_n 0, 1) := dq_42 (zby_at (j := 8) zbX12_weight_0 rfl)
theorem dX12_weight_9 : decode cX12_weight 9 = .ok (.iload_n 1, 1) := dq_27 (zby_at (j := 9) zbX12_weight_0 rfl)
theorem dX12_weight_10 : decode cX12_weight 10 = .ok (.invokevirtual 343, 3) := dq_182 (zby_at (j := 10) zbX12_weight_0 rfl) (zby_at (j := 11) zbX12_weight_0 rfl) (zby_at (j := 12) zbX12_weight_0 rfl)
theorem dX12_weight_13 : decode cX12_weight 13 = .ok (.goto 5, 3) := dq_167 (zby_at (j := 13) zbX12_weight_0 rfl) (zby_at (j := 14) zbX12_weight_0 rfl) (zby_at (j := 15) zbX12_weight_0 rfl) rfl
theorem zbX12_weight_1 : zby cX12_weight 16 20 = [16, 254, 172] := by decide +kernel
theorem dX12_weight_16 : decode cX12_weight 16 = .ok (.bipush (-2), 2) := dq_16 (zby_at (j := 0) zbX12_weight_1 rfl) (zby_at (j := 1) zbX12_weight_1 rfl) rfl
theorem dX12_weight_18 : decode cX12_weight 18 = .ok (.ireturn, 1) := dq_172 (zby_at (j := 2) zbX12_weight_1 rfl)
theorem zbX12_weigh_0 : zby cX12_weigh 0 20 = [42, 27, 182, 1, 76, 153, 0, 15, 28, 133, 9, 20, 1, 90, 184, 0, 94, 154, 0, 6] := by decide +kernel
theorem dX12_weigh_0 : decode cX12_weigh 0 = .ok (.aload_n 0, 1) := dq_42 (zby_at (j := 0) zbX12_weigh_0 rfl)
theorem dX12_weigh_1 : decode cX12_weigh 1 = .ok (.iload_n 1, 1) := dq_27 (zby_at (j := 1) zbX12_weigh_0 rfl)
theorem dX12_weigh_2 : decode cX12_weigh 2 = .ok (.invokevirtual 332, 3) := dq_182 (zby_at (j := 2) zbX12_weigh_0 rfl) (zby_at (j := 3) zbX12_weigh_0 rfl) (zby_at (j := 4) zbX12_weigh_0 rfl)
theorem dX12_weigh_5 : decode cX12_weigh 5 = .ok (.ifCond .eq 15, 3) := dq_153 (zby_at (j := 5) zbX12_weigh_0 rfl) (zby_at (j := 6) zbX12_weigh_0 rfl) (zby_at (j := 7) zbX12_weigh_0 rfl) rfl
theorem dX12_weigh_8 : decode cX12_weigh 8 = .ok (.iload_n 2, 1) := dq_28 (zby_at (j := 8) zbX12_weigh_0 rfl)
theorem dX12_weigh_9 : decode cX12_weigh 9 = .ok (.i2l, 1) := dq_133 (zby_at (j := 9) zbX12_weigh_0 rfl)
theorem dX12_weigh_10 : decode cX12_weigh 10 = .ok (.lconst 0, 1) := dq_9 (zby_at (j := 10) zbX12_weigh_0 rfl)
theorem dX12_weigh_11 : decode cX12_weigh 11 = .ok (.ldc2_w 346, 3) := dq_20 (zby_at (j := 11) zbX12_weigh_0 rfl) (zby_at (j := 12) zbX12_weigh_0 rfl) (zby_at (j := 13) zbX12_weigh_0 rfl)
theorem dX12_weigh_14 : decode cX12_weigh 14 = .ok (.invokestatic 94, 3) := dq_184 (zby_at (j := 14) zbX12_weigh_0 rfl) (zby_at (j := 15) zbX12_weigh_0 rfl) (zby_at (j := 16) zbX12_weigh_0 rfl)
theorem zbX12_weigh_1 : zby cX12_weigh 16 20 = [94, 154, 0, 6, 16, 254, 172, 42, 180, 0, 9, 6, 27, 96, 46, 62, 42, 180, 0, 9] := by decide +kernel
theorem dX12_weigh_17 : decode cX12_weigh 17 = .ok (.ifCond .ne 6, 3) := dq_154 (zby_at (j := 1) zbX12_weigh_1 rfl) (zby_at (j := 2) zbX12_weigh_1 rfl) (zby_at (j := 3) zbX12_weigh_1 rfl) rfl
theorem dX12_weigh_20 : decode cX12_weigh 20 = .ok (.bipush (-2), 2) := dq_16 (zby_at (j := 4) zbX12_weigh_1 rfl) (zby_at (j := 5) zbX12_weigh_1 rfl) rfl
theorem dX12_weigh_22 : decode cX12_weigh 22 = .ok (.ireturn, 1) := dq_172 (zby_at (j := 6) zbX12_weigh_1 rfl)
theorem dX12_weigh_23 : decode cX12_weigh 23 = .ok (.aload_n 0, 1) := dq_42 (zby_at (j := 7) zbX12_weigh_1 rfl)
theorem dX12_weigh_24 : decode cX12_weigh 24 = .ok (.getfield 9, 3) := dq_180 (zby_at (j := 8) zbX12_weigh_1 rfl) (zby_at (j := 9) zbX12_weigh_1 rfl) (zby_at (j := 10) zbX12_weigh_1 rfl)
theorem dX12_weigh_27 : decode cX12_weigh 27 = .ok (.iconst 3, 1) := dq_6 (zby_at (j := 11) zbX12_weigh_1 rfl)
theorem dX12_weigh_28 : decode cX12_weigh 28 = .ok (.iload_n 1, 1) := dq_27 (zby_at (j := 12) zbX12_weigh_1 rfl)
theorem dX12_weigh_29 : decode cX12_weigh 29 = .ok (.iadd, 1) := dq_96 (zby_at (j := 13) zbX12_weigh_1 rfl)
theorem dX12_weigh_30 : decode cX12_weigh 30 = .ok (.iaload, 1) := dq_46 (zby_at (j := 14) zbX12_weigh_1 rfl)
theorem dX12_weigh_31 : decode cX12_weigh 31 = .ok (.istore_n 3, 1) := dq_62 (zby_at (j := 15) zbX12_weigh_1 rfl)
theorem zbX12_weigh_2 : zby cX12_weigh 32 20 = [42, 180, 0, 9, 6, 27, 96, 28, 79, 29, 172] := by decide +kernel
theorem dX12_weigh_32 : decode cX12_weigh 32 = .ok (.aload_n 0, 1) := dq_42 (zby_at (j := 0) zbX12_weigh_2 rfl)
theorem dX12_weigh_33 : decode cX12_weigh 33 = .ok (.getfield 9, 3) := dq_180 (zby_at (j := 1) zbX12_weigh_2 rfl) (zby_at (j := 2) zbX12_weigh_2 rfl) (zby_at (j := 3) zbX12_weigh_2 rfl)
theorem dX12_weigh_36 : decode cX12_weigh 36 = .ok (.iconst 3, 1) := dq_6 (zby_at (j := 4) zbX12_weigh_2 rfl)
theorem dX12_weigh_37 : decode cX12_weigh 37 = .ok (.iload_n 1, 1) := dq_27 (zby_at (j := 5) zbX12_weigh_2 rfl)
theorem dX12_weigh_38 : decode cX12_weigh 38 = .ok (.iadd, 1) := dq_96 (zby_at (j := 6) zbX12_weigh_2 rfl)
theorem dX12_weigh_39 : decode cX12_weigh 39 = .ok (.iload_n 2, 1) := dq_28 (zby_at (j := 7) zbX12_weigh_2 rfl)
theorem dX12_weigh_40 : decode cX12_weigh 40 = .ok (.iastore, 1) := dq_79 (zby_at (j := 8) zbX12_weigh_2 rfl)
theorem dX12_weigh_41 : decode cX12_weigh 41 = .ok (.iload_n 3, 1) := dq_29 (zby_at (j := 9) zbX12_weigh_2 rfl)
theorem dX12_weigh_42 : decode cX12_weigh 42 = .ok (.ireturn, 1) := dq_172 (zby_at (j := 10) zbX12_weigh_2 rfl)
theorem zbX12_weighs_0 : zby cX12_weighs 0 20 = [42, 27, 182, 1, 65, 153, 0, 15, 28, 133, 9, 20, 0, 92, 184, 0, 94, 154, 0, 6] := by decide +kernel
theorem dX12_weighs_0 : decode cX12_weighs 0 = .ok (.aload_n 0, 1) := dq_42 (zby_at (j := 0) zbX12_weighs_0 rfl)
theorem dX12_weighs_1 : decode cX12_weighs 1 = .ok (.iload_n 1, 1) := dq_27 (zby_at (j := 1) zbX12_weighs_0 rfl)
theorem dX12_weighs_2 : decode cX12_weighs 2 = .ok (.invokevirtual 321, 3) := dq_182 (zby_at (j := 2) zbX12_weighs_0 rfl) (zby_at (j := 3) zbX12_weighs_0 rfl) (zby_at (j := 4) zbX12_weighs_0 rfl)
theorem dX12_weighs_5 : decode cX12_weighs 5 = .ok (.ifCond .eq 15, 3) := dq_153 (zby_at (j := 5) zbX12_weighs_0 rfl) (zby_at (j := 6) zbX12_weighs_0 rfl) (zby_at (j := 7) zbX12_weighs_0 rfl) rfl
theorem dX12_weighs_8 : decode cX12_weighs 8 = .ok (.iload_n 2, 1) := dq_28 (zby_at (j := 8) zbX12_weighs_0 rfl)
theorem dX12_weighs_9 : decode cX12_weighs 9 = .ok (.i2l, 1) := dq_133 (zby_at (j := 9) zbX12_weighs_0 rfl)
theorem dX12_weighs_10 : decode cX12_weighs 10 = .ok (.lconst 0, 1) := dq_9 (zby_at (j := 10) zbX12_weighs_0 rfl)
theorem dX12_weighs_11 : decode cX12_weighs 11 = .ok (.ldc2_w 92, 3) := dq_20 (zby_at (j := 11) zbX12_weighs_0 rfl) (zby_at (j := 12) zbX12_weighs_0 rfl) (zby_at (j := 13) zbX12_weighs_0 rfl)
theorem dX12_weighs_14 : decode cX12_weighs 14 = .ok (.invokestatic 94, 3) := dq_184 (zby_at (j := 14) zbX12_weighs_0 rfl) (zby_at (j := 15) zbX12_weighs_0 rfl) (zby_at (j := 16) zbX12_weighs_0 rfl)
theorem zbX12_weighs_1 : zby cX12_weighs 16 20 = [94, 154, 0, 6, 16, 254, 172, 2, 62, 2, 54, 4, 3, 54, 5, 3, 54, 6, 21, 6] := by decide +kernel
theorem dX12_weighs_17 : decode cX12_weighs 17 = .ok (.ifCond .ne 6, 3) := dq_154 (zby_at (j := 1) zbX12_weighs_1 rfl) (zby_at (j := 2) zbX12_weighs_1 rfl) (zby_at (j := 3) zbX12_weighs_1 rfl) rfl
theorem dX12_weighs_20 : decode cX12_weighs 20 = .ok (.bipush (-2), 2) := dq_16 (zby_at (j := 4) zbX12_weighs_1 rfl) (zby_at (j := 5) zbX12_weighs_1 rfl) rfl
theorem dX12_weighs_22 : decode cX12_weighs 22 = .ok (.ireturn, 1) := dq_172 (zby_at (j := 6) zbX12_weighs_1 rfl)
theorem dX12_weighs_23 : decode cX12_weighs 23 = .ok (.iconst (-1), 1) := dq_2 (zby_at (j := 7) zbX12_weighs_1 rfl)
theorem dX12_weighs_24 : decode cX12_weighs 24 = .ok (.istore_n 3, 1) := dq_62 (zby_at (j := 8) zbX12_weighs_1 rfl)
theorem dX12_weighs_25 : decode cX12_weighs 25 = .ok (.iconst (-1), 1) := dq_2 (zby_at (j := 9) zbX12_weighs_1 rfl)
theorem dX12_weighs_26 : decode cX12_weighs 26 = .ok (.istore 4, 2) := dq_54 (zby_at (j := 10) zbX12_weighs_1 rfl) (zby_at (j := 11) zbX12_weighs_1 rfl)
theorem dX12_weighs_28 : decode cX12_weighs 28 = .ok (.iconst 0, 1) := dq_3 (zby_at (j := 12) zbX12_weighs_1 rfl)
theorem dX12_weighs_29 : decode cX12_weighs 29 = .ok (.istore 5, 2) := dq_54 (zby_at (j := 13) zbX12_weighs_1 rfl) (zby_at (j := 14) zbX12_weighs_1 rfl)
theorem dX12_weighs_31 : decode cX12_weighs 31 = .ok (.iconst 0, 1) := dq_3 (zby_at (j := 15) zbX12_weighs_1 rfl)
theorem zbX12_weighs_2 : zby cX12_weighs 32 20 = [54, 6, 21, 6, 42, 182, 0, 104, 162, 0, 63, 42, 27, 21, 6, 182, 1, 58, 154, 0] := by decide +kernel
theorem dX12_weighs_32 : decode cX12_weighs 32 = .ok (.istore 6, 2) := dq_54 (zby_at (j := 0) zbX12_weighs_2 rfl) (zby_at (j := 1) zbX12_weighs_2 rfl)
theorem dX12_weighs_34 : decode cX12_weighs 34 = .ok (.iload 6, 2) := dq_21 (zby_at (j := 2) zbX12_weighs_2 rfl) (zby_at (j := 3) zbX12_weighs_2 rfl)
theorem dX12_weighs_36 : decode cX12_weighs 36 = .ok (.aload_n 0, 1) := dq_42 (zby_at (j := 4) zbX12_weighs_2 rfl)
theorem dX12_weighs_37 : decode cX12_weighs 37 = .ok (.invokevirtual 104, 3) := dq_182 (zby_at (j := 5) zbX12_weighs_2 rfl) (zby_at (j := 6) zbX12_weighs_2 rfl) (zby_at (j := 7) zbX12_weighs_2 rfl)
theorem dX12_weighs_40 : decode cX12_weighs 40 = .ok (.if_icmp .ge 63, 3) := dq_162 (zby_at (j := 8) zbX12_weighs_2 rfl) (zby_at (j := 9) zbX12_weighs_2 rfl) (zby_at (j := 10) zbX12_weighs_2 rfl) rfl
theorem dX12_weighs_43 : decode cX12_weighs 43 = .ok (.aload_n 0, 1) := dq_42 (zby_at (j := 11) zbX12_weighs_2 rfl)
theorem dX12_weighs_44 : decode cX12_weighs 44 = .ok (.iload_n 1, 1) := dq_27 (zby_at (j := 12) zbX12_weighs_2 rfl)
theorem dX12_weighs_45 : decode cX12_weighs 45 = .ok (.iload 6, 2) := dq_21 (zby_at (j := 13) zbX12_weighs_2 rfl) (zby_at (j := 14) zbX12_weighs_2 rfl)
theorem dX12_weighs_47 : decode cX12_weighs 47 = .ok (.invokevirtual 314, 3) := dq_182 (zby_at (j := 15) zbX12_weighs_2 rfl) (zby_at (j := 16) zbX12_weighs_2 rfl) (zby_at (j := 17) zbX12_weighs_2 rfl)
theorem zbX12_weighs_3 : zby cX12_weighs 48 20 = [1, 58, 154, 0, 6, 167, 0, 44, 42, 21, 6, 182, 1, 87, 54, 7, 29, 2, 160, 0] := by decide +kernel
theorem dX12_weighs_50 : decode cX12_weighs 50 = .ok (.ifCond .ne 6, 3) := dq_154 (zby_at (j := 2) zbX12_weighs_3 rfl) (zby_at (j := 3) zbX12_weighs_3 rfl) (zby_at (j := 4) zbX12_weighs_3 rfl) rfl
theorem dX12_weighs_53 : decode cX12_weighs 53 = .ok (.goto 44, 3) := dq_167 (zby_at (j := 5) zbX12_weighs_3 rfl) (zby_at (j := 6) zbX12_weighs_3 rfl) (zby_at (j := 7) zbX12_weighs_3 rfl) rfl
theorem dX12_weighs_56 : decode cX12_weighs 56 = .ok (.aload_n 0, 1) := dq_42 (zby_at (j := 8) zbX12_weighs_3 rfl)
theorem dX12_weighs_57 : decode cX12_weighs 57 = .ok (.iload 6, 2) := dq_21 (zby_at (j := 9) zbX12_weighs_3 rfl) (zby_at (j := 10) zbX12_weighs_3 rfl)
theorem dX12_weighs_59 : decode cX12_weighs 59 = .ok (.invokevirtual 343, 3) := dq_182 (zby_at (j := 11) zbX12_weighs_3 rfl) (zby_at (j := 12) zbX12_weighs_3 rfl) (zby_at (j := 13) zbX12_weighs_3 rfl)
theorem dX12_weighs_62 : decode cX12_weighs 62 = .ok (.istore 7, 2) := dq_54 (zby_at (j := 14) zbX12_weighs_3 rfl) (zby_at (j := 15) zbX12_weighs_3 rfl)
theorem zbX12_weighs_4 : zby cX12_weighs 64 20 = [29, 2, 160, 0, 8, 21, 7, 167, 0, 9, 29, 21, 7, 184, 0, 138, 62, 21, 4, 21] := by decide +kernel
theorem dX12_weighs_64 : decode cX12_weighs 64 = .ok (.iload_n 3, 1) := dq_29 (zby_at (j := 0) zbX12_weighs_4 rfl)
theorem dX12_weighs_65 : decode cX12_weighs 65 = .ok (.iconst (-1), 1) := dq_2 (zby_at (j := 1) zbX12_weighs_4 rfl)
theorem dX12_weighs_66 : decode cX12_weighs 66 = .ok (.if_icmp .ne 8, 3) := dq_160 (zby_at (j := 2) zbX12_weighs_4 rfl) (zby_at (j := 3) zbX12_weighs_4 rfl) (zby_at (j := 4) zbX12_weighs_4 rfl) rfl
theorem dX12_weighs_69 : decode cX12_weighs 69 = .ok (.iload 7, 2) := dq_21 (zby_at (j := 5) zbX12_weighs_4 rfl) (zby_at (j := 6) zbX12_weighs_4 rfl)
theorem dX12_weighs_71 : decode cX12_weighs 71 = .ok (.goto 9, 3) := dq_167 (zby_at (j := 7) zbX12_weighs_4 rfl) (zby_at (j := 8) zbX12_weighs_4 rfl) (zby_at (j := 9) zbX12_weighs_4 rfl) rfl
theorem dX12_weighs_74 : decode cX12_weighs 74 = .ok (.iload_n 3, 1) := dq_29 (zby_at (j := 10) zbX12_weighs_4 rfl)
theorem dX12_weighs_75 : decode cX12_weighs 75 = .ok (.iload 7, 2) := dq_21 (zby_at (j := 11) zbX12_weighs_4 rfl) (zby_at (j := 12) zbX12_weighs_4 rfl)
theorem dX12_weighs_77 : decode cX12_weighs 77 = .ok (.invokestatic 138, 3) := dq_184 (zby_at (j := 13) zbX12_weighs_4 rfl) (zby_at (j := 14) zbX12_weighs_4 rfl) (zby_at (j := 15) zbX12_weighs_4 rfl)
theorem zbX12_weighs_5 : zby cX12_weighs 80 20 = [62, 21, 4, 21, 7, 184, 1, 92, 54, 4, 21, 5, 21, 7, 96, 54, 5, 132, 6, 1] := by decide +kernel
theorem dX12_weighs_80 : decode cX12_weighs 80 = .ok (.istore_n 3, 1) := dq_62 (zby_at (j := 0) zbX12_weighs_5 rfl)
theorem dX12_weighs_81 : decode cX12_weighs 81 = .ok (.iload 4, 2) := dq_21 (zby_at (j := 1) zbX12_weighs_5 rfl) (zby_at (j := 2) zbX12_weighs_5 rfl)
theorem dX12_weighs_83 : decode cX12_weighs 83 = .ok (.iload 7, 2) := dq_21 (zby_at (j := 3) zbX12_weighs_5 rfl) (zby_at (j := 4) zbX12_weighs_5 rfl)
theorem dX12_weighs_85 : decode cX12_weighs 85 = .ok (.invokestatic 348, 3) := dq_184 (zby_at (j := 5) zbX12_weighs_5 rfl) (zby_at (j := 6) zbX12_weighs_5 rfl) (zby_at (j := 7) zbX12_weighs_5 rfl)
theorem dX12_weighs_88 : decode cX12_weighs 88 = .ok (.istore 4, 2) := dq_54 (zby_at (j := 8) zbX12_weighs_5 rfl) (zby_at (j := 9) zbX12_weighs_5 rfl)
theorem dX12_weighs_90 : decode cX12_weighs 90 = .ok (.iload 5, 2) := dq_21 (zby_at (j := 10) zbX12_weighs_5 rfl) (zby_at (j := 11) zbX12_weighs_5 rfl)
theorem dX12_weighs_92 : decode cX12_weighs 92 = .ok (.iload 7, 2) := dq_21 (zby_at (j := 12) zbX12_weighs_5 rfl) (zby_at (j := 13) zbX12_weighs_5 rfl)
theorem dX12_weighs_94 : decode cX12_weighs 94 = .ok (.iadd, 1) := dq_96 (zby_at (j := 14) zbX12_weighs_5 rfl)
theorem dX12_weighs_95 : decode cX12_weighs 95 = .ok (.istore 5, 2) := dq_54 (zby_at (j := 15) zbX12_weighs_5 rfl) (zby_at (j := 16) zbX12_weighs_5 rfl)
theorem zbX12_weighs_6 : zby cX12_weighs 96 20 = [5, 132, 6, 1, 167, 255, 190, 28, 154, 0, 7, 29, 167, 0, 15, 28, 4, 160, 0, 8] := by decide +kernel
theorem dX12_weighs_97 : decode cX12_weighs 97 = .ok (.iinc 6 1, 3) := dq_132 (zby_at (j := 1) zbX12_weighs_6 rfl) (zby_at (j := 2) zbX12_weighs_6 rfl) (zby_at (j := 3) zbX12_weighs_6 rfl) rfl
theorem dX12_weighs_100 : decode cX12_weighs 100 = .ok (.goto (-66), 3) := dq_167 (zby_at (j := 4) zbX12_weighs_6 rfl) (zby_at (j := 5) zbX12_weighs_6 rfl) (zby_at (j := 6) zbX12_weighs_6 rfl) rfl
theorem dX12_weighs_103 : decode cX12_weighs 103 = .ok (.iload_n 2, 1) := dq_28 (zby_at (j := 7) zbX12_weighs_6 rfl)
theorem dX12_weighs_104 : decode cX12_weighs 104 = .ok (.ifCond .ne 7, 3) := dq_154 (zby_at (j := 8) zbX12_weighs_6 rfl) (zby_at (j := 9) zbX12_weighs_6 rfl) (zby_at (j := 10) zbX12_weighs_6 rfl) rfl
theorem dX12_weighs_107 : decode cX12_weighs 107 = .ok (.iload_n 3, 1) := dq_29 (zby_at (j := 11) zbX12_weighs_6 rfl)
theorem dX12_weighs_108 : decode cX12_weighs 108 = .ok (.goto 15, 3) := dq_167 (zby_at (j := 12) zbX12_weighs_6 rfl) (zby_at (j := 13) zbX12_weighs_6 rfl) (zby_at (j := 14) zbX12_weighs_6 rfl) rfl
theorem dX12_weighs_111 : decode cX12_weighs 111 = .ok (.iload_n 2, 1) := dq_28 (zby_at (j := 15) zbX12_weighs_6 rfl)
theorem zbX12_weighs_7 : zby cX12_weighs 112 20 = [4, 160, 0, 8, 21, 4, 167, 0, 5, 21, 5, 172] := by decide +kernel
theorem dX12_weighs_112 : decode cX12_weighs 112 = .ok (.iconst 1, 1) := dq_4 (zby_at (j := 0) zbX12_weighs_7 rfl)
theorem dX12_weighs_113 : decode cX12_weighs 113 = .ok (.if_icmp .ne 8, 3) := dq_160 (zby_at (j := 1) zbX12_weighs_7 rfl) (zby_at (j := 2) zbX12_weighs_7 rfl) (zby_at (j := 3) zbX12_weighs_7 rfl) rfl
theorem dX12_weighs_116 : decode cX12_weighs 116 = .ok (.iload 4, 2) := dq_21 (zby_at (j := 4) zbX12_weighs_7 rfl) (zby_at (j := 5) zbX12_weighs_7 rfl)
theorem dX12_weighs_118 : decode cX12_weighs 118 = .ok (.goto 5, 3) := dq_167 (zby_at (j := 6) zbX12_weighs_7 rfl) (zby_at (j := 7) zbX12_weighs_7 rfl) (zby_at (j := 8) zbX12_weighs_7 rfl) rfl
theorem dX12_weighs_121 : decode cX12_weighs 121 = .ok (.iload 5, 2) := dq_21 (zby_at (j := 9) zbX12_weighs_7 rfl) (zby_at (j := 10) zbX12_weighs_7 rfl)
theorem dX12_weighs_123 : decode cX12_weighs 123 = .ok (.ireturn, 1) := dq_172 (zby_at (j := 11) zbX12_weighs_7 rfl)
theorem zbX12_each_0 : zby cX12_each 0 20 = [42, 27, 182, 1, 65, 153, 0, 11, 42, 28, 182, 1, 76, 154, 0, 6, 16, 254, 172, 3] := by decide +kernel
theorem dX12_each_0 : decode cX12_each 0 = .ok (.aload_n 0, 1) := dq_42 (zby_at (j := 0) zbX12_each_0 rfl)
theorem dX12_each_1 : decode cX12_each 1 = .ok (.iload_n 1, 1) := dq_27 (zby_at (j := 1) zbX12_each_0 rfl)
theorem dX12_each_2 : decode cX12_each 2 = .ok (.invokevirtual 321, 3) := dq_182 (zby_at (j := 2) zbX12_each_0 rfl) (zby_at (j := 3) zbX12_each_0 rfl) (zby_at (j := 4) zbX12_each_0 rfl)
theorem dX12_each_5 : decode cX12_each 5 = .ok (.ifCond .eq 11, 3) := dq_153 (zby_at (j := 5) zbX12_each_0 rfl) (zby_at (j := 6) zbX12_each_0 rfl) (zby_at (j := 7) zbX12_each_0 rfl) rfl
theorem dX12_each_8 : decode cX12_each 8 = .ok (.aload_n 0, 1) := dq_42 (zby_at (j := 8) zbX12_each_0 rfl)
theorem dX12_each_9 : decode cX12_each 9 = .ok (.iload_n 2, 1) := dq_28 (zby_at (j := 9) zbX12_each_0 rfl)
theorem dX12_each_10 : decode cX12_each 10 = .ok (.invokevirtual 332, 3) := dq_182 (zby_at (j := 10) zbX12_each_0 rfl) (zby_at (j := 11) zbX12_each_0 rfl) (zby_at (j := 12) zbX12_each_0 rfl)
theorem dX12_each_13 : decode cX12_each 13 = .ok (.ifCond .ne 6, 3) := dq_154 (zby_at (j := 13) zbX12_each_0 rfl) (zby_at (j := 14) zbX12_each_0 rfl) (zby_at (j := 15) zbX12_each_0 rfl) rfl
theorem zbX12_each_1 : zby cX12_each 16 20 = [16, 254, 172, 3, 62, 3, 54, 4, 21, 4, 42, 182, 0, 104, 162, 0, 32, 29, 42, 27] := by decide +kernel
theorem dX12_each_16 : decode cX12_each 16 = .ok (.bipush (-2), 2) := dq_16 (zby_at (j := 0) zbX12_each_1 rfl) (zby_at (j := 1) zbX12_each_1 rfl) rfl
theorem dX12_each_18 : decode cX12_each 18 = .ok (.ireturn, 1) := dq_172 (zby_at (j := 2) zbX12_each_1 rfl)
theorem dX12_each_19 : decode cX12_each 19 = .ok (.iconst 0, 1) := dq_3 (zby_at (j := 3) zbX12_each_1 rfl)
theorem dX12_each_20 : decode cX12_each 20 = .ok (.istore_n 3, 1) := dq_62 (zby_at (j := 4) zbX12_each_1 rfl)
theorem dX12_each_21 : decode cX12_each 21 = .ok (.iconst 0, 1) := dq_3 (zby_at (j := 5) zbX12_each_1 rfl)
theorem dX12_each_22 : decode cX12_each 22 = .ok (.istore 4, 2) := dq_54 (zby_at (j := 6) zbX12_each_1 rfl) (zby_at (j := 7) zbX12_each_1 rfl)
theorem dX12_each_24 : decode cX12_each 24 = .ok (.iload 4, 2) := dq_21 (zby_at (j := 8) zbX12_each_1 rfl) (zby_at (j := 9) zbX12_each_1 rfl)
theorem dX12_each_26 : decode cX12_each 26 = .ok (.aload_n 0, 1) := dq_42 (zby_at (j := 10) zbX12_each_1 rfl)
theorem dX12_each_27 : decode cX12_each 27 = .ok (.invokevirtual 104, 3) := dq_182 (zby_at (j := 11) zbX12_each_1 rfl) (zby_at (j := 12) zbX12_each_1 rfl) (zby_at (j := 13) zbX12_each_1 rfl)
theorem dX12_each_30 : decode cX12_each 30 = .ok (.if_icmp .ge 32, 3) := dq_162 (zby_at (j := 14) zbX12_each_1 rfl) (zby_at (j := 15) zbX12_each_1 rfl) (zby_at (j := 16) zbX12_each_1 rfl) rfl
theorem zbX12_each_2 : zby cX12_each 32 20 = [32, 29, 42, 27, 21, 4, 182, 1, 58, 153, 0, 12, 21, 4, 28, 122, 4, 126, 167, 0] := by decide +kernel
theorem dX12_each_33 : decode cX12_each 33 = .ok (.iload_n 3, 1) := dq_29 (zby_at (j := 1) zbX12_each_2 rfl)
theorem dX12_each_34 : decode cX12_each 34 = .ok (.aload_n 0, 1) := dq_42 (zby_at (j := 2) zbX12_each_2 rfl)
theorem dX12_each_35 : decode cX12_each 35 = .ok (.iload_n 1, 1) := dq_27 (zby_at (j := 3) zbX12_each_2 rfl)
theorem dX12_each_36 : decode cX12_each 36 = .ok (.iload 4, 2) := dq_21 (zby_at (j := 4) zbX12_each_2 rfl) (zby_at (j := 5) zbX12_each_2 rfl)
theorem dX12_each_38 : decode cX12_each 38 = .ok (.invokevirtual 314, 3) := dq_182 (zby_at (j := 6) zbX12_each_2 rfl) (zby_at (j := 7) zbX12_each_2 rfl) (zby_at (j := 8) zbX12_each_2 rfl)
theorem dX12_each_41 : decode cX12_each 41 = .ok (.ifCond .eq 12, 3) := dq_153 (zby_at (j := 9) zbX12_each_2 rfl) (zby_at (j := 10) zbX12_each_2 rfl) (zby_at (j := 11) zbX12_each_2 rfl) rfl
theorem dX12_each_44 : decode cX12_each 44 = .ok (.iload 4, 2) := dq_21 (zby_at (j := 12) zbX12_each_2 rfl) (zby_at (j := 13) zbX12_each_2 rfl)
theorem dX12_each_46 : decode cX12_each 46 = .ok (.iload_n 2, 1) := dq_28 (zby_at (j := 14) zbX12_each_2 rfl)
theorem dX12_each_47 : decode cX12_each 47 = .ok (.ishr, 1) := dq_122 (zby_at (j := 15) zbX12_each_2 rfl)
theorem zbX12_each_3 : zby cX12_each 48 20 = [4, 126, 167, 0, 4, 3, 96, 62, 132, 4, 1, 167, 255, 221, 29, 172] := by decide +kernel
theorem dX12_each_48 : decode cX12_each 48 = .ok (.iconst 1, 1) := dq_4 (zby_at (j := 0) zbX12_each_3 rfl)
theorem dX12_each_49 : decode cX12_each 49 = .ok (.iand, 1) := dq_126 (zby_at (j := 1) zbX12_each_3 rfl)
theorem dX12_each_50 : decode cX12_each 50 = .ok (.goto 4, 3) := dq_167 (zby_at (j := 2) zbX12_each_3 rfl) (zby_at (j := 3) zbX12_each_3 rfl) (zby_at (j := 4) zbX12_each_3 rfl) rfl
theorem dX12_each_53 : decode cX12_each 53 = .ok (.iconst 0, 1) := dq_3 (zby_at (j := 5) zbX12_each_3 rfl)
theorem dX12_each_54 : decode cX12_each 54 = .ok (.iadd, 1) := dq_96 (zby_at (j := 6) zbX12_each_3 rfl)
theorem dX12_each_55 : decode cX12_each 55 = .ok (.istore_n 3, 1) := dq_62 (zby_at (j := 7) zbX12_each_3 rfl)
theorem dX12_each_56 : decode cX12_each 56 = .ok (.iinc 4 1, 3) := dq_132 (zby_at (j := 8) zbX12_each_3 rfl) (zby_at (j := 9) zbX12_each_3 rfl) (zby_at (j := 10) zbX12_each_3 rfl) rfl
theorem dX12_each_59 : decode cX12_each 59 = .ok (.goto (-35), 3) := dq_167 (zby_at (j := 11) zbX12_each_3 rfl) (zby_at (j := 12) zbX12_each_3 rfl) (zby_at (j := 13) zbX12_each_3 rfl) rfl
theorem dX12_each_62 : decode cX12_each 62 = .ok (.iload_n 3, 1) := dq_29 (zby_at (j := 14) zbX12_each_3 rfl)
theorem dX12_each_63 : decode cX12_each 63 = .ok (.ireturn, 1) := dq_172 (zby_at (j := 15) zbX12_each_3 rfl)
theorem zbX12_names_0 : zby cX12_names 0 20 = [42, 27, 182, 1, 65, 153, 0, 15, 28, 133, 9, 20, 0, 92, 184, 0, 94, 154, 0, 6] := by decide +kernel
theorem dX12_names_0 : decode cX12_names 0 = .ok (.aload_n 0, 1) := dq_42 (zby_at (j := 0) zbX12_names_0 rfl)
theorem dX12_names_1 : decode cX12_names 1 = .ok (.iload_n 1, 1) := dq_27 (zby_at (j := 1) zbX12_names_0 rfl)
theorem dX12_names_2 : decode cX12_names 2 = .ok (.invokevirtual 321, 3) := dq_182 (zby_at (j := 2) zbX12_names_0 rfl) (zby_at (j := 3) zbX12_names_0 rfl) (zby_at (j := 4) zbX12_names_0 rfl)
theorem dX12_names_5 : decode cX12_names 5 = .ok (.ifCond .eq 15, 3) := dq_153 (zby_at (j := 5) zbX12_names_0 rfl) (zby_at (j := 6) zbX12_names_0 rfl) (zby_at (j := 7) zbX12_names_0 rfl) rfl
theorem dX12_names_8 : decode cX12_names 8 = .ok (.iload_n 2, 1) := dq_28 (zby_at (j := 8) zbX12_names_0 rfl)
theorem dX12_names_9 : decode cX12_names 9 = .ok (.i2l, 1) := dq_133 (zby_at (j := 9) zbX12_names_0 rfl)
theorem dX12_names_10 : decode cX12_names 10 = .ok (.lconst 0, 1) := dq_9 (zby_at (j := 10) zbX12_names_0 rfl)
theorem dX12_names_11 : decode cX12_names 11 = .ok (.ldc2_w 92, 3) := dq_20 (zby_at (j := 11) zbX12_names_0 rfl) (zby_at (j := 12) zbX12_names_0 rfl) (zby_at (j := 13) zbX12_names_0 rfl)
theorem dX12_names_14 : decode cX12_names 14 = .ok (.invokestatic 94, 3) := dq_184 (zby_at (j := 14) zbX12_names_0 rfl) (zby_at (j := 15) zbX12_names_0 rfl) (zby_at (j := 16) zbX12_names_0 rfl)
theorem zbX12_names_1 : zby cX12_names 16 20 = [94, 154, 0, 6, 16, 254, 172, 42, 182, 0, 104, 4, 100, 62, 3, 54, 4, 42, 182, 0] := by decide +kernel
theorem dX12_names_17 : decode cX12_names 17 = .ok (.ifCond .ne 6, 3) := dq_154 (zby_at (j := 1) zbX12_names_1 rfl) (zby_at (j := 2) zbX12_names_1 rfl) (zby_at (j := 3) zbX12_names_1 rfl) rfl
theorem dX12_names_20 : decode cX12_names 20 = .ok (.bipush (-2), 2) := dq_16 (zby_at (j := 4) zbX12_names_1 rfl) (zby_at (j := 5) zbX12_names_1 rfl) rfl
theorem dX12_names_22 : decode cX12_names 22 = .ok (.ireturn, 1) := dq_172 (zby_at (j := 6) zbX12_names_1 rfl)
theorem dX12_names_23 : decode cX12_names 23 = .ok (.aload_n 0, 1) := dq_42 (zby_at (j := 7) zbX12_names_1 rfl)
theorem dX12_names_24 : decode cX12_names 24 = .ok (.invokevirtual 104, 3) := dq_182 (zby_at (j := 8) zbX12_names_1 rfl) (zby_at (j := 9) zbX12_names_1 rfl) (zby_at (j := 10) zbX12_names_1 rfl)
theorem dX12_names_27 : decode cX12_names 27 = .ok (.iconst 1, 1) := dq_4 (zby_at (j := 11) zbX12_names_1 rfl)
theorem dX12_names_28 : decode cX12_names 28 = .ok (.isub, 1) := dq_100 (zby_at (j := 12) zbX12_names_1 rfl)
theorem dX12_names_29 : decode cX12_names 29 = .ok (.istore_n 3, 1) := dq_62 (zby_at (j := 13) zbX12_names_1 rfl)
theorem dX12_names_30 : decode cX12_names 30 = .ok (.iconst 0, 1) := dq_3 (zby_at (j := 14) zbX12_names_1 rfl)
theorem dX12_names_31 : decode cX12_names 31 = .ok (.istore 4, 2) := dq_54 (zby_at (j := 15) zbX12_names_1 rfl) (zby_at (j := 16) zbX12_names_1 rfl)
theorem zbX12_names_2 : zby cX12_names 32 20 = [4, 42, 182, 0, 104, 4, 100, 54, 5, 3, 54, 6, 21, 6, 42, 182, 0, 104, 162, 0] := by decide +kernel
theorem dX12_names_33 : decode cX12_names 33 = .ok (.aload_n 0, 1) := dq_42 (zby_at (j := 1) zbX12_names_2 rfl)
theorem dX12_names_34 : decode cX12_names 34 = .ok (.invokevirtual 104, 3) := dq_182 (zby_at (j := 2) zbX12_names_2 rfl) (zby_at (j := 3) zbX12_names_2 rfl) (zby_at (j := 4) zbX12_names_2 rfl)
theorem dX12_names_37 : decode cX12_names 37 = .ok (.iconst 1, 1) := dq_4 (zby_at (j := 5) zbX12_names_2 rfl)
theorem dX12_names_38 : decode cX12_names 38 = .ok (.isub, 1) := dq_100 (zby_at (j := 6) zbX12_names_2 rfl)
theorem dX12_names_39 : decode cX12_names 39 = .ok (.istore 5, 2) := dq_54 (zby_at (j := 7) zbX12_names_2 rfl) (zby_at (j := 8) zbX12_names_2 rfl)
theorem dX12_names_41 : decode cX12_names 41 = .ok (.iconst 0, 1) := dq_3 (zby_at (j := 9) zbX12_names_2 rfl)
theorem dX12_names_42 : decode cX12_names 42 = .ok (.istore 6, 2) := dq_54 (zby_at (j := 10) zbX12_names_2 rfl) (zby_at (j := 11) zbX12_names_2 rfl)
theorem dX12_names_44 : decode cX12_names 44 = .ok (.iload 6, 2) := dq_21 (zby_at (j := 12) zbX12_names_2 rfl) (zby_at (j := 13) zbX12_names_2 rfl)
theorem dX12_names_46 : decode cX12_names 46 = .ok (.aload_n 0, 1) := dq_42 (zby_at (j := 14) zbX12_names_2 rfl)
theorem dX12_names_47 : decode cX12_names 47 = .ok (.invokevirtual 104, 3) := dq_182 (zby_at (j := 15) zbX12_names_2 rfl) (zby_at (j := 16) zbX12_names_2 rfl) (zby_at (j := 17) zbX12_names_2 rfl)
theorem zbX12_names_3 : zby cX12_names 48 20 = [0, 104, 162, 0, 106, 29, 42, 27, 21, 6, 182, 1, 58, 153, 0, 8, 21, 6, 167, 0] := by decide +kernel
theorem dX12_names_50 : decode cX12_names 50 = .ok (.if_icmp .ge 106, 3) := dq_162 (zby_at (j := 2) zbX12_names_3 rfl) (zby_at (j := 3) zbX12_names_3 rfl) (zby_at (j := 4) zbX12_names_3 rfl) rfl
theorem dX12_names_53 : decode cX12_names 53 = .ok (.iload_n 3, 1) := dq_29 (zby_at (j := 5) zbX12_names_3 rfl)
theorem dX12_names_54 : decode cX12_names 54 = .ok (.aload_n 0, 1) := dq_42 (zby_at (j := 6) zbX12_names_3 rfl)
theorem dX12_names_55 : decode cX12_names 55 = .ok (.iload_n 1, 1) := dq_27 (zby_at (j := 7) zbX12_names_3 rfl)
theorem dX12_names_56 : decode cX12_names 56 = .ok (.iload 6, 2) := dq_21 (zby_at (j := 8) zbX12_names_3 rfl) (zby_at (j := 9) zbX12_names_3 rfl)
theorem dX12_names_58 : decode cX12_names 58 = .ok (.invokevirtual 314, 3) := dq_182 (zby_at (j := 10) zbX12_names_3 rfl) (zby_at (j := 11) zbX12_names_3 rfl) (zby_at (j := 12) zbX12_names_3 rfl)
theorem dX12_names_61 : decode cX12_names 61 = .ok (.ifCond .eq 8, 3) := dq_153 (zby_at (j := 13) zbX12_names_3 rfl) (zby_at (j := 14) zbX12_names_3 rfl) (zby_at (j := 15) zbX12_names_3 rfl) rfl
theorem zbX12_names_4 : zby cX12_names 64 20 = [21, 6, 167, 0, 4, 2, 126, 62, 21, 4, 42, 27, 21, 6, 182, 1, 58, 153, 0, 8] := by decide +kernel
theorem dX12_names_64 : decode cX12_names 64 = .ok (.iload 6, 2) := dq_21 (zby_at (j := 0) zbX12_names_4 rfl) (zby_at (j := 1) zbX12_names_4 rfl)
theorem dX12_names_66 : decode cX12_names 66 = .ok (.goto 4, 3) := dq_167 (zby_at (j := 2) zbX12_names_4 rfl) (zby_at (j := 3) zbX12_names_4 rfl) (zby_at (j := 4) zbX12_names_4 rfl) rfl
theorem dX12_names_69 : decode cX12_names 69 = .ok (.iconst (-1), 1) := dq_2 (zby_at (j := 5) zbX12_names_4 rfl)
theorem dX12_names_70 : decode cX12_names 70 = .ok (.iand, 1) := dq_126 (zby_at (j := 6) zbX12_names_4 rfl)
theorem dX12_names_71 : decode cX12_names 71 = .ok (.istore_n 3, 1) := dq_62 (zby_at (j := 7) zbX12_names_4 rfl)
theorem dX12_names_72 : decode cX12_names 72 = .ok (.iload 4, 2) := dq_21 (zby_at (j := 8) zbX12_names_4 rfl) (zby_at (j := 9) zbX12_names_4 rfl)
theorem dX12_names_74 : decode cX12_names 74 = .ok (.aload_n 0, 1) := dq_42 (zby_at (j := 10) zbX12_names_4 rfl)
theorem dX12_names_75 : decode cX12_names 75 = .ok (.iload_n 1, 1) := dq_27 (zby_at (j := 11) zbX12_names_4 rfl)
theorem dX12_names_76 : decode cX12_names 76 = .ok (.iload 6, 2) := dq_21 (zby_at (j := 12) zbX12_names_4 rfl) (zby_at (j := 13) zbX12_names_4 rfl)
theorem dX12_names_78 : decode cX12_names 78 = .ok (.invokevirtual 314, 3) := dq_182 (zby_at (j := 14) zbX12_names_4 rfl) (zby_at (j := 15) zbX12_names_4 rfl) (zby_at (j := 16) zbX12_names_4 rfl)
theorem zbX12_names_5 : zby cX12_names 80 20 = [58, 153, 0, 8, 21, 6, 167, 0, 4, 3, 128, 54, 4, 3, 54, 7, 21, 7, 42, 180] := by decide +kernel
theorem dX12_names_81 : decode cX12_names 81 = .ok (.ifCond .eq 8, 3) := dq_153 (zby_at (j := 1) zbX12_names_5 rfl) (zby_at (j := 2) zbX12_names_5 rfl) (zby_at (j := 3) zbX12_names_5 rfl) rfl
theorem dX12_names_84 : decode cX12_names 84 = .ok (.iload 6, 2) := dq_21 (zby_at (j := 4) zbX12_names_5 rfl) (zby_at (j := 5) zbX12_names_5 rfl)
theorem dX12_names_86 : decode cX12_names 86 = .ok (.goto 4, 3) := dq_167 (zby_at (j := 6) zbX12_names_5 rfl) (zby_at (j := 7) zbX12_names_5 rfl) (zby_at (j := 8) zbX12_names_5 rfl) rfl
theorem dX12_names_89 : decode cX12_names 89 = .ok (.iconst 0, 1) := dq_3 (zby_at (j := 9) zbX12_names_5 rfl)
theorem dX12_names_90 : decode cX12_names 90 = .ok (.ior, 1) := dq_128 (zby_at (j := 10) zbX12_names_5 rfl)
theorem dX12_names_91 : decode cX12_names 91 = .ok (.istore 4, 2) := dq_54 (zby_at (j := 11) zbX12_names_5 rfl) (zby_at (j := 12) zbX12_names_5 rfl)
theorem dX12_names_93 : decode cX12_names 93 = .ok (.iconst 0, 1) := dq_3 (zby_at (j := 13) zbX12_names_5 rfl)
theorem dX12_names_94 : decode cX12_names 94 = .ok (.istore 7, 2) := dq_54 (zby_at (j := 14) zbX12_names_5 rfl) (zby_at (j := 15) zbX12_names_5 rfl)
theorem zbX12_names_6 : zby cX12_names 96 20 = [21, 7, 42, 180, 0, 9, 3, 46, 162, 0, 46, 21, 5, 42, 27, 21, 6, 182, 1, 58] := by decide +kernel
theorem dX12_names_96 : decode cX12_names 96 = .ok (.iload 7, 2) := dq_21 (zby_at (j := 0) zbX12_names_6 rfl) (zby_at (j := 1) zbX12_names_6 rfl)
theorem dX12_names_98 : decode cX12_names 98 = .ok (.aload_n 0, 1) := dq_42 (zby_at (j := 2) zbX12_names_6 rfl)
theorem dX12_names_99 : decode cX12_names 99 = .ok (.getfield 9, 3) := dq_180 (zby_at (j := 3) zbX12_names_6 rfl) (zby_at (j := 4) zbX12_names_6 rfl) (zby_at (j := 5) zbX12_names_6 rfl)
theorem dX12_names_102 : decode cX12_names 102 = .ok (.iconst 0, 1) := dq_3 (zby_at (j := 6) zbX12_names_6 rfl)
theorem dX12_names_103 : decode cX12_names 103 = .ok (.iaload, 1) := dq_46 (zby_at (j := 7) zbX12_names_6 rfl)
theorem dX12_names_104 : decode cX12_names 104 = .ok (.if_icmp .ge 46, 3) := dq_162 (zby_at (j := 8) zbX12_names_6 rfl) (zby_at (j := 9) zbX12_names_6 rfl) (zby_at (j := 10) zbX12_names_6 rfl) rfl
theorem dX12_names_107 : decode cX12_names 107 = .ok (.iload 5, 2) := dq_21 (zby_at (j := 11) zbX12_names_6 rfl) (zby_at (j := 12) zbX12_names_6 rfl)
theorem dX12_names_109 : decode cX12_names 109 = .ok (.aload_n 0, 1) := dq_42 (zby_at (j := 13) zbX12_names_6 rfl)
theorem dX12_names_110 : decode cX12_names 110 = .ok (.iload_n 1, 1) := dq_27 (zby_at (j := 14) zbX12_names_6 rfl)
theorem dX12_names_111 : decode cX12_names 111 = .ok (.iload 6, 2) := dq_21 (zby_at (j := 15) zbX12_names_6 rfl) (zby_at (j := 16) zbX12_names_6 rfl)
theorem zbX12_names_7 : zby cX12_names 112 20 = [6, 182, 1, 58, 42, 27, 21, 6, 4, 21, 7, 120, 130, 182, 1, 58, 160, 0, 7, 2] := by decide +kernel
theorem dX12_names_113 : decode cX12_names 113 = .ok (.invokevirtual 314, 3) := dq_182 (zby_at (j := 1) zbX12_names_7 rfl) (zby_at (j := 2) zbX12_names_7 rfl) (zby_at (j := 3) zbX12_names_7 rfl)
theorem dX12_names_116 : decode cX12_names 116 = .ok (.aload_n 0, 1) := dq_42 (zby_at (j := 4) zbX12_names_7 rfl)
theorem dX12_names_117 : decode cX12_names 117 = .ok (.iload_n 1, 1) := dq_27 (zby_at (j := 5) zbX12_names_7 rfl)
theorem dX12_names_118 : decode cX12_names 118 = .ok (.iload 6, 2) := dq_21 (zby_at (j := 6) zbX12_names_7 rfl) (zby_at (j := 7) zbX12_names_7 rfl)
theorem dX12_names_120 : decode cX12_names 120 = .ok (.iconst 1, 1) := dq_4 (zby_at (j := 8) zbX12_names_7 rfl)
theorem dX12_names_121 : decode cX12_names 121 = .ok (.iload 7, 2) := dq_21 (zby_at (j := 9) zbX12_names_7 rfl) (zby_at (j := 10) zbX12_names_7 rfl)
theorem dX12_names_123 : decode cX12_names 123 = .ok (.ishl, 1) := dq_120 (zby_at (j := 11) zbX12_names_7 rfl)
theorem dX12_names_124 : decode cX12_names 124 = .ok (.ixor, 1) := dq_130 (zby_at (j := 12) zbX12_names_7 rfl)
theorem dX12_names_125 : decode cX12_names 125 = .ok (.invokevirtual 314, 3) := dq_182 (zby_at (j := 13) zbX12_names_7 rfl) (zby_at (j := 14) zbX12_names_7 rfl) (zby_at (j := 15) zbX12_names_7 rfl)
theorem zbX12_names_8 : zby cX12_names 128 20 = [160, 0, 7, 2, 167, 0, 9, 4, 21, 7, 120, 2, 130, 126, 54, 5, 132, 7, 1, 167] := by decide +kernel
theorem dX12_names_128 : decode cX12_names 128 = .ok (.if_icmp .ne 7, 3) := dq_160 (zby_at (j := 0) zbX12_names_8 rfl) (zby_at (j := 1) zbX12_names_8 rfl) (zby_at (j := 2) zbX12_names_8 rfl) rfl
theorem dX12_names_131 : decode cX12_names 131 = .ok (.iconst (-1), 1) := dq_2 (zby_at (j := 3) zbX12_names_8 rfl)
theorem dX12_names_132 : decode cX12_names 132 = .ok (.goto 9, 3) := dq_167 (zby_at (j := 4) zbX12_names_8 rfl) (zby_at (j := 5) zbX12_names_8 rfl) (zby_at (j := 6) zbX12_names_8 rfl) rfl
theorem dX12_names_135 : decode cX12_names 135 = .ok (.iconst 1, 1) := dq_4 (zby_at (j := 7) zbX12_names_8 rfl)
theorem dX12_names_136 : decode cX12_names 136 = .ok (.iload 7, 2) := dq_21 (zby_at (j := 8) zbX12_names_8 rfl) (zby_at (j := 9) zbX12_names_8 rfl)
theorem dX12_names_138 : decode cX12_names 138 = .ok (.ishl, 1) := dq_120 (zby_at (j := 10) zbX12_names_8 rfl)
theorem dX12_names_139 : decode cX12_names 139 = .ok (.iconst (-1), 1) := dq_2 (zby_at (j := 11) zbX12_names_8 rfl)
theorem dX12_names_140 : decode cX12_names 140 = .ok (.ixor, 1) := dq_130 (zby_at (j := 12) zbX12_names_8 rfl)
theorem dX12_names_141 : decode cX12_names 141 = .ok (.iand, 1) := dq_126 (zby_at (j := 13) zbX12_names_8 rfl)
theorem dX12_names_142 : decode cX12_names 142 = .ok (.istore 5, 2) := dq_54 (zby_at (j := 14) zbX12_names_8 rfl) (zby_at (j := 15) zbX12_names_8 rfl)
theorem zbX12_names_9 : zby cX12_names 144 20 = [132, 7, 1, 167, 255, 205, 132, 6, 1, 167, 255, 147, 28, 154, 0, 7, 29, 167, 0, 15] := by decide +kernel
theorem dX12_names_144 : decode cX12_names 144 = .ok (.iinc 7 1, 3) := dq_132 (zby_at (j := 0) zbX12_names_9 rfl) (zby_at (j := 1) zbX12_names_9 rfl) (zby_at (j := 2) zbX12_names_9 rfl) rfl
theorem dX12_names_147 : decode cX12_names 147 = .ok (.goto (-51), 3) := dq_167 (zby_at (j := 3) zbX12_names_9 rfl) (zby_at (j := 4) zbX12_names_9 rfl) (zby_at (j := 5) zbX12_names_9 rfl) rfl
theorem dX12_names_150 : decode cX12_names 150 = .ok (.iinc 6 1, 3) := dq_132 (zby_at (j := 6) zbX12_names_9 rfl) (zby_at (j := 7) zbX12_names_9 rfl) (zby_at (j := 8) zbX12_names_9 rfl) rfl
theorem dX12_names_153 : decode cX12_names 153 = .ok (.goto (-109), 3) := dq_167 (zby_at (j := 9) zbX12_names_9 rfl) (zby_at (j := 10) zbX12_names_9 rfl) (zby_at (j := 11) zbX12_names_9 rfl) rfl
theorem dX12_names_156 : decode cX12_names 156 = .ok (.iload_n 2, 1) := dq_28 (zby_at (j := 12) zbX12_names_9 rfl)
theorem dX12_names_157 : decode cX12_names 157 = .ok (.ifCond .ne 7, 3) := dq_154 (zby_at (j := 13) zbX12_names_9 rfl) (zby_at (j := 14) zbX12_names_9 rfl) (zby_at (j := 15) zbX12_names_9 rfl) rfl
theorem zbX12_names_10 : zby cX12_names 160 20 = [29, 167, 0, 15, 28, 4, 160, 0, 8, 21, 4, 167, 0, 5, 21, 5, 172] := by decide +kernel
theorem dX12_names_160 : decode cX12_names 160 = .ok (.iload_n 3, 1) := dq_29 (zby_at (j := 0) zbX12_names_10 rfl)
theorem dX12_names_161 : decode cX12_names 161 = .ok (.goto 15, 3) := dq_167 (zby_at (j := 1) zbX12_names_10 rfl) (zby_at (j := 2) zbX12_names_10 rfl) (zby_at (j := 3) zbX12_names_10 rfl) rfl
theorem dX12_names_164 : decode cX12_names 164 = .ok (.iload_n 2, 1) := dq_28 (zby_at (j := 4) zbX12_names_10 rfl)
theorem dX12_names_165 : decode cX12_names 165 = .ok (.iconst 1, 1) := dq_4 (zby_at (j := 5) zbX12_names_10 rfl)
theorem dX12_names_166 : decode cX12_names 166 = .ok (.if_icmp .ne 8, 3) := dq_160 (zby_at (j := 6) zbX12_names_10 rfl) (zby_at (j := 7) zbX12_names_10 rfl) (zby_at (j := 8) zbX12_names_10 rfl) rfl
theorem dX12_names_169 : decode cX12_names 169 = .ok (.iload 4, 2) := dq_21 (zby_at (j := 9) zbX12_names_10 rfl) (zby_at (j := 10) zbX12_names_10 rfl)
theorem dX12_names_171 : decode cX12_names 171 = .ok (.goto 5, 3) := dq_167 (zby_at (j := 11) zbX12_names_10 rfl) (zby_at (j := 12) zbX12_names_10 rfl) (zby_at (j := 13) zbX12_names_10 rfl) rfl
theorem dX12_names_174 : decode cX12_names 174 = .ok (.iload 5, 2) := dq_21 (zby_at (j := 14) zbX12_names_10 rfl) (zby_at (j := 15) zbX12_names_10 rfl)
theorem zbX12_names_11 : zby cX12_names 176 20 = [172] := by decide +kernel
theorem dX12_names_176 : decode cX12_names 176 = .ok (.ireturn, 1) := dq_172 (zby_at (j := 0) zbX12_names_11 rfl)
theorem zbX12_draw_0 : zby cX12_draw 0 20 = [42, 27, 182, 1, 65, 153, 0, 15, 28, 133, 9, 20, 1, 94, 184, 0, 94, 154, 0, 6] := by decide +kernel
theorem dX12_draw_0 : decode cX12_draw 0 = .ok (.aload_n 0, 1) := dq_42 (zby_at (j := 0) zbX12_draw_0 rfl)
theorem dX12_draw_1 : decode cX12_draw 1 = .ok (.iload_n 1, 1) := dq_27 (zby_at (j := 1) zbX12_draw_0 rfl)
theorem dX12_draw_2 : decode cX12_draw 2 = .ok (.invokevirtual 321, 3) := dq_182 (zby_at (j := 2) zbX12_draw_0 rfl) (zby_at (j := 3) zbX12_draw_0 rfl) (zby_at (j := 4) zbX12_draw_0 rfl)
theorem dX12_draw_5 : decode cX12_draw 5 = .ok (.ifCond .eq 15, 3) := dq_153 (zby_at (j := 5) zbX12_draw_0 rfl) (zby_at (j := 6) zbX12_draw_0 rfl) (zby_at (j := 7) zbX12_draw_0 rfl) rfl
theorem dX12_draw_8 : decode cX12_draw 8 = .ok (.iload_n 2, 1) := dq_28 (zby_at (j := 8) zbX12_draw_0 rfl)
theorem dX12_draw_9 : decode cX12_draw 9 = .ok (.i2l, 1) := dq_133 (zby_at (j := 9) zbX12_draw_0 rfl)
theorem dX12_draw_10 : decode cX12_draw 10 = .ok (.lconst 0, 1) := dq_9 (zby_at (j := 10) zbX12_draw_0 rfl)
theorem dX12_draw_11 : decode cX12_draw 11 = .ok (.ldc2_w 350, 3) := dq_20 (zby_at (j := 11) zbX12_draw_0 rfl) (zby_at (j := 12) zbX12_draw_0 rfl) (zby_at (j := 13) zbX12_draw_0 rfl)
theorem dX12_draw_14 : decode cX12_draw 14 = .ok (.invokestatic 94, 3) := dq_184 (zby_at (j := 14) zbX12_draw_0 rfl) (zby_at (j := 15) zbX12_draw_0 rfl) (zby_at (j := 16) zbX12_draw_0 rfl)
theorem zbX12_draw_1 : zby cX12_draw 16 20 = [94, 154, 0, 6, 16, 254, 172, 42, 27, 182, 1, 62, 62, 20, 1, 96, 28, 133, 105, 20] := by decide +kernel
theorem dX12_draw_17 : decode cX12_draw 17 = .ok (.ifCond .ne 6, 3) := dq_154 (zby_at (j := 1) zbX12_draw_1 rfl) (zby_at (j := 2) zbX12_draw_1 rfl) (zby_at (j := 3) zbX12_draw_1 rfl) rfl
theorem dX12_draw_20 : decode cX12_draw 20 = .ok (.bipush (-2), 2) := dq_16 (zby_at (j := 4) zbX12_draw_1 rfl) (zby_at (j := 5) zbX12_draw_1 rfl) rfl
theorem dX12_draw_22 : decode cX12_draw 22 = .ok (.ireturn, 1) := dq_172 (zby_at (j := 6) zbX12_draw_1 rfl)
theorem dX12_draw_23 : decode cX12_draw 23 = .ok (.aload_n 0, 1) := dq_42 (zby_at (j := 7) zbX12_draw_1 rfl)
theorem dX12_draw_24 : decode cX12_draw 24 = .ok (.iload_n 1, 1) := dq_27 (zby_at (j := 8) zbX12_draw_1 rfl)
theorem dX12_draw_25 : decode cX12_draw 25 = .ok (.invokevirtual 318, 3) := dq_182 (zby_at (j := 9) zbX12_draw_1 rfl) (zby_at (j := 10) zbX12_draw_1 rfl) (zby_at (j := 11) zbX12_draw_1 rfl)
theorem dX12_draw_28 : decode cX12_draw 28 = .ok (.istore_n 3, 1) := dq_62 (zby_at (j := 12) zbX12_draw_1 rfl)
theorem dX12_draw_29 : decode cX12_draw 29 = .ok (.ldc2_w 352, 3) := dq_20 (zby_at (j := 13) zbX12_draw_1 rfl) (zby_at (j := 14) zbX12_draw_1 rfl) (zby_at (j := 15) zbX12_draw_1 rfl)
theorem zbX12_draw_2 : zby cX12_draw 32 20 = [28, 133, 105, 20, 1, 98, 97, 20, 1, 100, 113, 55, 4, 29, 154, 0, 7, 2, 167, 0] := by decide +kernel
theorem dX12_draw_32 : decode cX12_draw 32 = .ok (.iload_n 2, 1) := dq_28 (zby_at (j := 0) zbX12_draw_2 rfl)
theorem dX12_draw_33 : decode cX12_draw 33 = .ok (.i2l, 1) := dq_133 (zby_at (j := 1) zbX12_draw_2 rfl)
theorem dX12_draw_34 : decode cX12_draw 34 = .ok (.lmul, 1) := dq_105 (zby_at (j := 2) zbX12_draw_2 rfl)
theorem dX12_draw_35 : decode cX12_draw 35 = .ok (.ldc2_w 354, 3) := dq_20 (zby_at (j := 3) zbX12_draw_2 rfl) (zby_at (j := 4) zbX12_draw_2 rfl) (zby_at (j := 5) zbX12_draw_2 rfl)
theorem dX12_draw_38 : decode cX12_draw 38 = .ok (.ladd, 1) := dq_97 (zby_at (j := 6) zbX12_draw_2 rfl)
theorem dX12_draw_39 : decode cX12_draw 39 = .ok (.ldc2_w 356, 3) := dq_20 (zby_at (j := 7) zbX12_draw_2 rfl) (zby_at (j := 8) zbX12_draw_2 rfl) (zby_at (j := 9) zbX12_draw_2 rfl)
theorem dX12_draw_42 : decode cX12_draw 42 = .ok (.lrem, 1) := dq_113 (zby_at (j := 10) zbX12_draw_2 rfl)
theorem dX12_draw_43 : decode cX12_draw 43 = .ok (.lstore 4, 2) := dq_55 (zby_at (j := 11) zbX12_draw_2 rfl) (zby_at (j := 12) zbX12_draw_2 rfl)
theorem dX12_draw_45 : decode cX12_draw 45 = .ok (.iload_n 3, 1) := dq_29 (zby_at (j := 13) zbX12_draw_2 rfl)
theorem dX12_draw_46 : decode cX12_draw 46 = .ok (.ifCond .ne 7, 3) := dq_154 (zby_at (j := 14) zbX12_draw_2 rfl) (zby_at (j := 15) zbX12_draw_2 rfl) (zby_at (j := 16) zbX12_draw_2 rfl) rfl
theorem zbX12_draw_3 : zby cX12_draw 48 20 = [7, 2, 167, 0, 18, 42, 27, 22, 4, 20, 1, 102, 109, 29, 133, 113, 136, 182, 1, 84] := by decide +kernel
theorem dX12_draw_49 : decode cX12_draw 49 = .ok (.iconst (-1), 1) := dq_2 (zby_at (j := 1) zbX12_draw_3 rfl)
theorem dX12_draw_50 : decode cX12_draw 50 = .ok (.goto 18, 3) := dq_167 (zby_at (j := 2) zbX12_draw_3 rfl) (zby_at (j := 3) zbX12_draw_3 rfl) (zby_at (j := 4) zbX12_draw_3 rfl) rfl
theorem dX12_draw_53 : decode cX12_draw 53 = .ok (.aload_n 0, 1) := dq_42 (zby_at (j := 5) zbX12_draw_3 rfl)
theorem dX12_draw_54 : decode cX12_draw 54 = .ok (.iload_n 1, 1) := dq_27 (zby_at (j := 6) zbX12_draw_3 rfl)
theorem dX12_draw_55 : decode cX12_draw 55 = .ok (.lload 4, 2) := dq_22 (zby_at (j := 7) zbX12_draw_3 rfl) (zby_at (j := 8) zbX12_draw_3 rfl)
theorem dX12_draw_57 : decode cX12_draw 57 = .ok (.ldc2_w 358, 3) := dq_20 (zby_at (j := 9) zbX12_draw_3 rfl) (zby_at (j := 10) zbX12_draw_3 rfl) (zby_at (j := 11) zbX12_draw_3 rfl)
theorem dX12_draw_60 : decode cX12_draw 60 = .ok (.ldiv, 1) := dq_109 (zby_at (j := 12) zbX12_draw_3 rfl)
theorem dX12_draw_61 : decode cX12_draw 61 = .ok (.iload_n 3, 1) := dq_29 (zby_at (j := 13) zbX12_draw_3 rfl)
theorem dX12_draw_62 : decode cX12_draw 62 = .ok (.i2l, 1) := dq_133 (zby_at (j := 14) zbX12_draw_3 rfl)
theorem dX12_draw_63 : decode cX12_draw 63 = .ok (.lrem, 1) := dq_113 (zby_at (j := 15) zbX12_draw_3 rfl)
theorem zbX12_draw_4 : zby cX12_draw 64 20 = [136, 182, 1, 84, 172] := by decide +kernel
theorem dX12_draw_64 : decode cX12_draw 64 = .ok (.l2i, 1) := dq_136 (zby_at (j := 0) zbX12_draw_4 rfl)
theorem dX12_draw_65 : decode cX12_draw 65 = .ok (.invokevirtual 340, 3) := dq_182 (zby_at (j := 1) zbX12_draw_4 rfl) (zby_at (j := 2) zbX12_draw_4 rfl) (zby_at (j := 3) zbX12_draw_4 rfl)
theorem dX12_draw_68 : decode cX12_draw 68 = .ok (.ireturn, 1) := dq_172 (zby_at (j := 4) zbX12_draw_4 rfl)
theorem zbX12_areRegisters_0 : zby cX12_areRegisters 0 20 = [42, 27, 182, 1, 65, 153, 0, 15, 42, 28, 182, 1, 65, 153, 0, 7, 4, 167, 0, 4] := by decide +kernel
theorem dX12_areRegisters_0 : decode cX12_areRegisters 0 = .ok (.aload_n 0, 1) := dq_42 (zby_at (j := 0) zbX12_areRegisters_0 rfl)
theorem dX12_areRegisters_1 : decode cX12_areRegisters 1 = .ok (.iload_n 1, 1) := dq_27 (zby_at (j := 1) zbX12_areRegisters_0 rfl)
theorem dX12_areRegisters_2 : decode cX12_areRegisters 2 = .ok (.invokevirtual 321, 3) := dq_182 (zby_at (j := 2) zbX12_areRegisters_0 rfl) (zby_at (j := 3) zbX12_areRegisters_0 rfl) (zby_at (j := 4) zbX12_areRegisters_0 rfl)
theorem dX12_areRegisters_5 : decode cX12_areRegisters 5 = .ok (.ifCond .eq 15, 3) := dq_153 (zby_at (j := 5) zbX12_areRegisters_0 rfl) (zby_at (j := 6) zbX12_areRegisters_0 rfl) (zby_at (j := 7) zbX12_areRegisters_0 rfl) rfl
theorem dX12_areRegisters_8 : decode cX12_areRegisters 8 = .ok (.aload_n 0, 1) := dq_42 (zby_at (j := 8) zbX12_areRegisters_0 rfl)
theorem dX12_areRegisters_9 : decode cX12_areRegisters 9 = .ok (.iload_n 2, 1) := dq_28 (zby_at (j := 9) zbX12_areRegisters_0 rfl)
theorem dX12_areRegisters_10 : decode cX12_areRegisters 10 = .ok (.invokevirtual 321, 3) := dq_182 (zby_at (j := 10) zbX12_areRegisters_0 rfl) (zby_at (j := 11) zbX12_areRegisters_0 rfl) (zby_at (j := 12) zbX12_areRegisters_0 rfl)
theorem dX12_areRegisters_13 : decode cX12_areRegisters 13 = .ok (.ifCond .eq 7, 3) := dq_153 (zby_at (j := 13) zbX12_areRegisters_0 rfl) (zby_at (j := 14) zbX12_areRegisters_0 rfl) (zby_at (j := 15) zbX12_areRegisters_0 rfl) rfl
theorem zbX12_areRegisters_1 : zby cX12_areRegisters 16 20 = [4, 167, 0, 4, 3, 172] := by decide +kernel
theorem dX12_areRegisters_16 : decode cX12_areRegisters 16 = .ok (.iconst 1, 1) := dq_4 (zby_at (j := 0) zbX12_areRegisters_1 rfl)
theorem dX12_areRegisters_17 : decode cX12_areRegisters 17 = .ok (.goto 4, 3) := dq_167 (zby_at (j := 1) zbX12_areRegisters_1 rfl) (zby_at (j := 2) zbX12_areRegisters_1 rfl) (zby_at (j := 3) zbX12_areRegisters_1 rfl) rfl
theorem dX12_areRegisters_20 : decode cX12_areRegisters 20 = .ok (.iconst 0, 1) := dq_3 (zby_at (j := 4) zbX12_areRegisters_1 rfl)
theorem dX12_areRegisters_21 : decode cX12_areRegisters 21 = .ok (.ireturn, 1) := dq_172 (zby_at (j := 5) zbX12_areRegisters_1 rfl)
theorem zbX12_differOf_0 : zby cX12_differOf 0 20 = [3, 62, 29, 42, 182, 0, 104, 162, 0, 26, 42, 27, 29, 182, 1, 58, 42, 28, 29, 182] := by decide +kernel
theorem dX12_differOf_0 : decode cX12_differOf 0 = .ok (.iconst 0, 1) := dq_3 (zby_at (j := 0) zbX12_differOf_0 rfl)
theorem dX12_differOf_1 : decode cX12_differOf 1 = .ok (.istore_n 3, 1) := dq_62 (zby_at (j := 1) zbX12_differOf_0 rfl)
theorem dX12_differOf_2 : decode cX12_differOf 2 = .ok (.iload_n 3, 1) := dq_29 (zby_at (j := 2) zbX12_differOf_0 rfl)
theorem dX12_differOf_3 : decode cX12_differOf 3 = .ok (.aload_n 0, 1) := dq_42 (zby_at (j := 3) zbX12_differOf_0 rfl)
theorem dX12_differOf_4 : decode cX12_differOf 4 = .ok (.invokevirtual 104, 3) := dq_182 (zby_at (j := 4) zbX12_differOf_0 rfl) (zby_at (j := 5) zbX12_differOf_0 rfl) (zby_at (j := 6) zbX12_differOf_0 rfl)
theorem dX12_differOf_7 : decode cX12_differOf 7 = .ok (.if_icmp .ge 26, 3) := dq_162 (zby_at (j := 7) zbX12_differOf_0 rfl) (zby_at (j := 8) zbX12_differOf_0 rfl) (zby_at (j := 9) zbX12_differOf_0 rfl) rfl
theorem dX12_differOf_10 : decode cX12_differOf 10 = .ok (.aload_n 0, 1) := dq_42 (zby_at (j := 10) zbX12_differOf_0 rfl)
theorem dX12_differOf_11 : decode cX12_differOf 11 = .ok (.iload_n 1, 1) := dq_27 (zby_at (j := 11) zbX12_differOf_0 rfl)
theorem dX12_differOf_12 : decode cX12_differOf 12 = .ok (.iload_n 3, 1) := dq_29 (zby_at (j := 12) zbX12_differOf_0 rfl)
theorem dX12_differOf_13 : decode cX12_differOf 13 = .ok (.invokevirtual 314, 3) := dq_182 (zby_at (j := 13) zbX12_differOf_0 rfl) (zby_at (j := 14) zbX12_differOf_0 rfl) (zby_at (j := 15) zbX12_differOf_0 rfl)
theorem zbX12_differOf_1 : zby cX12_differOf 16 20 = [42, 28, 29, 182, 1, 58, 159, 0, 5, 29, 172, 132, 3, 1, 167, 255, 228, 2, 172] := by decide +kernel
theorem dX12_differOf_16 : decode cX12_differOf 16 = .ok (.aload_n 0, 1) := dq_42 (zby_at (j := 0) zbX12_differOf_1 rfl)
theorem dX12_differOf_17 : decode cX12_differOf 17 = .ok (.iload_n 2, 1) := dq_28 (zby_at (j := 1) zbX12_differOf_1 rfl)
theorem dX12_differOf_18 : decode cX12_differOf 18 = .ok (.iload_n 3, 1) := dq_29 (zby_at (j := 2) zbX12_differOf_1 rfl)
theorem dX12_differOf_19 : decode cX12_differOf 19 = .ok (.invokevirtual 314, 3) := dq_182 (zby_at (j := 3) zbX12_differOf_1 rfl) (zby_at (j := 4) zbX12_differOf_1 rfl) (zby_at (j := 5) zbX12_differOf_1 rfl)
theorem dX12_differOf_22 : decode cX12_differOf 22 = .ok (.if_icmp .eq 5, 3) := dq_159 (zby_at (j := 6) zbX12_differOf_1 rfl) (zby_at (j := 7) zbX12_differOf_1 rfl) (zby_at (j := 8) zbX12_differOf_1 rfl) rfl
theorem dX12_differOf_25 : decode cX12_differOf 25 = .ok (.iload_n 3, 1) := dq_29 (zby_at (j := 9) zbX12_differOf_1 rfl)
theorem dX12_differOf_26 : decode cX12_differOf 26 = .ok (.ireturn, 1) := dq_172 (zby_at (j := 10) zbX12_differOf_1 rfl)
theorem dX12_differOf_27 : decode cX12_differOf 27 = .ok (.iinc 3 1, 3) := dq_132 (zby_at (j := 11) zbX12_differOf_1 rfl) (zby_at (j := 12) zbX12_differOf_1 rfl) (zby_at (j := 13) zbX12_differOf_1 rfl) rfl
theorem dX12_differOf_30 : decode cX12_differOf 30 = .ok (.goto (-28), 3) := dq_167 (zby_at (j := 14) zbX12_differOf_1 rfl) (zby_at (j := 15) zbX12_differOf_1 rfl) (zby_at (j := 16) zbX12_differOf_1 rfl) rfl
theorem zbX12_differOf_2 : zby cX12_differOf 32 20 = [228, 2, 172] := by decide +kernel
theorem dX12_differOf_33 : decode cX12_differOf 33 = .ok (.iconst (-1), 1) := dq_2 (zby_at (j := 1) zbX12_differOf_2 rfl)
theorem dX12_differOf_34 : decode cX12_differOf 34 = .ok (.ireturn, 1) := dq_172 (zby_at (j := 2) zbX12_differOf_2 rfl)
theorem zbX12_alike_0 : zby cX12_alike 0 20 = [42, 27, 28, 182, 1, 104, 153, 0, 21, 42, 27, 28, 182, 1, 107, 2, 160, 0, 7, 4] := by decide +kernel
theorem dX12_alike_0 : decode cX12_alike 0 = .ok (.aload_n 0, 1) := dq_42 (zby_at (j := 0) zbX12_alike_0 rfl)
theorem dX12_alike_1 : decode cX12_alike 1 = .ok (.iload_n 1, 1) := dq_27 (zby_at (j := 1) zbX12_alike_0 rfl)
theorem dX12_alike_2 : decode cX12_alike 2 = .ok (.iload_n 2, 1) := dq_28 (zby_at (j := 2) zbX12_alike_0 rfl)
theorem dX12_alike_3 : decode cX12_alike 3 = .ok (.invokevirtual 360, 3) := dq_182 (zby_at (j := 3) zbX12_alike_0 rfl) (zby_at (j := 4) zbX12_alike_0 rfl) (zby_at (j := 5) zbX12_alike_0 rfl)
theorem dX12_alike_6 : decode cX12_alike 6 = .ok (.ifCond .eq 21, 3) := dq_153 (zby_at (j := 6) zbX12_alike_0 rfl) (zby_at (j := 7) zbX12_alike_0 rfl) (zby_at (j := 8) zbX12_alike_0 rfl) rfl
theorem dX12_alike_9 : decode cX12_alike 9 = .ok (.aload_n 0, 1) := dq_42 (zby_at (j := 9) zbX12_alike_0 rfl)
theorem dX12_alike_10 : decode cX12_alike 10 = .ok (.iload_n 1, 1) := dq_27 (zby_at (j := 10) zbX12_alike_0 rfl)
theorem dX12_alike_11 : decode cX12_alike 11 = .ok (.iload_n 2, 1) := dq_28 (zby_at (j := 11) zbX12_alike_0 rfl)
theorem dX12_alike_12 : decode cX12_alike 12 = .ok (.invokevirtual 363, 3) := dq_182 (zby_at (j := 12) zbX12_alike_0 rfl) (zby_at (j := 13) zbX12_alike_0 rfl) (zby_at (j := 14) zbX12_alike_0 rfl)
theorem dX12_alike_15 : decode cX12_alike 15 = .ok (.iconst (-1), 1) := dq_2 (zby_at (j := 15) zbX12_alike_0 rfl)
theorem zbX12_alike_1 : zby cX12_alike 16 20 = [160, 0, 7, 4, 167, 0, 9, 3, 167, 0, 5, 16, 254, 172] := by decide +kernel
theorem dX12_alike_16 : decode cX12_alike 16 = .ok (.if_icmp .ne 7, 3) := dq_160 (zby_at (j := 0) zbX12_alike_1 rfl) (zby_at (j := 1) zbX12_alike_1 rfl) (zby_at (j := 2) zbX12_alike_1 rfl) rfl
theorem dX12_alike_19 : decode cX12_alike 19 = .ok (.iconst 1, 1) := dq_4 (zby_at (j := 3) zbX12_alike_1 rfl)
theorem dX12_alike_20 : decode cX12_alike 20 = .ok (.goto 9, 3) := dq_167 (zby_at (j := 4) zbX12_alike_1 rfl) (zby_at (j := 5) zbX12_alike_1 rfl) (zby_at (j := 6) zbX12_alike_1 rfl) rfl
theorem dX12_alike_23 : decode cX12_alike 23 = .ok (.iconst 0, 1) := dq_3 (zby_at (j := 7) zbX12_alike_1 rfl)
theorem dX12_alike_24 : decode cX12_alike 24 = .ok (.goto 5, 3) := dq_167 (zby_at (j := 8) zbX12_alike_1 rfl) (zby_at (j := 9) zbX12_alike_1 rfl) (zby_at (j := 10) zbX12_alike_1 rfl) rfl
theorem dX12_alike_27 : decode cX12_alike 27 = .ok (.bipush (-2), 2) := dq_16 (zby_at (j := 11) zbX12_alike_1 rfl) (zby_at (j := 12) zbX12_alike_1 rfl) rfl
theorem dX12_alike_29 : decode cX12_alike 29 = .ok (.ireturn, 1) := dq_172 (zby_at (j := 13) zbX12_alike_1 rfl)
theorem zbX12_differ_0 : zby cX12_differ 0 20 = [42, 27, 28, 182, 1, 104, 153, 0, 12, 42, 27, 28, 182, 1, 107, 167, 0, 5, 16, 254] := by decide +kernel
theorem dX12_differ_0 : decode cX12_differ 0 = .ok (.aload_n 0, 1) := dq_42 (zby_at (j := 0) zbX12_differ_0 rfl)
theorem dX12_differ_1 : decode cX12_differ 1 = .ok (.iload_n 1, 1) := dq_27 (zby_at (j := 1) zbX12_differ_0 rfl)
theorem dX12_differ_2 : decode cX12_differ 2 = .ok (.iload_n 2, 1) := dq_28 (zby_at (j := 2) zbX12_differ_0 rfl)
theorem dX12_differ_3 : decode cX12_differ 3 = .ok (.invokevirtual 360, 3) := dq_182 (zby_at (j := 3) zbX12_differ_0 rfl) (zby_at (j := 4) zbX12_differ_0 rfl) (zby_at (j := 5) zbX12_differ_0 rfl)
theorem dX12_differ_6 : decode cX12_differ 6 = .ok (.ifCond .eq 12, 3) := dq_153 (zby_at (j := 6) zbX12_differ_0 rfl) (zby_at (j := 7) zbX12_differ_0 rfl) (zby_at (j := 8) zbX12_differ_0 rfl) rfl
theorem dX12_differ_9 : decode cX12_differ 9 = .ok (.aload_n 0, 1) := dq_42 (zby_at (j := 9) zbX12_differ_0 rfl)
theorem dX12_differ_10 : decode cX12_differ 10 = .ok (.iload_n 1, 1) := dq_27 (zby_at (j := 10) zbX12_differ_0 rfl)
theorem dX12_differ_11 : decode cX12_differ 11 = .ok (.iload_n 2, 1) := dq_28 (zby_at (j := 11) zbX12_differ_0 rfl)
theorem dX12_differ_12 : decode cX12_differ 12 = .ok (.invokevirtual 363, 3) := dq_182 (zby_at (j := 12) zbX12_differ_0 rfl) (zby_at (j := 13) zbX12_differ_0 rfl) (zby_at (j := 14) zbX12_differ_0 rfl)
theorem dX12_differ_15 : decode cX12_differ 15 = .ok (.goto 5, 3) := dq_167 (zby_at (j := 15) zbX12_differ_0 rfl) (zby_at (j := 16) zbX12_differ_0 rfl) (zby_at (j := 17) zbX12_differ_0 rfl) rfl
theorem zbX12_differ_1 : zby cX12_differ 16 20 = [0, 5, 16, 254, 172] := by decide +kernel
theorem dX12_differ_18 : decode cX12_differ 18 = .ok (.bipush (-2), 2) := dq_16 (zby_at (j := 2) zbX12_differ_1 rfl) (zby_at (j := 3) zbX12_differ_1 rfl) rfl
theorem dX12_differ_20 : decode cX12_differ 20 = .ok (.ireturn, 1) := dq_172 (zby_at (j := 4) zbX12_differ_1 rfl)
theorem zbX12_within_0 : zby cX12_within 0 20 = [42, 27, 28, 182, 1, 104, 154, 0, 6, 16, 254, 172, 3, 62, 29, 42, 182, 0, 104, 162] := by decide +kernel
