theorem dX12_copiesMade_0 : decode cX12_copiesMade 0 = .ok (.iconst 0, 1) := by decide +kernel
theorem dX12_copiesMade_1 : decode cX12_copiesMade 1 = .ok (.istore_n 2, 1) := by decide +kernel
theorem dX12_copiesMade_2 : decode cX12_copiesMade 2 = .ok (.iload_n 2, 1) := by decide +kernel
theorem dX12_copiesMade_3 : decode cX12_copiesMade 3 = .ok (.sipush 1024, 3) := by decide +kernel
theorem dX12_copiesMade_6 : decode cX12_copiesMade 6 = .ok (.if_icmp .ge 27, 3) := by decide +kernel
theorem dX12_copiesMade_9 : decode cX12_copiesMade 9 = .ok (.aload_n 0, 1) := by decide +kernel
theorem dX12_copiesMade_10 : decode cX12_copiesMade 10 = .ok (.getfield 37, 3) := by decide +kernel
theorem dX12_copiesMade_13 : decode cX12_copiesMade 13 = .ok (.sipush 1024, 3) := by decide +kernel
theorem dX12_copiesMade_16 : decode cX12_copiesMade 16 = .ok (.iload_n 1, 1) := by decide +kernel
theorem dX12_copiesMade_17 : decode cX12_copiesMade 17 = .ok (.imul, 1) := by decide +kernel
theorem dX12_copiesMade_18 : decode cX12_copiesMade 18 = .ok (.iload_n 2, 1) := by decide +kernel
theorem dX12_copiesMade_19 : decode cX12_copiesMade 19 = .ok (.iadd, 1) := by decide +kernel
theorem dX12_copiesMade_20 : decode cX12_copiesMade 20 = .ok (.aload_n 0, 1) := by decide +kernel
theorem dX12_copiesMade_21 : decode cX12_copiesMade 21 = .ok (.getfield 40, 3) := by decide +kernel
theorem dX12_copiesMade_24 : decode cX12_copiesMade 24 = .ok (.iload_n 2, 1) := by decide +kernel
theorem dX12_copiesMade_25 : decode cX12_copiesMade 25 = .ok (.baload, 1) := by decide +kernel
theorem dX12_copiesMade_26 : decode cX12_copiesMade 26 = .ok (.bastore, 1) := by decide +kernel
theorem dX12_copiesMade_27 : decode cX12_copiesMade 27 = .ok (.iinc 2 1, 3) := by decide +kernel
theorem dX12_copiesMade_30 : decode cX12_copiesMade 30 = .ok (.goto (-28), 3) := by decide +kernel
theorem dX12_copiesMade_33 : decode cX12_copiesMade 33 = .ok (.return_, 1) := by decide +kernel
theorem dX12_settles_0 : decode cX12_settles 0 = .ok (.aload_n 0, 1) := by decide +kernel
theorem dX12_settles_1 : decode cX12_settles 1 = .ok (.dup, 1) := by decide +kernel
theorem dX12_settles_2 : decode cX12_settles 2 = .ok (.getfield 203, 3) := by decide +kernel
theorem dX12_settles_5 : decode cX12_settles 5 = .ok (.iconst 1, 1) := by decide +kernel
theorem dX12_settles_6 : decode cX12_settles 6 = .ok (.isub, 1) := by decide +kernel
theorem dX12_settles_7 : decode cX12_settles 7 = .ok (.putfield 203, 3) := by decide +kernel
theorem dX12_settles_10 : decode cX12_settles 10 = .ok (.aload_n 0, 1) := by decide +kernel
theorem dX12_settles_11 : decode cX12_settles 11 = .ok (.getfield 49, 3) := by decide +kernel
theorem dX12_settles_14 : decode cX12_settles 14 = .ok (.aload_n 0, 1) := by decide +kernel
theorem dX12_settles_15 : decode cX12_settles 15 = .ok (.getfield 203, 3) := by decide +kernel
theorem dX12_settles_18 : decode cX12_settles 18 = .ok (.iaload, 1) := by decide +kernel
theorem dX12_settles_19 : decode cX12_settles 19 = .ok (.istore_n 1, 1) := by decide +kernel
theorem dX12_settles_20 : decode cX12_settles 20 = .ok (.iload_n 1, 1) := by decide +kernel
theorem dX12_settles_21 : decode cX12_settles 21 = .ok (.bipush 50, 2) := by decide +kernel
theorem dX12_settles_23 : decode cX12_settles 23 = .ok (.if_icmp .lt 46, 3) := by decide +kernel
theorem dX12_settles_26 : decode cX12_settles 26 = .ok (.aload_n 0, 1) := by decide +kernel
theorem dX12_settles_27 : decode cX12_settles 27 = .ok (.iload_n 1, 1) := by decide +kernel
theorem dX12_settles_28 : decode cX12_settles 28 = .ok (.bipush 50, 2) := by decide +kernel
theorem dX12_settles_30 : decode cX12_settles 30 = .ok (.isub, 1) := by decide +kernel
theorem dX12_settles_31 : decode cX12_settles 31 = .ok (.aload_n 0, 1) := by decide +kernel
theorem dX12_settles_32 : decode cX12_settles 32 = .ok (.getfield 37, 3) := by decide +kernel
theorem dX12_settles_35 : decode cX12_settles 35 = .ok (.sipush 1024, 3) := by decide +kernel
theorem dX12_settles_38 : decode cX12_settles 38 = .ok (.aload_n 0, 1) := by decide +kernel
theorem dX12_settles_39 : decode cX12_settles 39 = .ok (.getfield 206, 3) := by decide +kernel
theorem dX12_settles_42 : decode cX12_settles 42 = .ok (.iconst 1, 1) := by decide +kernel
theorem dX12_settles_43 : decode cX12_settles 43 = .ok (.isub, 1) := by decide +kernel
theorem dX12_settles_44 : decode cX12_settles 44 = .ok (.imul, 1) := by decide +kernel
theorem dX12_settles_45 : decode cX12_settles 45 = .ok (.invokevirtual 209, 3) := by decide +kernel
theorem dX12_settles_48 : decode cX12_settles 48 = .ok (.aload_n 0, 1) := by decide +kernel
theorem dX12_settles_49 : decode cX12_settles 49 = .ok (.aload_n 0, 1) := by decide +kernel
theorem dX12_settles_50 : decode cX12_settles 50 = .ok (.getfield 206, 3) := by decide +kernel
theorem dX12_settles_53 : decode cX12_settles 53 = .ok (.iconst 1, 1) := by decide +kernel
theorem dX12_settles_54 : decode cX12_settles 54 = .ok (.isub, 1) := by decide +kernel
theorem dX12_settles_55 : decode cX12_settles 55 = .ok (.invokevirtual 212, 3) := by decide +kernel
theorem dX12_settles_58 : decode cX12_settles 58 = .ok (.aload_n 0, 1) := by decide +kernel
theorem dX12_settles_59 : decode cX12_settles 59 = .ok (.dup, 1) := by decide +kernel
theorem dX12_settles_60 : decode cX12_settles 60 = .ok (.getfield 215, 3) := by decide +kernel
theorem dX12_settles_63 : decode cX12_settles 63 = .ok (.iconst 1, 1) := by decide +kernel
theorem dX12_settles_64 : decode cX12_settles 64 = .ok (.isub, 1) := by decide +kernel
theorem dX12_settles_65 : decode cX12_settles 65 = .ok (.putfield 215, 3) := by decide +kernel
theorem dX12_settles_68 : decode cX12_settles 68 = .ok (.return_, 1) := by decide +kernel
theorem dX12_settles_69 : decode cX12_settles 69 = .ok (.aload_n 0, 1) := by decide +kernel
theorem dX12_settles_70 : decode cX12_settles 70 = .ok (.iload_n 1, 1) := by decide +kernel
theorem dX12_settles_71 : decode cX12_settles 71 = .ok (.aload_n 0, 1) := by decide +kernel
theorem dX12_settles_72 : decode cX12_settles 72 = .ok (.getfield 37, 3) := by decide +kernel
theorem dX12_settles_75 : decode cX12_settles 75 = .ok (.sipush 1024, 3) := by decide +kernel
theorem dX12_settles_78 : decode cX12_settles 78 = .ok (.aload_n 0, 1) := by decide +kernel
theorem dX12_settles_79 : decode cX12_settles 79 = .ok (.getfield 206, 3) := by decide +kernel
theorem dX12_settles_82 : decode cX12_settles 82 = .ok (.iconst 2, 1) := by decide +kernel
theorem dX12_settles_83 : decode cX12_settles 83 = .ok (.isub, 1) := by decide +kernel
theorem dX12_settles_84 : decode cX12_settles 84 = .ok (.imul, 1) := by decide +kernel
theorem dX12_settles_85 : decode cX12_settles 85 = .ok (.aload_n 0, 1) := by decide +kernel
theorem dX12_settles_86 : decode cX12_settles 86 = .ok (.getfield 37, 3) := by decide +kernel
theorem dX12_settles_89 : decode cX12_settles 89 = .ok (.sipush 1024, 3) := by decide +kernel
theorem dX12_settles_92 : decode cX12_settles 92 = .ok (.aload_n 0, 1) := by decide +kernel
theorem dX12_settles_93 : decode cX12_settles 93 = .ok (.getfield 206, 3) := by decide +kernel
theorem dX12_settles_96 : decode cX12_settles 96 = .ok (.iconst 1, 1) := by decide +kernel
theorem dX12_settles_97 : decode cX12_settles 97 = .ok (.isub, 1) := by decide +kernel
theorem dX12_settles_98 : decode cX12_settles 98 = .ok (.imul, 1) := by decide +kernel
theorem dX12_settles_99 : decode cX12_settles 99 = .ok (.invokevirtual 218, 3) := by decide +kernel
theorem dX12_settles_102 : decode cX12_settles 102 = .ok (.aload_n 0, 1) := by decide +kernel
theorem dX12_settles_103 : decode cX12_settles 103 = .ok (.dup, 1) := by decide +kernel
theorem dX12_settles_104 : decode cX12_settles 104 = .ok (.getfield 206, 3) := by decide +kernel
theorem dX12_settles_107 : decode cX12_settles 107 = .ok (.iconst 1, 1) := by decide +kernel
theorem dX12_settles_108 : decode cX12_settles 108 = .ok (.isub, 1) := by decide +kernel
theorem dX12_settles_109 : decode cX12_settles 109 = .ok (.putfield 206, 3) := by decide +kernel
theorem dX12_settles_112 : decode cX12_settles 112 = .ok (.aload_n 0, 1) := by decide +kernel
theorem dX12_settles_113 : decode cX12_settles 113 = .ok (.aload_n 0, 1) := by decide +kernel
theorem dX12_settles_114 : decode cX12_settles 114 = .ok (.getfield 206, 3) := by decide +kernel
theorem dX12_settles_117 : decode cX12_settles 117 = .ok (.iconst 1, 1) := by decide +kernel
theorem dX12_settles_118 : decode cX12_settles 118 = .ok (.isub, 1) := by decide +kernel
theorem dX12_settles_119 : decode cX12_settles 119 = .ok (.invokevirtual 212, 3) := by decide +kernel
theorem dX12_settles_122 : decode cX12_settles 122 = .ok (.return_, 1) := by decide +kernel
theorem dX12_settlesTo_0 : decode cX12_settlesTo 0 = .ok (.aload_n 0, 1) := by decide +kernel
theorem dX12_settlesTo_1 : decode cX12_settlesTo 1 = .ok (.getfield 203, 3) := by decide +kernel
theorem dX12_settlesTo_4 : decode cX12_settlesTo 4 = .ok (.ifCond .le 28, 3) := by decide +kernel
theorem dX12_settlesTo_7 : decode cX12_settlesTo 7 = .ok (.aload_n 0, 1) := by decide +kernel
theorem dX12_settlesTo_8 : decode cX12_settlesTo 8 = .ok (.getfield 49, 3) := by decide +kernel
theorem dX12_settlesTo_11 : decode cX12_settlesTo 11 = .ok (.aload_n 0, 1) := by decide +kernel
theorem dX12_settlesTo_12 : decode cX12_settlesTo 12 = .ok (.getfield 203, 3) := by decide +kernel
theorem dX12_settlesTo_15 : decode cX12_settlesTo 15 = .ok (.iconst 1, 1) := by decide +kernel
theorem dX12_settlesTo_16 : decode cX12_settlesTo 16 = .ok (.isub, 1) := by decide +kernel
theorem dX12_settlesTo_17 : decode cX12_settlesTo 17 = .ok (.iaload, 1) := by decide +kernel
theorem dX12_settlesTo_18 : decode cX12_settlesTo 18 = .ok (.invokestatic 222, 3) := by decide +kernel
theorem dX12_settlesTo_21 : decode cX12_settlesTo 21 = .ok (.iload_n 1, 1) := by decide +kernel
theorem dX12_settlesTo_22 : decode cX12_settlesTo 22 = .ok (.if_icmp .lt 10, 3) := by decide +kernel
theorem dX12_settlesTo_25 : decode cX12_settlesTo 25 = .ok (.aload_n 0, 1) := by decide +kernel
theorem dX12_settlesTo_26 : decode cX12_settlesTo 26 = .ok (.invokevirtual 225, 3) := by decide +kernel
theorem dX12_settlesTo_29 : decode cX12_settlesTo 29 = .ok (.goto (-29), 3) := by decide +kernel
theorem dX12_settlesTo_32 : decode cX12_settlesTo 32 = .ok (.return_, 1) := by decide +kernel
theorem dX12_opens_0 : decode cX12_opens 0 = .ok (.aload_n 0, 1) := by decide +kernel
theorem dX12_opens_1 : decode cX12_opens 1 = .ok (.getfield 215, 3) := by decide +kernel
theorem dX12_opens_4 : decode cX12_opens 4 = .ok (.bipush 6, 2) := by decide +kernel
theorem dX12_opens_6 : decode cX12_opens 6 = .ok (.if_icmp .ne 8, 3) := by decide +kernel
theorem dX12_opens_9 : decode cX12_opens 9 = .ok (.aload_n 0, 1) := by decide +kernel
theorem dX12_opens_10 : decode cX12_opens 10 = .ok (.iconst 3, 1) := by decide +kernel
theorem dX12_opens_11 : decode cX12_opens 11 = .ok (.invokevirtual 176, 3) := by decide +kernel
theorem dX12_opens_14 : decode cX12_opens 14 = .ok (.aload_n 0, 1) := by decide +kernel
theorem dX12_opens_15 : decode cX12_opens 15 = .ok (.invokevirtual 157, 3) := by decide +kernel
theorem dX12_opens_18 : decode cX12_opens 18 = .ok (.ifCond .ne 4, 3) := by decide +kernel
theorem dX12_opens_21 : decode cX12_opens 21 = .ok (.return_, 1) := by decide +kernel
theorem dX12_opens_22 : decode cX12_opens 22 = .ok (.aload_n 0, 1) := by decide +kernel
theorem dX12_opens_23 : decode cX12_opens 23 = .ok (.invokevirtual 154, 3) := by decide +kernel
theorem dX12_opens_26 : decode cX12_opens 26 = .ok (.aload_n 0, 1) := by decide +kernel
theorem dX12_opens_27 : decode cX12_opens 27 = .ok (.dup, 1) := by decide +kernel
theorem dX12_opens_28 : decode cX12_opens 28 = .ok (.getfield 215, 3) := by decide +kernel
theorem dX12_opens_31 : decode cX12_opens 31 = .ok (.iconst 1, 1) := by decide +kernel
theorem dX12_opens_32 : decode cX12_opens 32 = .ok (.iadd, 1) := by decide +kernel
theorem dX12_opens_33 : decode cX12_opens 33 = .ok (.putfield 215, 3) := by decide +kernel
theorem dX12_opens_36 : decode cX12_opens 36 = .ok (.aload_n 0, 1) := by decide +kernel
theorem dX12_opens_37 : decode cX12_opens 37 = .ok (.getfield 49, 3) := by decide +kernel
theorem dX12_opens_40 : decode cX12_opens 40 = .ok (.aload_n 0, 1) := by decide +kernel
theorem dX12_opens_41 : decode cX12_opens 41 = .ok (.getfield 203, 3) := by decide +kernel
theorem dX12_opens_44 : decode cX12_opens 44 = .ok (.iload_n 1, 1) := by decide +kernel
theorem dX12_opens_45 : decode cX12_opens 45 = .ok (.iastore, 1) := by decide +kernel
theorem dX12_opens_46 : decode cX12_opens 46 = .ok (.aload_n 0, 1) := by decide +kernel
theorem dX12_opens_47 : decode cX12_opens 47 = .ok (.dup, 1) := by decide +kernel
theorem dX12_opens_48 : decode cX12_opens 48 = .ok (.getfield 203, 3) := by decide +kernel
theorem dX12_opens_51 : decode cX12_opens 51 = .ok (.iconst 1, 1) := by decide +kernel
theorem dX12_opens_52 : decode cX12_opens 52 = .ok (.iadd, 1) := by decide +kernel
theorem dX12_opens_53 : decode cX12_opens 53 = .ok (.putfield 203, 3) := by decide +kernel
theorem dX12_opens_56 : decode cX12_opens 56 = .ok (.return_, 1) := by decide +kernel
theorem dX12_prefixOf_0 : decode cX12_prefixOf 0 = .ok (.aload_n 0, 1) := by decide +kernel
theorem dX12_prefixOf_1 : decode cX12_prefixOf 1 = .ok (.ldc 228, 2) := by decide +kernel
theorem dX12_prefixOf_3 : decode cX12_prefixOf 3 = .ok (.invokevirtual 169, 3) := by decide +kernel
theorem dX12_prefixOf_6 : decode cX12_prefixOf 6 = .ok (.ifCond .eq 7, 3) := by decide +kernel
theorem dX12_prefixOf_9 : decode cX12_prefixOf 9 = .ok (.iconst 0, 1) := by decide +kernel
theorem dX12_prefixOf_10 : decode cX12_prefixOf 10 = .ok (.goto 69, 3) := by decide +kernel
theorem dX12_prefixOf_13 : decode cX12_prefixOf 13 = .ok (.aload_n 0, 1) := by decide +kernel
theorem dX12_prefixOf_14 : decode cX12_prefixOf 14 = .ok (.ldc 229, 2) := by decide +kernel
theorem dX12_prefixOf_16 : decode cX12_prefixOf 16 = .ok (.invokevirtual 169, 3) := by decide +kernel
theorem dX12_prefixOf_19 : decode cX12_prefixOf 19 = .ok (.ifCond .eq 7, 3) := by decide +kernel
theorem dX12_prefixOf_22 : decode cX12_prefixOf 22 = .ok (.iconst 1, 1) := by decide +kernel
theorem dX12_prefixOf_23 : decode cX12_prefixOf 23 = .ok (.goto 56, 3) := by decide +kernel
theorem dX12_prefixOf_26 : decode cX12_prefixOf 26 = .ok (.aload_n 0, 1) := by decide +kernel
theorem dX12_prefixOf_27 : decode cX12_prefixOf 27 = .ok (.ldc 231, 2) := by decide +kernel
theorem dX12_prefixOf_29 : decode cX12_prefixOf 29 = .ok (.invokevirtual 169, 3) := by decide +kernel
theorem dX12_prefixOf_32 : decode cX12_prefixOf 32 = .ok (.ifCond .eq 7, 3) := by decide +kernel
theorem dX12_prefixOf_35 : decode cX12_prefixOf 35 = .ok (.iconst 2, 1) := by decide +kernel
theorem dX12_prefixOf_36 : decode cX12_prefixOf 36 = .ok (.goto 43, 3) := by decide +kernel
theorem dX12_prefixOf_39 : decode cX12_prefixOf 39 = .ok (.aload_n 0, 1) := by decide +kernel
theorem dX12_prefixOf_40 : decode cX12_prefixOf 40 = .ok (.ldc 233, 2) := by decide +kernel
theorem dX12_prefixOf_42 : decode cX12_prefixOf 42 = .ok (.invokevirtual 169, 3) := by decide +kernel
theorem dX12_prefixOf_45 : decode cX12_prefixOf 45 = .ok (.ifCond .eq 7, 3) := by decide +kernel
theorem dX12_prefixOf_48 : decode cX12_prefixOf 48 = .ok (.iconst 3, 1) := by decide +kernel
theorem dX12_prefixOf_49 : decode cX12_prefixOf 49 = .ok (.goto 30, 3) := by decide +kernel
theorem dX12_prefixOf_52 : decode cX12_prefixOf 52 = .ok (.aload_n 0, 1) := by decide +kernel
theorem dX12_prefixOf_53 : decode cX12_prefixOf 53 = .ok (.ldc 235, 2) := by decide +kernel
theorem dX12_prefixOf_55 : decode cX12_prefixOf 55 = .ok (.invokevirtual 169, 3) := by decide +kernel
theorem dX12_prefixOf_58 : decode cX12_prefixOf 58 = .ok (.ifCond .eq 7, 3) := by decide +kernel
theorem dX12_prefixOf_61 : decode cX12_prefixOf 61 = .ok (.iconst 4, 1) := by decide +kernel
theorem dX12_prefixOf_62 : decode cX12_prefixOf 62 = .ok (.goto 17, 3) := by decide +kernel
theorem dX12_prefixOf_65 : decode cX12_prefixOf 65 = .ok (.aload_n 0, 1) := by decide +kernel
theorem dX12_prefixOf_66 : decode cX12_prefixOf 66 = .ok (.ldc 237, 2) := by decide +kernel
theorem dX12_prefixOf_68 : decode cX12_prefixOf 68 = .ok (.invokevirtual 169, 3) := by decide +kernel
theorem dX12_prefixOf_71 : decode cX12_prefixOf 71 = .ok (.ifCond .eq 7, 3) := by decide +kernel
theorem dX12_prefixOf_74 : decode cX12_prefixOf 74 = .ok (.iconst 5, 1) := by decide +kernel
theorem dX12_prefixOf_75 : decode cX12_prefixOf 75 = .ok (.goto 4, 3) := by decide +kernel
theorem dX12_prefixOf_78 : decode cX12_prefixOf 78 = .ok (.iconst (-1), 1) := by decide +kernel
theorem dX12_prefixOf_79 : decode cX12_prefixOf 79 = .ok (.ireturn, 1) := by decide +kernel
theorem dX12_signOf_0 : decode cX12_signOf 0 = .ok (.iload_n 0, 1) := by decide +kernel
theorem dX12_signOf_1 : decode cX12_signOf 1 = .ok (.bipush 43, 2) := by decide +kernel
theorem dX12_signOf_3 : decode cX12_signOf 3 = .ok (.if_icmp .ne 7, 3) := by decide +kernel
theorem dX12_signOf_6 : decode cX12_signOf 6 = .ok (.iconst 0, 1) := by decide +kernel
theorem dX12_signOf_7 : decode cX12_signOf 7 = .ok (.goto 65, 3) := by decide +kernel
theorem dX12_signOf_10 : decode cX12_signOf 10 = .ok (.iload_n 0, 1) := by decide +kernel
theorem dX12_signOf_11 : decode cX12_signOf 11 = .ok (.bipush 45, 2) := by decide +kernel
theorem dX12_signOf_13 : decode cX12_signOf 13 = .ok (.if_icmp .ne 7, 3) := by decide +kernel
theorem dX12_signOf_16 : decode cX12_signOf 16 = .ok (.iconst 1, 1) := by decide +kernel
theorem dX12_signOf_17 : decode cX12_signOf 17 = .ok (.goto 55, 3) := by decide +kernel
theorem dX12_signOf_20 : decode cX12_signOf 20 = .ok (.iload_n 0, 1) := by decide +kernel
theorem dX12_signOf_21 : decode cX12_signOf 21 = .ok (.bipush 38, 2) := by decide +kernel
theorem dX12_signOf_23 : decode cX12_signOf 23 = .ok (.if_icmp .ne 7, 3) := by decide +kernel
theorem dX12_signOf_26 : decode cX12_signOf 26 = .ok (.iconst 2, 1) := by decide +kernel
theorem dX12_signOf_27 : decode cX12_signOf 27 = .ok (.goto 45, 3) := by decide +kernel
theorem dX12_signOf_30 : decode cX12_signOf 30 = .ok (.iload_n 0, 1) := by decide +kernel
theorem dX12_signOf_31 : decode cX12_signOf 31 = .ok (.bipush 42, 2) := by decide +kernel
theorem dX12_signOf_33 : decode cX12_signOf 33 = .ok (.if_icmp .ne 7, 3) := by decide +kernel
theorem dX12_signOf_36 : decode cX12_signOf 36 = .ok (.iconst 3, 1) := by decide +kernel
theorem dX12_signOf_37 : decode cX12_signOf 37 = .ok (.goto 35, 3) := by decide +kernel
theorem dX12_signOf_40 : decode cX12_signOf 40 = .ok (.iload_n 0, 1) := by decide +kernel
theorem dX12_signOf_41 : decode cX12_signOf 41 = .ok (.bipush 47, 2) := by decide +kernel
theorem dX12_signOf_43 : decode cX12_signOf 43 = .ok (.if_icmp .ne 7, 3) := by decide +kernel
theorem dX12_signOf_46 : decode cX12_signOf 46 = .ok (.iconst 4, 1) := by decide +kernel
theorem dX12_signOf_47 : decode cX12_signOf 47 = .ok (.goto 25, 3) := by decide +kernel
theorem dX12_signOf_50 : decode cX12_signOf 50 = .ok (.iload_n 0, 1) := by decide +kernel
theorem dX12_signOf_51 : decode cX12_signOf 51 = .ok (.bipush 37, 2) := by decide +kernel
theorem dX12_signOf_53 : decode cX12_signOf 53 = .ok (.if_icmp .ne 7, 3) := by decide +kernel
theorem dX12_signOf_56 : decode cX12_signOf 56 = .ok (.iconst 5, 1) := by decide +kernel
theorem dX12_signOf_57 : decode cX12_signOf 57 = .ok (.goto 15, 3) := by decide +kernel
theorem dX12_signOf_60 : decode cX12_signOf 60 = .ok (.iload_n 0, 1) := by decide +kernel
theorem dX12_signOf_61 : decode cX12_signOf 61 = .ok (.bipush 35, 2) := by decide +kernel
theorem dX12_signOf_63 : decode cX12_signOf 63 = .ok (.if_icmp .ne 8, 3) := by decide +kernel
theorem dX12_signOf_66 : decode cX12_signOf 66 = .ok (.bipush 6, 2) := by decide +kernel
theorem dX12_signOf_68 : decode cX12_signOf 68 = .ok (.goto 4, 3) := by decide +kernel
theorem dX12_signOf_71 : decode cX12_signOf 71 = .ok (.iconst (-1), 1) := by decide +kernel
theorem dX12_signOf_72 : decode cX12_signOf 72 = .ok (.ireturn, 1) := by decide +kernel
theorem dX12_wordSet_0 : decode cX12_wordSet 0 = .ok (.iconst 0, 1) := by decide +kernel
theorem dX12_wordSet_1 : decode cX12_wordSet 1 = .ok (.istore_n 2, 1) := by decide +kernel
theorem dX12_wordSet_2 : decode cX12_wordSet 2 = .ok (.aload_n 0, 1) := by decide +kernel
theorem dX12_wordSet_3 : decode cX12_wordSet 3 = .ok (.getfield 120, 3) := by decide +kernel
theorem dX12_wordSet_6 : decode cX12_wordSet 6 = .ok (.istore_n 3, 1) := by decide +kernel
theorem dX12_wordSet_7 : decode cX12_wordSet 7 = .ok (.iload_n 3, 1) := by decide +kernel
theorem dX12_wordSet_8 : decode cX12_wordSet 8 = .ok (.aload_n 0, 1) := by decide +kernel
theorem dX12_wordSet_9 : decode cX12_wordSet 9 = .ok (.getfield 113, 3) := by decide +kernel
theorem dX12_wordSet_12 : decode cX12_wordSet 12 = .ok (.if_icmp .ge 50, 3) := by decide +kernel
theorem dX12_wordSet_15 : decode cX12_wordSet 15 = .ok (.aload_n 0, 1) := by decide +kernel
theorem dX12_wordSet_16 : decode cX12_wordSet 16 = .ok (.getfield 26, 3) := by decide +kernel
theorem dX12_wordSet_19 : decode cX12_wordSet 19 = .ok (.iload_n 3, 1) := by decide +kernel
theorem dX12_wordSet_20 : decode cX12_wordSet 20 = .ok (.baload, 1) := by decide +kernel
theorem dX12_wordSet_21 : decode cX12_wordSet 21 = .ok (.bipush 97, 2) := by decide +kernel
theorem dX12_wordSet_23 : decode cX12_wordSet 23 = .ok (.isub, 1) := by decide +kernel
theorem dX12_wordSet_24 : decode cX12_wordSet 24 = .ok (.istore 4, 2) := by decide +kernel
theorem dX12_wordSet_26 : decode cX12_wordSet 26 = .ok (.iload 4, 2) := by decide +kernel
theorem dX12_wordSet_28 : decode cX12_wordSet 28 = .ok (.iload_n 1, 1) := by decide +kernel
theorem dX12_wordSet_29 : decode cX12_wordSet 29 = .ok (.if_icmp .ge 13, 3) := by decide +kernel
theorem dX12_wordSet_32 : decode cX12_wordSet 32 = .ok (.iload_n 2, 1) := by decide +kernel
theorem dX12_wordSet_33 : decode cX12_wordSet 33 = .ok (.iload 4, 2) := by decide +kernel
theorem dX12_wordSet_35 : decode cX12_wordSet 35 = .ok (.ishr, 1) := by decide +kernel
theorem dX12_wordSet_36 : decode cX12_wordSet 36 = .ok (.iconst 1, 1) := by decide +kernel
theorem dX12_wordSet_37 : decode cX12_wordSet 37 = .ok (.iand, 1) := by decide +kernel
theorem dX12_wordSet_38 : decode cX12_wordSet 38 = .ok (.iconst 1, 1) := by decide +kernel
theorem dX12_wordSet_39 : decode cX12_wordSet 39 = .ok (.if_icmp .ne 10, 3) := by decide +kernel
theorem dX12_wordSet_42 : decode cX12_wordSet 42 = .ok (.aload_n 0, 1) := by decide +kernel
theorem dX12_wordSet_43 : decode cX12_wordSet 43 = .ok (.iconst 2, 1) := by decide +kernel
theorem dX12_wordSet_44 : decode cX12_wordSet 44 = .ok (.invokevirtual 176, 3) := by decide +kernel
theorem dX12_wordSet_47 : decode cX12_wordSet 47 = .ok (.iconst 0, 1) := by decide +kernel
theorem dX12_wordSet_48 : decode cX12_wordSet 48 = .ok (.ireturn, 1) := by decide +kernel
theorem dX12_wordSet_49 : decode cX12_wordSet 49 = .ok (.iload_n 2, 1) := by decide +kernel
theorem dX12_wordSet_50 : decode cX12_wordSet 50 = .ok (.iconst 1, 1) := by decide +kernel
theorem dX12_wordSet_51 : decode cX12_wordSet 51 = .ok (.iload 4, 2) := by decide +kernel
theorem dX12_wordSet_53 : decode cX12_wordSet 53 = .ok (.ishl, 1) := by decide +kernel
theorem dX12_wordSet_54 : decode cX12_wordSet 54 = .ok (.ior, 1) := by decide +kernel
theorem dX12_wordSet_55 : decode cX12_wordSet 55 = .ok (.istore_n 2, 1) := by decide +kernel
theorem dX12_wordSet_56 : decode cX12_wordSet 56 = .ok (.iinc 3 1, 3) := by decide +kernel
theorem dX12_wordSet_59 : decode cX12_wordSet 59 = .ok (.goto (-52), 3) := by decide +kernel
theorem dX12_wordSet_62 : decode cX12_wordSet 62 = .ok (.iload_n 2, 1) := by decide +kernel
theorem dX12_wordSet_63 : decode cX12_wordSet 63 = .ok (.ireturn, 1) := by decide +kernel
theorem dX12_readsSet_0 : decode cX12_readsSet 0 = .ok (.iconst 0, 1) := by decide +kernel
theorem dX12_readsSet_1 : decode cX12_readsSet 1 = .ok (.istore_n 2, 1) := by decide +kernel
theorem dX12_readsSet_2 : decode cX12_readsSet 2 = .ok (.aload_n 0, 1) := by decide +kernel
theorem dX12_readsSet_3 : decode cX12_readsSet 3 = .ok (.getfield 123, 3) := by decide +kernel
theorem dX12_readsSet_6 : decode cX12_readsSet 6 = .ok (.iconst 2, 1) := by decide +kernel
theorem dX12_readsSet_7 : decode cX12_readsSet 7 = .ok (.if_icmp .ne 13, 3) := by decide +kernel
theorem dX12_readsSet_10 : decode cX12_readsSet 10 = .ok (.aload_n 0, 1) := by decide +kernel
theorem dX12_readsSet_11 : decode cX12_readsSet 11 = .ok (.iconst 0, 1) := by decide +kernel
theorem dX12_readsSet_12 : decode cX12_readsSet 12 = .ok (.iconst 0, 1) := by decide +kernel
theorem dX12_readsSet_13 : decode cX12_readsSet 13 = .ok (.invokevirtual 239, 3) := by decide +kernel
theorem dX12_readsSet_16 : decode cX12_readsSet 16 = .ok (.istore_n 2, 1) := by decide +kernel
theorem dX12_readsSet_17 : decode cX12_readsSet 17 = .ok (.goto 36, 3) := by decide +kernel
theorem dX12_readsSet_20 : decode cX12_readsSet 20 = .ok (.aload_n 0, 1) := by decide +kernel
theorem dX12_readsSet_21 : decode cX12_readsSet 21 = .ok (.getfield 123, 3) := by decide +kernel
theorem dX12_readsSet_24 : decode cX12_readsSet 24 = .ok (.iconst 1, 1) := by decide +kernel
theorem dX12_readsSet_25 : decode cX12_readsSet 25 = .ok (.if_icmp .ne 23, 3) := by decide +kernel
theorem dX12_readsSet_28 : decode cX12_readsSet 28 = .ok (.aload_n 0, 1) := by decide +kernel
theorem dX12_readsSet_29 : decode cX12_readsSet 29 = .ok (.iload_n 1, 1) := by decide +kernel
theorem dX12_readsSet_30 : decode cX12_readsSet 30 = .ok (.invokevirtual 242, 3) := by decide +kernel
theorem dX12_readsSet_33 : decode cX12_readsSet 33 = .ok (.istore_n 2, 1) := by decide +kernel
theorem dX12_readsSet_34 : decode cX12_readsSet 34 = .ok (.aload_n 0, 1) := by decide +kernel
theorem dX12_readsSet_35 : decode cX12_readsSet 35 = .ok (.invokevirtual 157, 3) := by decide +kernel
theorem dX12_readsSet_38 : decode cX12_readsSet 38 = .ok (.ifCond .eq 15, 3) := by decide +kernel
theorem dX12_readsSet_41 : decode cX12_readsSet 41 = .ok (.aload_n 0, 1) := by decide +kernel
theorem dX12_readsSet_42 : decode cX12_readsSet 42 = .ok (.invokevirtual 154, 3) := by decide +kernel
theorem dX12_readsSet_45 : decode cX12_readsSet 45 = .ok (.goto 8, 3) := by decide +kernel
theorem dX12_readsSet_48 : decode cX12_readsSet 48 = .ok (.aload_n 0, 1) := by decide +kernel
theorem dX12_readsSet_49 : decode cX12_readsSet 49 = .ok (.iconst 1, 1) := by decide +kernel
theorem dX12_readsSet_50 : decode cX12_readsSet 50 = .ok (.invokevirtual 176, 3) := by decide +kernel
theorem dX12_readsSet_53 : decode cX12_readsSet 53 = .ok (.aload_n 0, 1) := by decide +kernel
theorem dX12_readsSet_54 : decode cX12_readsSet 54 = .ok (.invokevirtual 157, 3) := by decide +kernel
theorem dX12_readsSet_57 : decode cX12_readsSet 57 = .ok (.ifCond .eq 21, 3) := by decide +kernel
theorem dX12_readsSet_60 : decode cX12_readsSet 60 = .ok (.aload_n 0, 1) := by decide +kernel
theorem dX12_readsSet_61 : decode cX12_readsSet 61 = .ok (.getfield 37, 3) := by decide +kernel
theorem dX12_readsSet_64 : decode cX12_readsSet 64 = .ok (.sipush 1024, 3) := by decide +kernel
theorem dX12_readsSet_67 : decode cX12_readsSet 67 = .ok (.aload_n 0, 1) := by decide +kernel
theorem dX12_readsSet_68 : decode cX12_readsSet 68 = .ok (.getfield 206, 3) := by decide +kernel
theorem dX12_readsSet_71 : decode cX12_readsSet 71 = .ok (.iconst 1, 1) := by decide +kernel
theorem dX12_readsSet_72 : decode cX12_readsSet 72 = .ok (.isub, 1) := by decide +kernel
theorem dX12_readsSet_73 : decode cX12_readsSet 73 = .ok (.imul, 1) := by decide +kernel
theorem dX12_readsSet_74 : decode cX12_readsSet 74 = .ok (.iload_n 2, 1) := by decide +kernel
theorem dX12_readsSet_75 : decode cX12_readsSet 75 = .ok (.iadd, 1) := by decide +kernel
theorem dX12_readsSet_76 : decode cX12_readsSet 76 = .ok (.iconst 1, 1) := by decide +kernel
theorem dX12_readsSet_77 : decode cX12_readsSet 77 = .ok (.bastore, 1) := by decide +kernel
theorem dX12_readsSet_78 : decode cX12_readsSet 78 = .ok (.return_, 1) := by decide +kernel
theorem dX12_pushesEmpty_0 : decode cX12_pushesEmpty 0 = .ok (.iconst 0, 1) := by decide +kernel
theorem dX12_pushesEmpty_1 : decode cX12_pushesEmpty 1 = .ok (.istore_n 1, 1) := by decide +kernel
theorem dX12_pushesEmpty_2 : decode cX12_pushesEmpty 2 = .ok (.iload_n 1, 1) := by decide +kernel
theorem dX12_pushesEmpty_3 : decode cX12_pushesEmpty 3 = .ok (.sipush 1024, 3) := by decide +kernel
theorem dX12_pushesEmpty_6 : decode cX12_pushesEmpty 6 = .ok (.if_icmp .ge 25, 3) := by decide +kernel
theorem dX12_pushesEmpty_9 : decode cX12_pushesEmpty 9 = .ok (.aload_n 0, 1) := by decide +kernel
theorem dX12_pushesEmpty_10 : decode cX12_pushesEmpty 10 = .ok (.getfield 37, 3) := by decide +kernel
theorem dX12_pushesEmpty_13 : decode cX12_pushesEmpty 13 = .ok (.sipush 1024, 3) := by decide +kernel
theorem dX12_pushesEmpty_16 : decode cX12_pushesEmpty 16 = .ok (.aload_n 0, 1) := by decide +kernel
theorem dX12_pushesEmpty_17 : decode cX12_pushesEmpty 17 = .ok (.getfield 206, 3) := by decide +kernel
theorem dX12_pushesEmpty_20 : decode cX12_pushesEmpty 20 = .ok (.imul, 1) := by decide +kernel
theorem dX12_pushesEmpty_21 : decode cX12_pushesEmpty 21 = .ok (.iload_n 1, 1) := by decide +kernel
theorem dX12_pushesEmpty_22 : decode cX12_pushesEmpty 22 = .ok (.iadd, 1) := by decide +kernel
theorem dX12_pushesEmpty_23 : decode cX12_pushesEmpty 23 = .ok (.iconst 0, 1) := by decide +kernel
theorem dX12_pushesEmpty_24 : decode cX12_pushesEmpty 24 = .ok (.bastore, 1) := by decide +kernel
theorem dX12_pushesEmpty_25 : decode cX12_pushesEmpty 25 = .ok (.iinc 1 1, 3) := by decide +kernel
theorem dX12_pushesEmpty_28 : decode cX12_pushesEmpty 28 = .ok (.goto (-26), 3) := by decide +kernel
theorem dX12_pushesEmpty_31 : decode cX12_pushesEmpty 31 = .ok (.aload_n 0, 1) := by decide +kernel
theorem dX12_pushesEmpty_32 : decode cX12_pushesEmpty 32 = .ok (.dup, 1) := by decide +kernel
theorem dX12_pushesEmpty_33 : decode cX12_pushesEmpty 33 = .ok (.getfield 206, 3) := by decide +kernel
theorem dX12_pushesEmpty_36 : decode cX12_pushesEmpty 36 = .ok (.iconst 1, 1) := by decide +kernel
theorem dX12_pushesEmpty_37 : decode cX12_pushesEmpty 37 = .ok (.iadd, 1) := by decide +kernel
theorem dX12_pushesEmpty_38 : decode cX12_pushesEmpty 38 = .ok (.putfield 206, 3) := by decide +kernel
theorem dX12_pushesEmpty_41 : decode cX12_pushesEmpty 41 = .ok (.return_, 1) := by decide +kernel
theorem dX12_readsSets_0 : decode cX12_readsSets 0 = .ok (.aload_n 0, 1) := by decide +kernel
theorem dX12_readsSets_1 : decode cX12_readsSets 1 = .ok (.invokevirtual 154, 3) := by decide +kernel
theorem dX12_readsSets_4 : decode cX12_readsSets 4 = .ok (.aload_n 0, 1) := by decide +kernel
theorem dX12_readsSets_5 : decode cX12_readsSets 5 = .ok (.invokevirtual 245, 3) := by decide +kernel
theorem dX12_readsSets_8 : decode cX12_readsSets 8 = .ok (.aload_n 0, 1) := by decide +kernel
theorem dX12_readsSets_9 : decode cX12_readsSets 9 = .ok (.getfield 123, 3) := by decide +kernel
theorem dX12_readsSets_12 : decode cX12_readsSets 12 = .ok (.bipush 125, 2) := by decide +kernel
theorem dX12_readsSets_14 : decode cX12_readsSets 14 = .ok (.if_icmp .eq 36, 3) := by decide +kernel
theorem dX12_readsSets_17 : decode cX12_readsSets 17 = .ok (.aload_n 0, 1) := by decide +kernel
theorem dX12_readsSets_18 : decode cX12_readsSets 18 = .ok (.iload_n 1, 1) := by decide +kernel
theorem dX12_readsSets_19 : decode cX12_readsSets 19 = .ok (.invokevirtual 248, 3) := by decide +kernel
theorem dX12_readsSets_22 : decode cX12_readsSets 22 = .ok (.aload_n 0, 1) := by decide +kernel
theorem dX12_readsSets_23 : decode cX12_readsSets 23 = .ok (.invokevirtual 157, 3) := by decide +kernel
theorem dX12_readsSets_26 : decode cX12_readsSets 26 = .ok (.ifCond .eq 24, 3) := by decide +kernel
theorem dX12_readsSets_29 : decode cX12_readsSets 29 = .ok (.aload_n 0, 1) := by decide +kernel
theorem dX12_readsSets_30 : decode cX12_readsSets 30 = .ok (.getfield 123, 3) := by decide +kernel
theorem dX12_readsSets_33 : decode cX12_readsSets 33 = .ok (.bipush 44, 2) := by decide +kernel
theorem dX12_readsSets_35 : decode cX12_readsSets 35 = .ok (.if_icmp .ne 15, 3) := by decide +kernel
theorem dX12_readsSets_38 : decode cX12_readsSets 38 = .ok (.aload_n 0, 1) := by decide +kernel
theorem dX12_readsSets_39 : decode cX12_readsSets 39 = .ok (.invokevirtual 154, 3) := by decide +kernel
theorem dX12_readsSets_42 : decode cX12_readsSets 42 = .ok (.aload_n 0, 1) := by decide +kernel
theorem dX12_readsSets_43 : decode cX12_readsSets 43 = .ok (.iload_n 1, 1) := by decide +kernel
theorem dX12_readsSets_44 : decode cX12_readsSets 44 = .ok (.invokevirtual 248, 3) := by decide +kernel
theorem dX12_readsSets_47 : decode cX12_readsSets 47 = .ok (.goto (-25), 3) := by decide +kernel
theorem dX12_readsSets_50 : decode cX12_readsSets 50 = .ok (.aload_n 0, 1) := by decide +kernel
theorem dX12_readsSets_51 : decode cX12_readsSets 51 = .ok (.bipush 125, 2) := by decide +kernel
theorem dX12_readsSets_53 : decode cX12_readsSets 53 = .ok (.invokevirtual 251, 3) := by decide +kernel
theorem dX12_readsSets_56 : decode cX12_readsSets 56 = .ok (.return_, 1) := by decide +kernel
theorem dX12_readsPart_0 : decode cX12_readsPart 0 = .ok (.aload_n 0, 1) := by decide +kernel
theorem dX12_readsPart_1 : decode cX12_readsPart 1 = .ok (.invokevirtual 254, 3) := by decide +kernel
theorem dX12_readsPart_4 : decode cX12_readsPart 4 = .ok (.istore_n 3, 1) := by decide +kernel
theorem dX12_readsPart_5 : decode cX12_readsPart 5 = .ok (.iload_n 3, 1) := by decide +kernel
theorem dX12_readsPart_6 : decode cX12_readsPart 6 = .ok (.iconst (-1), 1) := by decide +kernel
theorem dX12_readsPart_7 : decode cX12_readsPart 7 = .ok (.if_icmp .ne 12, 3) := by decide +kernel
theorem dX12_readsPart_10 : decode cX12_readsPart 10 = .ok (.aload_n 0, 1) := by decide +kernel
theorem dX12_readsPart_11 : decode cX12_readsPart 11 = .ok (.getfield 123, 3) := by decide +kernel
theorem dX12_readsPart_14 : decode cX12_readsPart 14 = .ok (.bipush 40, 2) := by decide +kernel
theorem dX12_readsPart_16 : decode cX12_readsPart 16 = .ok (.if_icmp .ne 23, 3) := by decide +kernel
theorem dX12_readsPart_19 : decode cX12_readsPart 19 = .ok (.aload_n 0, 1) := by decide +kernel
theorem dX12_readsPart_20 : decode cX12_readsPart 20 = .ok (.iload_n 3, 1) := by decide +kernel
theorem dX12_readsPart_21 : decode cX12_readsPart 21 = .ok (.iconst (-1), 1) := by decide +kernel
theorem dX12_readsPart_22 : decode cX12_readsPart 22 = .ok (.if_icmp .eq 10, 3) := by decide +kernel
theorem dX12_readsPart_25 : decode cX12_readsPart 25 = .ok (.bipush 50, 2) := by decide +kernel
theorem dX12_readsPart_27 : decode cX12_readsPart 27 = .ok (.iload_n 3, 1) := by decide +kernel
theorem dX12_readsPart_28 : decode cX12_readsPart 28 = .ok (.iadd, 1) := by decide +kernel
theorem dX12_readsPart_29 : decode cX12_readsPart 29 = .ok (.goto 5, 3) := by decide +kernel
theorem dX12_readsPart_32 : decode cX12_readsPart 32 = .ok (.bipush 100, 2) := by decide +kernel
theorem dX12_readsPart_34 : decode cX12_readsPart 34 = .ok (.invokevirtual 257, 3) := by decide +kernel
theorem dX12_readsPart_37 : decode cX12_readsPart 37 = .ok (.iconst 0, 1) := by decide +kernel
theorem dX12_readsPart_38 : decode cX12_readsPart 38 = .ok (.ireturn, 1) := by decide +kernel
theorem dX12_readsPart_39 : decode cX12_readsPart 39 = .ok (.aload_n 0, 1) := by decide +kernel
theorem dX12_readsPart_40 : decode cX12_readsPart 40 = .ok (.getfield 123, 3) := by decide +kernel
theorem dX12_readsPart_43 : decode cX12_readsPart 43 = .ok (.iconst 2, 1) := by decide +kernel
theorem dX12_readsPart_44 : decode cX12_readsPart 44 = .ok (.if_icmp .ne 72, 3) := by decide +kernel
theorem dX12_readsPart_47 : decode cX12_readsPart 47 = .ok (.aload_n 0, 1) := by decide +kernel
theorem dX12_readsPart_48 : decode cX12_readsPart 48 = .ok (.iconst 0, 1) := by decide +kernel
theorem dX12_readsPart_49 : decode cX12_readsPart 49 = .ok (.bipush 9, 2) := by decide +kernel
theorem dX12_readsPart_51 : decode cX12_readsPart 51 = .ok (.invokevirtual 239, 3) := by decide +kernel
theorem dX12_readsPart_54 : decode cX12_readsPart 54 = .ok (.istore 4, 2) := by decide +kernel
theorem dX12_readsPart_56 : decode cX12_readsPart 56 = .ok (.aload_n 0, 1) := by decide +kernel
theorem dX12_readsPart_57 : decode cX12_readsPart 57 = .ok (.invokevirtual 245, 3) := by decide +kernel
theorem dX12_readsPart_60 : decode cX12_readsPart 60 = .ok (.iconst 0, 1) := by decide +kernel
theorem dX12_readsPart_61 : decode cX12_readsPart 61 = .ok (.istore 5, 2) := by decide +kernel
theorem dX12_readsPart_63 : decode cX12_readsPart 63 = .ok (.iload 5, 2) := by decide +kernel
theorem dX12_readsPart_65 : decode cX12_readsPart 65 = .ok (.sipush 1024, 3) := by decide +kernel
theorem dX12_readsPart_68 : decode cX12_readsPart 68 = .ok (.if_icmp .ge 45, 3) := by decide +kernel
theorem dX12_readsPart_71 : decode cX12_readsPart 71 = .ok (.aload_n 0, 1) := by decide +kernel
theorem dX12_readsPart_72 : decode cX12_readsPart 72 = .ok (.invokevirtual 157, 3) := by decide +kernel
theorem dX12_readsPart_75 : decode cX12_readsPart 75 = .ok (.ifCond .eq 38, 3) := by decide +kernel
theorem dX12_readsPart_78 : decode cX12_readsPart 78 = .ok (.aload_n 0, 1) := by decide +kernel
theorem dX12_readsPart_79 : decode cX12_readsPart 79 = .ok (.getfield 37, 3) := by decide +kernel
theorem dX12_readsPart_82 : decode cX12_readsPart 82 = .ok (.sipush 1024, 3) := by decide +kernel
theorem dX12_readsPart_85 : decode cX12_readsPart 85 = .ok (.aload_n 0, 1) := by decide +kernel
theorem dX12_readsPart_86 : decode cX12_readsPart 86 = .ok (.getfield 206, 3) := by decide +kernel
theorem dX12_readsPart_89 : decode cX12_readsPart 89 = .ok (.iconst 1, 1) := by decide +kernel
theorem dX12_readsPart_90 : decode cX12_readsPart 90 = .ok (.isub, 1) := by decide +kernel
theorem dX12_readsPart_91 : decode cX12_readsPart 91 = .ok (.imul, 1) := by decide +kernel
theorem dX12_readsPart_92 : decode cX12_readsPart 92 = .ok (.iload 5, 2) := by decide +kernel
theorem dX12_readsPart_94 : decode cX12_readsPart 94 = .ok (.iadd, 1) := by decide +kernel
theorem dX12_readsPart_95 : decode cX12_readsPart 95 = .ok (.aload_n 2, 1) := by decide +kernel
theorem dX12_readsPart_96 : decode cX12_readsPart 96 = .ok (.sipush 1024, 3) := by decide +kernel
theorem dX12_readsPart_99 : decode cX12_readsPart 99 = .ok (.iload 4, 2) := by decide +kernel
theorem dX12_readsPart_101 : decode cX12_readsPart 101 = .ok (.imul, 1) := by decide +kernel
theorem dX12_readsPart_102 : decode cX12_readsPart 102 = .ok (.iload 5, 2) := by decide +kernel
theorem dX12_readsPart_104 : decode cX12_readsPart 104 = .ok (.iadd, 1) := by decide +kernel
theorem dX12_readsPart_105 : decode cX12_readsPart 105 = .ok (.baload, 1) := by decide +kernel
theorem dX12_readsPart_106 : decode cX12_readsPart 106 = .ok (.bastore, 1) := by decide +kernel
theorem dX12_readsPart_107 : decode cX12_readsPart 107 = .ok (.iinc 5 1, 3) := by decide +kernel
theorem dX12_readsPart_110 : decode cX12_readsPart 110 = .ok (.goto (-47), 3) := by decide +kernel
theorem dX12_readsPart_113 : decode cX12_readsPart 113 = .ok (.goto 79, 3) := by decide +kernel
theorem dX12_readsPart_116 : decode cX12_readsPart 116 = .ok (.aload_n 0, 1) := by decide +kernel
theorem dX12_readsPart_117 : decode cX12_readsPart 117 = .ok (.getfield 123, 3) := by decide +kernel
theorem dX12_readsPart_120 : decode cX12_readsPart 120 = .ok (.bipush 123, 2) := by decide +kernel
theorem dX12_readsPart_122 : decode cX12_readsPart 122 = .ok (.if_icmp .ne 11, 3) := by decide +kernel
theorem dX12_readsPart_125 : decode cX12_readsPart 125 = .ok (.aload_n 0, 1) := by decide +kernel
theorem dX12_readsPart_126 : decode cX12_readsPart 126 = .ok (.iload_n 1, 1) := by decide +kernel
theorem dX12_readsPart_127 : decode cX12_readsPart 127 = .ok (.invokevirtual 260, 3) := by decide +kernel
theorem dX12_readsPart_130 : decode cX12_readsPart 130 = .ok (.goto 62, 3) := by decide +kernel
theorem dX12_readsPart_133 : decode cX12_readsPart 133 = .ok (.aload_n 0, 1) := by decide +kernel
theorem dX12_readsPart_134 : decode cX12_readsPart 134 = .ok (.ldc_w 263, 3) := by decide +kernel
theorem dX12_readsPart_137 : decode cX12_readsPart 137 = .ok (.invokevirtual 173, 3) := by decide +kernel
theorem dX12_readsPart_140 : decode cX12_readsPart 140 = .ok (.ifCond .eq 47, 3) := by decide +kernel
theorem dX12_readsPart_143 : decode cX12_readsPart 143 = .ok (.aload_n 0, 1) := by decide +kernel
theorem dX12_readsPart_144 : decode cX12_readsPart 144 = .ok (.invokevirtual 245, 3) := by decide +kernel
theorem dX12_readsPart_147 : decode cX12_readsPart 147 = .ok (.iconst 0, 1) := by decide +kernel
theorem dX12_readsPart_148 : decode cX12_readsPart 148 = .ok (.istore 4, 2) := by decide +kernel
theorem dX12_readsPart_150 : decode cX12_readsPart 150 = .ok (.iload 4, 2) := by decide +kernel
theorem dX12_readsPart_152 : decode cX12_readsPart 152 = .ok (.aload_n 0, 1) := by decide +kernel
theorem dX12_readsPart_153 : decode cX12_readsPart 153 = .ok (.getfield 180, 3) := by decide +kernel
theorem dX12_readsPart_156 : decode cX12_readsPart 156 = .ok (.if_icmp .ge 28, 3) := by decide +kernel
theorem dX12_readsPart_159 : decode cX12_readsPart 159 = .ok (.aload_n 0, 1) := by decide +kernel
theorem dX12_readsPart_160 : decode cX12_readsPart 160 = .ok (.getfield 37, 3) := by decide +kernel
theorem dX12_readsPart_163 : decode cX12_readsPart 163 = .ok (.sipush 1024, 3) := by decide +kernel
theorem dX12_readsPart_166 : decode cX12_readsPart 166 = .ok (.aload_n 0, 1) := by decide +kernel
theorem dX12_readsPart_167 : decode cX12_readsPart 167 = .ok (.getfield 206, 3) := by decide +kernel
theorem dX12_readsPart_170 : decode cX12_readsPart 170 = .ok (.iconst 1, 1) := by decide +kernel
theorem dX12_readsPart_171 : decode cX12_readsPart 171 = .ok (.isub, 1) := by decide +kernel
theorem dX12_readsPart_172 : decode cX12_readsPart 172 = .ok (.imul, 1) := by decide +kernel
theorem dX12_readsPart_173 : decode cX12_readsPart 173 = .ok (.iload 4, 2) := by decide +kernel
theorem dX12_readsPart_175 : decode cX12_readsPart 175 = .ok (.iadd, 1) := by decide +kernel
theorem dX12_readsPart_176 : decode cX12_readsPart 176 = .ok (.iconst 1, 1) := by decide +kernel
theorem dX12_readsPart_177 : decode cX12_readsPart 177 = .ok (.bastore, 1) := by decide +kernel
theorem dX12_readsPart_178 : decode cX12_readsPart 178 = .ok (.iinc 4 1, 3) := by decide +kernel
theorem dX12_readsPart_181 : decode cX12_readsPart 181 = .ok (.goto (-31), 3) := by decide +kernel
theorem dX12_readsPart_184 : decode cX12_readsPart 184 = .ok (.goto 8, 3) := by decide +kernel
theorem dX12_readsPart_187 : decode cX12_readsPart 187 = .ok (.aload_n 0, 1) := by decide +kernel
theorem dX12_readsPart_188 : decode cX12_readsPart 188 = .ok (.iconst 1, 1) := by decide +kernel
theorem dX12_readsPart_189 : decode cX12_readsPart 189 = .ok (.invokevirtual 176, 3) := by decide +kernel
theorem dX12_readsPart_192 : decode cX12_readsPart 192 = .ok (.aload_n 0, 1) := by decide +kernel
theorem dX12_readsPart_193 : decode cX12_readsPart 193 = .ok (.invokevirtual 157, 3) := by decide +kernel
theorem dX12_readsPart_196 : decode cX12_readsPart 196 = .ok (.ifCond .eq 8, 3) := by decide +kernel
theorem dX12_readsPart_199 : decode cX12_readsPart 199 = .ok (.aload_n 0, 1) := by decide +kernel
theorem dX12_readsPart_200 : decode cX12_readsPart 200 = .ok (.iconst 3, 1) := by decide +kernel
theorem dX12_readsPart_201 : decode cX12_readsPart 201 = .ok (.invokevirtual 264, 3) := by decide +kernel
theorem dX12_readsPart_204 : decode cX12_readsPart 204 = .ok (.iconst 1, 1) := by decide +kernel
theorem dX12_readsPart_205 : decode cX12_readsPart 205 = .ok (.ireturn, 1) := by decide +kernel
theorem dX12_isOpen_0 : decode cX12_isOpen 0 = .ok (.iconst 0, 1) := by decide +kernel
theorem dX12_isOpen_1 : decode cX12_isOpen 1 = .ok (.istore_n 1, 1) := by decide +kernel
theorem dX12_isOpen_2 : decode cX12_isOpen 2 = .ok (.iload_n 1, 1) := by decide +kernel
theorem dX12_isOpen_3 : decode cX12_isOpen 3 = .ok (.aload_n 0, 1) := by decide +kernel
theorem dX12_isOpen_4 : decode cX12_isOpen 4 = .ok (.getfield 203, 3) := by decide +kernel
theorem dX12_isOpen_7 : decode cX12_isOpen 7 = .ok (.if_icmp .ge 22, 3) := by decide +kernel
theorem dX12_isOpen_10 : decode cX12_isOpen 10 = .ok (.aload_n 0, 1) := by decide +kernel
theorem dX12_isOpen_11 : decode cX12_isOpen 11 = .ok (.getfield 49, 3) := by decide +kernel
theorem dX12_isOpen_14 : decode cX12_isOpen 14 = .ok (.iload_n 1, 1) := by decide +kernel
theorem dX12_isOpen_15 : decode cX12_isOpen 15 = .ok (.iaload, 1) := by decide +kernel
theorem dX12_isOpen_16 : decode cX12_isOpen 16 = .ok (.bipush 100, 2) := by decide +kernel
theorem dX12_isOpen_18 : decode cX12_isOpen 18 = .ok (.if_icmp .ne 5, 3) := by decide +kernel
theorem dX12_isOpen_21 : decode cX12_isOpen 21 = .ok (.iconst 1, 1) := by decide +kernel
theorem dX12_isOpen_22 : decode cX12_isOpen 22 = .ok (.ireturn, 1) := by decide +kernel
theorem dX12_isOpen_23 : decode cX12_isOpen 23 = .ok (.iinc 1 1, 3) := by decide +kernel
theorem dX12_isOpen_26 : decode cX12_isOpen 26 = .ok (.goto (-24), 3) := by decide +kernel
theorem dX12_isOpen_29 : decode cX12_isOpen 29 = .ok (.iconst 0, 1) := by decide +kernel
theorem dX12_isOpen_30 : decode cX12_isOpen 30 = .ok (.ireturn, 1) := by decide +kernel
theorem dX12_goesBehind_0 : decode cX12_goesBehind 0 = .ok (.aload_n 0, 1) := by decide +kernel
theorem dX12_goesBehind_1 : decode cX12_goesBehind 1 = .ok (.getfield 123, 3) := by decide +kernel
theorem dX12_goesBehind_4 : decode cX12_goesBehind 4 = .ok (.invokestatic 267, 3) := by decide +kernel
theorem dX12_goesBehind_7 : decode cX12_goesBehind 7 = .ok (.istore_n 1, 1) := by decide +kernel
theorem dX12_goesBehind_8 : decode cX12_goesBehind 8 = .ok (.iload_n 1, 1) := by decide +kernel
theorem dX12_goesBehind_9 : decode cX12_goesBehind 9 = .ok (.iconst (-1), 1) := by decide +kernel
theorem dX12_goesBehind_10 : decode cX12_goesBehind 10 = .ok (.if_icmp .eq 70, 3) := by decide +kernel
theorem dX12_goesBehind_13 : decode cX12_goesBehind 13 = .ok (.aload_n 0, 1) := by decide +kernel
theorem dX12_goesBehind_14 : decode cX12_goesBehind 14 = .ok (.getfield 151, 3) := by decide +kernel
theorem dX12_goesBehind_17 : decode cX12_goesBehind 17 = .ok (.bipush 24, 2) := by decide +kernel
theorem dX12_goesBehind_19 : decode cX12_goesBehind 19 = .ok (.if_icmp .ne 8, 3) := by decide +kernel
theorem dX12_goesBehind_22 : decode cX12_goesBehind 22 = .ok (.aload_n 0, 1) := by decide +kernel
theorem dX12_goesBehind_23 : decode cX12_goesBehind 23 = .ok (.iconst 3, 1) := by decide +kernel
theorem dX12_goesBehind_24 : decode cX12_goesBehind 24 = .ok (.invokevirtual 176, 3) := by decide +kernel
theorem dX12_goesBehind_27 : decode cX12_goesBehind 27 = .ok (.aload_n 0, 1) := by decide +kernel
theorem dX12_goesBehind_28 : decode cX12_goesBehind 28 = .ok (.invokevirtual 157, 3) := by decide +kernel
theorem dX12_goesBehind_31 : decode cX12_goesBehind 31 = .ok (.ifCond .ne 5, 3) := by decide +kernel
theorem dX12_goesBehind_34 : decode cX12_goesBehind 34 = .ok (.iconst (-1), 1) := by decide +kernel
theorem dX12_goesBehind_35 : decode cX12_goesBehind 35 = .ok (.ireturn, 1) := by decide +kernel
theorem dX12_goesBehind_36 : decode cX12_goesBehind 36 = .ok (.aload_n 0, 1) := by decide +kernel
theorem dX12_goesBehind_37 : decode cX12_goesBehind 37 = .ok (.dup, 1) := by decide +kernel
theorem dX12_goesBehind_38 : decode cX12_goesBehind 38 = .ok (.getfield 151, 3) := by decide +kernel
theorem dX12_goesBehind_41 : decode cX12_goesBehind 41 = .ok (.iconst 1, 1) := by decide +kernel
theorem dX12_goesBehind_42 : decode cX12_goesBehind 42 = .ok (.iadd, 1) := by decide +kernel
theorem dX12_goesBehind_43 : decode cX12_goesBehind 43 = .ok (.putfield 151, 3) := by decide +kernel
theorem dX12_goesBehind_46 : decode cX12_goesBehind 46 = .ok (.aload_n 0, 1) := by decide +kernel
theorem dX12_goesBehind_47 : decode cX12_goesBehind 47 = .ok (.iload_n 1, 1) := by decide +kernel
theorem dX12_goesBehind_48 : decode cX12_goesBehind 48 = .ok (.invokestatic 222, 3) := by decide +kernel
theorem dX12_goesBehind_51 : decode cX12_goesBehind 51 = .ok (.invokevirtual 264, 3) := by decide +kernel
theorem dX12_goesBehind_54 : decode cX12_goesBehind 54 = .ok (.aload_n 0, 1) := by decide +kernel
theorem dX12_goesBehind_55 : decode cX12_goesBehind 55 = .ok (.getfield 49, 3) := by decide +kernel
theorem dX12_goesBehind_58 : decode cX12_goesBehind 58 = .ok (.aload_n 0, 1) := by decide +kernel
theorem dX12_goesBehind_59 : decode cX12_goesBehind 59 = .ok (.getfield 203, 3) := by decide +kernel
theorem dX12_goesBehind_62 : decode cX12_goesBehind 62 = .ok (.iload_n 1, 1) := by decide +kernel
theorem dX12_goesBehind_63 : decode cX12_goesBehind 63 = .ok (.iastore, 1) := by decide +kernel
theorem dX12_goesBehind_64 : decode cX12_goesBehind 64 = .ok (.aload_n 0, 1) := by decide +kernel
theorem dX12_goesBehind_65 : decode cX12_goesBehind 65 = .ok (.dup, 1) := by decide +kernel
theorem dX12_goesBehind_66 : decode cX12_goesBehind 66 = .ok (.getfield 203, 3) := by decide +kernel
theorem dX12_goesBehind_69 : decode cX12_goesBehind 69 = .ok (.iconst 1, 1) := by decide +kernel
theorem dX12_goesBehind_70 : decode cX12_goesBehind 70 = .ok (.iadd, 1) := by decide +kernel
theorem dX12_goesBehind_71 : decode cX12_goesBehind 71 = .ok (.putfield 203, 3) := by decide +kernel
theorem dX12_goesBehind_74 : decode cX12_goesBehind 74 = .ok (.aload_n 0, 1) := by decide +kernel
theorem dX12_goesBehind_75 : decode cX12_goesBehind 75 = .ok (.invokevirtual 154, 3) := by decide +kernel
theorem dX12_goesBehind_78 : decode cX12_goesBehind 78 = .ok (.iconst 1, 1) := by decide +kernel
theorem dX12_goesBehind_79 : decode cX12_goesBehind 79 = .ok (.ireturn, 1) := by decide +kernel
theorem dX12_goesBehind_80 : decode cX12_goesBehind 80 = .ok (.aload_n 0, 1) := by decide +kernel
theorem dX12_goesBehind_81 : decode cX12_goesBehind 81 = .ok (.getfield 123, 3) := by decide +kernel
theorem dX12_goesBehind_84 : decode cX12_goesBehind 84 = .ok (.bipush 41, 2) := by decide +kernel
theorem dX12_goesBehind_86 : decode cX12_goesBehind 86 = .ok (.if_icmp .ne 10, 3) := by decide +kernel
theorem dX12_goesBehind_89 : decode cX12_goesBehind 89 = .ok (.aload_n 0, 1) := by decide +kernel
theorem dX12_goesBehind_90 : decode cX12_goesBehind 90 = .ok (.invokevirtual 270, 3) := by decide +kernel
theorem dX12_goesBehind_93 : decode cX12_goesBehind 93 = .ok (.ifCond .ne 5, 3) := by decide +kernel
theorem dX12_goesBehind_96 : decode cX12_goesBehind 96 = .ok (.iconst (-1), 1) := by decide +kernel
theorem dX12_goesBehind_97 : decode cX12_goesBehind 97 = .ok (.ireturn, 1) := by decide +kernel
theorem dX12_goesBehind_98 : decode cX12_goesBehind 98 = .ok (.aload_n 0, 1) := by decide +kernel
theorem dX12_goesBehind_99 : decode cX12_goesBehind 99 = .ok (.iconst 1, 1) := by decide +kernel
theorem dX12_goesBehind_100 : decode cX12_goesBehind 100 = .ok (.invokevirtual 264, 3) := by decide +kernel
theorem dX12_goesBehind_103 : decode cX12_goesBehind 103 = .ok (.aload_n 0, 1) := by decide +kernel
theorem dX12_goesBehind_104 : decode cX12_goesBehind 104 = .ok (.dup, 1) := by decide +kernel
theorem dX12_goesBehind_105 : decode cX12_goesBehind 105 = .ok (.getfield 203, 3) := by decide +kernel
theorem dX12_goesBehind_108 : decode cX12_goesBehind 108 = .ok (.iconst 1, 1) := by decide +kernel
theorem dX12_goesBehind_109 : decode cX12_goesBehind 109 = .ok (.isub, 1) := by decide +kernel
theorem dX12_goesBehind_110 : decode cX12_goesBehind 110 = .ok (.putfield 203, 3) := by decide +kernel
theorem dX12_goesBehind_113 : decode cX12_goesBehind 113 = .ok (.aload_n 0, 1) := by decide +kernel
theorem dX12_goesBehind_114 : decode cX12_goesBehind 114 = .ok (.dup, 1) := by decide +kernel
theorem dX12_goesBehind_115 : decode cX12_goesBehind 115 = .ok (.getfield 215, 3) := by decide +kernel
theorem dX12_goesBehind_118 : decode cX12_goesBehind 118 = .ok (.iconst 1, 1) := by decide +kernel
theorem dX12_goesBehind_119 : decode cX12_goesBehind 119 = .ok (.isub, 1) := by decide +kernel
theorem dX12_goesBehind_120 : decode cX12_goesBehind 120 = .ok (.putfield 215, 3) := by decide +kernel
theorem dX12_goesBehind_123 : decode cX12_goesBehind 123 = .ok (.aload_n 0, 1) := by decide +kernel
theorem dX12_goesBehind_124 : decode cX12_goesBehind 124 = .ok (.invokevirtual 154, 3) := by decide +kernel
theorem dX12_goesBehind_127 : decode cX12_goesBehind 127 = .ok (.aload_n 0, 1) := by decide +kernel
theorem dX12_goesBehind_128 : decode cX12_goesBehind 128 = .ok (.iconst 3, 1) := by decide +kernel
theorem dX12_goesBehind_129 : decode cX12_goesBehind 129 = .ok (.invokevirtual 264, 3) := by decide +kernel
theorem dX12_goesBehind_132 : decode cX12_goesBehind 132 = .ok (.iconst 0, 1) := by decide +kernel
theorem dX12_goesBehind_133 : decode cX12_goesBehind 133 = .ok (.ireturn, 1) := by decide +kernel
theorem dX12_readsSum_0 : decode cX12_readsSum 0 = .ok (.aload_n 0, 1) := by decide +kernel
theorem dX12_readsSum_1 : decode cX12_readsSum 1 = .ok (.iconst 1, 1) := by decide +kernel
theorem dX12_readsSum_2 : decode cX12_readsSum 2 = .ok (.iload_n 1, 1) := by decide +kernel
theorem dX12_readsSum_3 : decode cX12_readsSum 3 = .ok (.ishl, 1) := by decide +kernel
theorem dX12_readsSum_4 : decode cX12_readsSum 4 = .ok (.putfield 180, 3) := by decide +kernel
theorem dX12_readsSum_7 : decode cX12_readsSum 7 = .ok (.aload_n 0, 1) := by decide +kernel
theorem dX12_readsSum_8 : decode cX12_readsSum 8 = .ok (.iconst 0, 1) := by decide +kernel
theorem dX12_readsSum_9 : decode cX12_readsSum 9 = .ok (.putfield 203, 3) := by decide +kernel
theorem dX12_readsSum_12 : decode cX12_readsSum 12 = .ok (.aload_n 0, 1) := by decide +kernel
theorem dX12_readsSum_13 : decode cX12_readsSum 13 = .ok (.iconst 0, 1) := by decide +kernel
theorem dX12_readsSum_14 : decode cX12_readsSum 14 = .ok (.putfield 206, 3) := by decide +kernel
theorem dX12_readsSum_17 : decode cX12_readsSum 17 = .ok (.aload_n 0, 1) := by decide +kernel
theorem dX12_readsSum_18 : decode cX12_readsSum 18 = .ok (.iconst 0, 1) := by decide +kernel
theorem dX12_readsSum_19 : decode cX12_readsSum 19 = .ok (.putfield 215, 3) := by decide +kernel
theorem dX12_readsSum_22 : decode cX12_readsSum 22 = .ok (.iconst 0, 1) := by decide +kernel
theorem dX12_readsSum_23 : decode cX12_readsSum 23 = .ok (.istore_n 3, 1) := by decide +kernel
theorem dX12_readsSum_24 : decode cX12_readsSum 24 = .ok (.iconst 1, 1) := by decide +kernel
theorem dX12_readsSum_25 : decode cX12_readsSum 25 = .ok (.istore 4, 2) := by decide +kernel
theorem dX12_readsSum_27 : decode cX12_readsSum 27 = .ok (.aload_n 0, 1) := by decide +kernel
theorem dX12_readsSum_28 : decode cX12_readsSum 28 = .ok (.invokevirtual 157, 3) := by decide +kernel
theorem dX12_readsSum_31 : decode cX12_readsSum 31 = .ok (.ifCond .eq 55, 3) := by decide +kernel
theorem dX12_readsSum_34 : decode cX12_readsSum 34 = .ok (.iload 4, 2) := by decide +kernel
theorem dX12_readsSum_36 : decode cX12_readsSum 36 = .ok (.ifCond .eq 50, 3) := by decide +kernel
theorem dX12_readsSum_39 : decode cX12_readsSum 39 = .ok (.iload_n 3, 1) := by decide +kernel
theorem dX12_readsSum_40 : decode cX12_readsSum 40 = .ok (.ifCond .ne 13, 3) := by decide +kernel
theorem dX12_readsSum_43 : decode cX12_readsSum 43 = .ok (.aload_n 0, 1) := by decide +kernel
theorem dX12_readsSum_44 : decode cX12_readsSum 44 = .ok (.iload_n 1, 1) := by decide +kernel
theorem dX12_readsSum_45 : decode cX12_readsSum 45 = .ok (.aload_n 2, 1) := by decide +kernel
theorem dX12_readsSum_46 : decode cX12_readsSum 46 = .ok (.invokevirtual 273, 3) := by decide +kernel
theorem dX12_readsSum_49 : decode cX12_readsSum 49 = .ok (.istore_n 3, 1) := by decide +kernel
theorem dX12_readsSum_50 : decode cX12_readsSum 50 = .ok (.goto (-23), 3) := by decide +kernel
theorem dX12_readsSum_53 : decode cX12_readsSum 53 = .ok (.aload_n 0, 1) := by decide +kernel
theorem dX12_readsSum_54 : decode cX12_readsSum 54 = .ok (.invokevirtual 277, 3) := by decide +kernel
theorem dX12_readsSum_57 : decode cX12_readsSum 57 = .ok (.istore 5, 2) := by decide +kernel
theorem dX12_readsSum_59 : decode cX12_readsSum 59 = .ok (.iload 5, 2) := by decide +kernel
theorem dX12_readsSum_61 : decode cX12_readsSum 61 = .ok (.ifCond .ne 7, 3) := by decide +kernel
theorem dX12_readsSum_64 : decode cX12_readsSum 64 = .ok (.iconst 1, 1) := by decide +kernel
theorem dX12_readsSum_65 : decode cX12_readsSum 65 = .ok (.goto 4, 3) := by decide +kernel
theorem dX12_readsSum_68 : decode cX12_readsSum 68 = .ok (.iconst 0, 1) := by decide +kernel
theorem dX12_readsSum_69 : decode cX12_readsSum 69 = .ok (.istore_n 3, 1) := by decide +kernel
theorem dX12_readsSum_70 : decode cX12_readsSum 70 = .ok (.iload 5, 2) := by decide +kernel
theorem dX12_readsSum_72 : decode cX12_readsSum 72 = .ok (.iconst (-1), 1) := by decide +kernel
theorem dX12_readsSum_73 : decode cX12_readsSum 73 = .ok (.if_icmp .eq 7, 3) := by decide +kernel
theorem dX12_readsSum_76 : decode cX12_readsSum 76 = .ok (.iconst 1, 1) := by decide +kernel
theorem dX12_readsSum_77 : decode cX12_readsSum 77 = .ok (.goto 4, 3) := by decide +kernel
theorem dX12_readsSum_80 : decode cX12_readsSum 80 = .ok (.iconst 0, 1) := by decide +kernel
theorem dX12_readsSum_81 : decode cX12_readsSum 81 = .ok (.istore 4, 2) := by decide +kernel
theorem dX12_readsSum_83 : decode cX12_readsSum 83 = .ok (.goto (-56), 3) := by decide +kernel
theorem dX12_readsSum_86 : decode cX12_readsSum 86 = .ok (.aload_n 0, 1) := by decide +kernel
theorem dX12_readsSum_87 : decode cX12_readsSum 87 = .ok (.invokevirtual 270, 3) := by decide +kernel
theorem dX12_readsSum_90 : decode cX12_readsSum 90 = .ok (.ifCond .eq 8, 3) := by decide +kernel
theorem dX12_readsSum_93 : decode cX12_readsSum 93 = .ok (.aload_n 0, 1) := by decide +kernel
theorem dX12_readsSum_94 : decode cX12_readsSum 94 = .ok (.iconst 1, 1) := by decide +kernel
theorem dX12_readsSum_95 : decode cX12_readsSum 95 = .ok (.invokevirtual 176, 3) := by decide +kernel
theorem dX12_readsSum_98 : decode cX12_readsSum 98 = .ok (.aload_n 0, 1) := by decide +kernel
theorem dX12_readsSum_99 : decode cX12_readsSum 99 = .ok (.invokevirtual 157, 3) := by decide +kernel
theorem dX12_readsSum_102 : decode cX12_readsSum 102 = .ok (.ifCond .eq 8, 3) := by decide +kernel
theorem dX12_readsSum_105 : decode cX12_readsSum 105 = .ok (.aload_n 0, 1) := by decide +kernel
theorem dX12_readsSum_106 : decode cX12_readsSum 106 = .ok (.iconst 1, 1) := by decide +kernel
theorem dX12_readsSum_107 : decode cX12_readsSum 107 = .ok (.invokevirtual 264, 3) := by decide +kernel
theorem dX12_readsSum_110 : decode cX12_readsSum 110 = .ok (.return_, 1) := by decide +kernel
theorem dX12_readsNames_0 : decode cX12_readsNames 0 = .ok (.aload_n 0, 1) := by decide +kernel
theorem dX12_readsNames_1 : decode cX12_readsNames 1 = .ok (.ldc_w 280, 3) := by decide +kernel
theorem dX12_readsNames_4 : decode cX12_readsNames 4 = .ok (.invokevirtual 282, 3) := by decide +kernel
theorem dX12_readsNames_7 : decode cX12_readsNames 7 = .ok (.aload_n 0, 1) := by decide +kernel
theorem dX12_readsNames_8 : decode cX12_readsNames 8 = .ok (.getfield 52, 3) := by decide +kernel
theorem dX12_readsNames_11 : decode cX12_readsNames 11 = .ok (.iconst 0, 1) := by decide +kernel
theorem dX12_readsNames_12 : decode cX12_readsNames 12 = .ok (.aload_n 0, 1) := by decide +kernel
theorem dX12_readsNames_13 : decode cX12_readsNames 13 = .ok (.iconst 1, 1) := by decide +kernel
theorem dX12_readsNames_14 : decode cX12_readsNames 14 = .ok (.bipush 10, 2) := by decide +kernel
theorem dX12_readsNames_16 : decode cX12_readsNames 16 = .ok (.invokevirtual 239, 3) := by decide +kernel
theorem dX12_readsNames_19 : decode cX12_readsNames 19 = .ok (.iastore, 1) := by decide +kernel
theorem dX12_readsNames_20 : decode cX12_readsNames 20 = .ok (.iconst 0, 1) := by decide +kernel
theorem dX12_readsNames_21 : decode cX12_readsNames 21 = .ok (.istore_n 1, 1) := by decide +kernel
theorem dX12_readsNames_22 : decode cX12_readsNames 22 = .ok (.iload_n 1, 1) := by decide +kernel
theorem dX12_readsNames_23 : decode cX12_readsNames 23 = .ok (.bipush 10, 2) := by decide +kernel
theorem dX12_readsNames_25 : decode cX12_readsNames 25 = .ok (.if_icmp .ge 28, 3) := by decide +kernel
theorem dX12_readsNames_28 : decode cX12_readsNames 28 = .ok (.aload_n 0, 1) := by decide +kernel
theorem dX12_readsNames_29 : decode cX12_readsNames 29 = .ok (.getfield 52, 3) := by decide +kernel
theorem dX12_readsNames_32 : decode cX12_readsNames 32 = .ok (.iconst 3, 1) := by decide +kernel
theorem dX12_readsNames_33 : decode cX12_readsNames 33 = .ok (.iload_n 1, 1) := by decide +kernel
theorem dX12_readsNames_34 : decode cX12_readsNames 34 = .ok (.iadd, 1) := by decide +kernel
theorem dX12_readsNames_35 : decode cX12_readsNames 35 = .ok (.iconst 1, 1) := by decide +kernel
theorem dX12_readsNames_36 : decode cX12_readsNames 36 = .ok (.iastore, 1) := by decide +kernel
theorem dX12_readsNames_37 : decode cX12_readsNames 37 = .ok (.aload_n 0, 1) := by decide +kernel
theorem dX12_readsNames_38 : decode cX12_readsNames 38 = .ok (.getfield 52, 3) := by decide +kernel
theorem dX12_readsNames_41 : decode cX12_readsNames 41 = .ok (.bipush 33, 2) := by decide +kernel
theorem dX12_readsNames_43 : decode cX12_readsNames 43 = .ok (.iload_n 1, 1) := by decide +kernel
theorem dX12_readsNames_44 : decode cX12_readsNames 44 = .ok (.iadd, 1) := by decide +kernel
theorem dX12_readsNames_45 : decode cX12_readsNames 45 = .ok (.iload_n 1, 1) := by decide +kernel
theorem dX12_readsNames_46 : decode cX12_readsNames 46 = .ok (.iastore, 1) := by decide +kernel
theorem dX12_readsNames_47 : decode cX12_readsNames 47 = .ok (.iinc 1 1, 3) := by decide +kernel
theorem dX12_readsNames_50 : decode cX12_readsNames 50 = .ok (.goto (-28), 3) := by decide +kernel
theorem dX12_readsNames_53 : decode cX12_readsNames 53 = .ok (.return_, 1) := by decide +kernel
theorem dX12_readsName_0 : decode cX12_readsName 0 = .ok (.aload_n 0, 1) := by decide +kernel
theorem dX12_readsName_1 : decode cX12_readsName 1 = .ok (.invokevirtual 157, 3) := by decide +kernel
theorem dX12_readsName_4 : decode cX12_readsName 4 = .ok (.ifCond .eq 16, 3) := by decide +kernel
theorem dX12_readsName_7 : decode cX12_readsName 7 = .ok (.aload_n 0, 1) := by decide +kernel
theorem dX12_readsName_8 : decode cX12_readsName 8 = .ok (.getfield 123, 3) := by decide +kernel
theorem dX12_readsName_11 : decode cX12_readsName 11 = .ok (.iconst 1, 1) := by decide +kernel
theorem dX12_readsName_12 : decode cX12_readsName 12 = .ok (.if_icmp .eq 8, 3) := by decide +kernel
theorem dX12_readsName_15 : decode cX12_readsName 15 = .ok (.aload_n 0, 1) := by decide +kernel
theorem dX12_readsName_16 : decode cX12_readsName 16 = .ok (.iconst 1, 1) := by decide +kernel
theorem dX12_readsName_17 : decode cX12_readsName 17 = .ok (.invokevirtual 176, 3) := by decide +kernel
theorem dX12_readsName_20 : decode cX12_readsName 20 = .ok (.aload_n 0, 1) := by decide +kernel
theorem dX12_readsName_21 : decode cX12_readsName 21 = .ok (.invokevirtual 157, 3) := by decide +kernel
theorem dX12_readsName_24 : decode cX12_readsName 24 = .ok (.ifCond .eq 42, 3) := by decide +kernel
theorem dX12_readsName_27 : decode cX12_readsName 27 = .ok (.aload_n 0, 1) := by decide +kernel
theorem dX12_readsName_28 : decode cX12_readsName 28 = .ok (.getfield 113, 3) := by decide +kernel
theorem dX12_readsName_31 : decode cX12_readsName 31 = .ok (.aload_n 0, 1) := by decide +kernel
theorem dX12_readsName_32 : decode cX12_readsName 32 = .ok (.getfield 120, 3) := by decide +kernel
theorem dX12_readsName_35 : decode cX12_readsName 35 = .ok (.isub, 1) := by decide +kernel
theorem dX12_readsName_36 : decode cX12_readsName 36 = .ok (.iconst 1, 1) := by decide +kernel
theorem dX12_readsName_37 : decode cX12_readsName 37 = .ok (.if_icmp .gt 24, 3) := by decide +kernel
theorem dX12_readsName_40 : decode cX12_readsName 40 = .ok (.aload_n 0, 1) := by decide +kernel
theorem dX12_readsName_41 : decode cX12_readsName 41 = .ok (.getfield 26, 3) := by decide +kernel
theorem dX12_readsName_44 : decode cX12_readsName 44 = .ok (.aload_n 0, 1) := by decide +kernel
theorem dX12_readsName_45 : decode cX12_readsName 45 = .ok (.getfield 120, 3) := by decide +kernel
theorem dX12_readsName_48 : decode cX12_readsName 48 = .ok (.baload, 1) := by decide +kernel
theorem dX12_readsName_49 : decode cX12_readsName 49 = .ok (.bipush 97, 2) := by decide +kernel
theorem dX12_readsName_51 : decode cX12_readsName 51 = .ok (.isub, 1) := by decide +kernel
theorem dX12_readsName_52 : decode cX12_readsName 52 = .ok (.aload_n 0, 1) := by decide +kernel
theorem dX12_readsName_53 : decode cX12_readsName 53 = .ok (.getfield 52, 3) := by decide +kernel
theorem dX12_readsName_56 : decode cX12_readsName 56 = .ok (.iconst 0, 1) := by decide +kernel
theorem dX12_readsName_57 : decode cX12_readsName 57 = .ok (.iaload, 1) := by decide +kernel
theorem dX12_readsName_58 : decode cX12_readsName 58 = .ok (.if_icmp .lt 8, 3) := by decide +kernel
theorem dX12_readsName_61 : decode cX12_readsName 61 = .ok (.aload_n 0, 1) := by decide +kernel
theorem dX12_readsName_62 : decode cX12_readsName 62 = .ok (.iconst 2, 1) := by decide +kernel
theorem dX12_readsName_63 : decode cX12_readsName 63 = .ok (.invokevirtual 176, 3) := by decide +kernel
theorem dX12_readsName_66 : decode cX12_readsName 66 = .ok (.aload_n 0, 1) := by decide +kernel
theorem dX12_readsName_67 : decode cX12_readsName 67 = .ok (.invokevirtual 157, 3) := by decide +kernel
theorem dX12_readsName_70 : decode cX12_readsName 70 = .ok (.ifCond .eq 18, 3) := by decide +kernel
theorem dX12_readsName_73 : decode cX12_readsName 73 = .ok (.aload_n 0, 1) := by decide +kernel
theorem dX12_readsName_74 : decode cX12_readsName 74 = .ok (.getfield 26, 3) := by decide +kernel
theorem dX12_readsName_77 : decode cX12_readsName 77 = .ok (.aload_n 0, 1) := by decide +kernel
theorem dX12_readsName_78 : decode cX12_readsName 78 = .ok (.getfield 120, 3) := by decide +kernel
theorem dX12_readsName_81 : decode cX12_readsName 81 = .ok (.baload, 1) := by decide +kernel
theorem dX12_readsName_82 : decode cX12_readsName 82 = .ok (.bipush 97, 2) := by decide +kernel
theorem dX12_readsName_84 : decode cX12_readsName 84 = .ok (.isub, 1) := by decide +kernel
theorem dX12_readsName_85 : decode cX12_readsName 85 = .ok (.goto 4, 3) := by decide +kernel
theorem dX12_readsName_88 : decode cX12_readsName 88 = .ok (.iconst 0, 1) := by decide +kernel
theorem dX12_readsName_89 : decode cX12_readsName 89 = .ok (.istore_n 1, 1) := by decide +kernel
theorem dX12_readsName_90 : decode cX12_readsName 90 = .ok (.aload_n 0, 1) := by decide +kernel
theorem dX12_readsName_91 : decode cX12_readsName 91 = .ok (.invokevirtual 157, 3) := by decide +kernel
theorem dX12_readsName_94 : decode cX12_readsName 94 = .ok (.ifCond .eq 7, 3) := by decide +kernel
theorem dX12_readsName_97 : decode cX12_readsName 97 = .ok (.aload_n 0, 1) := by decide +kernel
theorem dX12_readsName_98 : decode cX12_readsName 98 = .ok (.invokevirtual 154, 3) := by decide +kernel
theorem dX12_readsName_101 : decode cX12_readsName 101 = .ok (.iload_n 1, 1) := by decide +kernel
theorem dX12_readsName_102 : decode cX12_readsName 102 = .ok (.ireturn, 1) := by decide +kernel
theorem dX12_readsEdge_0 : decode cX12_readsEdge 0 = .ok (.aload_n 0, 1) := by decide +kernel
theorem dX12_readsEdge_1 : decode cX12_readsEdge 1 = .ok (.iconst 0, 1) := by decide +kernel
theorem dX12_readsEdge_2 : decode cX12_readsEdge 2 = .ok (.bipush 7, 2) := by decide +kernel
theorem dX12_readsEdge_4 : decode cX12_readsEdge 4 = .ok (.invokevirtual 239, 3) := by decide +kernel
theorem dX12_readsEdge_7 : decode cX12_readsEdge 7 = .ok (.istore_n 1, 1) := by decide +kernel
theorem dX12_readsEdge_8 : decode cX12_readsEdge 8 = .ok (.aload_n 0, 1) := by decide +kernel
theorem dX12_readsEdge_9 : decode cX12_readsEdge 9 = .ok (.invokevirtual 157, 3) := by decide +kernel
theorem dX12_readsEdge_12 : decode cX12_readsEdge 12 = .ok (.ifCond .eq 24, 3) := by decide +kernel
theorem dX12_readsEdge_15 : decode cX12_readsEdge 15 = .ok (.aload_n 0, 1) := by decide +kernel
theorem dX12_readsEdge_16 : decode cX12_readsEdge 16 = .ok (.getfield 123, 3) := by decide +kernel
theorem dX12_readsEdge_19 : decode cX12_readsEdge 19 = .ok (.iconst 2, 1) := by decide +kernel
theorem dX12_readsEdge_20 : decode cX12_readsEdge 20 = .ok (.if_icmp .ne 16, 3) := by decide +kernel
theorem dX12_readsEdge_23 : decode cX12_readsEdge 23 = .ok (.aload_n 0, 1) := by decide +kernel
theorem dX12_readsEdge_24 : decode cX12_readsEdge 24 = .ok (.getfield 134, 3) := by decide +kernel
theorem dX12_readsEdge_27 : decode cX12_readsEdge 27 = .ok (.iload_n 1, 1) := by decide +kernel
theorem dX12_readsEdge_28 : decode cX12_readsEdge 28 = .ok (.if_icmp .ne 8, 3) := by decide +kernel
theorem dX12_readsEdge_31 : decode cX12_readsEdge 31 = .ok (.aload_n 0, 1) := by decide +kernel
theorem dX12_readsEdge_32 : decode cX12_readsEdge 32 = .ok (.iconst 2, 1) := by decide +kernel
theorem dX12_readsEdge_33 : decode cX12_readsEdge 33 = .ok (.invokevirtual 176, 3) := by decide +kernel
theorem dX12_readsEdge_36 : decode cX12_readsEdge 36 = .ok (.aload_n 0, 1) := by decide +kernel
theorem dX12_readsEdge_37 : decode cX12_readsEdge 37 = .ok (.iconst 0, 1) := by decide +kernel
theorem dX12_readsEdge_38 : decode cX12_readsEdge 38 = .ok (.bipush 7, 2) := by decide +kernel
theorem dX12_readsEdge_40 : decode cX12_readsEdge 40 = .ok (.invokevirtual 239, 3) := by decide +kernel
theorem dX12_readsEdge_43 : decode cX12_readsEdge 43 = .ok (.istore_n 2, 1) := by decide +kernel
theorem dX12_readsEdge_44 : decode cX12_readsEdge 44 = .ok (.aload_n 0, 1) := by decide +kernel
theorem dX12_readsEdge_45 : decode cX12_readsEdge 45 = .ok (.invokevirtual 157, 3) := by decide +kernel
theorem dX12_readsEdge_48 : decode cX12_readsEdge 48 = .ok (.ifCond .ne 4, 3) := by decide +kernel
theorem dX12_readsEdge_51 : decode cX12_readsEdge 51 = .ok (.return_, 1) := by decide +kernel
theorem dX12_readsEdge_52 : decode cX12_readsEdge 52 = .ok (.aload_n 0, 1) := by decide +kernel
theorem dX12_readsEdge_53 : decode cX12_readsEdge 53 = .ok (.getfield 52, 3) := by decide +kernel
theorem dX12_readsEdge_56 : decode cX12_readsEdge 56 = .ok (.bipush 13, 2) := by decide +kernel
theorem dX12_readsEdge_58 : decode cX12_readsEdge 58 = .ok (.aload_n 0, 1) := by decide +kernel
theorem dX12_readsEdge_59 : decode cX12_readsEdge 59 = .ok (.getfield 52, 3) := by decide +kernel
theorem dX12_readsEdge_62 : decode cX12_readsEdge 62 = .ok (.iconst 2, 1) := by decide +kernel
theorem dX12_readsEdge_63 : decode cX12_readsEdge 63 = .ok (.iaload, 1) := by decide +kernel
theorem dX12_readsEdge_64 : decode cX12_readsEdge 64 = .ok (.iadd, 1) := by decide +kernel
theorem dX12_readsEdge_65 : decode cX12_readsEdge 65 = .ok (.iload_n 1, 1) := by decide +kernel
theorem dX12_readsEdge_66 : decode cX12_readsEdge 66 = .ok (.iastore, 1) := by decide +kernel
theorem dX12_readsEdge_67 : decode cX12_readsEdge 67 = .ok (.aload_n 0, 1) := by decide +kernel
theorem dX12_readsEdge_68 : decode cX12_readsEdge 68 = .ok (.getfield 52, 3) := by decide +kernel
theorem dX12_readsEdge_71 : decode cX12_readsEdge 71 = .ok (.bipush 23, 2) := by decide +kernel
theorem dX12_readsEdge_73 : decode cX12_readsEdge 73 = .ok (.aload_n 0, 1) := by decide +kernel
theorem dX12_readsEdge_74 : decode cX12_readsEdge 74 = .ok (.getfield 52, 3) := by decide +kernel
theorem dX12_readsEdge_77 : decode cX12_readsEdge 77 = .ok (.iconst 2, 1) := by decide +kernel
theorem dX12_readsEdge_78 : decode cX12_readsEdge 78 = .ok (.iaload, 1) := by decide +kernel
theorem dX12_readsEdge_79 : decode cX12_readsEdge 79 = .ok (.iadd, 1) := by decide +kernel
theorem dX12_readsEdge_80 : decode cX12_readsEdge 80 = .ok (.iload_n 2, 1) := by decide +kernel
theorem dX12_readsEdge_81 : decode cX12_readsEdge 81 = .ok (.iastore, 1) := by decide +kernel
theorem dX12_readsEdge_82 : decode cX12_readsEdge 82 = .ok (.aload_n 0, 1) := by decide +kernel
theorem dX12_readsEdge_83 : decode cX12_readsEdge 83 = .ok (.getfield 52, 3) := by decide +kernel
theorem dX12_readsEdge_86 : decode cX12_readsEdge 86 = .ok (.iconst 2, 1) := by decide +kernel
theorem dX12_readsEdge_87 : decode cX12_readsEdge 87 = .ok (.dup2, 1) := by decide +kernel
theorem dX12_readsEdge_88 : decode cX12_readsEdge 88 = .ok (.iaload, 1) := by decide +kernel
theorem dX12_readsEdge_89 : decode cX12_readsEdge 89 = .ok (.iconst 1, 1) := by decide +kernel
theorem dX12_readsEdge_90 : decode cX12_readsEdge 90 = .ok (.iadd, 1) := by decide +kernel
theorem dX12_readsEdge_91 : decode cX12_readsEdge 91 = .ok (.iastore, 1) := by decide +kernel
theorem dX12_readsEdge_92 : decode cX12_readsEdge 92 = .ok (.return_, 1) := by decide +kernel
theorem dX12_readsLet_0 : decode cX12_readsLet 0 = .ok (.aload_n 0, 1) := by decide +kernel
theorem dX12_readsLet_1 : decode cX12_readsLet 1 = .ok (.iconst 0, 1) := by decide +kernel
theorem dX12_readsLet_2 : decode cX12_readsLet 2 = .ok (.bipush 9, 2) := by decide +kernel
theorem dX12_readsLet_4 : decode cX12_readsLet 4 = .ok (.invokevirtual 239, 3) := by decide +kernel
theorem dX12_readsLet_7 : decode cX12_readsLet 7 = .ok (.istore_n 1, 1) := by decide +kernel
theorem dX12_readsLet_8 : decode cX12_readsLet 8 = .ok (.aload_n 0, 1) := by decide +kernel
theorem dX12_readsLet_9 : decode cX12_readsLet 9 = .ok (.bipush 61, 2) := by decide +kernel
theorem dX12_readsLet_11 : decode cX12_readsLet 11 = .ok (.invokevirtual 251, 3) := by decide +kernel
theorem dX12_readsLet_14 : decode cX12_readsLet 14 = .ok (.aload_n 0, 1) := by decide +kernel
theorem dX12_readsLet_15 : decode cX12_readsLet 15 = .ok (.invokevirtual 157, 3) := by decide +kernel
theorem dX12_readsLet_18 : decode cX12_readsLet 18 = .ok (.ifCond .eq 17, 3) := by decide +kernel
theorem dX12_readsLet_21 : decode cX12_readsLet 21 = .ok (.aload_n 0, 1) := by decide +kernel
theorem dX12_readsLet_22 : decode cX12_readsLet 22 = .ok (.aload_n 0, 1) := by decide +kernel
theorem dX12_readsLet_23 : decode cX12_readsLet 23 = .ok (.getfield 52, 3) := by decide +kernel
theorem dX12_readsLet_26 : decode cX12_readsLet 26 = .ok (.iconst 0, 1) := by decide +kernel
theorem dX12_readsLet_27 : decode cX12_readsLet 27 = .ok (.iaload, 1) := by decide +kernel
theorem dX12_readsLet_28 : decode cX12_readsLet 28 = .ok (.aload_n 0, 1) := by decide +kernel
theorem dX12_readsLet_29 : decode cX12_readsLet 29 = .ok (.getfield 55, 3) := by decide +kernel
theorem dX12_readsLet_32 : decode cX12_readsLet 32 = .ok (.invokevirtual 286, 3) := by decide +kernel
theorem dX12_readsLet_35 : decode cX12_readsLet 35 = .ok (.iconst 0, 1) := by decide +kernel
theorem dX12_readsLet_36 : decode cX12_readsLet 36 = .ok (.istore_n 2, 1) := by decide +kernel
theorem dX12_readsLet_37 : decode cX12_readsLet 37 = .ok (.iload_n 2, 1) := by decide +kernel
theorem dX12_readsLet_38 : decode cX12_readsLet 38 = .ok (.sipush 1024, 3) := by decide +kernel
theorem dX12_readsLet_41 : decode cX12_readsLet 41 = .ok (.if_icmp .ge 34, 3) := by decide +kernel
theorem dX12_readsLet_44 : decode cX12_readsLet 44 = .ok (.aload_n 0, 1) := by decide +kernel
theorem dX12_readsLet_45 : decode cX12_readsLet 45 = .ok (.invokevirtual 157, 3) := by decide +kernel
theorem dX12_readsLet_48 : decode cX12_readsLet 48 = .ok (.ifCond .eq 27, 3) := by decide +kernel
theorem dX12_readsLet_51 : decode cX12_readsLet 51 = .ok (.aload_n 0, 1) := by decide +kernel
theorem dX12_readsLet_52 : decode cX12_readsLet 52 = .ok (.getfield 55, 3) := by decide +kernel
theorem dX12_readsLet_55 : decode cX12_readsLet 55 = .ok (.sipush 1024, 3) := by decide +kernel
theorem dX12_readsLet_58 : decode cX12_readsLet 58 = .ok (.iload_n 1, 1) := by decide +kernel
theorem dX12_readsLet_59 : decode cX12_readsLet 59 = .ok (.imul, 1) := by decide +kernel
theorem dX12_readsLet_60 : decode cX12_readsLet 60 = .ok (.iload_n 2, 1) := by decide +kernel
theorem dX12_readsLet_61 : decode cX12_readsLet 61 = .ok (.iadd, 1) := by decide +kernel
theorem dX12_readsLet_62 : decode cX12_readsLet 62 = .ok (.aload_n 0, 1) := by decide +kernel
theorem dX12_readsLet_63 : decode cX12_readsLet 63 = .ok (.getfield 37, 3) := by decide +kernel
theorem dX12_readsLet_66 : decode cX12_readsLet 66 = .ok (.iload_n 2, 1) := by decide +kernel
theorem dX12_readsLet_67 : decode cX12_readsLet 67 = .ok (.baload, 1) := by decide +kernel
theorem dX12_readsLet_68 : decode cX12_readsLet 68 = .ok (.bastore, 1) := by decide +kernel
theorem dX12_readsLet_69 : decode cX12_readsLet 69 = .ok (.iinc 2 1, 3) := by decide +kernel
theorem dX12_readsLet_72 : decode cX12_readsLet 72 = .ok (.goto (-35), 3) := by decide +kernel
theorem dX12_readsLet_75 : decode cX12_readsLet 75 = .ok (.return_, 1) := by decide +kernel
theorem dX12_readsLine_0 : decode cX12_readsLine 0 = .ok (.aload_n 0, 1) := by decide +kernel
theorem dX12_readsLine_1 : decode cX12_readsLine 1 = .ok (.ldc_w 290, 3) := by decide +kernel
theorem dX12_readsLine_4 : decode cX12_readsLine 4 = .ok (.invokevirtual 169, 3) := by decide +kernel
theorem dX12_readsLine_7 : decode cX12_readsLine 7 = .ok (.ifCond .ne 28, 3) := by decide +kernel
theorem dX12_readsLine_10 : decode cX12_readsLine 10 = .ok (.aload_n 0, 1) := by decide +kernel
theorem dX12_readsLine_11 : decode cX12_readsLine 11 = .ok (.ldc_w 292, 3) := by decide +kernel
theorem dX12_readsLine_14 : decode cX12_readsLine 14 = .ok (.invokevirtual 169, 3) := by decide +kernel
theorem dX12_readsLine_17 : decode cX12_readsLine 17 = .ok (.ifCond .ne 18, 3) := by decide +kernel
theorem dX12_readsLine_20 : decode cX12_readsLine 20 = .ok (.aload_n 0, 1) := by decide +kernel
theorem dX12_readsLine_21 : decode cX12_readsLine 21 = .ok (.ldc_w 294, 3) := by decide +kernel
theorem dX12_readsLine_24 : decode cX12_readsLine 24 = .ok (.invokevirtual 169, 3) := by decide +kernel
theorem dX12_readsLine_27 : decode cX12_readsLine 27 = .ok (.ifCond .ne 8, 3) := by decide +kernel
theorem dX12_readsLine_30 : decode cX12_readsLine 30 = .ok (.aload_n 0, 1) := by decide +kernel
theorem dX12_readsLine_31 : decode cX12_readsLine 31 = .ok (.iconst 1, 1) := by decide +kernel
theorem dX12_readsLine_32 : decode cX12_readsLine 32 = .ok (.invokevirtual 176, 3) := by decide +kernel
theorem dX12_readsLine_35 : decode cX12_readsLine 35 = .ok (.aload_n 0, 1) := by decide +kernel
theorem dX12_readsLine_36 : decode cX12_readsLine 36 = .ok (.ldc_w 292, 3) := by decide +kernel
theorem dX12_readsLine_39 : decode cX12_readsLine 39 = .ok (.invokevirtual 169, 3) := by decide +kernel
theorem dX12_readsLine_42 : decode cX12_readsLine 42 = .ok (.ifCond .eq 23, 3) := by decide +kernel
theorem dX12_readsLine_45 : decode cX12_readsLine 45 = .ok (.aload_n 0, 1) := by decide +kernel
theorem dX12_readsLine_46 : decode cX12_readsLine 46 = .ok (.getfield 52, 3) := by decide +kernel
theorem dX12_readsLine_49 : decode cX12_readsLine 49 = .ok (.iconst 2, 1) := by decide +kernel
theorem dX12_readsLine_50 : decode cX12_readsLine 50 = .ok (.iaload, 1) := by decide +kernel
theorem dX12_readsLine_51 : decode cX12_readsLine 51 = .ok (.aload_n 0, 1) := by decide +kernel
theorem dX12_readsLine_52 : decode cX12_readsLine 52 = .ok (.getfield 52, 3) := by decide +kernel
theorem dX12_readsLine_55 : decode cX12_readsLine 55 = .ok (.iconst 0, 1) := by decide +kernel
theorem dX12_readsLine_56 : decode cX12_readsLine 56 = .ok (.iaload, 1) := by decide +kernel
theorem dX12_readsLine_57 : decode cX12_readsLine 57 = .ok (.if_icmp .ne 8, 3) := by decide +kernel
theorem dX12_readsLine_60 : decode cX12_readsLine 60 = .ok (.aload_n 0, 1) := by decide +kernel
theorem dX12_readsLine_61 : decode cX12_readsLine 61 = .ok (.iconst 3, 1) := by decide +kernel
theorem dX12_readsLine_62 : decode cX12_readsLine 62 = .ok (.invokevirtual 176, 3) := by decide +kernel
theorem dX12_readsLine_65 : decode cX12_readsLine 65 = .ok (.aload_n 0, 1) := by decide +kernel
theorem dX12_readsLine_66 : decode cX12_readsLine 66 = .ok (.invokevirtual 157, 3) := by decide +kernel
theorem dX12_readsLine_69 : decode cX12_readsLine 69 = .ok (.ifCond .ne 4, 3) := by decide +kernel
theorem dX12_readsLine_72 : decode cX12_readsLine 72 = .ok (.return_, 1) := by decide +kernel
theorem dX12_readsLine_73 : decode cX12_readsLine 73 = .ok (.aload_n 0, 1) := by decide +kernel
theorem dX12_readsLine_74 : decode cX12_readsLine 74 = .ok (.ldc_w 290, 3) := by decide +kernel
theorem dX12_readsLine_77 : decode cX12_readsLine 77 = .ok (.invokevirtual 173, 3) := by decide +kernel
theorem dX12_readsLine_80 : decode cX12_readsLine 80 = .ok (.ifCond .eq 26, 3) := by decide +kernel
theorem dX12_readsLine_83 : decode cX12_readsLine 83 = .ok (.aload_n 0, 1) := by decide +kernel
theorem dX12_readsLine_84 : decode cX12_readsLine 84 = .ok (.invokevirtual 296, 3) := by decide +kernel
theorem dX12_readsLine_87 : decode cX12_readsLine 87 = .ok (.istore_n 1, 1) := by decide +kernel
theorem dX12_readsLine_88 : decode cX12_readsLine 88 = .ok (.aload_n 0, 1) := by decide +kernel
theorem dX12_readsLine_89 : decode cX12_readsLine 89 = .ok (.getfield 52, 3) := by decide +kernel
theorem dX12_readsLine_92 : decode cX12_readsLine 92 = .ok (.iconst 3, 1) := by decide +kernel
theorem dX12_readsLine_93 : decode cX12_readsLine 93 = .ok (.iload_n 1, 1) := by decide +kernel
theorem dX12_readsLine_94 : decode cX12_readsLine 94 = .ok (.iadd, 1) := by decide +kernel
theorem dX12_readsLine_95 : decode cX12_readsLine 95 = .ok (.aload_n 0, 1) := by decide +kernel
theorem dX12_readsLine_96 : decode cX12_readsLine 96 = .ok (.iconst 0, 1) := by decide +kernel
theorem dX12_readsLine_97 : decode cX12_readsLine 97 = .ok (.bipush 99, 2) := by decide +kernel
theorem dX12_readsLine_99 : decode cX12_readsLine 99 = .ok (.invokevirtual 239, 3) := by decide +kernel
theorem dX12_readsLine_102 : decode cX12_readsLine 102 = .ok (.iastore, 1) := by decide +kernel
theorem dX12_readsLine_103 : decode cX12_readsLine 103 = .ok (.goto 28, 3) := by decide +kernel
theorem dX12_readsLine_106 : decode cX12_readsLine 106 = .ok (.aload_n 0, 1) := by decide +kernel
theorem dX12_readsLine_107 : decode cX12_readsLine 107 = .ok (.ldc_w 292, 3) := by decide +kernel
theorem dX12_readsLine_110 : decode cX12_readsLine 110 = .ok (.invokevirtual 173, 3) := by decide +kernel
theorem dX12_readsLine_113 : decode cX12_readsLine 113 = .ok (.ifCond .eq 10, 3) := by decide +kernel
theorem dX12_readsLine_116 : decode cX12_readsLine 116 = .ok (.aload_n 0, 1) := by decide +kernel
theorem dX12_readsLine_117 : decode cX12_readsLine 117 = .ok (.invokevirtual 299, 3) := by decide +kernel
theorem dX12_readsLine_120 : decode cX12_readsLine 120 = .ok (.goto 11, 3) := by decide +kernel
theorem dX12_readsLine_123 : decode cX12_readsLine 123 = .ok (.aload_n 0, 1) := by decide +kernel
theorem dX12_readsLine_124 : decode cX12_readsLine 124 = .ok (.invokevirtual 154, 3) := by decide +kernel
theorem dX12_readsLine_127 : decode cX12_readsLine 127 = .ok (.aload_n 0, 1) := by decide +kernel
theorem dX12_readsLine_128 : decode cX12_readsLine 128 = .ok (.invokevirtual 302, 3) := by decide +kernel
theorem dX12_readsLine_131 : decode cX12_readsLine 131 = .ok (.return_, 1) := by decide +kernel
theorem dX12_world_0 : decode cX12_world 0 = .ok (.aload_n 0, 1) := by decide +kernel
theorem dX12_world_1 : decode cX12_world 1 = .ok (.invokevirtual 305, 3) := by decide +kernel
theorem dX12_world_4 : decode cX12_world 4 = .ok (.iconst 0, 1) := by decide +kernel
theorem dX12_world_5 : decode cX12_world 5 = .ok (.istore_n 1, 1) := by decide +kernel
theorem dX12_world_6 : decode cX12_world 6 = .ok (.iload_n 1, 1) := by decide +kernel
theorem dX12_world_7 : decode cX12_world 7 = .ok (.bipush 43, 2) := by decide +kernel
theorem dX12_world_9 : decode cX12_world 9 = .ok (.if_icmp .ge 16, 3) := by decide +kernel
theorem dX12_world_12 : decode cX12_world 12 = .ok (.aload_n 0, 1) := by decide +kernel
theorem dX12_world_13 : decode cX12_world 13 = .ok (.getfield 52, 3) := by decide +kernel
theorem dX12_world_16 : decode cX12_world 16 = .ok (.iload_n 1, 1) := by decide +kernel
theorem dX12_world_17 : decode cX12_world 17 = .ok (.iconst 0, 1) := by decide +kernel
theorem dX12_world_18 : decode cX12_world 18 = .ok (.iastore, 1) := by decide +kernel
theorem dX12_world_19 : decode cX12_world 19 = .ok (.iinc 1 1, 3) := by decide +kernel
theorem dX12_world_22 : decode cX12_world 22 = .ok (.goto (-16), 3) := by decide +kernel
theorem dX12_world_25 : decode cX12_world 25 = .ok (.iconst 0, 1) := by decide +kernel
theorem dX12_world_26 : decode cX12_world 26 = .ok (.istore_n 1, 1) := by decide +kernel
theorem dX12_world_27 : decode cX12_world 27 = .ok (.iload_n 1, 1) := by decide +kernel
theorem dX12_world_28 : decode cX12_world 28 = .ok (.sipush 10240, 3) := by decide +kernel
theorem dX12_world_31 : decode cX12_world 31 = .ok (.if_icmp .ge 16, 3) := by decide +kernel
theorem dX12_world_34 : decode cX12_world 34 = .ok (.aload_n 0, 1) := by decide +kernel
theorem dX12_world_35 : decode cX12_world 35 = .ok (.getfield 55, 3) := by decide +kernel
theorem dX12_world_38 : decode cX12_world 38 = .ok (.iload_n 1, 1) := by decide +kernel
theorem dX12_world_39 : decode cX12_world 39 = .ok (.iconst 0, 1) := by decide +kernel
theorem dX12_world_40 : decode cX12_world 40 = .ok (.bastore, 1) := by decide +kernel
theorem dX12_world_41 : decode cX12_world 41 = .ok (.iinc 1 1, 3) := by decide +kernel
theorem dX12_world_44 : decode cX12_world 44 = .ok (.goto (-17), 3) := by decide +kernel
theorem dX12_world_47 : decode cX12_world 47 = .ok (.aload_n 0, 1) := by decide +kernel
theorem dX12_world_48 : decode cX12_world 48 = .ok (.invokevirtual 157, 3) := by decide +kernel
theorem dX12_world_51 : decode cX12_world 51 = .ok (.ifCond .eq 49, 3) := by decide +kernel
theorem dX12_world_54 : decode cX12_world 54 = .ok (.aload_n 0, 1) := by decide +kernel
theorem dX12_world_55 : decode cX12_world 55 = .ok (.getfield 123, 3) := by decide +kernel
theorem dX12_world_58 : decode cX12_world 58 = .ok (.ifCond .eq 42, 3) := by decide +kernel
theorem dX12_world_61 : decode cX12_world 61 = .ok (.aload_n 0, 1) := by decide +kernel
theorem dX12_world_62 : decode cX12_world 62 = .ok (.getfield 52, 3) := by decide +kernel
theorem dX12_world_65 : decode cX12_world 65 = .ok (.iconst 1, 1) := by decide +kernel
theorem dX12_world_66 : decode cX12_world 66 = .ok (.iaload, 1) := by decide +kernel
theorem dX12_world_67 : decode cX12_world 67 = .ok (.ifCond .ne 10, 3) := by decide +kernel
theorem dX12_world_70 : decode cX12_world 70 = .ok (.aload_n 0, 1) := by decide +kernel
theorem dX12_world_71 : decode cX12_world 71 = .ok (.invokevirtual 308, 3) := by decide +kernel
theorem dX12_world_74 : decode cX12_world 74 = .ok (.goto 7, 3) := by decide +kernel
theorem dX12_world_77 : decode cX12_world 77 = .ok (.aload_n 0, 1) := by decide +kernel
theorem dX12_world_78 : decode cX12_world 78 = .ok (.invokevirtual 311, 3) := by decide +kernel
theorem dX12_world_81 : decode cX12_world 81 = .ok (.aload_n 0, 1) := by decide +kernel
theorem dX12_world_82 : decode cX12_world 82 = .ok (.bipush 59, 2) := by decide +kernel
theorem dX12_world_84 : decode cX12_world 84 = .ok (.invokevirtual 251, 3) := by decide +kernel
theorem dX12_world_87 : decode cX12_world 87 = .ok (.aload_n 0, 1) := by decide +kernel
theorem dX12_world_88 : decode cX12_world 88 = .ok (.getfield 52, 3) := by decide +kernel
theorem dX12_world_91 : decode cX12_world 91 = .ok (.iconst 1, 1) := by decide +kernel
theorem dX12_world_92 : decode cX12_world 92 = .ok (.dup2, 1) := by decide +kernel
theorem dX12_world_93 : decode cX12_world 93 = .ok (.iaload, 1) := by decide +kernel
theorem dX12_world_94 : decode cX12_world 94 = .ok (.iconst 1, 1) := by decide +kernel
theorem dX12_world_95 : decode cX12_world 95 = .ok (.iadd, 1) := by decide +kernel
theorem dX12_world_96 : decode cX12_world 96 = .ok (.iastore, 1) := by decide +kernel
theorem dX12_world_97 : decode cX12_world 97 = .ok (.goto (-50), 3) := by decide +kernel
theorem dX12_world_100 : decode cX12_world 100 = .ok (.aload_n 0, 1) := by decide +kernel
theorem dX12_world_101 : decode cX12_world 101 = .ok (.invokevirtual 157, 3) := by decide +kernel
theorem dX12_world_104 : decode cX12_world 104 = .ok (.ifCond .ne 6, 3) := by decide +kernel
theorem dX12_world_107 : decode cX12_world 107 = .ok (.bipush (-4), 2) := by decide +kernel
theorem dX12_world_109 : decode cX12_world 109 = .ok (.ireturn, 1) := by decide +kernel
theorem dX12_world_110 : decode cX12_world 110 = .ok (.iconst 0, 1) := by decide +kernel
theorem dX12_world_111 : decode cX12_world 111 = .ok (.istore_n 1, 1) := by decide +kernel
theorem dX12_world_112 : decode cX12_world 112 = .ok (.iload_n 1, 1) := by decide +kernel
theorem dX12_world_113 : decode cX12_world 113 = .ok (.bipush 43, 2) := by decide +kernel
theorem dX12_world_115 : decode cX12_world 115 = .ok (.if_icmp .ge 21, 3) := by decide +kernel
theorem dX12_world_118 : decode cX12_world 118 = .ok (.aload_n 0, 1) := by decide +kernel
theorem dX12_world_119 : decode cX12_world 119 = .ok (.getfield 9, 3) := by decide +kernel
theorem dX12_world_122 : decode cX12_world 122 = .ok (.iload_n 1, 1) := by decide +kernel
theorem dX12_world_123 : decode cX12_world 123 = .ok (.aload_n 0, 1) := by decide +kernel
theorem dX12_world_124 : decode cX12_world 124 = .ok (.getfield 52, 3) := by decide +kernel
theorem dX12_world_127 : decode cX12_world 127 = .ok (.iload_n 1, 1) := by decide +kernel
theorem dX12_world_128 : decode cX12_world 128 = .ok (.iaload, 1) := by decide +kernel
theorem dX12_world_129 : decode cX12_world 129 = .ok (.iastore, 1) := by decide +kernel
theorem dX12_world_130 : decode cX12_world 130 = .ok (.iinc 1 1, 3) := by decide +kernel
theorem dX12_world_133 : decode cX12_world 133 = .ok (.goto (-21), 3) := by decide +kernel
theorem dX12_world_136 : decode cX12_world 136 = .ok (.iconst 0, 1) := by decide +kernel
theorem dX12_world_137 : decode cX12_world 137 = .ok (.istore_n 1, 1) := by decide +kernel
theorem dX12_world_138 : decode cX12_world 138 = .ok (.iload_n 1, 1) := by decide +kernel
theorem dX12_world_139 : decode cX12_world 139 = .ok (.sipush 10240, 3) := by decide +kernel
theorem dX12_world_142 : decode cX12_world 142 = .ok (.if_icmp .ge 21, 3) := by decide +kernel
theorem dX12_world_145 : decode cX12_world 145 = .ok (.aload_n 0, 1) := by decide +kernel
theorem dX12_world_146 : decode cX12_world 146 = .ok (.getfield 13, 3) := by decide +kernel
theorem dX12_world_149 : decode cX12_world 149 = .ok (.iload_n 1, 1) := by decide +kernel
theorem dX12_world_150 : decode cX12_world 150 = .ok (.aload_n 0, 1) := by decide +kernel
theorem dX12_world_151 : decode cX12_world 151 = .ok (.getfield 55, 3) := by decide +kernel
theorem dX12_world_154 : decode cX12_world 154 = .ok (.iload_n 1, 1) := by decide +kernel
theorem dX12_world_155 : decode cX12_world 155 = .ok (.baload, 1) := by decide +kernel
theorem dX12_world_156 : decode cX12_world 156 = .ok (.bastore, 1) := by decide +kernel
theorem dX12_world_157 : decode cX12_world 157 = .ok (.iinc 1 1, 3) := by decide +kernel
theorem dX12_world_160 : decode cX12_world 160 = .ok (.goto (-22), 3) := by decide +kernel
theorem dX12_world_163 : decode cX12_world 163 = .ok (.aload_n 0, 1) := by decide +kernel
theorem dX12_world_164 : decode cX12_world 164 = .ok (.getfield 9, 3) := by decide +kernel
theorem dX12_world_167 : decode cX12_world 167 = .ok (.iconst 1, 1) := by decide +kernel
theorem dX12_world_168 : decode cX12_world 168 = .ok (.iaload, 1) := by decide +kernel
theorem dX12_world_169 : decode cX12_world 169 = .ok (.ireturn, 1) := by decide +kernel
theorem dX12_sizeOf_0 : decode cX12_sizeOf 0 = .ok (.iconst 0, 1) := by decide +kernel
theorem dX12_sizeOf_1 : decode cX12_sizeOf 1 = .ok (.istore_n 2, 1) := by decide +kernel
theorem dX12_sizeOf_2 : decode cX12_sizeOf 2 = .ok (.iconst 0, 1) := by decide +kernel
theorem dX12_sizeOf_3 : decode cX12_sizeOf 3 = .ok (.istore_n 3, 1) := by decide +kernel
theorem dX12_sizeOf_4 : decode cX12_sizeOf 4 = .ok (.iload_n 3, 1) := by decide +kernel
theorem dX12_sizeOf_5 : decode cX12_sizeOf 5 = .ok (.aload_n 0, 1) := by decide +kernel
theorem dX12_sizeOf_6 : decode cX12_sizeOf 6 = .ok (.invokevirtual 104, 3) := by decide +kernel
theorem dX12_sizeOf_9 : decode cX12_sizeOf 9 = .ok (.if_icmp .ge 26, 3) := by decide +kernel
theorem dX12_sizeOf_12 : decode cX12_sizeOf 12 = .ok (.iload_n 2, 1) := by decide +kernel
theorem dX12_sizeOf_13 : decode cX12_sizeOf 13 = .ok (.aload_n 0, 1) := by decide +kernel
theorem dX12_sizeOf_14 : decode cX12_sizeOf 14 = .ok (.iload_n 1, 1) := by decide +kernel
theorem dX12_sizeOf_15 : decode cX12_sizeOf 15 = .ok (.iload_n 3, 1) := by decide +kernel
theorem dX12_sizeOf_16 : decode cX12_sizeOf 16 = .ok (.invokevirtual 314, 3) := by decide +kernel
theorem dX12_sizeOf_19 : decode cX12_sizeOf 19 = .ok (.ifCond .eq 7, 3) := by decide +kernel
theorem dX12_sizeOf_22 : decode cX12_sizeOf 22 = .ok (.iconst 1, 1) := by decide +kernel
theorem dX12_sizeOf_23 : decode cX12_sizeOf 23 = .ok (.goto 4, 3) := by decide +kernel
theorem dX12_sizeOf_26 : decode cX12_sizeOf 26 = .ok (.iconst 0, 1) := by decide +kernel
theorem dX12_sizeOf_27 : decode cX12_sizeOf 27 = .ok (.iadd, 1) := by decide +kernel
theorem dX12_sizeOf_28 : decode cX12_sizeOf 28 = .ok (.istore_n 2, 1) := by decide +kernel
theorem dX12_sizeOf_29 : decode cX12_sizeOf 29 = .ok (.iinc 3 1, 3) := by decide +kernel
theorem dX12_sizeOf_32 : decode cX12_sizeOf 32 = .ok (.goto (-28), 3) := by decide +kernel
theorem dX12_sizeOf_35 : decode cX12_sizeOf 35 = .ok (.iload_n 2, 1) := by decide +kernel
theorem dX12_sizeOf_36 : decode cX12_sizeOf 36 = .ok (.ireturn, 1) := by decide +kernel
theorem dX12_lays_0 : decode cX12_lays 0 = .ok (.iconst 0, 1) := by decide +kernel
theorem dX12_lays_1 : decode cX12_lays 1 = .ok (.istore_n 2, 1) := by decide +kernel
theorem dX12_lays_2 : decode cX12_lays 2 = .ok (.iload_n 2, 1) := by decide +kernel
theorem dX12_lays_3 : decode cX12_lays 3 = .ok (.sipush 1024, 3) := by decide +kernel
theorem dX12_lays_6 : decode cX12_lays 6 = .ok (.if_icmp .ge 27, 3) := by decide +kernel
theorem dX12_lays_9 : decode cX12_lays 9 = .ok (.aload_n 0, 1) := by decide +kernel
theorem dX12_lays_10 : decode cX12_lays 10 = .ok (.getfield 13, 3) := by decide +kernel
theorem dX12_lays_13 : decode cX12_lays 13 = .ok (.sipush 1024, 3) := by decide +kernel
theorem dX12_lays_16 : decode cX12_lays 16 = .ok (.iload_n 1, 1) := by decide +kernel
theorem dX12_lays_17 : decode cX12_lays 17 = .ok (.imul, 1) := by decide +kernel
theorem dX12_lays_18 : decode cX12_lays 18 = .ok (.iload_n 2, 1) := by decide +kernel
theorem dX12_lays_19 : decode cX12_lays 19 = .ok (.iadd, 1) := by decide +kernel
theorem dX12_lays_20 : decode cX12_lays 20 = .ok (.aload_n 0, 1) := by decide +kernel
theorem dX12_lays_21 : decode cX12_lays 21 = .ok (.getfield 40, 3) := by decide +kernel
theorem dX12_lays_24 : decode cX12_lays 24 = .ok (.iload_n 2, 1) := by decide +kernel
theorem dX12_lays_25 : decode cX12_lays 25 = .ok (.baload, 1) := by decide +kernel
theorem dX12_lays_26 : decode cX12_lays 26 = .ok (.bastore, 1) := by decide +kernel
theorem dX12_lays_27 : decode cX12_lays 27 = .ok (.iinc 2 1, 3) := by decide +kernel
theorem dX12_lays_30 : decode cX12_lays 30 = .ok (.goto (-28), 3) := by decide +kernel
theorem dX12_lays_33 : decode cX12_lays 33 = .ok (.aload_n 0, 1) := by decide +kernel
theorem dX12_lays_34 : decode cX12_lays 34 = .ok (.iload_n 1, 1) := by decide +kernel
theorem dX12_lays_35 : decode cX12_lays 35 = .ok (.invokevirtual 318, 3) := by decide +kernel
theorem dX12_lays_38 : decode cX12_lays 38 = .ok (.ireturn, 1) := by decide +kernel
theorem dX12_put_0 : decode cX12_put 0 = .ok (.aload_n 0, 1) := by decide +kernel
theorem dX12_put_1 : decode cX12_put 1 = .ok (.iload_n 1, 1) := by decide +kernel
theorem dX12_put_2 : decode cX12_put 2 = .ok (.invokevirtual 321, 3) := by decide +kernel
theorem dX12_put_5 : decode cX12_put 5 = .ok (.ifCond .ne 11, 3) := by decide +kernel
theorem dX12_put_8 : decode cX12_put 8 = .ok (.aload_n 0, 1) := by decide +kernel
theorem dX12_put_9 : decode cX12_put 9 = .ok (.iconst 0, 1) := by decide +kernel
theorem dX12_put_10 : decode cX12_put 10 = .ok (.putfield 107, 3) := by decide +kernel
theorem dX12_put_13 : decode cX12_put 13 = .ok (.bipush (-2), 2) := by decide +kernel
theorem dX12_put_15 : decode cX12_put 15 = .ok (.ireturn, 1) := by decide +kernel
theorem dX12_put_16 : decode cX12_put 16 = .ok (.aload_n 0, 1) := by decide +kernel
theorem dX12_put_17 : decode cX12_put 17 = .ok (.invokevirtual 305, 3) := by decide +kernel
theorem dX12_put_20 : decode cX12_put 20 = .ok (.aload_n 0, 1) := by decide +kernel
theorem dX12_put_21 : decode cX12_put 21 = .ok (.aload_n 0, 1) := by decide +kernel
theorem dX12_put_22 : decode cX12_put 22 = .ok (.getfield 9, 3) := by decide +kernel
theorem dX12_put_25 : decode cX12_put 25 = .ok (.iconst 0, 1) := by decide +kernel
theorem dX12_put_26 : decode cX12_put 26 = .ok (.iaload, 1) := by decide +kernel
theorem dX12_put_27 : decode cX12_put 27 = .ok (.aload_n 0, 1) := by decide +kernel
theorem dX12_put_28 : decode cX12_put 28 = .ok (.getfield 13, 3) := by decide +kernel
theorem dX12_put_31 : decode cX12_put 31 = .ok (.invokevirtual 286, 3) := by decide +kernel
theorem dX12_put_34 : decode cX12_put 34 = .ok (.aload_n 0, 1) := by decide +kernel
theorem dX12_put_35 : decode cX12_put 35 = .ok (.invokevirtual 157, 3) := by decide +kernel
theorem dX12_put_38 : decode cX12_put 38 = .ok (.ifCond .eq 15, 3) := by decide +kernel
theorem dX12_put_41 : decode cX12_put 41 = .ok (.aload_n 0, 1) := by decide +kernel
theorem dX12_put_42 : decode cX12_put 42 = .ok (.getfield 123, 3) := by decide +kernel
theorem dX12_put_45 : decode cX12_put 45 = .ok (.ifCond .eq 8, 3) := by decide +kernel
theorem dX12_put_48 : decode cX12_put 48 = .ok (.aload_n 0, 1) := by decide +kernel
theorem dX12_put_49 : decode cX12_put 49 = .ok (.iconst 1, 1) := by decide +kernel
theorem dX12_put_50 : decode cX12_put 50 = .ok (.invokevirtual 176, 3) := by decide +kernel
theorem dX12_put_53 : decode cX12_put 53 = .ok (.aload_n 0, 1) := by decide +kernel
theorem dX12_put_54 : decode cX12_put 54 = .ok (.invokevirtual 157, 3) := by decide +kernel
theorem dX12_put_57 : decode cX12_put 57 = .ok (.ifCond .ne 6, 3) := by decide +kernel
theorem dX12_put_60 : decode cX12_put 60 = .ok (.bipush (-4), 2) := by decide +kernel
theorem dX12_put_62 : decode cX12_put 62 = .ok (.ireturn, 1) := by decide +kernel
theorem dX12_put_63 : decode cX12_put 63 = .ok (.iconst 0, 1) := by decide +kernel
theorem dX12_put_64 : decode cX12_put 64 = .ok (.istore_n 2, 1) := by decide +kernel
theorem dX12_put_65 : decode cX12_put 65 = .ok (.iload_n 2, 1) := by decide +kernel
theorem dX12_put_66 : decode cX12_put 66 = .ok (.sipush 1024, 3) := by decide +kernel
theorem dX12_put_69 : decode cX12_put 69 = .ok (.if_icmp .ge 21, 3) := by decide +kernel
theorem dX12_put_72 : decode cX12_put 72 = .ok (.aload_n 0, 1) := by decide +kernel
theorem dX12_put_73 : decode cX12_put 73 = .ok (.getfield 40, 3) := by decide +kernel
theorem dX12_put_76 : decode cX12_put 76 = .ok (.iload_n 2, 1) := by decide +kernel
theorem dX12_put_77 : decode cX12_put 77 = .ok (.aload_n 0, 1) := by decide +kernel
theorem dX12_put_78 : decode cX12_put 78 = .ok (.getfield 37, 3) := by decide +kernel
theorem dX12_put_81 : decode cX12_put 81 = .ok (.iload_n 2, 1) := by decide +kernel
theorem dX12_put_82 : decode cX12_put 82 = .ok (.baload, 1) := by decide +kernel
theorem dX12_put_83 : decode cX12_put 83 = .ok (.bastore, 1) := by decide +kernel
theorem dX12_put_84 : decode cX12_put 84 = .ok (.iinc 2 1, 3) := by decide +kernel
theorem dX12_put_87 : decode cX12_put 87 = .ok (.goto (-22), 3) := by decide +kernel
theorem dX12_put_90 : decode cX12_put 90 = .ok (.aload_n 0, 1) := by decide +kernel
theorem dX12_put_91 : decode cX12_put 91 = .ok (.iload_n 1, 1) := by decide +kernel
theorem dX12_put_92 : decode cX12_put 92 = .ok (.invokevirtual 324, 3) := by decide +kernel
theorem dX12_put_95 : decode cX12_put 95 = .ok (.ireturn, 1) := by decide +kernel
theorem dX12_size_0 : decode cX12_size 0 = .ok (.aload_n 0, 1) := by decide +kernel
theorem dX12_size_1 : decode cX12_size 1 = .ok (.iload_n 1, 1) := by decide +kernel
theorem dX12_size_2 : decode cX12_size 2 = .ok (.invokevirtual 321, 3) := by decide +kernel
theorem dX12_size_5 : decode cX12_size 5 = .ok (.ifCond .eq 11, 3) := by decide +kernel
theorem dX12_size_8 : decode cX12_size 8 = .ok (.aload_n 0, 1) := by decide +kernel
theorem dX12_size_9 : decode cX12_size 9 = .ok (.iload_n 1, 1) := by decide +kernel
theorem dX12_size_10 : decode cX12_size 10 = .ok (.invokevirtual 318, 3) := by decide +kernel
theorem dX12_size_13 : decode cX12_size 13 = .ok (.goto 5, 3) := by decide +kernel
theorem dX12_size_16 : decode cX12_size 16 = .ok (.bipush (-2), 2) := by decide +kernel
theorem dX12_size_18 : decode cX12_size 18 = .ok (.ireturn, 1) := by decide +kernel
theorem dX12_has_0 : decode cX12_has 0 = .ok (.aload_n 0, 1) := by decide +kernel
theorem dX12_has_1 : decode cX12_has 1 = .ok (.iload_n 1, 1) := by decide +kernel
theorem dX12_has_2 : decode cX12_has 2 = .ok (.invokevirtual 321, 3) := by decide +kernel
theorem dX12_has_5 : decode cX12_has 5 = .ok (.ifCond .eq 28, 3) := by decide +kernel
theorem dX12_has_8 : decode cX12_has 8 = .ok (.aload_n 0, 1) := by decide +kernel
theorem dX12_has_9 : decode cX12_has 9 = .ok (.iload_n 2, 1) := by decide +kernel
theorem dX12_has_10 : decode cX12_has 10 = .ok (.invokevirtual 327, 3) := by decide +kernel
theorem dX12_has_13 : decode cX12_has 13 = .ok (.ifCond .eq 20, 3) := by decide +kernel
theorem dX12_has_16 : decode cX12_has 16 = .ok (.aload_n 0, 1) := by decide +kernel
theorem dX12_has_17 : decode cX12_has 17 = .ok (.iload_n 1, 1) := by decide +kernel
theorem dX12_has_18 : decode cX12_has 18 = .ok (.iload_n 2, 1) := by decide +kernel
theorem dX12_has_19 : decode cX12_has 19 = .ok (.invokevirtual 314, 3) := by decide +kernel
theorem dX12_has_22 : decode cX12_has 22 = .ok (.ifCond .eq 7, 3) := by decide +kernel
theorem dX12_has_25 : decode cX12_has 25 = .ok (.iconst 1, 1) := by decide +kernel
theorem dX12_has_26 : decode cX12_has 26 = .ok (.goto 9, 3) := by decide +kernel
theorem dX12_has_29 : decode cX12_has 29 = .ok (.iconst 0, 1) := by decide +kernel
theorem dX12_has_30 : decode cX12_has 30 = .ok (.goto 5, 3) := by decide +kernel
theorem dX12_has_33 : decode cX12_has 33 = .ok (.bipush (-2), 2) := by decide +kernel
theorem dX12_has_35 : decode cX12_has 35 = .ok (.ireturn, 1) := by decide +kernel
theorem dX12_makes_0 : decode cX12_makes 0 = .ok (.aload_n 0, 1) := by decide +kernel
theorem dX12_makes_1 : decode cX12_makes 1 = .ok (.iload_n 1, 1) := by decide +kernel
theorem dX12_makes_2 : decode cX12_makes 2 = .ok (.invokevirtual 321, 3) := by decide +kernel
theorem dX12_makes_5 : decode cX12_makes 5 = .ok (.ifCond .eq 32, 3) := by decide +kernel
theorem dX12_makes_8 : decode cX12_makes 8 = .ok (.iload_n 2, 1) := by decide +kernel
theorem dX12_makes_9 : decode cX12_makes 9 = .ok (.i2l, 1) := by decide +kernel
theorem dX12_makes_10 : decode cX12_makes 10 = .ok (.lconst 0, 1) := by decide +kernel
theorem dX12_makes_11 : decode cX12_makes 11 = .ok (.ldc2_w 330, 3) := by decide +kernel
theorem dX12_makes_14 : decode cX12_makes 14 = .ok (.invokestatic 94, 3) := by decide +kernel
theorem dX12_makes_17 : decode cX12_makes 17 = .ok (.ifCond .eq 20, 3) := by decide +kernel
theorem dX12_makes_20 : decode cX12_makes 20 = .ok (.aload_n 0, 1) := by decide +kernel
theorem dX12_makes_21 : decode cX12_makes 21 = .ok (.iload_n 3, 1) := by decide +kernel
theorem dX12_makes_22 : decode cX12_makes 22 = .ok (.invokevirtual 321, 3) := by decide +kernel
theorem dX12_makes_25 : decode cX12_makes 25 = .ok (.ifCond .eq 12, 3) := by decide +kernel
theorem dX12_makes_28 : decode cX12_makes 28 = .ok (.aload_n 0, 1) := by decide +kernel
theorem dX12_makes_29 : decode cX12_makes 29 = .ok (.iload 4, 2) := by decide +kernel
theorem dX12_makes_31 : decode cX12_makes 31 = .ok (.invokevirtual 321, 3) := by decide +kernel
theorem dX12_makes_34 : decode cX12_makes 34 = .ok (.ifCond .ne 6, 3) := by decide +kernel
theorem dX12_makes_37 : decode cX12_makes 37 = .ok (.bipush (-2), 2) := by decide +kernel
theorem dX12_makes_39 : decode cX12_makes 39 = .ok (.ireturn, 1) := by decide +kernel
theorem dX12_makes_40 : decode cX12_makes 40 = .ok (.aload_n 0, 1) := by decide +kernel
theorem dX12_makes_41 : decode cX12_makes 41 = .ok (.aload_n 0, 1) := by decide +kernel
theorem dX12_makes_42 : decode cX12_makes 42 = .ok (.invokevirtual 104, 3) := by decide +kernel
theorem dX12_makes_45 : decode cX12_makes 45 = .ok (.putfield 180, 3) := by decide +kernel
theorem dX12_makes_48 : decode cX12_makes 48 = .ok (.aload_n 0, 1) := by decide +kernel
theorem dX12_makes_49 : decode cX12_makes 49 = .ok (.iload_n 2, 1) := by decide +kernel
theorem dX12_makes_50 : decode cX12_makes 50 = .ok (.aload_n 0, 1) := by decide +kernel
theorem dX12_makes_51 : decode cX12_makes 51 = .ok (.getfield 13, 3) := by decide +kernel
theorem dX12_makes_54 : decode cX12_makes 54 = .ok (.sipush 1024, 3) := by decide +kernel
theorem dX12_makes_57 : decode cX12_makes 57 = .ok (.iload_n 3, 1) := by decide +kernel
theorem dX12_makes_58 : decode cX12_makes 58 = .ok (.imul, 1) := by decide +kernel
theorem dX12_makes_59 : decode cX12_makes 59 = .ok (.aload_n 0, 1) := by decide +kernel
theorem dX12_makes_60 : decode cX12_makes 60 = .ok (.getfield 13, 3) := by decide +kernel
theorem dX12_makes_63 : decode cX12_makes 63 = .ok (.sipush 1024, 3) := by decide +kernel
theorem dX12_makes_66 : decode cX12_makes 66 = .ok (.iload 4, 2) := by decide +kernel
theorem dX12_makes_68 : decode cX12_makes 68 = .ok (.imul, 1) := by decide +kernel
theorem dX12_makes_69 : decode cX12_makes 69 = .ok (.invokevirtual 218, 3) := by decide +kernel
theorem dX12_makes_72 : decode cX12_makes 72 = .ok (.aload_n 0, 1) := by decide +kernel
theorem dX12_makes_73 : decode cX12_makes 73 = .ok (.iload_n 1, 1) := by decide +kernel
theorem dX12_makes_74 : decode cX12_makes 74 = .ok (.invokevirtual 324, 3) := by decide +kernel
theorem dX12_makes_77 : decode cX12_makes 77 = .ok (.ireturn, 1) := by decide +kernel
theorem dX12_turn_0 : decode cX12_turn 0 = .ok (.aload_n 0, 1) := by decide +kernel
theorem dX12_turn_1 : decode cX12_turn 1 = .ok (.iload_n 1, 1) := by decide +kernel
theorem dX12_turn_2 : decode cX12_turn 2 = .ok (.invokevirtual 321, 3) := by decide +kernel
theorem dX12_turn_5 : decode cX12_turn 5 = .ok (.ifCond .eq 23, 3) := by decide +kernel
theorem dX12_turn_8 : decode cX12_turn 8 = .ok (.iload_n 2, 1) := by decide +kernel
theorem dX12_turn_9 : decode cX12_turn 9 = .ok (.i2l, 1) := by decide +kernel
theorem dX12_turn_10 : decode cX12_turn 10 = .ok (.lconst 0, 1) := by decide +kernel
theorem dX12_turn_11 : decode cX12_turn 11 = .ok (.ldc2_w 330, 3) := by decide +kernel
theorem dX12_turn_14 : decode cX12_turn 14 = .ok (.invokestatic 94, 3) := by decide +kernel
theorem dX12_turn_17 : decode cX12_turn 17 = .ok (.ifCond .eq 11, 3) := by decide +kernel
theorem dX12_turn_20 : decode cX12_turn 20 = .ok (.aload_n 0, 1) := by decide +kernel
theorem dX12_turn_21 : decode cX12_turn 21 = .ok (.iload_n 3, 1) := by decide +kernel
theorem dX12_turn_22 : decode cX12_turn 22 = .ok (.invokevirtual 321, 3) := by decide +kernel
theorem dX12_turn_25 : decode cX12_turn 25 = .ok (.ifCond .ne 6, 3) := by decide +kernel
theorem dX12_turn_28 : decode cX12_turn 28 = .ok (.bipush (-2), 2) := by decide +kernel
theorem dX12_turn_30 : decode cX12_turn 30 = .ok (.ireturn, 1) := by decide +kernel
theorem dX12_turn_31 : decode cX12_turn 31 = .ok (.aload_n 0, 1) := by decide +kernel
theorem dX12_turn_32 : decode cX12_turn 32 = .ok (.aload_n 0, 1) := by decide +kernel
theorem dX12_turn_33 : decode cX12_turn 33 = .ok (.invokevirtual 104, 3) := by decide +kernel
theorem dX12_turn_36 : decode cX12_turn 36 = .ok (.putfield 180, 3) := by decide +kernel
theorem dX12_turn_39 : decode cX12_turn 39 = .ok (.aload_n 0, 1) := by decide +kernel
theorem dX12_turn_40 : decode cX12_turn 40 = .ok (.iload_n 2, 1) := by decide +kernel
theorem dX12_turn_41 : decode cX12_turn 41 = .ok (.aload_n 0, 1) := by decide +kernel
theorem dX12_turn_42 : decode cX12_turn 42 = .ok (.getfield 13, 3) := by decide +kernel
theorem dX12_turn_45 : decode cX12_turn 45 = .ok (.sipush 1024, 3) := by decide +kernel
theorem dX12_turn_48 : decode cX12_turn 48 = .ok (.iload_n 3, 1) := by decide +kernel
theorem dX12_turn_49 : decode cX12_turn 49 = .ok (.imul, 1) := by decide +kernel
theorem dX12_turn_50 : decode cX12_turn 50 = .ok (.invokevirtual 209, 3) := by decide +kernel
theorem dX12_turn_53 : decode cX12_turn 53 = .ok (.aload_n 0, 1) := by decide +kernel
theorem dX12_turn_54 : decode cX12_turn 54 = .ok (.iload_n 1, 1) := by decide +kernel
theorem dX12_turn_55 : decode cX12_turn 55 = .ok (.invokevirtual 324, 3) := by decide +kernel
theorem dX12_turn_58 : decode cX12_turn 58 = .ok (.ireturn, 1) := by decide +kernel
theorem dX12_sets_0 : decode cX12_sets 0 = .ok (.aload_n 0, 1) := by decide +kernel
theorem dX12_sets_1 : decode cX12_sets 1 = .ok (.iload_n 1, 1) := by decide +kernel
theorem dX12_sets_2 : decode cX12_sets 2 = .ok (.invokevirtual 321, 3) := by decide +kernel
theorem dX12_sets_5 : decode cX12_sets 5 = .ok (.ifCond .eq 11, 3) := by decide +kernel
theorem dX12_sets_8 : decode cX12_sets 8 = .ok (.aload_n 0, 1) := by decide +kernel
theorem dX12_sets_9 : decode cX12_sets 9 = .ok (.iload_n 2, 1) := by decide +kernel
theorem dX12_sets_10 : decode cX12_sets 10 = .ok (.invokevirtual 327, 3) := by decide +kernel
theorem dX12_sets_13 : decode cX12_sets 13 = .ok (.ifCond .ne 6, 3) := by decide +kernel
theorem dX12_sets_16 : decode cX12_sets 16 = .ok (.bipush (-2), 2) := by decide +kernel
theorem dX12_sets_18 : decode cX12_sets 18 = .ok (.ireturn, 1) := by decide +kernel
theorem dX12_sets_19 : decode cX12_sets 19 = .ok (.aload_n 0, 1) := by decide +kernel
theorem dX12_sets_20 : decode cX12_sets 20 = .ok (.iload_n 1, 1) := by decide +kernel
theorem dX12_sets_21 : decode cX12_sets 21 = .ok (.iload_n 2, 1) := by decide +kernel
theorem dX12_sets_22 : decode cX12_sets 22 = .ok (.invokevirtual 314, 3) := by decide +kernel
theorem dX12_sets_25 : decode cX12_sets 25 = .ok (.istore 4, 2) := by decide +kernel
theorem dX12_sets_27 : decode cX12_sets 27 = .ok (.aload_n 0, 1) := by decide +kernel
theorem dX12_sets_28 : decode cX12_sets 28 = .ok (.getfield 13, 3) := by decide +kernel
theorem dX12_sets_31 : decode cX12_sets 31 = .ok (.sipush 1024, 3) := by decide +kernel
theorem dX12_sets_34 : decode cX12_sets 34 = .ok (.iload_n 1, 1) := by decide +kernel
theorem dX12_sets_35 : decode cX12_sets 35 = .ok (.imul, 1) := by decide +kernel
theorem dX12_sets_36 : decode cX12_sets 36 = .ok (.iload_n 2, 1) := by decide +kernel
theorem dX12_sets_37 : decode cX12_sets 37 = .ok (.iadd, 1) := by decide +kernel
theorem dX12_sets_38 : decode cX12_sets 38 = .ok (.iload_n 3, 1) := by decide +kernel
theorem dX12_sets_39 : decode cX12_sets 39 = .ok (.bastore, 1) := by decide +kernel
theorem dX12_sets_40 : decode cX12_sets 40 = .ok (.iload 4, 2) := by decide +kernel
theorem dX12_sets_42 : decode cX12_sets 42 = .ok (.iload_n 3, 1) := by decide +kernel
theorem dX12_sets_43 : decode cX12_sets 43 = .ok (.if_icmp .ne 7, 3) := by decide +kernel
theorem dX12_sets_46 : decode cX12_sets 46 = .ok (.iconst 0, 1) := by decide +kernel
theorem dX12_sets_47 : decode cX12_sets 47 = .ok (.goto 4, 3) := by decide +kernel
theorem dX12_sets_50 : decode cX12_sets 50 = .ok (.iconst 1, 1) := by decide +kernel
theorem dX12_sets_51 : decode cX12_sets 51 = .ok (.ireturn, 1) := by decide +kernel
theorem dX12_change_0 : decode cX12_change 0 = .ok (.aload_n 0, 1) := by decide +kernel
theorem dX12_change_1 : decode cX12_change 1 = .ok (.iload_n 1, 1) := by decide +kernel
theorem dX12_change_2 : decode cX12_change 2 = .ok (.invokevirtual 321, 3) := by decide +kernel
theorem dX12_change_5 : decode cX12_change 5 = .ok (.ifCond .eq 19, 3) := by decide +kernel
theorem dX12_change_8 : decode cX12_change 8 = .ok (.aload_n 0, 1) := by decide +kernel
theorem dX12_change_9 : decode cX12_change 9 = .ok (.iload_n 2, 1) := by decide +kernel
theorem dX12_change_10 : decode cX12_change 10 = .ok (.invokevirtual 321, 3) := by decide +kernel
theorem dX12_change_13 : decode cX12_change 13 = .ok (.ifCond .eq 11, 3) := by decide +kernel
theorem dX12_change_16 : decode cX12_change 16 = .ok (.aload_n 0, 1) := by decide +kernel
theorem dX12_change_17 : decode cX12_change 17 = .ok (.iload_n 3, 1) := by decide +kernel
theorem dX12_change_18 : decode cX12_change 18 = .ok (.invokevirtual 332, 3) := by decide +kernel
theorem dX12_change_21 : decode cX12_change 21 = .ok (.ifCond .ne 6, 3) := by decide +kernel
theorem dX12_change_24 : decode cX12_change 24 = .ok (.bipush (-2), 2) := by decide +kernel
theorem dX12_change_26 : decode cX12_change 26 = .ok (.ireturn, 1) := by decide +kernel
theorem dX12_change_27 : decode cX12_change 27 = .ok (.iconst 0, 1) := by decide +kernel
theorem dX12_change_28 : decode cX12_change 28 = .ok (.istore 4, 2) := by decide +kernel
theorem dX12_change_30 : decode cX12_change 30 = .ok (.iload 4, 2) := by decide +kernel
theorem dX12_change_32 : decode cX12_change 32 = .ok (.sipush 1024, 3) := by decide +kernel
theorem dX12_change_35 : decode cX12_change 35 = .ok (.if_icmp .ge 44, 3) := by decide +kernel
theorem dX12_change_38 : decode cX12_change 38 = .ok (.aload_n 0, 1) := by decide +kernel
theorem dX12_change_39 : decode cX12_change 39 = .ok (.getfield 40, 3) := by decide +kernel
theorem dX12_change_42 : decode cX12_change 42 = .ok (.iload 4, 2) := by decide +kernel
theorem dX12_change_44 : decode cX12_change 44 = .ok (.iload 4, 2) := by decide +kernel
theorem dX12_change_46 : decode cX12_change 46 = .ok (.aload_n 0, 1) := by decide +kernel
theorem dX12_change_47 : decode cX12_change 47 = .ok (.invokevirtual 104, 3) := by decide +kernel
theorem dX12_change_50 : decode cX12_change 50 = .ok (.if_icmp .ge 21, 3) := by decide +kernel
theorem dX12_change_53 : decode cX12_change 53 = .ok (.aload_n 0, 1) := by decide +kernel
theorem dX12_change_54 : decode cX12_change 54 = .ok (.iload_n 2, 1) := by decide +kernel
theorem dX12_change_55 : decode cX12_change 55 = .ok (.iload 4, 2) := by decide +kernel
theorem dX12_change_57 : decode cX12_change 57 = .ok (.iconst 1, 1) := by decide +kernel
theorem dX12_change_58 : decode cX12_change 58 = .ok (.iload_n 3, 1) := by decide +kernel
theorem dX12_change_59 : decode cX12_change 59 = .ok (.ishl, 1) := by decide +kernel
theorem dX12_change_60 : decode cX12_change 60 = .ok (.ixor, 1) := by decide +kernel
theorem dX12_change_61 : decode cX12_change 61 = .ok (.invokevirtual 314, 3) := by decide +kernel
theorem dX12_change_64 : decode cX12_change 64 = .ok (.ifCond .eq 7, 3) := by decide +kernel
theorem dX12_change_67 : decode cX12_change 67 = .ok (.iconst 1, 1) := by decide +kernel
theorem dX12_change_68 : decode cX12_change 68 = .ok (.goto 4, 3) := by decide +kernel
theorem dX12_change_71 : decode cX12_change 71 = .ok (.iconst 0, 1) := by decide +kernel
theorem dX12_change_72 : decode cX12_change 72 = .ok (.bastore, 1) := by decide +kernel
theorem dX12_change_73 : decode cX12_change 73 = .ok (.iinc 4 1, 3) := by decide +kernel
theorem dX12_change_76 : decode cX12_change 76 = .ok (.goto (-46), 3) := by decide +kernel
theorem dX12_change_79 : decode cX12_change 79 = .ok (.aload_n 0, 1) := by decide +kernel
theorem dX12_change_80 : decode cX12_change 80 = .ok (.iload_n 1, 1) := by decide +kernel
theorem dX12_change_81 : decode cX12_change 81 = .ok (.invokevirtual 324, 3) := by decide +kernel
theorem dX12_change_84 : decode cX12_change 84 = .ok (.ireturn, 1) := by decide +kernel
theorem dX12_half_0 : decode cX12_half 0 = .ok (.aload_n 0, 1) := by decide +kernel
theorem dX12_half_1 : decode cX12_half 1 = .ok (.iload_n 1, 1) := by decide +kernel
theorem dX12_half_2 : decode cX12_half 2 = .ok (.invokevirtual 321, 3) := by decide +kernel
theorem dX12_half_5 : decode cX12_half 5 = .ok (.ifCond .eq 19, 3) := by decide +kernel
theorem dX12_half_8 : decode cX12_half 8 = .ok (.aload_n 0, 1) := by decide +kernel
theorem dX12_half_9 : decode cX12_half 9 = .ok (.iload_n 2, 1) := by decide +kernel
theorem dX12_half_10 : decode cX12_half 10 = .ok (.invokevirtual 321, 3) := by decide +kernel
theorem dX12_half_13 : decode cX12_half 13 = .ok (.ifCond .eq 11, 3) := by decide +kernel
theorem dX12_half_16 : decode cX12_half 16 = .ok (.aload_n 0, 1) := by decide +kernel
theorem dX12_half_17 : decode cX12_half 17 = .ok (.iload_n 3, 1) := by decide +kernel
theorem dX12_half_18 : decode cX12_half 18 = .ok (.invokevirtual 332, 3) := by decide +kernel
theorem dX12_half_21 : decode cX12_half 21 = .ok (.ifCond .ne 6, 3) := by decide +kernel
theorem dX12_half_24 : decode cX12_half 24 = .ok (.bipush (-2), 2) := by decide +kernel
theorem dX12_half_26 : decode cX12_half 26 = .ok (.ireturn, 1) := by decide +kernel
theorem dX12_half_27 : decode cX12_half 27 = .ok (.iconst 1, 1) := by decide +kernel
theorem dX12_half_28 : decode cX12_half 28 = .ok (.iload_n 3, 1) := by decide +kernel
theorem dX12_half_29 : decode cX12_half 29 = .ok (.ishl, 1) := by decide +kernel
theorem dX12_half_30 : decode cX12_half 30 = .ok (.istore 5, 2) := by decide +kernel
theorem dX12_half_32 : decode cX12_half 32 = .ok (.iconst 0, 1) := by decide +kernel
theorem dX12_half_33 : decode cX12_half 33 = .ok (.istore 6, 2) := by decide +kernel
theorem dX12_half_35 : decode cX12_half 35 = .ok (.iload 6, 2) := by decide +kernel
theorem dX12_half_37 : decode cX12_half 37 = .ok (.sipush 1024, 3) := by decide +kernel
theorem dX12_half_40 : decode cX12_half 40 = .ok (.if_icmp .ge 61, 3) := by decide +kernel
theorem dX12_half_43 : decode cX12_half 43 = .ok (.aload_n 0, 1) := by decide +kernel
theorem dX12_half_44 : decode cX12_half 44 = .ok (.getfield 40, 3) := by decide +kernel
theorem dX12_half_47 : decode cX12_half 47 = .ok (.iload 6, 2) := by decide +kernel
theorem dX12_half_49 : decode cX12_half 49 = .ok (.iload 6, 2) := by decide +kernel
theorem dX12_half_51 : decode cX12_half 51 = .ok (.aload_n 0, 1) := by decide +kernel
theorem dX12_half_52 : decode cX12_half 52 = .ok (.invokevirtual 104, 3) := by decide +kernel
theorem dX12_half_55 : decode cX12_half 55 = .ok (.if_icmp .ge 38, 3) := by decide +kernel
theorem dX12_half_58 : decode cX12_half 58 = .ok (.iload 6, 2) := by decide +kernel
theorem dX12_half_60 : decode cX12_half 60 = .ok (.iload 5, 2) := by decide +kernel
theorem dX12_half_62 : decode cX12_half 62 = .ok (.iand, 1) := by decide +kernel
theorem dX12_half_63 : decode cX12_half 63 = .ok (.ifCond .ne 30, 3) := by decide +kernel
theorem dX12_half_66 : decode cX12_half 66 = .ok (.aload_n 0, 1) := by decide +kernel
theorem dX12_half_67 : decode cX12_half 67 = .ok (.iload_n 2, 1) := by decide +kernel
theorem dX12_half_68 : decode cX12_half 68 = .ok (.iload 4, 2) := by decide +kernel
theorem dX12_half_70 : decode cX12_half 70 = .ok (.ifCond .eq 11, 3) := by decide +kernel
theorem dX12_half_73 : decode cX12_half 73 = .ok (.iload 6, 2) := by decide +kernel
theorem dX12_half_75 : decode cX12_half 75 = .ok (.iload 5, 2) := by decide +kernel
theorem dX12_half_77 : decode cX12_half 77 = .ok (.ior, 1) := by decide +kernel
theorem dX12_half_78 : decode cX12_half 78 = .ok (.goto 5, 3) := by decide +kernel
theorem dX12_half_81 : decode cX12_half 81 = .ok (.iload 6, 2) := by decide +kernel
theorem dX12_half_83 : decode cX12_half 83 = .ok (.invokevirtual 314, 3) := by decide +kernel
theorem dX12_half_86 : decode cX12_half 86 = .ok (.ifCond .eq 7, 3) := by decide +kernel
theorem dX12_half_89 : decode cX12_half 89 = .ok (.iconst 1, 1) := by decide +kernel
theorem dX12_half_90 : decode cX12_half 90 = .ok (.goto 4, 3) := by decide +kernel
theorem dX12_half_93 : decode cX12_half 93 = .ok (.iconst 0, 1) := by decide +kernel
theorem dX12_half_94 : decode cX12_half 94 = .ok (.bastore, 1) := by decide +kernel
theorem dX12_half_95 : decode cX12_half 95 = .ok (.iinc 6 1, 3) := by decide +kernel
theorem dX12_half_98 : decode cX12_half 98 = .ok (.goto (-63), 3) := by decide +kernel
theorem dX12_half_101 : decode cX12_half 101 = .ok (.aload_n 0, 1) := by decide +kernel
theorem dX12_half_102 : decode cX12_half 102 = .ok (.iload_n 1, 1) := by decide +kernel
theorem dX12_half_103 : decode cX12_half 103 = .ok (.invokevirtual 324, 3) := by decide +kernel
theorem dX12_half_106 : decode cX12_half 106 = .ok (.ireturn, 1) := by decide +kernel
theorem dX12_level_0 : decode cX12_level 0 = .ok (.aload_n 0, 1) := by decide +kernel
theorem dX12_level_1 : decode cX12_level 1 = .ok (.iload_n 1, 1) := by decide +kernel
theorem dX12_level_2 : decode cX12_level 2 = .ok (.invokevirtual 321, 3) := by decide +kernel
theorem dX12_level_5 : decode cX12_level 5 = .ok (.ifCond .eq 23, 3) := by decide +kernel
theorem dX12_level_8 : decode cX12_level 8 = .ok (.aload_n 0, 1) := by decide +kernel
theorem dX12_level_9 : decode cX12_level 9 = .ok (.iload_n 2, 1) := by decide +kernel
theorem dX12_level_10 : decode cX12_level 10 = .ok (.invokevirtual 321, 3) := by decide +kernel
theorem dX12_level_13 : decode cX12_level 13 = .ok (.ifCond .eq 15, 3) := by decide +kernel
theorem dX12_level_16 : decode cX12_level 16 = .ok (.iload_n 3, 1) := by decide +kernel
theorem dX12_level_17 : decode cX12_level 17 = .ok (.i2l, 1) := by decide +kernel
theorem dX12_level_18 : decode cX12_level 18 = .ok (.lconst 0, 1) := by decide +kernel
theorem dX12_level_19 : decode cX12_level 19 = .ok (.ldc2_w 335, 3) := by decide +kernel
theorem dX12_level_22 : decode cX12_level 22 = .ok (.invokestatic 94, 3) := by decide +kernel
theorem dX12_level_25 : decode cX12_level 25 = .ok (.ifCond .ne 6, 3) := by decide +kernel
theorem dX12_level_28 : decode cX12_level 28 = .ok (.bipush (-2), 2) := by decide +kernel
theorem dX12_level_30 : decode cX12_level 30 = .ok (.ireturn, 1) := by decide +kernel
theorem dX12_level_31 : decode cX12_level 31 = .ok (.iconst 0, 1) := by decide +kernel
theorem dX12_level_32 : decode cX12_level 32 = .ok (.istore 4, 2) := by decide +kernel
theorem dX12_level_34 : decode cX12_level 34 = .ok (.iload 4, 2) := by decide +kernel
theorem dX12_level_36 : decode cX12_level 36 = .ok (.sipush 1024, 3) := by decide +kernel
theorem dX12_level_39 : decode cX12_level 39 = .ok (.if_icmp .ge 49, 3) := by decide +kernel
theorem dX12_level_42 : decode cX12_level 42 = .ok (.aload_n 0, 1) := by decide +kernel
theorem dX12_level_43 : decode cX12_level 43 = .ok (.getfield 40, 3) := by decide +kernel
theorem dX12_level_46 : decode cX12_level 46 = .ok (.iload 4, 2) := by decide +kernel
theorem dX12_level_48 : decode cX12_level 48 = .ok (.iload 4, 2) := by decide +kernel
theorem dX12_level_50 : decode cX12_level 50 = .ok (.aload_n 0, 1) := by decide +kernel
theorem dX12_level_51 : decode cX12_level 51 = .ok (.invokevirtual 104, 3) := by decide +kernel
theorem dX12_level_54 : decode cX12_level 54 = .ok (.if_icmp .ge 26, 3) := by decide +kernel
theorem dX12_level_57 : decode cX12_level 57 = .ok (.aload_n 0, 1) := by decide +kernel
theorem dX12_level_58 : decode cX12_level 58 = .ok (.iload_n 2, 1) := by decide +kernel
theorem dX12_level_59 : decode cX12_level 59 = .ok (.iload 4, 2) := by decide +kernel
theorem dX12_level_61 : decode cX12_level 61 = .ok (.invokevirtual 314, 3) := by decide +kernel
theorem dX12_level_64 : decode cX12_level 64 = .ok (.ifCond .eq 16, 3) := by decide +kernel
theorem dX12_level_67 : decode cX12_level 67 = .ok (.iload 4, 2) := by decide +kernel
theorem dX12_level_69 : decode cX12_level 69 = .ok (.invokestatic 337, 3) := by decide +kernel
theorem dX12_level_72 : decode cX12_level 72 = .ok (.iload_n 3, 1) := by decide +kernel
theorem dX12_level_73 : decode cX12_level 73 = .ok (.if_icmp .ne 7, 3) := by decide +kernel
theorem dX12_level_76 : decode cX12_level 76 = .ok (.iconst 1, 1) := by decide +kernel
theorem dX12_level_77 : decode cX12_level 77 = .ok (.goto 4, 3) := by decide +kernel
theorem dX12_level_80 : decode cX12_level 80 = .ok (.iconst 0, 1) := by decide +kernel
theorem dX12_level_81 : decode cX12_level 81 = .ok (.bastore, 1) := by decide +kernel
theorem dX12_level_82 : decode cX12_level 82 = .ok (.iinc 4 1, 3) := by decide +kernel
theorem dX12_level_85 : decode cX12_level 85 = .ok (.goto (-51), 3) := by decide +kernel
theorem dX12_level_88 : decode cX12_level 88 = .ok (.aload_n 0, 1) := by decide +kernel
theorem dX12_level_89 : decode cX12_level 89 = .ok (.iload_n 1, 1) := by decide +kernel
theorem dX12_level_90 : decode cX12_level 90 = .ok (.invokevirtual 324, 3) := by decide +kernel
theorem dX12_level_93 : decode cX12_level 93 = .ok (.ireturn, 1) := by decide +kernel
theorem dX12_nthOf_0 : decode cX12_nthOf 0 = .ok (.iconst 0, 1) := by decide +kernel
theorem dX12_nthOf_1 : decode cX12_nthOf 1 = .ok (.istore_n 3, 1) := by decide +kernel
theorem dX12_nthOf_2 : decode cX12_nthOf 2 = .ok (.iconst 0, 1) := by decide +kernel
theorem dX12_nthOf_3 : decode cX12_nthOf 3 = .ok (.istore 4, 2) := by decide +kernel
theorem dX12_nthOf_5 : decode cX12_nthOf 5 = .ok (.iload 4, 2) := by decide +kernel
theorem dX12_nthOf_7 : decode cX12_nthOf 7 = .ok (.aload_n 0, 1) := by decide +kernel
theorem dX12_nthOf_8 : decode cX12_nthOf 8 = .ok (.invokevirtual 104, 3) := by decide +kernel
theorem dX12_nthOf_11 : decode cX12_nthOf 11 = .ok (.if_icmp .ge 33, 3) := by decide +kernel
theorem dX12_nthOf_14 : decode cX12_nthOf 14 = .ok (.aload_n 0, 1) := by decide +kernel
theorem dX12_nthOf_15 : decode cX12_nthOf 15 = .ok (.iload_n 1, 1) := by decide +kernel
theorem dX12_nthOf_16 : decode cX12_nthOf 16 = .ok (.iload 4, 2) := by decide +kernel
theorem dX12_nthOf_18 : decode cX12_nthOf 18 = .ok (.invokevirtual 314, 3) := by decide +kernel
theorem dX12_nthOf_21 : decode cX12_nthOf 21 = .ok (.ifCond .ne 6, 3) := by decide +kernel
theorem dX12_nthOf_24 : decode cX12_nthOf 24 = .ok (.goto 14, 3) := by decide +kernel
theorem dX12_nthOf_27 : decode cX12_nthOf 27 = .ok (.iload_n 3, 1) := by decide +kernel
theorem dX12_nthOf_28 : decode cX12_nthOf 28 = .ok (.iload_n 2, 1) := by decide +kernel
theorem dX12_nthOf_29 : decode cX12_nthOf 29 = .ok (.if_icmp .ne 6, 3) := by decide +kernel
theorem dX12_nthOf_32 : decode cX12_nthOf 32 = .ok (.iload 4, 2) := by decide +kernel
theorem dX12_nthOf_34 : decode cX12_nthOf 34 = .ok (.ireturn, 1) := by decide +kernel
theorem dX12_nthOf_35 : decode cX12_nthOf 35 = .ok (.iinc 3 1, 3) := by decide +kernel
theorem dX12_nthOf_38 : decode cX12_nthOf 38 = .ok (.iinc 4 1, 3) := by decide +kernel
theorem dX12_nthOf_41 : decode cX12_nthOf 41 = .ok (.goto (-36), 3) := by decide +kernel
theorem dX12_nthOf_44 : decode cX12_nthOf 44 = .ok (.iconst (-1), 1) := by decide +kernel
theorem dX12_nthOf_45 : decode cX12_nthOf 45 = .ok (.ireturn, 1) := by decide +kernel
theorem dX12_nth_0 : decode cX12_nth 0 = .ok (.aload_n 0, 1) := by decide +kernel
theorem dX12_nth_1 : decode cX12_nth 1 = .ok (.iload_n 1, 1) := by decide +kernel
theorem dX12_nth_2 : decode cX12_nth 2 = .ok (.invokevirtual 321, 3) := by decide +kernel
theorem dX12_nth_5 : decode cX12_nth 5 = .ok (.ifCond .eq 12, 3) := by decide +kernel
theorem dX12_nth_8 : decode cX12_nth 8 = .ok (.aload_n 0, 1) := by decide +kernel
theorem dX12_nth_9 : decode cX12_nth 9 = .ok (.iload_n 1, 1) := by decide +kernel
theorem dX12_nth_10 : decode cX12_nth 10 = .ok (.iload_n 2, 1) := by decide +kernel
theorem dX12_nth_11 : decode cX12_nth 11 = .ok (.invokevirtual 340, 3) := by decide +kernel
theorem dX12_nth_14 : decode cX12_nth 14 = .ok (.goto 5, 3) := by decide +kernel
theorem dX12_nth_17 : decode cX12_nth 17 = .ok (.bipush (-2), 2) := by decide +kernel
theorem dX12_nth_19 : decode cX12_nth 19 = .ok (.ireturn, 1) := by decide +kernel
theorem dX12_rank__0 : decode cX12_rank_ 0 = .ok (.aload_n 0, 1) := by decide +kernel
theorem dX12_rank__1 : decode cX12_rank_ 1 = .ok (.iload_n 1, 1) := by decide +kernel
theorem dX12_rank__2 : decode cX12_rank_ 2 = .ok (.invokevirtual 321, 3) := by decide +kernel
theorem dX12_rank__5 : decode cX12_rank_ 5 = .ok (.ifCond .eq 11, 3) := by decide +kernel
theorem dX12_rank__8 : decode cX12_rank_ 8 = .ok (.aload_n 0, 1) := by decide +kernel
theorem dX12_rank__9 : decode cX12_rank_ 9 = .ok (.iload_n 2, 1) := by decide +kernel
theorem dX12_rank__10 : decode cX12_rank_ 10 = .ok (.invokevirtual 327, 3) := by decide +kernel
theorem dX12_rank__13 : decode cX12_rank_ 13 = .ok (.ifCond .ne 6, 3) := by decide +kernel
theorem dX12_rank__16 : decode cX12_rank_ 16 = .ok (.bipush (-2), 2) := by decide +kernel
theorem dX12_rank__18 : decode cX12_rank_ 18 = .ok (.ireturn, 1) := by decide +kernel
theorem dX12_rank__19 : decode cX12_rank_ 19 = .ok (.iconst 0, 1) := by decide +kernel
theorem dX12_rank__20 : decode cX12_rank_ 20 = .ok (.istore_n 3, 1) := by decide +kernel
theorem dX12_rank__21 : decode cX12_rank_ 21 = .ok (.iconst 0, 1) := by decide +kernel
theorem dX12_rank__22 : decode cX12_rank_ 22 = .ok (.istore 4, 2) := by decide +kernel
theorem dX12_rank__24 : decode cX12_rank_ 24 = .ok (.iload 4, 2) := by decide +kernel
theorem dX12_rank__26 : decode cX12_rank_ 26 = .ok (.iload_n 2, 1) := by decide +kernel
theorem dX12_rank__27 : decode cX12_rank_ 27 = .ok (.if_icmp .ge 27, 3) := by decide +kernel
theorem dX12_rank__30 : decode cX12_rank_ 30 = .ok (.iload_n 3, 1) := by decide +kernel
theorem dX12_rank__31 : decode cX12_rank_ 31 = .ok (.aload_n 0, 1) := by decide +kernel
theorem dX12_rank__32 : decode cX12_rank_ 32 = .ok (.iload_n 1, 1) := by decide +kernel
theorem dX12_rank__33 : decode cX12_rank_ 33 = .ok (.iload 4, 2) := by decide +kernel
theorem dX12_rank__35 : decode cX12_rank_ 35 = .ok (.invokevirtual 314, 3) := by decide +kernel
theorem dX12_rank__38 : decode cX12_rank_ 38 = .ok (.ifCond .eq 7, 3) := by decide +kernel
theorem dX12_rank__41 : decode cX12_rank_ 41 = .ok (.iconst 1, 1) := by decide +kernel
theorem dX12_rank__42 : decode cX12_rank_ 42 = .ok (.goto 4, 3) := by decide +kernel
theorem dX12_rank__45 : decode cX12_rank_ 45 = .ok (.iconst 0, 1) := by decide +kernel
theorem dX12_rank__46 : decode cX12_rank_ 46 = .ok (.iadd, 1) := by decide +kernel
theorem dX12_rank__47 : decode cX12_rank_ 47 = .ok (.istore_n 3, 1) := by decide +kernel
theorem dX12_rank__48 : decode cX12_rank_ 48 = .ok (.iinc 4 1, 3) := by decide +kernel
theorem dX12_rank__51 : decode cX12_rank_ 51 = .ok (.goto (-27), 3) := by decide +kernel
theorem dX12_rank__54 : decode cX12_rank_ 54 = .ok (.iload_n 3, 1) := by decide +kernel
theorem dX12_rank__55 : decode cX12_rank_ 55 = .ok (.ireturn, 1) := by decide +kernel
theorem dX12_weightOf_0 : decode cX12_weightOf 0 = .ok (.iconst 0, 1) := by decide +kernel
theorem dX12_weightOf_1 : decode cX12_weightOf 1 = .ok (.istore_n 2, 1) := by decide +kernel
theorem dX12_weightOf_2 : decode cX12_weightOf 2 = .ok (.iconst 0, 1) := by decide +kernel
theorem dX12_weightOf_3 : decode cX12_weightOf 3 = .ok (.istore_n 3, 1) := by decide +kernel
theorem dX12_weightOf_4 : decode cX12_weightOf 4 = .ok (.iload_n 3, 1) := by decide +kernel
theorem dX12_weightOf_5 : decode cX12_weightOf 5 = .ok (.bipush 10, 2) := by decide +kernel
theorem dX12_weightOf_7 : decode cX12_weightOf 7 = .ok (.if_icmp .ge 26, 3) := by decide +kernel
theorem dX12_weightOf_10 : decode cX12_weightOf 10 = .ok (.iload_n 2, 1) := by decide +kernel
theorem dX12_weightOf_11 : decode cX12_weightOf 11 = .ok (.iload_n 1, 1) := by decide +kernel
theorem dX12_weightOf_12 : decode cX12_weightOf 12 = .ok (.iload_n 3, 1) := by decide +kernel
theorem dX12_weightOf_13 : decode cX12_weightOf 13 = .ok (.ishr, 1) := by decide +kernel
theorem dX12_weightOf_14 : decode cX12_weightOf 14 = .ok (.iconst 1, 1) := by decide +kernel
theorem dX12_weightOf_15 : decode cX12_weightOf 15 = .ok (.iand, 1) := by decide +kernel
theorem dX12_weightOf_16 : decode cX12_weightOf 16 = .ok (.aload_n 0, 1) := by decide +kernel
theorem dX12_weightOf_17 : decode cX12_weightOf 17 = .ok (.getfield 9, 3) := by decide +kernel
theorem dX12_weightOf_20 : decode cX12_weightOf 20 = .ok (.iconst 3, 1) := by decide +kernel
theorem dX12_weightOf_21 : decode cX12_weightOf 21 = .ok (.iload_n 3, 1) := by decide +kernel
theorem dX12_weightOf_22 : decode cX12_weightOf 22 = .ok (.iadd, 1) := by decide +kernel
theorem dX12_weightOf_23 : decode cX12_weightOf 23 = .ok (.iaload, 1) := by decide +kernel
theorem dX12_weightOf_24 : decode cX12_weightOf 24 = .ok (.imul, 1) := by decide +kernel
theorem dX12_weightOf_25 : decode cX12_weightOf 25 = .ok (.iadd, 1) := by decide +kernel
theorem dX12_weightOf_26 : decode cX12_weightOf 26 = .ok (.istore_n 2, 1) := by decide +kernel
theorem dX12_weightOf_27 : decode cX12_weightOf 27 = .ok (.iinc 3 1, 3) := by decide +kernel
theorem dX12_weightOf_30 : decode cX12_weightOf 30 = .ok (.goto (-26), 3) := by decide +kernel
theorem dX12_weightOf_33 : decode cX12_weightOf 33 = .ok (.iload_n 2, 1) := by decide +kernel
theorem dX12_weightOf_34 : decode cX12_weightOf 34 = .ok (.ireturn, 1) := by decide +kernel
theorem dX12_light_0 : decode cX12_light 0 = .ok (.aload_n 0, 1) := by decide +kernel
theorem dX12_light_1 : decode cX12_light 1 = .ok (.iload_n 1, 1) := by decide +kernel
theorem dX12_light_2 : decode cX12_light 2 = .ok (.invokevirtual 321, 3) := by decide +kernel
theorem dX12_light_5 : decode cX12_light 5 = .ok (.ifCond .ne 6, 3) := by decide +kernel
theorem dX12_light_8 : decode cX12_light 8 = .ok (.bipush (-2), 2) := by decide +kernel
theorem dX12_light_10 : decode cX12_light 10 = .ok (.ireturn, 1) := by decide +kernel
theorem dX12_light_11 : decode cX12_light 11 = .ok (.iconst 0, 1) := by decide +kernel
theorem dX12_light_12 : decode cX12_light 12 = .ok (.istore_n 3, 1) := by decide +kernel
theorem dX12_light_13 : decode cX12_light 13 = .ok (.iconst 0, 1) := by decide +kernel
theorem dX12_light_14 : decode cX12_light 14 = .ok (.istore 4, 2) := by decide +kernel
theorem dX12_light_16 : decode cX12_light 16 = .ok (.iload 4, 2) := by decide +kernel
theorem dX12_light_18 : decode cX12_light 18 = .ok (.sipush 990, 3) := by decide +kernel
theorem dX12_light_21 : decode cX12_light 21 = .ok (.if_icmp .gt 62, 3) := by decide +kernel
theorem dX12_light_24 : decode cX12_light 24 = .ok (.iconst 0, 1) := by decide +kernel
theorem dX12_light_25 : decode cX12_light 25 = .ok (.istore 5, 2) := by decide +kernel
theorem dX12_light_27 : decode cX12_light 27 = .ok (.iload 5, 2) := by decide +kernel
theorem dX12_light_29 : decode cX12_light 29 = .ok (.aload_n 0, 1) := by decide +kernel
theorem dX12_light_30 : decode cX12_light 30 = .ok (.invokevirtual 104, 3) := by decide +kernel
theorem dX12_light_33 : decode cX12_light 33 = .ok (.if_icmp .ge 44, 3) := by decide +kernel
theorem dX12_light_36 : decode cX12_light 36 = .ok (.aload_n 0, 1) := by decide +kernel
theorem dX12_light_37 : decode cX12_light 37 = .ok (.iload_n 1, 1) := by decide +kernel
theorem dX12_light_38 : decode cX12_light 38 = .ok (.iload 5, 2) := by decide +kernel
theorem dX12_light_40 : decode cX12_light 40 = .ok (.invokevirtual 314, 3) := by decide +kernel
theorem dX12_light_43 : decode cX12_light 43 = .ok (.ifCond .eq 28, 3) := by decide +kernel
theorem dX12_light_46 : decode cX12_light 46 = .ok (.aload_n 0, 1) := by decide +kernel
theorem dX12_light_47 : decode cX12_light 47 = .ok (.iload 5, 2) := by decide +kernel
theorem dX12_light_49 : decode cX12_light 49 = .ok (.invokevirtual 343, 3) := by decide +kernel
theorem dX12_light_52 : decode cX12_light 52 = .ok (.iload 4, 2) := by decide +kernel
theorem dX12_light_54 : decode cX12_light 54 = .ok (.if_icmp .eq 6, 3) := by decide +kernel
theorem dX12_light_57 : decode cX12_light 57 = .ok (.goto 14, 3) := by decide +kernel
theorem dX12_light_60 : decode cX12_light 60 = .ok (.iload_n 3, 1) := by decide +kernel
theorem dX12_light_61 : decode cX12_light 61 = .ok (.iload_n 2, 1) := by decide +kernel
theorem dX12_light_62 : decode cX12_light 62 = .ok (.if_icmp .ne 6, 3) := by decide +kernel
theorem dX12_light_65 : decode cX12_light 65 = .ok (.iload 5, 2) := by decide +kernel
theorem dX12_light_67 : decode cX12_light 67 = .ok (.ireturn, 1) := by decide +kernel
theorem dX12_light_68 : decode cX12_light 68 = .ok (.iinc 3 1, 3) := by decide +kernel
theorem dX12_light_71 : decode cX12_light 71 = .ok (.iinc 5 1, 3) := by decide +kernel
theorem dX12_light_74 : decode cX12_light 74 = .ok (.goto (-47), 3) := by decide +kernel
theorem dX12_light_77 : decode cX12_light 77 = .ok (.iinc 4 1, 3) := by decide +kernel
theorem dX12_light_80 : decode cX12_light 80 = .ok (.goto (-64), 3) := by decide +kernel
theorem dX12_light_83 : decode cX12_light 83 = .ok (.iconst (-1), 1) := by decide +kernel
theorem dX12_light_84 : decode cX12_light 84 = .ok (.ireturn, 1) := by decide +kernel
theorem dX12_weight_0 : decode cX12_weight 0 = .ok (.aload_n 0, 1) := by decide +kernel
theorem dX12_weight_1 : decode cX12_weight 1 = .ok (.iload_n 1, 1) := by decide +kernel
theorem dX12_weight_2 : decode cX12_weight 2 = .ok (.invokevirtual 327, 3) := by decide +kernel
theorem dX12_weight_5 : decode cX12_weight 5 = .ok (.ifCond .eq 11, 3) := by decide +kernel
theorem dX12_weight_8 : decode cX12_weight 8 = .ok (.aload_n 0, 1) := by decide +kernel
theorem dX12_weight_9 : decode cX12_weight 9 = .ok (.iload_n 1, 1) := by decide +kernel
theorem dX12_weight_10 : decode cX12_weight 10 = .ok (.invokevirtual 343, 3) := by decide +kernel
theorem dX12_weight_13 : decode cX12_weight 13 = .ok (.goto 5, 3) := by decide +kernel
theorem dX12_weight_16 : decode cX12_weight 16 = .ok (.bipush (-2), 2) := by decide +kernel
theorem dX12_weight_18 : decode cX12_weight 18 = .ok (.ireturn, 1) := by decide +kernel
theorem dX12_weigh_0 : decode cX12_weigh 0 = .ok (.aload_n 0, 1) := by decide +kernel
theorem dX12_weigh_1 : decode cX12_weigh 1 = .ok (.iload_n 1, 1) := by decide +kernel
theorem dX12_weigh_2 : decode cX12_weigh 2 = .ok (.invokevirtual 332, 3) := by decide +kernel
theorem dX12_weigh_5 : decode cX12_weigh 5 = .ok (.ifCond .eq 15, 3) := by decide +kernel
theorem dX12_weigh_8 : decode cX12_weigh 8 = .ok (.iload_n 2, 1) := by decide +kernel
theorem dX12_weigh_9 : decode cX12_weigh 9 = .ok (.i2l, 1) := by decide +kernel
theorem dX12_weigh_10 : decode cX12_weigh 10 = .ok (.lconst 0, 1) := by decide +kernel
theorem dX12_weigh_11 : decode cX12_weigh 11 = .ok (.ldc2_w 346, 3) := by decide +kernel
theorem dX12_weigh_14 : decode cX12_weigh 14 = .ok (.invokestatic 94, 3) := by decide +kernel
theorem dX12_weigh_17 : decode cX12_weigh 17 = .ok (.ifCond .ne 6, 3) := by decide +kernel
theorem dX12_weigh_20 : decode cX12_weigh 20 = .ok (.bipush (-2), 2) := by decide +kernel
theorem dX12_weigh_22 : decode cX12_weigh 22 = .ok (.ireturn, 1) := by decide +kernel
theorem dX12_weigh_23 : decode cX12_weigh 23 = .ok (.aload_n 0, 1) := by decide +kernel
theorem dX12_weigh_24 : decode cX12_weigh 24 = .ok (.getfield 9, 3) := by decide +kernel
theorem dX12_weigh_27 : decode cX12_weigh 27 = .ok (.iconst 3, 1) := by decide +kernel
theorem dX12_weigh_28 : decode cX12_weigh 28 = .ok (.iload_n 1, 1) := by decide +kernel
theorem dX12_weigh_29 : decode cX12_weigh 29 = .ok (.iadd, 1) := by decide +kernel
theorem dX12_weigh_30 : decode cX12_weigh 30 = .ok (.iaload, 1) := by decide +kernel
theorem dX12_weigh_31 : decode cX12_weigh 31 = .ok (.istore_n 3, 1) := by decide +kernel
theorem dX12_weigh_32 : decode cX12_weigh 32 = .ok (.aload_n 0, 1) := by decide +kernel
theorem dX12_weigh_33 : decode cX12_weigh 33 = .ok (.getfield 9, 3) := by decide +kernel
theorem dX12_weigh_36 : decode cX12_weigh 36 = .ok (.iconst 3, 1) := by decide +kernel
theorem dX12_weigh_37 : decode cX12_weigh 37 = .ok (.iload_n 1, 1) := by decide +kernel
theorem dX12_weigh_38 : decode cX12_weigh 38 = .ok (.iadd, 1) := by decide +kernel
theorem dX12_weigh_39 : decode cX12_weigh 39 = .ok (.iload_n 2, 1) := by decide +kernel
theorem dX12_weigh_40 : decode cX12_weigh 40 = .ok (.iastore, 1) := by decide +kernel
theorem dX12_weigh_41 : decode cX12_weigh 41 = .ok (.iload_n 3, 1) := by decide +kernel
theorem dX12_weigh_42 : decode cX12_weigh 42 = .ok (.ireturn, 1) := by decide +kernel
theorem dX12_weighs_0 : decode cX12_weighs 0 = .ok (.aload_n 0, 1) := by decide +kernel
theorem dX12_weighs_1 : decode cX12_weighs 1 = .ok (.iload_n 1, 1) := by decide +kernel
theorem dX12_weighs_2 : decode cX12_weighs 2 = .ok (.invokevirtual 321, 3) := by decide +kernel
theorem dX12_weighs_5 : decode cX12_weighs 5 = .ok (.ifCond .eq 15, 3) := by decide +kernel
theorem dX12_weighs_8 : decode cX12_weighs 8 = .ok (.iload_n 2, 1) := by decide +kernel
theorem dX12_weighs_9 : decode cX12_weighs 9 = .ok (.i2l, 1) := by decide +kernel
theorem dX12_weighs_10 : decode cX12_weighs 10 = .ok (.lconst 0, 1) := by decide +kernel
theorem dX12_weighs_11 : decode cX12_weighs 11 = .ok (.ldc2_w 92, 3) := by decide +kernel
theorem dX12_weighs_14 : decode cX12_weighs 14 = .ok (.invokestatic 94, 3) := by decide +kernel
theorem dX12_weighs_17 : decode cX12_weighs 17 = .ok (.ifCond .ne 6, 3) := by decide +kernel
theorem dX12_weighs_20 : decode cX12_weighs 20 = .ok (.bipush (-2), 2) := by decide +kernel
theorem dX12_weighs_22 : decode cX12_weighs 22 = .ok (.ireturn, 1) := by decide +kernel
theorem dX12_weighs_23 : decode cX12_weighs 23 = .ok (.iconst (-1), 1) := by decide +kernel
theorem dX12_weighs_24 : decode cX12_weighs 24 = .ok (.istore_n 3, 1) := by decide +kernel
theorem dX12_weighs_25 : decode cX12_weighs 25 = .ok (.iconst (-1), 1) := by decide +kernel
theorem dX12_weighs_26 : decode cX12_weighs 26 = .ok (.istore 4, 2) := by decide +kernel
theorem dX12_weighs_28 : decode cX12_weighs 28 = .ok (.iconst 0, 1) := by decide +kernel
theorem dX12_weighs_29 : decode cX12_weighs 29 = .ok (.istore 5, 2) := by decide +kernel
theorem dX12_weighs_31 : decode cX12_weighs 31 = .ok (.iconst 0, 1) := by decide +kernel
theorem dX12_weighs_32 : decode cX12_weighs 32 = .ok (.istore 6, 2) := by decide +kernel
theorem dX12_weighs_34 : decode cX12_weighs 34 = .ok (.iload 6, 2) := by decide +kernel
theorem dX12_weighs_36 : decode cX12_weighs 36 = .ok (.aload_n 0, 1) := by decide +kernel
theorem dX12_weighs_37 : decode cX12_weighs 37 = .ok (.invokevirtual 104, 3) := by decide +kernel
theorem dX12_weighs_40 : decode cX12_weighs 40 = .ok (.if_icmp .ge 63, 3) := by decide +kernel
theorem dX12_weighs_43 : decode cX12_weighs 43 = .ok (.aload_n 0, 1) := by decide +kernel
theorem dX12_weighs_44 : decode cX12_weighs 44 = .ok (.iload_n 1, 1) := by decide +kernel
theorem dX12_weighs_45 : decode cX12_weighs 45 = .ok (.iload 6, 2) := by decide +kernel
theorem dX12_weighs_47 : decode cX12_weighs 47 = .ok (.invokevirtual 314, 3) := by decide +kernel
theorem dX12_weighs_50 : decode cX12_weighs 50 = .ok (.ifCond .ne 6, 3) := by decide +kernel
theorem dX12_weighs_53 : decode cX12_weighs 53 = .ok (.goto 44, 3) := by decide +kernel
theorem dX12_weighs_56 : decode cX12_weighs 56 = .ok (.aload_n 0, 1) := by decide +kernel
theorem dX12_weighs_57 : decode cX12_weighs 57 = .ok (.iload 6, 2) := by decide +kernel
theorem dX12_weighs_59 : decode cX12_weighs 59 = .ok (.invokevirtual 343, 3) := by decide +kernel
theorem dX12_weighs_62 : decode cX12_weighs 62 = .ok (.istore 7, 2) := by decide +kernel
theorem dX12_weighs_64 : decode cX12_weighs 64 = .ok (.iload_n 3, 1) := by decide +kernel
theorem dX12_weighs_65 : decode cX12_weighs 65 = .ok (.iconst (-1), 1) := by decide +kernel
theorem dX12_weighs_66 : decode cX12_weighs 66 = .ok (.if_icmp .ne 8, 3) := by decide +kernel
theorem dX12_weighs_69 : decode cX12_weighs 69 = .ok (.iload 7, 2) := by decide +kernel
theorem dX12_weighs_71 : decode cX12_weighs 71 = .ok (.goto 9, 3) := by decide +kernel
theorem dX12_weighs_74 : decode cX12_weighs 74 = .ok (.iload_n 3, 1) := by decide +kernel
theorem dX12_weighs_75 : decode cX12_weighs 75 = .ok (.iload 7, 2) := by decide +kernel
theorem dX12_weighs_77 : decode cX12_weighs 77 = .ok (.invokestatic 138, 3) := by decide +kernel
theorem dX12_weighs_80 : decode cX12_weighs 80 = .ok (.istore_n 3, 1) := by decide +kernel
theorem dX12_weighs_81 : decode cX12_weighs 81 = .ok (.iload 4, 2) := by decide +kernel
theorem dX12_weighs_83 : decode cX12_weighs 83 = .ok (.iload 7, 2) := by decide +kernel
theorem dX12_weighs_85 : decode cX12_weighs 85 = .ok (.invokestatic 348, 3) := by decide +kernel
theorem dX12_weighs_88 : decode cX12_weighs 88 = .ok (.istore 4, 2) := by decide +kernel
theorem dX12_weighs_90 : decode cX12_weighs 90 = .ok (.iload 5, 2) := by decide +kernel
theorem dX12_weighs_92 : decode cX12_weighs 92 = .ok (.iload 7, 2) := by decide +kernel
theorem dX12_weighs_94 : decode cX12_weighs 94 = .ok (.iadd, 1) := by decide +kernel
theorem dX12_weighs_95 : decode cX12_weighs 95 = .ok (.istore 5, 2) := by decide +kernel
theorem dX12_weighs_97 : decode cX12_weighs 97 = .ok (.iinc 6 1, 3) := by decide +kernel
theorem dX12_weighs_100 : decode cX12_weighs 100 = .ok (.goto (-66), 3) := by decide +kernel
theorem dX12_weighs_103 : decode cX12_weighs 103 = .ok (.iload_n 2, 1) := by decide +kernel
theorem dX12_weighs_104 : decode cX12_weighs 104 = .ok (.ifCond .ne 7, 3) := by decide +kernel
theorem dX12_weighs_107 : decode cX12_weighs 107 = .ok (.iload_n 3, 1) := by decide +kernel
theorem dX12_weighs_108 : decode cX12_weighs 108 = .ok (.goto 15, 3) := by decide +kernel
theorem dX12_weighs_111 : decode cX12_weighs 111 = .ok (.iload_n 2, 1) := by decide +kernel
theorem dX12_weighs_112 : decode cX12_weighs 112 = .ok (.iconst 1, 1) := by decide +kernel
theorem dX12_weighs_113 : decode cX12_weighs 113 = .ok (.if_icmp .ne 8, 3) := by decide +kernel
theorem dX12_weighs_116 : decode cX12_weighs 116 = .ok (.iload 4, 2) := by decide +kernel
theorem dX12_weighs_118 : decode cX12_weighs 118 = .ok (.goto 5, 3) := by decide +kernel
theorem dX12_weighs_121 : decode cX12_weighs 121 = .ok (.iload 5, 2) := by decide +kernel
theorem dX12_weighs_123 : decode cX12_weighs 123 = .ok (.ireturn, 1) := by decide +kernel
theorem dX12_each_0 : decode cX12_each 0 = .ok (.aload_n 0, 1) := by decide +kernel
theorem dX12_each_1 : decode cX12_each 1 = .ok (.iload_n 1, 1) := by decide +kernel
theorem dX12_each_2 : decode cX12_each 2 = .ok (.invokevirtual 321, 3) := by decide +kernel
theorem dX12_each_5 : decode cX12_each 5 = .ok (.ifCond .eq 11, 3) := by decide +kernel
theorem dX12_each_8 : decode cX12_each 8 = .ok (.aload_n 0, 1) := by decide +kernel
theorem dX12_each_9 : decode cX12_each 9 = .ok (.iload_n 2, 1) := by decide +kernel
theorem dX12_each_10 : decode cX12_each 10 = .ok (.invokevirtual 332, 3) := by decide +kernel
theorem dX12_each_13 : decode cX12_each 13 = .ok (.ifCond .ne 6, 3) := by decide +kernel
theorem dX12_each_16 : decode cX12_each 16 = .ok (.bipush (-2), 2) := by decide +kernel
theorem dX12_each_18 : decode cX12_each 18 = .ok (.ireturn, 1) := by decide +kernel
theorem dX12_each_19 : decode cX12_each 19 = .ok (.iconst 0, 1) := by decide +kernel
theorem dX12_each_20 : decode cX12_each 20 = .ok (.istore_n 3, 1) := by decide +kernel
theorem dX12_each_21 : decode cX12_each 21 = .ok (.iconst 0, 1) := by decide +kernel
theorem dX12_each_22 : decode cX12_each 22 = .ok (.istore 4, 2) := by decide +kernel
theorem dX12_each_24 : decode cX12_each 24 = .ok (.iload 4, 2) := by decide +kernel
theorem dX12_each_26 : decode cX12_each 26 = .ok (.aload_n 0, 1) := by decide +kernel
theorem dX12_each_27 : decode cX12_each 27 = .ok (.invokevirtual 104, 3) := by decide +kernel
theorem dX12_each_30 : decode cX12_each 30 = .ok (.if_icmp .ge 32, 3) := by decide +kernel
theorem dX12_each_33 : decode cX12_each 33 = .ok (.iload_n 3, 1) := by decide +kernel
theorem dX12_each_34 : decode cX12_each 34 = .ok (.aload_n 0, 1) := by decide +kernel
theorem dX12_each_35 : decode cX12_each 35 = .ok (.iload_n 1, 1) := by decide +kernel
theorem dX12_each_36 : decode cX12_each 36 = .ok (.iload 4, 2) := by decide +kernel
theorem dX12_each_38 : decode cX12_each 38 = .ok (.invokevirtual 314, 3) := by decide +kernel
theorem dX12_each_41 : decode cX12_each 41 = .ok (.ifCond .eq 12, 3) := by decide +kernel
theorem dX12_each_44 : decode cX12_each 44 = .ok (.iload 4, 2) := by decide +kernel
theorem dX12_each_46 : decode cX12_each 46 = .ok (.iload_n 2, 1) := by decide +kernel
theorem dX12_each_47 : decode cX12_each 47 = .ok (.ishr, 1) := by decide +kernel
theorem dX12_each_48 : decode cX12_each 48 = .ok (.iconst 1, 1) := by decide +kernel
theorem dX12_each_49 : decode cX12_each 49 = .ok (.iand, 1) := by decide +kernel
theorem dX12_each_50 : decode cX12_each 50 = .ok (.goto 4, 3) := by decide +kernel
theorem dX12_each_53 : decode cX12_each 53 = .ok (.iconst 0, 1) := by decide +kernel
theorem dX12_each_54 : decode cX12_each 54 = .ok (.iadd, 1) := by decide +kernel
theorem dX12_each_55 : decode cX12_each 55 = .ok (.istore_n 3, 1) := by decide +kernel
theorem dX12_each_56 : decode cX12_each 56 = .ok (.iinc 4 1, 3) := by decide +kernel
theorem dX12_each_59 : decode cX12_each 59 = .ok (.goto (-35), 3) := by decide +kernel
theorem dX12_each_62 : decode cX12_each 62 = .ok (.iload_n 3, 1) := by decide +kernel
theorem dX12_each_63 : decode cX12_each 63 = .ok (.ireturn, 1) := by decide +kernel
theorem dX12_names_0 : decode cX12_names 0 = .ok (.aload_n 0, 1) := by decide +kernel
theorem dX12_names_1 : decode cX12_names 1 = .ok (.iload_n 1, 1) := by decide +kernel
theorem dX12_names_2 : decode cX12_names 2 = .ok (.invokevirtual 321, 3) := by decide +kernel
theorem dX12_names_5 : decode cX12_names 5 = .ok (.ifCond .eq 15, 3) := by decide +kernel
theorem dX12_names_8 : decode cX12_names 8 = .ok (.iload_n 2, 1) := by decide +kernel
theorem dX12_names_9 : decode cX12_names 9 = .ok (.i2l, 1) := by decide +kernel
theorem dX12_names_10 : decode cX12_names 10 = .ok (.lconst 0, 1) := by decide +kernel
theorem dX12_names_11 : decode cX12_names 11 = .ok (.ldc2_w 92, 3) := by decide +kernel
theorem dX12_names_14 : decode cX12_names 14 = .ok (.invokestatic 94, 3) := by decide +kernel
theorem dX12_names_17 : decode cX12_names 17 = .ok (.ifCond .ne 6, 3) := by decide +kernel
theorem dX12_names_20 : decode cX12_names 20 = .ok (.bipush (-2), 2) := by decide +kernel
theorem dX12_names_22 : decode cX12_names 22 = .ok (.ireturn, 1) := by decide +kernel
theorem dX12_names_23 : decode cX12_names 23 = .ok (.aload_n 0, 1) := by decide +kernel
theorem dX12_names_24 : decode cX12_names 24 = .ok (.invokevirtual 104, 3) := by decide +kernel
theorem dX12_names_27 : decode cX12_names 27 = .ok (.iconst 1, 1) := by decide +kernel
theorem dX12_names_28 : decode cX12_names 28 = .ok (.isub, 1) := by decide +kernel
theorem dX12_names_29 : decode cX12_names 29 = .ok (.istore_n 3, 1) := by decide +kernel
theorem dX12_names_30 : decode cX12_names 30 = .ok (.iconst 0, 1) := by decide +kernel
theorem dX12_names_31 : decode cX12_names 31 = .ok (.istore 4, 2) := by decide +kernel
theorem dX12_names_33 : decode cX12_names 33 = .ok (.aload_n 0, 1) := by decide +kernel
theorem dX12_names_34 : decode cX12_names 34 = .ok (.invokevirtual 104, 3) := by decide +kernel
theorem dX12_names_37 : decode cX12_names 37 = .ok (.iconst 1, 1) := by decide +kernel
theorem dX12_names_38 : decode cX12_names 38 = .ok (.isub, 1) := by decide +kernel
theorem dX12_names_39 : decode cX12_names 39 = .ok (.istore 5, 2) := by decide +kernel
theorem dX12_names_41 : decode cX12_names 41 = .ok (.iconst 0, 1) := by decide +kernel
theorem dX12_names_42 : decode cX12_names 42 = .ok (.istore 6, 2) := by decide +kernel
theorem dX12_names_44 : decode cX12_names 44 = .ok (.iload 6, 2) := by decide +kernel
theorem dX12_names_46 : decode cX12_names 46 = .ok (.aload_n 0, 1) := by decide +kernel
theorem dX12_names_47 : decode cX12_names 47 = .ok (.invokevirtual 104, 3) := by decide +kernel
theorem dX12_names_50 : decode cX12_names 50 = .ok (.if_icmp .ge 106, 3) := by decide +kernel
theorem dX12_names_53 : decode cX12_names 53 = .ok (.iload_n 3, 1) := by decide +kernel
theorem dX12_names_54 : decode cX12_names 54 = .ok (.aload_n 0, 1) := by decide +kernel
theorem dX12_names_55 : decode cX12_names 55 = .ok (.iload_n 1, 1) := by decide +kernel
theorem dX12_names_56 : decode cX12_names 56 = .ok (.iload 6, 2) := by decide +kernel
theorem dX12_names_58 : decode cX12_names 58 = .ok (.invokevirtual 314, 3) := by decide +kernel
theorem dX12_names_61 : decode cX12_names 61 = .ok (.ifCond .eq 8, 3) := by decide +kernel
theorem dX12_names_64 : decode cX12_names 64 = .ok (.iload 6, 2) := by decide +kernel
theorem dX12_names_66 : decode cX12_names 66 = .ok (.goto 4, 3) := by decide +kernel
theorem dX12_names_69 : decode cX12_names 69 = .ok (.iconst (-1), 1) := by decide +kernel
theorem dX12_names_70 : decode cX12_names 70 = .ok (.iand, 1) := by decide +kernel
theorem dX12_names_71 : decode cX12_names 71 = .ok (.istore_n 3, 1) := by decide +kernel
theorem dX12_names_72 : decode cX12_names 72 = .ok (.iload 4, 2) := by decide +kernel
theorem dX12_names_74 : decode cX12_names 74 = .ok (.aload_n 0, 1) := by decide +kernel
theorem dX12_names_75 : decode cX12_names 75 = .ok (.iload_n 1, 1) := by decide +kernel
theorem dX12_names_76 : decode cX12_names 76 = .ok (.iload 6, 2) := by decide +kernel
theorem dX12_names_78 : decode cX12_names 78 = .ok (.invokevirtual 314, 3) := by decide +kernel
theorem dX12_names_81 : decode cX12_names 81 = .ok (.ifCond .eq 8, 3) := by decide +kernel
theorem dX12_names_84 : decode cX12_names 84 = .ok (.iload 6, 2) := by decide +kernel
theorem dX12_names_86 : decode cX12_names 86 = .ok (.goto 4, 3) := by decide +kernel
theorem dX12_names_89 : decode cX12_names 89 = .ok (.iconst 0, 1) := by decide +kernel
theorem dX12_names_90 : decode cX12_names 90 = .ok (.ior, 1) := by decide +kernel
theorem dX12_names_91 : decode cX12_names 91 = .ok (.istore 4, 2) := by decide +kernel
theorem dX12_names_93 : decode cX12_names 93 = .ok (.iconst 0, 1) := by decide +kernel
theorem dX12_names_94 : decode cX12_names 94 = .ok (.istore 7, 2) := by decide +kernel
theorem dX12_names_96 : decode cX12_names 96 = .ok (.iload 7, 2) := by decide +kernel
theorem dX12_names_98 : decode cX12_names 98 = .ok (.aload_n 0, 1) := by decide +kernel
theorem dX12_names_99 : decode cX12_names 99 = .ok (.getfield 9, 3) := by decide +kernel
theorem dX12_names_102 : decode cX12_names 102 = .ok (.iconst 0, 1) := by decide +kernel
theorem dX12_names_103 : decode cX12_names 103 = .ok (.iaload, 1) := by decide +kernel
theorem dX12_names_104 : decode cX12_names 104 = .ok (.if_icmp .ge 46, 3) := by decide +kernel
theorem dX12_names_107 : decode cX12_names 107 = .ok (.iload 5, 2) := by decide +kernel
theorem dX12_names_109 : decode cX12_names 109 = .ok (.aload_n 0, 1) := by decide +kernel
theorem dX12_names_110 : decode cX12_names 110 = .ok (.iload_n 1, 1) := by decide +kernel
theorem dX12_names_111 : decode cX12_names 111 = .ok (.iload 6, 2) := by decide +kernel
theorem dX12_names_113 : decode cX12_names 113 = .ok (.invokevirtual 314, 3) := by decide +kernel
theorem dX12_names_116 : decode cX12_names 116 = .ok (.aload_n 0, 1) := by decide +kernel
theorem dX12_names_117 : decode cX12_names 117 = .ok (.iload_n 1, 1) := by decide +kernel
theorem dX12_names_118 : decode cX12_names 118 = .ok (.iload 6, 2) := by decide +kernel
theorem dX12_names_120 : decode cX12_names 120 = .ok (.iconst 1, 1) := by decide +kernel
theorem dX12_names_121 : decode cX12_names 121 = .ok (.iload 7, 2) := by decide +kernel
theorem dX12_names_123 : decode cX12_names 123 = .ok (.ishl, 1) := by decide +kernel
theorem dX12_names_124 : decode cX12_names 124 = .ok (.ixor, 1) := by decide +kernel
theorem dX12_names_125 : decode cX12_names 125 = .ok (.invokevirtual 314, 3) := by decide +kernel
theorem dX12_names_128 : decode cX12_names 128 = .ok (.if_icmp .ne 7, 3) := by decide +kernel
theorem dX12_names_131 : decode cX12_names 131 = .ok (.iconst (-1), 1) := by decide +kernel
theorem dX12_names_132 : decode cX12_names 132 = .ok (.goto 9, 3) := by decide +kernel
theorem dX12_names_135 : decode cX12_names 135 = .ok (.iconst 1, 1) := by decide +kernel
theorem dX12_names_136 : decode cX12_names 136 = .ok (.iload 7, 2) := by decide +kernel
theorem dX12_names_138 : decode cX12_names 138 = .ok (.ishl, 1) := by decide +kernel
theorem dX12_names_139 : decode cX12_names 139 = .ok (.iconst (-1), 1) := by decide +kernel
theorem dX12_names_140 : decode cX12_names 140 = .ok (.ixor, 1) := by decide +kernel
theorem dX12_names_141 : decode cX12_names 141 = .ok (.iand, 1) := by decide +kernel
theorem dX12_names_142 : decode cX12_names 142 = .ok (.istore 5, 2) := by decide +kernel
theorem dX12_names_144 : decode cX12_names 144 = .ok (.iinc 7 1, 3) := by decide +kernel
theorem dX12_names_147 : decode cX12_names 147 = .ok (.goto (-51), 3) := by decide +kernel
theorem dX12_names_150 : decode cX12_names 150 = .ok (.iinc 6 1, 3) := by decide +kernel
theorem dX12_names_153 : decode cX12_names 153 = .ok (.goto (-109), 3) := by decide +kernel
theorem dX12_names_156 : decode cX12_names 156 = .ok (.iload_n 2, 1) := by decide +kernel
theorem dX12_names_157 : decode cX12_names 157 = .ok (.ifCond .ne 7, 3) := by decide +kernel
theorem dX12_names_160 : decode cX12_names 160 = .ok (.iload_n 3, 1) := by decide +kernel
theorem dX12_names_161 : decode cX12_names 161 = .ok (.goto 15, 3) := by decide +kernel
theorem dX12_names_164 : decode cX12_names 164 = .ok (.iload_n 2, 1) := by decide +kernel
theorem dX12_names_165 : decode cX12_names 165 = .ok (.iconst 1, 1) := by decide +kernel
theorem dX12_names_166 : decode cX12_names 166 = .ok (.if_icmp .ne 8, 3) := by decide +kernel
theorem dX12_names_169 : decode cX12_names 169 = .ok (.iload 4, 2) := by decide +kernel
theorem dX12_names_171 : decode cX12_names 171 = .ok (.goto 5, 3) := by decide +kernel
theorem dX12_names_174 : decode cX12_names 174 = .ok (.iload 5, 2) := by decide +kernel
theorem dX12_names_176 : decode cX12_names 176 = .ok (.ireturn, 1) := by decide +kernel
theorem dX12_draw_0 : decode cX12_draw 0 = .ok (.aload_n 0, 1) := by decide +kernel
theorem dX12_draw_1 : decode cX12_draw 1 = .ok (.iload_n 1, 1) := by decide +kernel
theorem dX12_draw_2 : decode cX12_draw 2 = .ok (.invokevirtual 321, 3) := by decide +kernel
theorem dX12_draw_5 : decode cX12_draw 5 = .ok (.ifCond .eq 15, 3) := by decide +kernel
theorem dX12_draw_8 : decode cX12_draw 8 = .ok (.iload_n 2, 1) := by decide +kernel
theorem dX12_draw_9 : decode cX12_draw 9 = .ok (.i2l, 1) := by decide +kernel
theorem dX12_draw_10 : decode cX12_draw 10 = .ok (.lconst 0, 1) := by decide +kernel
theorem dX12_draw_11 : decode cX12_draw 11 = .ok (.ldc2_w 350, 3) := by decide +kernel
theorem dX12_draw_14 : decode cX12_draw 14 = .ok (.invokestatic 94, 3) := by decide +kernel
theorem dX12_draw_17 : decode cX12_draw 17 = .ok (.ifCond .ne 6, 3) := by decide +kernel
theorem dX12_draw_20 : decode cX12_draw 20 = .ok (.bipush (-2), 2) := by decide +kernel
theorem dX12_draw_22 : decode cX12_draw 22 = .ok (.ireturn, 1) := by decide +kernel
theorem dX12_draw_23 : decode cX12_draw 23 = .ok (.aload_n 0, 1) := by decide +kernel
theorem dX12_draw_24 : decode cX12_draw 24 = .ok (.iload_n 1, 1) := by decide +kernel
theorem dX12_draw_25 : decode cX12_draw 25 = .ok (.invokevirtual 318, 3) := by decide +kernel
theorem dX12_draw_28 : decode cX12_draw 28 = .ok (.istore_n 3, 1) := by decide +kernel
theorem dX12_draw_29 : decode cX12_draw 29 = .ok (.ldc2_w 352, 3) := by decide +kernel
theorem dX12_draw_32 : decode cX12_draw 32 = .ok (.iload_n 2, 1) := by decide +kernel
theorem dX12_draw_33 : decode cX12_draw 33 = .ok (.i2l, 1) := by decide +kernel
theorem dX12_draw_34 : decode cX12_draw 34 = .ok (.lmul, 1) := by decide +kernel
theorem dX12_draw_35 : decode cX12_draw 35 = .ok (.ldc2_w 354, 3) := by decide +kernel
theorem dX12_draw_38 : decode cX12_draw 38 = .ok (.ladd, 1) := by decide +kernel
theorem dX12_draw_39 : decode cX12_draw 39 = .ok (.ldc2_w 356, 3) := by decide +kernel
theorem dX12_draw_42 : decode cX12_draw 42 = .ok (.lrem, 1) := by decide +kernel
theorem dX12_draw_43 : decode cX12_draw 43 = .ok (.lstore 4, 2) := by decide +kernel
theorem dX12_draw_45 : decode cX12_draw 45 = .ok (.iload_n 3, 1) := by decide +kernel
theorem dX12_draw_46 : decode cX12_draw 46 = .ok (.ifCond .ne 7, 3) := by decide +kernel
theorem dX12_draw_49 : decode cX12_draw 49 = .ok (.iconst (-1), 1) := by decide +kernel
theorem dX12_draw_50 : decode cX12_draw 50 = .ok (.goto 18, 3) := by decide +kernel
theorem dX12_draw_53 : decode cX12_draw 53 = .ok (.aload_n 0, 1) := by decide +kernel
theorem dX12_draw_54 : decode cX12_draw 54 = .ok (.iload_n 1, 1) := by decide +kernel
theorem dX12_draw_55 : decode cX12_draw 55 = .ok (.lload 4, 2) := by decide +kernel
theorem dX12_draw_57 : decode cX12_draw 57 = .ok (.ldc2_w 358, 3) := by decide +kernel
theorem dX12_draw_60 : decode cX12_draw 60 = .ok (.ldiv, 1) := by decide +kernel
theorem dX12_draw_61 : decode cX12_draw 61 = .ok (.iload_n 3, 1) := by decide +kernel
theorem dX12_draw_62 : decode cX12_draw 62 = .ok (.i2l, 1) := by decide +kernel
theorem dX12_draw_63 : decode cX12_draw 63 = .ok (.lrem, 1) := by decide +kernel
theorem dX12_draw_64 : decode cX12_draw 64 = .ok (.l2i, 1) := by decide +kernel
theorem dX12_draw_65 : decode cX12_draw 65 = .ok (.invokevirtual 340, 3) := by decide +kernel
theorem dX12_draw_68 : decode cX12_draw 68 = .ok (.ireturn, 1) := by decide +kernel
theorem dX12_areRegisters_0 : decode cX12_areRegisters 0 = .ok (.aload_n 0, 1) := by decide +kernel
theorem dX12_areRegisters_1 : decode cX12_areRegisters 1 = .ok (.iload_n 1, 1) := by decide +kernel
theorem dX12_areRegisters_2 : decode cX12_areRegisters 2 = .ok (.invokevirtual 321, 3) := by decide +kernel
theorem dX12_areRegisters_5 : decode cX12_areRegisters 5 = .ok (.ifCond .eq 15, 3) := by decide +kernel
theorem dX12_areRegisters_8 : decode cX12_areRegisters 8 = .ok (.aload_n 0, 1) := by decide +kernel
theorem dX12_areRegisters_9 : decode cX12_areRegisters 9 = .ok (.iload_n 2, 1) := by decide +kernel
theorem dX12_areRegisters_10 : decode cX12_areRegisters 10 = .ok (.invokevirtual 321, 3) := by decide +kernel
theorem dX12_areRegisters_13 : decode cX12_areRegisters 13 = .ok (.ifCond .eq 7, 3) := by decide +kernel
theorem dX12_areRegisters_16 : decode cX12_areRegisters 16 = .ok (.iconst 1, 1) := by decide +kernel
theorem dX12_areRegisters_17 : decode cX12_areRegisters 17 = .ok (.goto 4, 3) := by decide +kernel
theorem dX12_areRegisters_20 : decode cX12_areRegisters 20 = .ok (.iconst 0, 1) := by decide +kernel
theorem dX12_areRegisters_21 : decode cX12_areRegisters 21 = .ok (.ireturn, 1) := by decide +kernel
theorem dX12_differOf_0 : decode cX12_differOf 0 = .ok (.iconst 0, 1) := by decide +kernel
theorem dX12_differOf_1 : decode cX12_differOf 1 = .ok (.istore_n 3, 1) := by decide +kernel
theorem dX12_differOf_2 : decode cX12_differOf 2 = .ok (.iload_n 3, 1) := by decide +kernel
theorem dX12_differOf_3 : decode cX12_differOf 3 = .ok (.aload_n 0, 1) := by decide +kernel
theorem dX12_differOf_4 : decode cX12_differOf 4 = .ok (.invokevirtual 104, 3) := by decide +kernel
theorem dX12_differOf_7 : decode cX12_differOf 7 = .ok (.if_icmp .ge 26, 3) := by decide +kernel
theorem dX12_differOf_10 : decode cX12_differOf 10 = .ok (.aload_n 0, 1) := by decide +kernel
theorem dX12_differOf_11 : decode cX12_differOf 11 = .ok (.iload_n 1, 1) := by decide +kernel
theorem dX12_differOf_12 : decode cX12_differOf 12 = .ok (.iload_n 3, 1) := by decide +kernel
theorem dX12_differOf_13 : decode cX12_differOf 13 = .ok (.invokevirtual 314, 3) := by decide +kernel
theorem dX12_differOf_16 : decode cX12_differOf 16 = .ok (.aload_n 0, 1) := by decide +kernel
theorem dX12_differOf_17 : decode cX12_differOf 17 = .ok (.iload_n 2, 1) := by decide +kernel
theorem dX12_differOf_18 : decode cX12_differOf 18 = .ok (.iload_n 3, 1) := by decide +kernel
theorem dX12_differOf_19 : decode cX12_differOf 19 = .ok (.invokevirtual 314, 3) := by decide +kernel
theorem dX12_differOf_22 : decode cX12_differOf 22 = .ok (.if_icmp .eq 5, 3) := by decide +kernel
theorem dX12_differOf_25 : decode cX12_differOf 25 = .ok (.iload_n 3, 1) := by decide +kernel
theorem dX12_differOf_26 : decode cX12_differOf 26 = .ok (.ireturn, 1) := by decide +kernel
theorem dX12_differOf_27 : decode cX12_differOf 27 = .ok (.iinc 3 1, 3) := by decide +kernel
theorem dX12_differOf_30 : decode cX12_differOf 30 = .ok (.goto (-28), 3) := by decide +kernel
theorem dX12_differOf_33 : decode cX12_differOf 33 = .ok (.iconst (-1), 1) := by decide +kernel
theorem dX12_differOf_34 : decode cX12_differOf 34 = .ok (.ireturn, 1) := by decide +kernel
theorem dX12_alike_0 : decode cX12_alike 0 = .ok (.aload_n 0, 1) := by decide +kernel
theorem dX12_alike_1 : decode cX12_alike 1 = .ok (.iload_n 1, 1) := by decide +kernel
theorem dX12_alike_2 : decode cX12_alike 2 = .ok (.iload_n 2, 1) := by decide +kernel
theorem dX12_alike_3 : decode cX12_alike 3 = .ok (.invokevirtual 360, 3) := by decide +kernel
theorem dX12_alike_6 : decode cX12_alike 6 = .ok (.ifCond .eq 21, 3) := by decide +kernel
theorem dX12_alike_9 : decode cX12_alike 9 = .ok (.aload_n 0, 1) := by decide +kernel
theorem dX12_alike_10 : decode cX12_alike 10 = .ok (.iload_n 1, 1) := by decide +kernel
theorem dX12_alike_11 : decode cX12_alike 11 = .ok (.iload_n 2, 1) := by decide +kernel
theorem dX12_alike_12 : decode cX12_alike 12 = .ok (.invokevirtual 363, 3) := by decide +kernel
theorem dX12_alike_15 : decode cX12_alike 15 = .ok (.iconst (-1), 1) := by decide +kernel
theorem dX12_alike_16 : decode cX12_alike 16 = .ok (.if_icmp .ne 7, 3) := by decide +kernel
theorem dX12_alike_19 : decode cX12_alike 19 = .ok (.iconst 1, 1) := by decide +kernel
theorem dX12_alike_20 : decode cX12_alike 20 = .ok (.goto 9, 3) := by decide +kernel
theorem dX12_alike_23 : decode cX12_alike 23 = .ok (.iconst 0, 1) := by decide +kernel
theorem dX12_alike_24 : decode cX12_alike 24 = .ok (.goto 5, 3) := by decide +kernel
theorem dX12_alike_27 : decode cX12_alike 27 = .ok (.bipush (-2), 2) := by decide +kernel
theorem dX12_alike_29 : decode cX12_alike 29 = .ok (.ireturn, 1) := by decide +kernel
theorem dX12_differ_0 : decode cX12_differ 0 = .ok (.aload_n 0, 1) := by decide +kernel
theorem dX12_differ_1 : decode cX12_differ 1 = .ok (.iload_n 1, 1) := by decide +kernel
theorem dX12_differ_2 : decode cX12_differ 2 = .ok (.iload_n 2, 1) := by decide +kernel
theorem dX12_differ_3 : decode cX12_differ 3 = .ok (.invokevirtual 360, 3) := by decide +kernel
theorem dX12_differ_6 : decode cX12_differ 6 = .ok (.ifCond .eq 12, 3) := by decide +kernel
theorem dX12_differ_9 : decode cX12_differ 9 = .ok (.aload_n 0, 1) := by decide +kernel
theorem dX12_differ_10 : decode cX12_differ 10 = .ok (.iload_n 1, 1) := by decide +kernel
theorem dX12_differ_11 : decode cX12_differ 11 = .ok (.iload_n 2, 1) := by decide +kernel
theorem dX12_differ_12 : decode cX12_differ 12 = .ok (.invokevirtual 363, 3) := by decide +kernel
theorem dX12_differ_15 : decode cX12_differ 15 = .ok (.goto 5, 3) := by decide +kernel
theorem dX12_differ_18 : decode cX12_differ 18 = .ok (.bipush (-2), 2) := by decide +kernel
theorem dX12_differ_20 : decode cX12_differ 20 = .ok (.ireturn, 1) := by decide +kernel
theorem dX12_within_0 : decode cX12_within 0 = .ok (.aload_n 0, 1) := by decide +kernel
theorem dX12_within_1 : decode cX12_within 1 = .ok (.iload_n 1, 1) := by decide +kernel
theorem dX12_within_2 : decode cX12_within 2 = .ok (.iload_n 2, 1) := by decide +kernel
theorem dX12_within_3 : decode cX12_within 3 = .ok (.invokevirtual 360, 3) := by decide +kernel
theorem dX12_within_6 : decode cX12_within 6 = .ok (.ifCond .ne 6, 3) := by decide +kernel
theorem dX12_within_9 : decode cX12_within 9 = .ok (.bipush (-2), 2) := by decide +kernel
theorem dX12_within_11 : decode cX12_within 11 = .ok (.ireturn, 1) := by decide +kernel
theorem dX12_within_12 : decode cX12_within 12 = .ok (.iconst 0, 1) := by decide +kernel
theorem dX12_within_13 : decode cX12_within 13 = .ok (.istore_n 3, 1) := by decide +kernel
theorem dX12_within_14 : decode cX12_within 14 = .ok (.iload_n 3, 1) := by decide +kernel
theorem dX12_within_15 : decode cX12_within 15 = .ok (.aload_n 0, 1) := by decide +kernel
theorem dX12_within_16 : decode cX12_within 16 = .ok (.invokevirtual 104, 3) := by decide +kernel
theorem dX12_within_19 : decode cX12_within 19 = .ok (.if_icmp .ge 29, 3) := by decide +kernel
theorem dX12_within_22 : decode cX12_within 22 = .ok (.aload_n 0, 1) := by decide +kernel
theorem dX12_within_23 : decode cX12_within 23 = .ok (.iload_n 1, 1) := by decide +kernel
theorem dX12_within_24 : decode cX12_within 24 = .ok (.iload_n 3, 1) := by decide +kernel
theorem dX12_within_25 : decode cX12_within 25 = .ok (.invokevirtual 314, 3) := by decide +kernel
theorem dX12_within_28 : decode cX12_within 28 = .ok (.ifCond .eq 14, 3) := by decide +kernel
theorem dX12_within_31 : decode cX12_within 31 = .ok (.aload_n 0, 1) := by decide +kernel
theorem dX12_within_32 : decode cX12_within 32 = .ok (.iload_n 2, 1) := by decide +kernel
theorem dX12_within_33 : decode cX12_within 33 = .ok (.iload_n 3, 1) := by decide +kernel
theorem dX12_within_34 : decode cX12_within 34 = .ok (.invokevirtual 314, 3) := by decide +kernel
theorem dX12_within_37 : decode cX12_within 37 = .ok (.ifCond .ne 5, 3) := by decide +kernel
theorem dX12_within_40 : decode cX12_within 40 = .ok (.iconst 0, 1) := by decide +kernel
theorem dX12_within_41 : decode cX12_within 41 = .ok (.ireturn, 1) := by decide +kernel
theorem dX12_within_42 : decode cX12_within 42 = .ok (.iinc 3 1, 3) := by decide +kernel
theorem dX12_within_45 : decode cX12_within 45 = .ok (.goto (-31), 3) := by decide +kernel
theorem dX12_within_48 : decode cX12_within 48 = .ok (.iconst 1, 1) := by decide +kernel
theorem dX12_within_49 : decode cX12_within 49 = .ok (.ireturn, 1) := by decide +kernel
theorem dX12_isHits_0 : decode cX12_isHits 0 = .ok (.aload_n 0, 1) := by decide +kernel
theorem dX12_isHits_1 : decode cX12_isHits 1 = .ok (.aload_n 0, 1) := by decide +kernel
theorem dX12_isHits_2 : decode cX12_isHits 2 = .ok (.invokevirtual 104, 3) := by decide +kernel
theorem dX12_isHits_5 : decode cX12_isHits 5 = .ok (.putfield 180, 3) := by decide +kernel
theorem dX12_isHits_8 : decode cX12_isHits 8 = .ok (.aload_n 0, 1) := by decide +kernel
theorem dX12_isHits_9 : decode cX12_isHits 9 = .ok (.iconst 2, 1) := by decide +kernel
theorem dX12_isHits_10 : decode cX12_isHits 10 = .ok (.aload_n 0, 1) := by decide +kernel
theorem dX12_isHits_11 : decode cX12_isHits 11 = .ok (.getfield 13, 3) := by decide +kernel
theorem dX12_isHits_14 : decode cX12_isHits 14 = .ok (.sipush 1024, 3) := by decide +kernel
theorem dX12_isHits_17 : decode cX12_isHits 17 = .ok (.iload_n 2, 1) := by decide +kernel
theorem dX12_isHits_18 : decode cX12_isHits 18 = .ok (.imul, 1) := by decide +kernel
theorem dX12_isHits_19 : decode cX12_isHits 19 = .ok (.invokevirtual 209, 3) := by decide +kernel
theorem dX12_isHits_22 : decode cX12_isHits 22 = .ok (.iconst 0, 1) := by decide +kernel
theorem dX12_isHits_23 : decode cX12_isHits 23 = .ok (.istore_n 3, 1) := by decide +kernel
theorem dX12_isHits_24 : decode cX12_isHits 24 = .ok (.iload_n 3, 1) := by decide +kernel
theorem dX12_isHits_25 : decode cX12_isHits 25 = .ok (.aload_n 0, 1) := by decide +kernel
theorem dX12_isHits_26 : decode cX12_isHits 26 = .ok (.getfield 180, 3) := by decide +kernel
theorem dX12_isHits_29 : decode cX12_isHits 29 = .ok (.if_icmp .ge 26, 3) := by decide +kernel
theorem dX12_isHits_32 : decode cX12_isHits 32 = .ok (.aload_n 0, 1) := by decide +kernel
theorem dX12_isHits_33 : decode cX12_isHits 33 = .ok (.iload_n 1, 1) := by decide +kernel
theorem dX12_isHits_34 : decode cX12_isHits 34 = .ok (.iload_n 3, 1) := by decide +kernel
theorem dX12_isHits_35 : decode cX12_isHits 35 = .ok (.invokevirtual 314, 3) := by decide +kernel
theorem dX12_isHits_38 : decode cX12_isHits 38 = .ok (.aload_n 0, 1) := by decide +kernel
theorem dX12_isHits_39 : decode cX12_isHits 39 = .ok (.getfield 40, 3) := by decide +kernel
theorem dX12_isHits_42 : decode cX12_isHits 42 = .ok (.iload_n 3, 1) := by decide +kernel
theorem dX12_isHits_43 : decode cX12_isHits 43 = .ok (.baload, 1) := by decide +kernel
theorem dX12_isHits_44 : decode cX12_isHits 44 = .ok (.if_icmp .eq 5, 3) := by decide +kernel
theorem dX12_isHits_47 : decode cX12_isHits 47 = .ok (.iconst 0, 1) := by decide +kernel
theorem dX12_isHits_48 : decode cX12_isHits 48 = .ok (.ireturn, 1) := by decide +kernel
theorem dX12_isHits_49 : decode cX12_isHits 49 = .ok (.iinc 3 1, 3) := by decide +kernel
theorem dX12_isHits_52 : decode cX12_isHits 52 = .ok (.goto (-28), 3) := by decide +kernel
theorem dX12_isHits_55 : decode cX12_isHits 55 = .ok (.iconst 1, 1) := by decide +kernel
theorem dX12_isHits_56 : decode cX12_isHits 56 = .ok (.ireturn, 1) := by decide +kernel
theorem dX12_dual_0 : decode cX12_dual 0 = .ok (.aload_n 0, 1) := by decide +kernel
theorem dX12_dual_1 : decode cX12_dual 1 = .ok (.iload_n 1, 1) := by decide +kernel
theorem dX12_dual_2 : decode cX12_dual 2 = .ok (.iload_n 2, 1) := by decide +kernel
theorem dX12_dual_3 : decode cX12_dual 3 = .ok (.invokevirtual 360, 3) := by decide +kernel
theorem dX12_dual_6 : decode cX12_dual 6 = .ok (.ifCond .eq 29, 3) := by decide +kernel
theorem dX12_dual_9 : decode cX12_dual 9 = .ok (.aload_n 0, 1) := by decide +kernel
theorem dX12_dual_10 : decode cX12_dual 10 = .ok (.iload_n 1, 1) := by decide +kernel
theorem dX12_dual_11 : decode cX12_dual 11 = .ok (.iload_n 2, 1) := by decide +kernel
theorem dX12_dual_12 : decode cX12_dual 12 = .ok (.invokevirtual 366, 3) := by decide +kernel
theorem dX12_dual_15 : decode cX12_dual 15 = .ok (.ifCond .eq 16, 3) := by decide +kernel
theorem dX12_dual_18 : decode cX12_dual 18 = .ok (.aload_n 0, 1) := by decide +kernel
theorem dX12_dual_19 : decode cX12_dual 19 = .ok (.iload_n 2, 1) := by decide +kernel
theorem dX12_dual_20 : decode cX12_dual 20 = .ok (.iload_n 1, 1) := by decide +kernel
theorem dX12_dual_21 : decode cX12_dual 21 = .ok (.invokevirtual 366, 3) := by decide +kernel
theorem dX12_dual_24 : decode cX12_dual 24 = .ok (.ifCond .eq 7, 3) := by decide +kernel
theorem dX12_dual_27 : decode cX12_dual 27 = .ok (.iconst 1, 1) := by decide +kernel
theorem dX12_dual_28 : decode cX12_dual 28 = .ok (.goto 9, 3) := by decide +kernel
theorem dX12_dual_31 : decode cX12_dual 31 = .ok (.iconst 0, 1) := by decide +kernel
theorem dX12_dual_32 : decode cX12_dual 32 = .ok (.goto 5, 3) := by decide +kernel
theorem dX12_dual_35 : decode cX12_dual 35 = .ok (.bipush (-2), 2) := by decide +kernel
theorem dX12_dual_37 : decode cX12_dual 37 = .ok (.ireturn, 1) := by decide +kernel
theorem dX12_apart_0 : decode cX12_apart 0 = .ok (.aload_n 0, 1) := by decide +kernel
theorem dX12_apart_1 : decode cX12_apart 1 = .ok (.iload_n 1, 1) := by decide +kernel
theorem dX12_apart_2 : decode cX12_apart 2 = .ok (.iload_n 2, 1) := by decide +kernel
theorem dX12_apart_3 : decode cX12_apart 3 = .ok (.invokevirtual 360, 3) := by decide +kernel
theorem dX12_apart_6 : decode cX12_apart 6 = .ok (.ifCond .ne 6, 3) := by decide +kernel
theorem dX12_apart_9 : decode cX12_apart 9 = .ok (.bipush (-2), 2) := by decide +kernel
theorem dX12_apart_11 : decode cX12_apart 11 = .ok (.ireturn, 1) := by decide +kernel
theorem dX12_apart_12 : decode cX12_apart 12 = .ok (.iconst 0, 1) := by decide +kernel
theorem dX12_apart_13 : decode cX12_apart 13 = .ok (.istore_n 3, 1) := by decide +kernel
theorem dX12_apart_14 : decode cX12_apart 14 = .ok (.iconst 0, 1) := by decide +kernel
theorem dX12_apart_15 : decode cX12_apart 15 = .ok (.istore 4, 2) := by decide +kernel
theorem dX12_apart_17 : decode cX12_apart 17 = .ok (.iload 4, 2) := by decide +kernel
theorem dX12_apart_19 : decode cX12_apart 19 = .ok (.aload_n 0, 1) := by decide +kernel
theorem dX12_apart_20 : decode cX12_apart 20 = .ok (.invokevirtual 104, 3) := by decide +kernel
theorem dX12_apart_23 : decode cX12_apart 23 = .ok (.if_icmp .ge 63, 3) := by decide +kernel
theorem dX12_apart_26 : decode cX12_apart 26 = .ok (.iconst 0, 1) := by decide +kernel
theorem dX12_apart_27 : decode cX12_apart 27 = .ok (.istore 5, 2) := by decide +kernel
theorem dX12_apart_29 : decode cX12_apart 29 = .ok (.iload 5, 2) := by decide +kernel
theorem dX12_apart_31 : decode cX12_apart 31 = .ok (.aload_n 0, 1) := by decide +kernel
theorem dX12_apart_32 : decode cX12_apart 32 = .ok (.invokevirtual 104, 3) := by decide +kernel
theorem dX12_apart_35 : decode cX12_apart 35 = .ok (.if_icmp .ge 45, 3) := by decide +kernel
theorem dX12_apart_38 : decode cX12_apart 38 = .ok (.aload_n 0, 1) := by decide +kernel
theorem dX12_apart_39 : decode cX12_apart 39 = .ok (.iload_n 1, 1) := by decide +kernel
theorem dX12_apart_40 : decode cX12_apart 40 = .ok (.iload 4, 2) := by decide +kernel
theorem dX12_apart_42 : decode cX12_apart 42 = .ok (.invokevirtual 314, 3) := by decide +kernel
theorem dX12_apart_45 : decode cX12_apart 45 = .ok (.ifCond .eq 35, 3) := by decide +kernel
theorem dX12_apart_48 : decode cX12_apart 48 = .ok (.iload_n 3, 1) := by decide +kernel
theorem dX12_apart_49 : decode cX12_apart 49 = .ok (.aload_n 0, 1) := by decide +kernel
theorem dX12_apart_50 : decode cX12_apart 50 = .ok (.iload_n 2, 1) := by decide +kernel
theorem dX12_apart_51 : decode cX12_apart 51 = .ok (.iload 5, 2) := by decide +kernel
theorem dX12_apart_53 : decode cX12_apart 53 = .ok (.invokevirtual 314, 3) := by decide +kernel
theorem dX12_apart_56 : decode cX12_apart 56 = .ok (.ifCond .eq 15, 3) := by decide +kernel
theorem dX12_apart_59 : decode cX12_apart 59 = .ok (.iload 4, 2) := by decide +kernel
theorem dX12_apart_61 : decode cX12_apart 61 = .ok (.iload 5, 2) := by decide +kernel
theorem dX12_apart_63 : decode cX12_apart 63 = .ok (.iand, 1) := by decide +kernel
theorem dX12_apart_64 : decode cX12_apart 64 = .ok (.ifCond .ne 7, 3) := by decide +kernel
theorem dX12_apart_67 : decode cX12_apart 67 = .ok (.iconst 1, 1) := by decide +kernel
theorem dX12_apart_68 : decode cX12_apart 68 = .ok (.goto 4, 3) := by decide +kernel
theorem dX12_apart_71 : decode cX12_apart 71 = .ok (.iconst 0, 1) := by decide +kernel
theorem dX12_apart_72 : decode cX12_apart 72 = .ok (.iadd, 1) := by decide +kernel
theorem dX12_apart_73 : decode cX12_apart 73 = .ok (.istore_n 3, 1) := by decide +kernel
theorem dX12_apart_74 : decode cX12_apart 74 = .ok (.iinc 5 1, 3) := by decide +kernel
theorem dX12_apart_77 : decode cX12_apart 77 = .ok (.goto (-48), 3) := by decide +kernel
theorem dX12_apart_80 : decode cX12_apart 80 = .ok (.iinc 4 1, 3) := by decide +kernel
theorem dX12_apart_83 : decode cX12_apart 83 = .ok (.goto (-66), 3) := by decide +kernel
theorem dX12_apart_86 : decode cX12_apart 86 = .ok (.iload_n 3, 1) := by decide +kernel
theorem dX12_apart_87 : decode cX12_apart 87 = .ok (.ireturn, 1) := by decide +kernel
theorem dX12_packs_0 : decode cX12_packs 0 = .ok (.aload_n 0, 1) := by decide +kernel
theorem dX12_packs_1 : decode cX12_packs 1 = .ok (.iload_n 1, 1) := by decide +kernel
theorem dX12_packs_2 : decode cX12_packs 2 = .ok (.invokevirtual 321, 3) := by decide +kernel
theorem dX12_packs_5 : decode cX12_packs 5 = .ok (.ifCond .eq 13, 3) := by decide +kernel
theorem dX12_packs_8 : decode cX12_packs 8 = .ok (.iload_n 2, 1) := by decide +kernel
theorem dX12_packs_9 : decode cX12_packs 9 = .ok (.i2l, 1) := by decide +kernel
theorem dX12_packs_10 : decode cX12_packs 10 = .ok (.lconst 0, 1) := by decide +kernel
theorem dX12_packs_11 : decode cX12_packs 11 = .ok (.lconst 1, 1) := by decide +kernel
theorem dX12_packs_12 : decode cX12_packs 12 = .ok (.invokestatic 94, 3) := by decide +kernel
theorem dX12_packs_15 : decode cX12_packs 15 = .ok (.ifCond .ne 6, 3) := by decide +kernel
theorem dX12_packs_18 : decode cX12_packs 18 = .ok (.bipush (-2), 2) := by decide +kernel
theorem dX12_packs_20 : decode cX12_packs 20 = .ok (.ireturn, 1) := by decide +kernel
theorem dX12_packs_21 : decode cX12_packs 21 = .ok (.aload_n 0, 1) := by decide +kernel
theorem dX12_packs_22 : decode cX12_packs 22 = .ok (.iload_n 1, 1) := by decide +kernel
theorem dX12_packs_23 : decode cX12_packs 23 = .ok (.invokevirtual 318, 3) := by decide +kernel
theorem dX12_packs_26 : decode cX12_packs 26 = .ok (.istore_n 3, 1) := by decide +kernel
theorem dX12_packs_27 : decode cX12_packs 27 = .ok (.iload_n 3, 1) := by decide +kernel
theorem dX12_packs_28 : decode cX12_packs 28 = .ok (.ifCond .ne 5, 3) := by decide +kernel
theorem dX12_packs_31 : decode cX12_packs 31 = .ok (.iconst (-1), 1) := by decide +kernel
theorem dX12_packs_32 : decode cX12_packs 32 = .ok (.ireturn, 1) := by decide +kernel
theorem dX12_packs_33 : decode cX12_packs 33 = .ok (.iload_n 3, 1) := by decide +kernel
theorem dX12_packs_34 : decode cX12_packs 34 = .ok (.bipush 12, 2) := by decide +kernel
theorem dX12_packs_36 : decode cX12_packs 36 = .ok (.if_icmp .le 6, 3) := by decide +kernel
theorem dX12_packs_39 : decode cX12_packs 39 = .ok (.bipush (-3), 2) := by decide +kernel
theorem dX12_packs_41 : decode cX12_packs 41 = .ok (.ireturn, 1) := by decide +kernel
theorem dX12_packs_42 : decode cX12_packs 42 = .ok (.iconst 0, 1) := by decide +kernel
theorem dX12_packs_43 : decode cX12_packs 43 = .ok (.istore 4, 2) := by decide +kernel
theorem dX12_packs_45 : decode cX12_packs 45 = .ok (.iconst 0, 1) := by decide +kernel
theorem dX12_packs_46 : decode cX12_packs 46 = .ok (.istore 5, 2) := by decide +kernel
theorem dX12_packs_48 : decode cX12_packs 48 = .ok (.iload 5, 2) := by decide +kernel
theorem dX12_packs_50 : decode cX12_packs 50 = .ok (.iload_n 3, 1) := by decide +kernel
theorem dX12_packs_51 : decode cX12_packs 51 = .ok (.if_icmp .ge 35, 3) := by decide +kernel
theorem dX12_packs_54 : decode cX12_packs 54 = .ok (.aload_n 0, 1) := by decide +kernel
theorem dX12_packs_55 : decode cX12_packs 55 = .ok (.getfield 58, 3) := by decide +kernel
theorem dX12_packs_58 : decode cX12_packs 58 = .ok (.iload 5, 2) := by decide +kernel
theorem dX12_packs_60 : decode cX12_packs 60 = .ok (.aload_n 0, 1) := by decide +kernel
theorem dX12_packs_61 : decode cX12_packs 61 = .ok (.iload_n 1, 1) := by decide +kernel
theorem dX12_packs_62 : decode cX12_packs 62 = .ok (.iload 5, 2) := by decide +kernel
theorem dX12_packs_64 : decode cX12_packs 64 = .ok (.invokevirtual 340, 3) := by decide +kernel
theorem dX12_packs_67 : decode cX12_packs 67 = .ok (.iastore, 1) := by decide +kernel
theorem dX12_packs_68 : decode cX12_packs 68 = .ok (.iload 4, 2) := by decide +kernel
theorem dX12_packs_70 : decode cX12_packs 70 = .ok (.aload_n 0, 1) := by decide +kernel
theorem dX12_packs_71 : decode cX12_packs 71 = .ok (.getfield 58, 3) := by decide +kernel
theorem dX12_packs_74 : decode cX12_packs 74 = .ok (.iload 5, 2) := by decide +kernel
theorem dX12_packs_76 : decode cX12_packs 76 = .ok (.iaload, 1) := by decide +kernel
theorem dX12_packs_77 : decode cX12_packs 77 = .ok (.ior, 1) := by decide +kernel
theorem dX12_packs_78 : decode cX12_packs 78 = .ok (.istore 4, 2) := by decide +kernel
theorem dX12_packs_80 : decode cX12_packs 80 = .ok (.iinc 5 1, 3) := by decide +kernel
theorem dX12_packs_83 : decode cX12_packs 83 = .ok (.goto (-35), 3) := by decide +kernel
theorem dX12_packs_86 : decode cX12_packs 86 = .ok (.iload_n 3, 1) := by decide +kernel
theorem dX12_packs_87 : decode cX12_packs 87 = .ok (.istore 5, 2) := by decide +kernel
theorem dX12_packs_89 : decode cX12_packs 89 = .ok (.iconst 0, 1) := by decide +kernel
theorem dX12_packs_90 : decode cX12_packs 90 = .ok (.istore 6, 2) := by decide +kernel
theorem dX12_packs_92 : decode cX12_packs 92 = .ok (.iconst 0, 1) := by decide +kernel
theorem dX12_packs_93 : decode cX12_packs 93 = .ok (.istore 7, 2) := by decide +kernel
theorem dX12_packs_95 : decode cX12_packs 95 = .ok (.iload 7, 2) := by decide +kernel
theorem dX12_packs_97 : decode cX12_packs 97 = .ok (.iconst 1, 1) := by decide +kernel
theorem dX12_packs_98 : decode cX12_packs 98 = .ok (.iload_n 3, 1) := by decide +kernel
theorem dX12_packs_99 : decode cX12_packs 99 = .ok (.ishl, 1) := by decide +kernel
theorem dX12_packs_100 : decode cX12_packs 100 = .ok (.if_icmp .ge 126, 3) := by decide +kernel
theorem dX12_packs_103 : decode cX12_packs 103 = .ok (.iconst 0, 1) := by decide +kernel
theorem dX12_packs_104 : decode cX12_packs 104 = .ok (.istore 8, 2) := by decide +kernel
theorem dX12_packs_106 : decode cX12_packs 106 = .ok (.iconst 0, 1) := by decide +kernel
theorem dX12_packs_107 : decode cX12_packs 107 = .ok (.istore 9, 2) := by decide +kernel
theorem dX12_packs_109 : decode cX12_packs 109 = .ok (.iconst 1, 1) := by decide +kernel
theorem dX12_packs_110 : decode cX12_packs 110 = .ok (.istore 10, 2) := by decide +kernel
theorem dX12_packs_112 : decode cX12_packs 112 = .ok (.iconst 0, 1) := by decide +kernel
theorem dX12_packs_113 : decode cX12_packs 113 = .ok (.istore 11, 2) := by decide +kernel
theorem dX12_packs_115 : decode cX12_packs 115 = .ok (.iload 11, 2) := by decide +kernel
theorem dX12_packs_117 : decode cX12_packs 117 = .ok (.iload_n 3, 1) := by decide +kernel
theorem dX12_packs_118 : decode cX12_packs 118 = .ok (.if_icmp .ge 62, 3) := by decide +kernel
theorem dX12_packs_121 : decode cX12_packs 121 = .ok (.iload 7, 2) := by decide +kernel
theorem dX12_packs_123 : decode cX12_packs 123 = .ok (.iload 11, 2) := by decide +kernel
theorem dX12_packs_125 : decode cX12_packs 125 = .ok (.ishr, 1) := by decide +kernel
theorem dX12_packs_126 : decode cX12_packs 126 = .ok (.iconst 1, 1) := by decide +kernel
theorem dX12_packs_127 : decode cX12_packs 127 = .ok (.iand, 1) := by decide +kernel
theorem dX12_packs_128 : decode cX12_packs 128 = .ok (.ifCond .ne 6, 3) := by decide +kernel
theorem dX12_packs_131 : decode cX12_packs 131 = .ok (.goto 43, 3) := by decide +kernel
theorem dX12_packs_134 : decode cX12_packs 134 = .ok (.iload 10, 2) := by decide +kernel
theorem dX12_packs_136 : decode cX12_packs 136 = .ok (.ifCond .eq 20, 3) := by decide +kernel
theorem dX12_packs_139 : decode cX12_packs 139 = .ok (.iload 8, 2) := by decide +kernel
theorem dX12_packs_141 : decode cX12_packs 141 = .ok (.aload_n 0, 1) := by decide +kernel
theorem dX12_packs_142 : decode cX12_packs 142 = .ok (.getfield 58, 3) := by decide +kernel
theorem dX12_packs_145 : decode cX12_packs 145 = .ok (.iload 11, 2) := by decide +kernel
theorem dX12_packs_147 : decode cX12_packs 147 = .ok (.iaload, 1) := by decide +kernel
theorem dX12_packs_148 : decode cX12_packs 148 = .ok (.iand, 1) := by decide +kernel
theorem dX12_packs_149 : decode cX12_packs 149 = .ok (.ifCond .ne 7, 3) := by decide +kernel
theorem dX12_packs_152 : decode cX12_packs 152 = .ok (.iconst 1, 1) := by decide +kernel
theorem dX12_packs_153 : decode cX12_packs 153 = .ok (.goto 4, 3) := by decide +kernel
theorem dX12_packs_156 : decode cX12_packs 156 = .ok (.iconst 0, 1) := by decide +kernel
theorem dX12_packs_157 : decode cX12_packs 157 = .ok (.istore 10, 2) := by decide +kernel
theorem dX12_packs_159 : decode cX12_packs 159 = .ok (.iload 8, 2) := by decide +kernel
theorem dX12_packs_161 : decode cX12_packs 161 = .ok (.aload_n 0, 1) := by decide +kernel
theorem dX12_packs_162 : decode cX12_packs 162 = .ok (.getfield 58, 3) := by decide +kernel
theorem dX12_packs_165 : decode cX12_packs 165 = .ok (.iload 11, 2) := by decide +kernel
theorem dX12_packs_167 : decode cX12_packs 167 = .ok (.iaload, 1) := by decide +kernel
theorem dX12_packs_168 : decode cX12_packs 168 = .ok (.ior, 1) := by decide +kernel
theorem dX12_packs_169 : decode cX12_packs 169 = .ok (.istore 8, 2) := by decide +kernel
theorem dX12_packs_171 : decode cX12_packs 171 = .ok (.iinc 9 1, 3) := by decide +kernel
theorem dX12_packs_174 : decode cX12_packs 174 = .ok (.iinc 11 1, 3) := by decide +kernel
theorem dX12_packs_177 : decode cX12_packs 177 = .ok (.goto (-62), 3) := by decide +kernel
theorem dX12_packs_180 : decode cX12_packs 180 = .ok (.iload 8, 2) := by decide +kernel
theorem dX12_packs_182 : decode cX12_packs 182 = .ok (.iload 4, 2) := by decide +kernel
theorem dX12_packs_184 : decode cX12_packs 184 = .ok (.if_icmp .ne 13, 3) := by decide +kernel
theorem dX12_packs_187 : decode cX12_packs 187 = .ok (.iload 5, 2) := by decide +kernel
theorem dX12_packs_189 : decode cX12_packs 189 = .ok (.iload 9, 2) := by decide +kernel
theorem dX12_packs_191 : decode cX12_packs 191 = .ok (.invokestatic 138, 3) := by decide +kernel
theorem dX12_packs_194 : decode cX12_packs 194 = .ok (.goto 5, 3) := by decide +kernel
theorem dX12_packs_197 : decode cX12_packs 197 = .ok (.iload 5, 2) := by decide +kernel
theorem dX12_packs_199 : decode cX12_packs 199 = .ok (.istore 5, 2) := by decide +kernel
theorem dX12_packs_201 : decode cX12_packs 201 = .ok (.iload 10, 2) := by decide +kernel
theorem dX12_packs_203 : decode cX12_packs 203 = .ok (.ifCond .eq 13, 3) := by decide +kernel
theorem dX12_packs_206 : decode cX12_packs 206 = .ok (.iload 6, 2) := by decide +kernel
theorem dX12_packs_208 : decode cX12_packs 208 = .ok (.iload 9, 2) := by decide +kernel
theorem dX12_packs_210 : decode cX12_packs 210 = .ok (.invokestatic 348, 3) := by decide +kernel
theorem dX12_packs_213 : decode cX12_packs 213 = .ok (.goto 5, 3) := by decide +kernel
theorem dX12_packs_216 : decode cX12_packs 216 = .ok (.iload 6, 2) := by decide +kernel
theorem dX12_packs_218 : decode cX12_packs 218 = .ok (.istore 6, 2) := by decide +kernel
theorem dX12_packs_220 : decode cX12_packs 220 = .ok (.iinc 7 1, 3) := by decide +kernel
theorem dX12_packs_223 : decode cX12_packs 223 = .ok (.goto (-128), 3) := by decide +kernel
theorem dX12_packs_226 : decode cX12_packs 226 = .ok (.iload_n 2, 1) := by decide +kernel
theorem dX12_packs_227 : decode cX12_packs 227 = .ok (.ifCond .ne 8, 3) := by decide +kernel
theorem dX12_packs_230 : decode cX12_packs 230 = .ok (.iload 5, 2) := by decide +kernel
theorem dX12_packs_232 : decode cX12_packs 232 = .ok (.goto 5, 3) := by decide +kernel
theorem dX12_packs_235 : decode cX12_packs 235 = .ok (.iload 6, 2) := by decide +kernel
theorem dX12_packs_237 : decode cX12_packs 237 = .ok (.ireturn, 1) := by decide +kernel
theorem dX12_takesOrder_0 : decode cX12_takesOrder 0 = .ok (.iconst 0, 1) := by decide +kernel
theorem dX12_takesOrder_1 : decode cX12_takesOrder 1 = .ok (.istore_n 1, 1) := by decide +kernel
theorem dX12_takesOrder_2 : decode cX12_takesOrder 2 = .ok (.iload_n 1, 1) := by decide +kernel
theorem dX12_takesOrder_3 : decode cX12_takesOrder 3 = .ok (.bipush 10, 2) := by decide +kernel
theorem dX12_takesOrder_5 : decode cX12_takesOrder 5 = .ok (.if_icmp .ge 24, 3) := by decide +kernel
theorem dX12_takesOrder_8 : decode cX12_takesOrder 8 = .ok (.aload_n 0, 1) := by decide +kernel
theorem dX12_takesOrder_9 : decode cX12_takesOrder 9 = .ok (.getfield 64, 3) := by decide +kernel
theorem dX12_takesOrder_12 : decode cX12_takesOrder 12 = .ok (.iload_n 1, 1) := by decide +kernel
theorem dX12_takesOrder_13 : decode cX12_takesOrder 13 = .ok (.aload_n 0, 1) := by decide +kernel
theorem dX12_takesOrder_14 : decode cX12_takesOrder 14 = .ok (.getfield 9, 3) := by decide +kernel
theorem dX12_takesOrder_17 : decode cX12_takesOrder 17 = .ok (.bipush 33, 2) := by decide +kernel
theorem dX12_takesOrder_19 : decode cX12_takesOrder 19 = .ok (.iload_n 1, 1) := by decide +kernel
theorem dX12_takesOrder_20 : decode cX12_takesOrder 20 = .ok (.iadd, 1) := by decide +kernel
theorem dX12_takesOrder_21 : decode cX12_takesOrder 21 = .ok (.iaload, 1) := by decide +kernel
theorem dX12_takesOrder_22 : decode cX12_takesOrder 22 = .ok (.iastore, 1) := by decide +kernel
theorem dX12_takesOrder_23 : decode cX12_takesOrder 23 = .ok (.iinc 1 1, 3) := by decide +kernel
theorem dX12_takesOrder_26 : decode cX12_takesOrder 26 = .ok (.goto (-24), 3) := by decide +kernel
theorem dX12_takesOrder_29 : decode cX12_takesOrder 29 = .ok (.return_, 1) := by decide +kernel
theorem dX12_spotOf_0 : decode cX12_spotOf 0 = .ok (.iconst 0, 1) := by decide +kernel
theorem dX12_spotOf_1 : decode cX12_spotOf 1 = .ok (.istore_n 2, 1) := by decide +kernel
theorem dX12_spotOf_2 : decode cX12_spotOf 2 = .ok (.iconst 0, 1) := by decide +kernel
theorem dX12_spotOf_3 : decode cX12_spotOf 3 = .ok (.istore_n 3, 1) := by decide +kernel
theorem dX12_spotOf_4 : decode cX12_spotOf 4 = .ok (.iload_n 3, 1) := by decide +kernel
theorem dX12_spotOf_5 : decode cX12_spotOf 5 = .ok (.aload_n 0, 1) := by decide +kernel
theorem dX12_spotOf_6 : decode cX12_spotOf 6 = .ok (.getfield 9, 3) := by decide +kernel
theorem dX12_spotOf_9 : decode cX12_spotOf 9 = .ok (.iconst 0, 1) := by decide +kernel
theorem dX12_spotOf_10 : decode cX12_spotOf 10 = .ok (.iaload, 1) := by decide +kernel
theorem dX12_spotOf_11 : decode cX12_spotOf 11 = .ok (.if_icmp .ge 24, 3) := by decide +kernel
theorem dX12_spotOf_14 : decode cX12_spotOf 14 = .ok (.iconst 2, 1) := by decide +kernel
theorem dX12_spotOf_15 : decode cX12_spotOf 15 = .ok (.iload_n 2, 1) := by decide +kernel
theorem dX12_spotOf_16 : decode cX12_spotOf 16 = .ok (.imul, 1) := by decide +kernel
theorem dX12_spotOf_17 : decode cX12_spotOf 17 = .ok (.iload_n 1, 1) := by decide +kernel
theorem dX12_spotOf_18 : decode cX12_spotOf 18 = .ok (.aload_n 0, 1) := by decide +kernel
theorem dX12_spotOf_19 : decode cX12_spotOf 19 = .ok (.getfield 64, 3) := by decide +kernel
theorem dX12_spotOf_22 : decode cX12_spotOf 22 = .ok (.iload_n 3, 1) := by decide +kernel
theorem dX12_spotOf_23 : decode cX12_spotOf 23 = .ok (.iaload, 1) := by decide +kernel
theorem dX12_spotOf_24 : decode cX12_spotOf 24 = .ok (.ishr, 1) := by decide +kernel
theorem dX12_spotOf_25 : decode cX12_spotOf 25 = .ok (.iconst 1, 1) := by decide +kernel
theorem dX12_spotOf_26 : decode cX12_spotOf 26 = .ok (.iand, 1) := by decide +kernel
theorem dX12_spotOf_27 : decode cX12_spotOf 27 = .ok (.iadd, 1) := by decide +kernel
theorem dX12_spotOf_28 : decode cX12_spotOf 28 = .ok (.istore_n 2, 1) := by decide +kernel
theorem dX12_spotOf_29 : decode cX12_spotOf 29 = .ok (.iinc 3 1, 3) := by decide +kernel
theorem dX12_spotOf_32 : decode cX12_spotOf 32 = .ok (.goto (-28), 3) := by decide +kernel
theorem dX12_spotOf_35 : decode cX12_spotOf 35 = .ok (.iload_n 2, 1) := by decide +kernel
theorem dX12_spotOf_36 : decode cX12_spotOf 36 = .ok (.ireturn, 1) := by decide +kernel
theorem dX12_laysOut_0 : decode cX12_laysOut 0 = .ok (.iconst 0, 1) := by decide +kernel
theorem dX12_laysOut_1 : decode cX12_laysOut 1 = .ok (.istore_n 2, 1) := by decide +kernel
theorem dX12_laysOut_2 : decode cX12_laysOut 2 = .ok (.iload_n 2, 1) := by decide +kernel
theorem dX12_laysOut_3 : decode cX12_laysOut 3 = .ok (.aload_n 0, 1) := by decide +kernel
theorem dX12_laysOut_4 : decode cX12_laysOut 4 = .ok (.invokevirtual 104, 3) := by decide +kernel
theorem dX12_laysOut_7 : decode cX12_laysOut 7 = .ok (.if_icmp .ge 25, 3) := by decide +kernel
theorem dX12_laysOut_10 : decode cX12_laysOut 10 = .ok (.aload_n 0, 1) := by decide +kernel
theorem dX12_laysOut_11 : decode cX12_laysOut 11 = .ok (.getfield 61, 3) := by decide +kernel
theorem dX12_laysOut_14 : decode cX12_laysOut 14 = .ok (.aload_n 0, 1) := by decide +kernel
theorem dX12_laysOut_15 : decode cX12_laysOut 15 = .ok (.iload_n 2, 1) := by decide +kernel
theorem dX12_laysOut_16 : decode cX12_laysOut 16 = .ok (.invokevirtual 369, 3) := by decide +kernel
theorem dX12_laysOut_19 : decode cX12_laysOut 19 = .ok (.aload_n 0, 1) := by decide +kernel
theorem dX12_laysOut_20 : decode cX12_laysOut 20 = .ok (.iload_n 1, 1) := by decide +kernel
theorem dX12_laysOut_21 : decode cX12_laysOut 21 = .ok (.iload_n 2, 1) := by decide +kernel
theorem dX12_laysOut_22 : decode cX12_laysOut 22 = .ok (.invokevirtual 314, 3) := by decide +kernel
theorem dX12_laysOut_25 : decode cX12_laysOut 25 = .ok (.bastore, 1) := by decide +kernel
theorem dX12_laysOut_26 : decode cX12_laysOut 26 = .ok (.iinc 2 1, 3) := by decide +kernel
theorem dX12_laysOut_29 : decode cX12_laysOut 29 = .ok (.goto (-27), 3) := by decide +kernel
theorem dX12_laysOut_32 : decode cX12_laysOut 32 = .ok (.return_, 1) := by decide +kernel
theorem dX12_isKnown_0 : decode cX12_isKnown 0 = .ok (.iconst 0, 1) := by decide +kernel
theorem dX12_isKnown_1 : decode cX12_isKnown 1 = .ok (.istore_n 3, 1) := by decide +kernel
theorem dX12_isKnown_2 : decode cX12_isKnown 2 = .ok (.iload_n 3, 1) := by decide +kernel
theorem dX12_isKnown_3 : decode cX12_isKnown 3 = .ok (.aload_n 0, 1) := by decide +kernel
theorem dX12_isKnown_4 : decode cX12_isKnown 4 = .ok (.getfield 372, 3) := by decide +kernel
theorem dX12_isKnown_7 : decode cX12_isKnown 7 = .ok (.if_icmp .ge 69, 3) := by decide +kernel
theorem dX12_isKnown_10 : decode cX12_isKnown 10 = .ok (.iconst 1, 1) := by decide +kernel
theorem dX12_isKnown_11 : decode cX12_isKnown 11 = .ok (.istore 4, 2) := by decide +kernel
theorem dX12_isKnown_13 : decode cX12_isKnown 13 = .ok (.iconst 0, 1) := by decide +kernel
theorem dX12_isKnown_14 : decode cX12_isKnown 14 = .ok (.istore 5, 2) := by decide +kernel
theorem dX12_isKnown_16 : decode cX12_isKnown 16 = .ok (.iload 5, 2) := by decide +kernel
theorem dX12_isKnown_18 : decode cX12_isKnown 18 = .ok (.iload_n 2, 1) := by decide +kernel
theorem dX12_isKnown_19 : decode cX12_isKnown 19 = .ok (.if_icmp .ge 44, 3) := by decide +kernel
theorem dX12_isKnown_22 : decode cX12_isKnown 22 = .ok (.iload 4, 2) := by decide +kernel
theorem dX12_isKnown_24 : decode cX12_isKnown 24 = .ok (.ifCond .eq 39, 3) := by decide +kernel
theorem dX12_isKnown_27 : decode cX12_isKnown 27 = .ok (.aload_n 0, 1) := by decide +kernel
theorem dX12_isKnown_28 : decode cX12_isKnown 28 = .ok (.getfield 67, 3) := by decide +kernel
theorem dX12_isKnown_31 : decode cX12_isKnown 31 = .ok (.iload_n 2, 1) := by decide +kernel
theorem dX12_isKnown_32 : decode cX12_isKnown 32 = .ok (.iload_n 3, 1) := by decide +kernel
theorem dX12_isKnown_33 : decode cX12_isKnown 33 = .ok (.imul, 1) := by decide +kernel
theorem dX12_isKnown_34 : decode cX12_isKnown 34 = .ok (.iload 5, 2) := by decide +kernel
theorem dX12_isKnown_36 : decode cX12_isKnown 36 = .ok (.iadd, 1) := by decide +kernel
theorem dX12_isKnown_37 : decode cX12_isKnown 37 = .ok (.baload, 1) := by decide +kernel
theorem dX12_isKnown_38 : decode cX12_isKnown 38 = .ok (.aload_n 0, 1) := by decide +kernel
theorem dX12_isKnown_39 : decode cX12_isKnown 39 = .ok (.getfield 61, 3) := by decide +kernel
theorem dX12_isKnown_42 : decode cX12_isKnown 42 = .ok (.iload_n 1, 1) := by decide +kernel
theorem dX12_isKnown_43 : decode cX12_isKnown 43 = .ok (.iload 5, 2) := by decide +kernel
theorem dX12_isKnown_45 : decode cX12_isKnown 45 = .ok (.iadd, 1) := by decide +kernel
theorem dX12_isKnown_46 : decode cX12_isKnown 46 = .ok (.baload, 1) := by decide +kernel
theorem dX12_isKnown_47 : decode cX12_isKnown 47 = .ok (.if_icmp .ne 7, 3) := by decide +kernel
theorem dX12_isKnown_50 : decode cX12_isKnown 50 = .ok (.iconst 1, 1) := by decide +kernel
theorem dX12_isKnown_51 : decode cX12_isKnown 51 = .ok (.goto 4, 3) := by decide +kernel
theorem dX12_isKnown_54 : decode cX12_isKnown 54 = .ok (.iconst 0, 1) := by decide +kernel
theorem dX12_isKnown_55 : decode cX12_isKnown 55 = .ok (.istore 4, 2) := by decide +kernel
theorem dX12_isKnown_57 : decode cX12_isKnown 57 = .ok (.iinc 5 1, 3) := by decide +kernel
theorem dX12_isKnown_60 : decode cX12_isKnown 60 = .ok (.goto (-44), 3) := by decide +kernel
theorem dX12_isKnown_63 : decode cX12_isKnown 63 = .ok (.iload 4, 2) := by decide +kernel
theorem dX12_isKnown_65 : decode cX12_isKnown 65 = .ok (.ifCond .eq 5, 3) := by decide +kernel
theorem dX12_isKnown_68 : decode cX12_isKnown 68 = .ok (.iconst 1, 1) := by decide +kernel
theorem dX12_isKnown_69 : decode cX12_isKnown 69 = .ok (.ireturn, 1) := by decide +kernel
theorem dX12_isKnown_70 : decode cX12_isKnown 70 = .ok (.iinc 3 1, 3) := by decide +kernel
theorem dX12_isKnown_73 : decode cX12_isKnown 73 = .ok (.goto (-71), 3) := by decide +kernel
theorem dX12_isKnown_76 : decode cX12_isKnown 76 = .ok (.iconst 0, 1) := by decide +kernel
theorem dX12_isKnown_77 : decode cX12_isKnown 77 = .ok (.ireturn, 1) := by decide +kernel
theorem dX12_adds_0 : decode cX12_adds 0 = .ok (.aload_n 0, 1) := by decide +kernel
theorem dX12_adds_1 : decode cX12_adds 1 = .ok (.invokevirtual 104, 3) := by decide +kernel
theorem dX12_adds_4 : decode cX12_adds 4 = .ok (.iload_n 1, 1) := by decide +kernel
theorem dX12_adds_5 : decode cX12_adds 5 = .ok (.ishr, 1) := by decide +kernel
theorem dX12_adds_6 : decode cX12_adds 6 = .ok (.istore_n 2, 1) := by decide +kernel
theorem dX12_adds_7 : decode cX12_adds 7 = .ok (.iconst 0, 1) := by decide +kernel
theorem dX12_adds_8 : decode cX12_adds 8 = .ok (.istore_n 3, 1) := by decide +kernel
theorem dX12_adds_9 : decode cX12_adds 9 = .ok (.iload_n 3, 1) := by decide +kernel
theorem dX12_adds_10 : decode cX12_adds 10 = .ok (.aload_n 0, 1) := by decide +kernel
theorem dX12_adds_11 : decode cX12_adds 11 = .ok (.invokevirtual 104, 3) := by decide +kernel
theorem dX12_adds_14 : decode cX12_adds 14 = .ok (.if_icmp .ge 111, 3) := by decide +kernel
theorem dX12_adds_17 : decode cX12_adds 17 = .ok (.iconst 0, 1) := by decide +kernel
theorem dX12_adds_18 : decode cX12_adds 18 = .ok (.istore 4, 2) := by decide +kernel
theorem dX12_adds_20 : decode cX12_adds 20 = .ok (.iload_n 2, 1) := by decide +kernel
theorem dX12_adds_21 : decode cX12_adds 21 = .ok (.iconst 2, 1) := by decide +kernel
theorem dX12_adds_22 : decode cX12_adds 22 = .ok (.idiv, 1) := by decide +kernel
theorem dX12_adds_23 : decode cX12_adds 23 = .ok (.istore 5, 2) := by decide +kernel
theorem dX12_adds_25 : decode cX12_adds 25 = .ok (.iload 5, 2) := by decide +kernel
theorem dX12_adds_27 : decode cX12_adds 27 = .ok (.iload_n 2, 1) := by decide +kernel
theorem dX12_adds_28 : decode cX12_adds 28 = .ok (.if_icmp .ge 25, 3) := by decide +kernel
theorem dX12_adds_31 : decode cX12_adds 31 = .ok (.iload 4, 2) := by decide +kernel
theorem dX12_adds_33 : decode cX12_adds 33 = .ok (.ifCond .ne 20, 3) := by decide +kernel
theorem dX12_adds_36 : decode cX12_adds 36 = .ok (.aload_n 0, 1) := by decide +kernel
theorem dX12_adds_37 : decode cX12_adds 37 = .ok (.getfield 61, 3) := by decide +kernel
theorem dX12_adds_40 : decode cX12_adds 40 = .ok (.iload_n 3, 1) := by decide +kernel
theorem dX12_adds_41 : decode cX12_adds 41 = .ok (.iload 5, 2) := by decide +kernel
theorem dX12_adds_43 : decode cX12_adds 43 = .ok (.iadd, 1) := by decide +kernel
theorem dX12_adds_44 : decode cX12_adds 44 = .ok (.baload, 1) := by decide +kernel
theorem dX12_adds_45 : decode cX12_adds 45 = .ok (.istore 4, 2) := by decide +kernel
theorem dX12_adds_47 : decode cX12_adds 47 = .ok (.iinc 5 1, 3) := by decide +kernel
theorem dX12_adds_50 : decode cX12_adds 50 = .ok (.goto (-25), 3) := by decide +kernel
theorem dX12_adds_53 : decode cX12_adds 53 = .ok (.iload 4, 2) := by decide +kernel
theorem dX12_adds_55 : decode cX12_adds 55 = .ok (.ifCond .eq 63, 3) := by decide +kernel
theorem dX12_adds_58 : decode cX12_adds 58 = .ok (.aload_n 0, 1) := by decide +kernel
theorem dX12_adds_59 : decode cX12_adds 59 = .ok (.iload_n 3, 1) := by decide +kernel
theorem dX12_adds_60 : decode cX12_adds 60 = .ok (.iload_n 2, 1) := by decide +kernel
theorem dX12_adds_61 : decode cX12_adds 61 = .ok (.invokevirtual 375, 3) := by decide +kernel
theorem dX12_adds_64 : decode cX12_adds 64 = .ok (.ifCond .eq 6, 3) := by decide +kernel
theorem dX12_adds_67 : decode cX12_adds 67 = .ok (.goto 51, 3) := by decide +kernel
theorem dX12_adds_70 : decode cX12_adds 70 = .ok (.iconst 0, 1) := by decide +kernel
theorem dX12_adds_71 : decode cX12_adds 71 = .ok (.istore 5, 2) := by decide +kernel
theorem dX12_adds_73 : decode cX12_adds 73 = .ok (.iload 5, 2) := by decide +kernel
theorem dX12_adds_75 : decode cX12_adds 75 = .ok (.iload_n 2, 1) := by decide +kernel
theorem dX12_adds_76 : decode cX12_adds 76 = .ok (.if_icmp .ge 32, 3) := by decide +kernel
theorem dX12_adds_79 : decode cX12_adds 79 = .ok (.aload_n 0, 1) := by decide +kernel
theorem dX12_adds_80 : decode cX12_adds 80 = .ok (.getfield 67, 3) := by decide +kernel
theorem dX12_adds_83 : decode cX12_adds 83 = .ok (.iload_n 2, 1) := by decide +kernel
theorem dX12_adds_84 : decode cX12_adds 84 = .ok (.aload_n 0, 1) := by decide +kernel
theorem dX12_adds_85 : decode cX12_adds 85 = .ok (.getfield 372, 3) := by decide +kernel
theorem dX12_adds_88 : decode cX12_adds 88 = .ok (.imul, 1) := by decide +kernel
theorem dX12_adds_89 : decode cX12_adds 89 = .ok (.iload 5, 2) := by decide +kernel
theorem dX12_adds_91 : decode cX12_adds 91 = .ok (.iadd, 1) := by decide +kernel
theorem dX12_adds_92 : decode cX12_adds 92 = .ok (.aload_n 0, 1) := by decide +kernel
theorem dX12_adds_93 : decode cX12_adds 93 = .ok (.getfield 61, 3) := by decide +kernel
theorem dX12_adds_96 : decode cX12_adds 96 = .ok (.iload_n 3, 1) := by decide +kernel
theorem dX12_adds_97 : decode cX12_adds 97 = .ok (.iload 5, 2) := by decide +kernel
theorem dX12_adds_99 : decode cX12_adds 99 = .ok (.iadd, 1) := by decide +kernel
theorem dX12_adds_100 : decode cX12_adds 100 = .ok (.baload, 1) := by decide +kernel
theorem dX12_adds_101 : decode cX12_adds 101 = .ok (.bastore, 1) := by decide +kernel
theorem dX12_adds_102 : decode cX12_adds 102 = .ok (.iinc 5 1, 3) := by decide +kernel
theorem dX12_adds_105 : decode cX12_adds 105 = .ok (.goto (-32), 3) := by decide +kernel
theorem dX12_adds_108 : decode cX12_adds 108 = .ok (.aload_n 0, 1) := by decide +kernel
theorem dX12_adds_109 : decode cX12_adds 109 = .ok (.dup, 1) := by decide +kernel
theorem dX12_adds_110 : decode cX12_adds 110 = .ok (.getfield 372, 3) := by decide +kernel
theorem dX12_adds_113 : decode cX12_adds 113 = .ok (.iconst 1, 1) := by decide +kernel
theorem dX12_adds_114 : decode cX12_adds 114 = .ok (.iadd, 1) := by decide +kernel
theorem dX12_adds_115 : decode cX12_adds 115 = .ok (.putfield 372, 3) := by decide +kernel
theorem dX12_adds_118 : decode cX12_adds 118 = .ok (.iload_n 3, 1) := by decide +kernel
theorem dX12_adds_119 : decode cX12_adds 119 = .ok (.iload_n 2, 1) := by decide +kernel
theorem dX12_adds_120 : decode cX12_adds 120 = .ok (.iadd, 1) := by decide +kernel
theorem dX12_adds_121 : decode cX12_adds 121 = .ok (.istore_n 3, 1) := by decide +kernel
theorem dX12_adds_122 : decode cX12_adds 122 = .ok (.goto (-113), 3) := by decide +kernel
theorem dX12_adds_125 : decode cX12_adds 125 = .ok (.return_, 1) := by decide +kernel
theorem dX12_wideOf_0 : decode cX12_wideOf 0 = .ok (.aload_n 0, 1) := by decide +kernel
theorem dX12_wideOf_1 : decode cX12_wideOf 1 = .ok (.iload_n 1, 1) := by decide +kernel
theorem dX12_wideOf_2 : decode cX12_wideOf 2 = .ok (.invokevirtual 378, 3) := by decide +kernel
theorem dX12_wideOf_5 : decode cX12_wideOf 5 = .ok (.aload_n 0, 1) := by decide +kernel
theorem dX12_wideOf_6 : decode cX12_wideOf 6 = .ok (.iconst 0, 1) := by decide +kernel
theorem dX12_wideOf_7 : decode cX12_wideOf 7 = .ok (.putfield 372, 3) := by decide +kernel
theorem dX12_wideOf_10 : decode cX12_wideOf 10 = .ok (.aload_n 0, 1) := by decide +kernel
theorem dX12_wideOf_11 : decode cX12_wideOf 11 = .ok (.iload_n 2, 1) := by decide +kernel
theorem dX12_wideOf_12 : decode cX12_wideOf 12 = .ok (.invokevirtual 381, 3) := by decide +kernel
theorem dX12_wideOf_15 : decode cX12_wideOf 15 = .ok (.aload_n 0, 1) := by decide +kernel
theorem dX12_wideOf_16 : decode cX12_wideOf 16 = .ok (.getfield 372, 3) := by decide +kernel
theorem dX12_wideOf_19 : decode cX12_wideOf 19 = .ok (.ireturn, 1) := by decide +kernel
theorem dX12_nodesOf_0 : decode cX12_nodesOf 0 = .ok (.iconst 0, 1) := by decide +kernel
theorem dX12_nodesOf_1 : decode cX12_nodesOf 1 = .ok (.istore_n 2, 1) := by decide +kernel
theorem dX12_nodesOf_2 : decode cX12_nodesOf 2 = .ok (.iconst 0, 1) := by decide +kernel
theorem dX12_nodesOf_3 : decode cX12_nodesOf 3 = .ok (.istore_n 3, 1) := by decide +kernel
theorem dX12_nodesOf_4 : decode cX12_nodesOf 4 = .ok (.iload_n 3, 1) := by decide +kernel
theorem dX12_nodesOf_5 : decode cX12_nodesOf 5 = .ok (.aload_n 0, 1) := by decide +kernel
theorem dX12_nodesOf_6 : decode cX12_nodesOf 6 = .ok (.getfield 9, 3) := by decide +kernel
theorem dX12_nodesOf_9 : decode cX12_nodesOf 9 = .ok (.iconst 0, 1) := by decide +kernel
theorem dX12_nodesOf_10 : decode cX12_nodesOf 10 = .ok (.iaload, 1) := by decide +kernel
theorem dX12_nodesOf_11 : decode cX12_nodesOf 11 = .ok (.if_icmp .ge 18, 3) := by decide +kernel
theorem dX12_nodesOf_14 : decode cX12_nodesOf 14 = .ok (.iload_n 2, 1) := by decide +kernel
theorem dX12_nodesOf_15 : decode cX12_nodesOf 15 = .ok (.aload_n 0, 1) := by decide +kernel
theorem dX12_nodesOf_16 : decode cX12_nodesOf 16 = .ok (.iload_n 1, 1) := by decide +kernel
theorem dX12_nodesOf_17 : decode cX12_nodesOf 17 = .ok (.iload_n 3, 1) := by decide +kernel
theorem dX12_nodesOf_18 : decode cX12_nodesOf 18 = .ok (.invokevirtual 384, 3) := by decide +kernel
theorem dX12_nodesOf_21 : decode cX12_nodesOf 21 = .ok (.iadd, 1) := by decide +kernel
theorem dX12_nodesOf_22 : decode cX12_nodesOf 22 = .ok (.istore_n 2, 1) := by decide +kernel
theorem dX12_nodesOf_23 : decode cX12_nodesOf 23 = .ok (.iinc 3 1, 3) := by decide +kernel
theorem dX12_nodesOf_26 : decode cX12_nodesOf 26 = .ok (.goto (-22), 3) := by decide +kernel
theorem dX12_nodesOf_29 : decode cX12_nodesOf 29 = .ok (.iload_n 2, 1) := by decide +kernel
theorem dX12_nodesOf_30 : decode cX12_nodesOf 30 = .ok (.ireturn, 1) := by decide +kernel
theorem dX12_nodes_0 : decode cX12_nodes 0 = .ok (.aload_n 0, 1) := by decide +kernel
theorem dX12_nodes_1 : decode cX12_nodes 1 = .ok (.iload_n 1, 1) := by decide +kernel
theorem dX12_nodes_2 : decode cX12_nodes 2 = .ok (.invokevirtual 321, 3) := by decide +kernel
theorem dX12_nodes_5 : decode cX12_nodes 5 = .ok (.ifCond .ne 6, 3) := by decide +kernel
theorem dX12_nodes_8 : decode cX12_nodes 8 = .ok (.bipush (-2), 2) := by decide +kernel
theorem dX12_nodes_10 : decode cX12_nodes 10 = .ok (.ireturn, 1) := by decide +kernel
theorem dX12_nodes_11 : decode cX12_nodes 11 = .ok (.aload_n 0, 1) := by decide +kernel
theorem dX12_nodes_12 : decode cX12_nodes 12 = .ok (.invokevirtual 387, 3) := by decide +kernel
theorem dX12_nodes_15 : decode cX12_nodes 15 = .ok (.aload_n 0, 1) := by decide +kernel
theorem dX12_nodes_16 : decode cX12_nodes 16 = .ok (.iload_n 1, 1) := by decide +kernel
theorem dX12_nodes_17 : decode cX12_nodes 17 = .ok (.invokevirtual 390, 3) := by decide +kernel
theorem dX12_nodes_20 : decode cX12_nodes 20 = .ok (.ireturn, 1) := by decide +kernel
theorem dX12_netOf_0 : decode cX12_netOf 0 = .ok (.aload_n 0, 1) := by decide +kernel
theorem dX12_netOf_1 : decode cX12_netOf 1 = .ok (.invokevirtual 387, 3) := by decide +kernel
theorem dX12_netOf_4 : decode cX12_netOf 4 = .ok (.iconst 0, 1) := by decide +kernel
theorem dX12_netOf_5 : decode cX12_netOf 5 = .ok (.istore_n 1, 1) := by decide +kernel
theorem dX12_netOf_6 : decode cX12_netOf 6 = .ok (.iconst 0, 1) := by decide +kernel
theorem dX12_netOf_7 : decode cX12_netOf 7 = .ok (.istore_n 2, 1) := by decide +kernel
theorem dX12_netOf_8 : decode cX12_netOf 8 = .ok (.iload_n 2, 1) := by decide +kernel
theorem dX12_netOf_9 : decode cX12_netOf 9 = .ok (.aload_n 0, 1) := by decide +kernel
theorem dX12_netOf_10 : decode cX12_netOf 10 = .ok (.getfield 9, 3) := by decide +kernel
theorem dX12_netOf_13 : decode cX12_netOf 13 = .ok (.iconst 0, 1) := by decide +kernel
theorem dX12_netOf_14 : decode cX12_netOf 14 = .ok (.iaload, 1) := by decide +kernel
theorem dX12_netOf_15 : decode cX12_netOf 15 = .ok (.if_icmp .ge 45, 3) := by decide +kernel
theorem dX12_netOf_18 : decode cX12_netOf 18 = .ok (.aload_n 0, 1) := by decide +kernel
theorem dX12_netOf_19 : decode cX12_netOf 19 = .ok (.iconst 0, 1) := by decide +kernel
theorem dX12_netOf_20 : decode cX12_netOf 20 = .ok (.putfield 372, 3) := by decide +kernel
theorem dX12_netOf_23 : decode cX12_netOf 23 = .ok (.iconst 0, 1) := by decide +kernel
theorem dX12_netOf_24 : decode cX12_netOf 24 = .ok (.istore_n 3, 1) := by decide +kernel
theorem dX12_netOf_25 : decode cX12_netOf 25 = .ok (.iload_n 3, 1) := by decide +kernel
theorem dX12_netOf_26 : decode cX12_netOf 26 = .ok (.bipush 10, 2) := by decide +kernel
theorem dX12_netOf_28 : decode cX12_netOf 28 = .ok (.if_icmp .ge 19, 3) := by decide +kernel
theorem dX12_netOf_31 : decode cX12_netOf 31 = .ok (.aload_n 0, 1) := by decide +kernel
theorem dX12_netOf_32 : decode cX12_netOf 32 = .ok (.iload_n 3, 1) := by decide +kernel
theorem dX12_netOf_33 : decode cX12_netOf 33 = .ok (.invokevirtual 378, 3) := by decide +kernel
theorem dX12_netOf_36 : decode cX12_netOf 36 = .ok (.aload_n 0, 1) := by decide +kernel
theorem dX12_netOf_37 : decode cX12_netOf 37 = .ok (.iload_n 2, 1) := by decide +kernel
theorem dX12_netOf_38 : decode cX12_netOf 38 = .ok (.invokevirtual 381, 3) := by decide +kernel
theorem dX12_netOf_41 : decode cX12_netOf 41 = .ok (.iinc 3 1, 3) := by decide +kernel
theorem dX12_netOf_44 : decode cX12_netOf 44 = .ok (.goto (-19), 3) := by decide +kernel
theorem dX12_netOf_47 : decode cX12_netOf 47 = .ok (.iload_n 1, 1) := by decide +kernel
theorem dX12_netOf_48 : decode cX12_netOf 48 = .ok (.aload_n 0, 1) := by decide +kernel
theorem dX12_netOf_49 : decode cX12_netOf 49 = .ok (.getfield 372, 3) := by decide +kernel
theorem dX12_netOf_52 : decode cX12_netOf 52 = .ok (.iadd, 1) := by decide +kernel
theorem dX12_netOf_53 : decode cX12_netOf 53 = .ok (.istore_n 1, 1) := by decide +kernel
theorem dX12_netOf_54 : decode cX12_netOf 54 = .ok (.iinc 2 1, 3) := by decide +kernel
theorem dX12_netOf_57 : decode cX12_netOf 57 = .ok (.goto (-49), 3) := by decide +kernel
theorem dX12_netOf_60 : decode cX12_netOf 60 = .ok (.iload_n 1, 1) := by decide +kernel
theorem dX12_netOf_61 : decode cX12_netOf 61 = .ok (.ireturn, 1) := by decide +kernel
theorem dX12_net_0 : decode cX12_net 0 = .ok (.aload_n 0, 1) := by decide +kernel
theorem dX12_net_1 : decode cX12_net 1 = .ok (.invokevirtual 98, 3) := by decide +kernel
theorem dX12_net_4 : decode cX12_net 4 = .ok (.ifCond .eq 10, 3) := by decide +kernel
theorem dX12_net_7 : decode cX12_net 7 = .ok (.aload_n 0, 1) := by decide +kernel
theorem dX12_net_8 : decode cX12_net 8 = .ok (.invokevirtual 393, 3) := by decide +kernel
theorem dX12_net_11 : decode cX12_net 11 = .ok (.goto 5, 3) := by decide +kernel
theorem dX12_net_14 : decode cX12_net 14 = .ok (.bipush (-2), 2) := by decide +kernel
theorem dX12_net_16 : decode cX12_net 16 = .ok (.ireturn, 1) := by decide +kernel
theorem dX12_wide_0 : decode cX12_wide 0 = .ok (.aload_n 0, 1) := by decide +kernel
theorem dX12_wide_1 : decode cX12_wide 1 = .ok (.iload_n 1, 1) := by decide +kernel
theorem dX12_wide_2 : decode cX12_wide 2 = .ok (.invokevirtual 321, 3) := by decide +kernel
theorem dX12_wide_5 : decode cX12_wide 5 = .ok (.ifCond .eq 11, 3) := by decide +kernel
theorem dX12_wide_8 : decode cX12_wide 8 = .ok (.aload_n 0, 1) := by decide +kernel
theorem dX12_wide_9 : decode cX12_wide 9 = .ok (.iload_n 2, 1) := by decide +kernel
theorem dX12_wide_10 : decode cX12_wide 10 = .ok (.invokevirtual 332, 3) := by decide +kernel
theorem dX12_wide_13 : decode cX12_wide 13 = .ok (.ifCond .ne 6, 3) := by decide +kernel
theorem dX12_wide_16 : decode cX12_wide 16 = .ok (.bipush (-2), 2) := by decide +kernel
theorem dX12_wide_18 : decode cX12_wide 18 = .ok (.ireturn, 1) := by decide +kernel
theorem dX12_wide_19 : decode cX12_wide 19 = .ok (.aload_n 0, 1) := by decide +kernel
theorem dX12_wide_20 : decode cX12_wide 20 = .ok (.invokevirtual 387, 3) := by decide +kernel
theorem dX12_wide_23 : decode cX12_wide 23 = .ok (.aload_n 0, 1) := by decide +kernel
theorem dX12_wide_24 : decode cX12_wide 24 = .ok (.iload_n 1, 1) := by decide +kernel
theorem dX12_wide_25 : decode cX12_wide 25 = .ok (.iload_n 2, 1) := by decide +kernel
theorem dX12_wide_26 : decode cX12_wide 26 = .ok (.invokevirtual 384, 3) := by decide +kernel
theorem dX12_wide_29 : decode cX12_wide 29 = .ok (.ireturn, 1) := by decide +kernel
theorem dX12_order_0 : decode cX12_order 0 = .ok (.aload_n 0, 1) := by decide +kernel
theorem dX12_order_1 : decode cX12_order 1 = .ok (.iload_n 1, 1) := by decide +kernel
theorem dX12_order_2 : decode cX12_order 2 = .ok (.invokevirtual 332, 3) := by decide +kernel
theorem dX12_order_5 : decode cX12_order 5 = .ok (.ifCond .eq 15, 3) := by decide +kernel
theorem dX12_order_8 : decode cX12_order 8 = .ok (.aload_n 0, 1) := by decide +kernel
theorem dX12_order_9 : decode cX12_order 9 = .ok (.getfield 9, 3) := by decide +kernel
theorem dX12_order_12 : decode cX12_order 12 = .ok (.bipush 33, 2) := by decide +kernel
theorem dX12_order_14 : decode cX12_order 14 = .ok (.iload_n 1, 1) := by decide +kernel
theorem dX12_order_15 : decode cX12_order 15 = .ok (.iadd, 1) := by decide +kernel
theorem dX12_order_16 : decode cX12_order 16 = .ok (.iaload, 1) := by decide +kernel
theorem dX12_order_17 : decode cX12_order 17 = .ok (.goto 5, 3) := by decide +kernel
theorem dX12_order_20 : decode cX12_order 20 = .ok (.bipush (-2), 2) := by decide +kernel
theorem dX12_order_22 : decode cX12_order 22 = .ok (.ireturn, 1) := by decide +kernel
theorem dX12_swap_0 : decode cX12_swap 0 = .ok (.aload_n 0, 1) := by decide +kernel
theorem dX12_swap_1 : decode cX12_swap 1 = .ok (.iload_n 1, 1) := by decide +kernel
theorem dX12_swap_2 : decode cX12_swap 2 = .ok (.invokevirtual 332, 3) := by decide +kernel
theorem dX12_swap_5 : decode cX12_swap 5 = .ok (.ifCond .eq 13, 3) := by decide +kernel
theorem dX12_swap_8 : decode cX12_swap 8 = .ok (.aload_n 0, 1) := by decide +kernel
theorem dX12_swap_9 : decode cX12_swap 9 = .ok (.iload_n 1, 1) := by decide +kernel
theorem dX12_swap_10 : decode cX12_swap 10 = .ok (.iconst 1, 1) := by decide +kernel
theorem dX12_swap_11 : decode cX12_swap 11 = .ok (.iadd, 1) := by decide +kernel
theorem dX12_swap_12 : decode cX12_swap 12 = .ok (.invokevirtual 332, 3) := by decide +kernel
theorem dX12_swap_15 : decode cX12_swap 15 = .ok (.ifCond .ne 6, 3) := by decide +kernel
theorem dX12_swap_18 : decode cX12_swap 18 = .ok (.bipush (-2), 2) := by decide +kernel
theorem dX12_swap_20 : decode cX12_swap 20 = .ok (.ireturn, 1) := by decide +kernel
theorem dX12_swap_21 : decode cX12_swap 21 = .ok (.aload_n 0, 1) := by decide +kernel
theorem dX12_swap_22 : decode cX12_swap 22 = .ok (.getfield 9, 3) := by decide +kernel
theorem dX12_swap_25 : decode cX12_swap 25 = .ok (.bipush 33, 2) := by decide +kernel
theorem dX12_swap_27 : decode cX12_swap 27 = .ok (.iload_n 1, 1) := by decide +kernel
theorem dX12_swap_28 : decode cX12_swap 28 = .ok (.iadd, 1) := by decide +kernel
theorem dX12_swap_29 : decode cX12_swap 29 = .ok (.iaload, 1) := by decide +kernel
theorem dX12_swap_30 : decode cX12_swap 30 = .ok (.istore_n 2, 1) := by decide +kernel
theorem dX12_swap_31 : decode cX12_swap 31 = .ok (.aload_n 0, 1) := by decide +kernel
theorem dX12_swap_32 : decode cX12_swap 32 = .ok (.getfield 9, 3) := by decide +kernel
theorem dX12_swap_35 : decode cX12_swap 35 = .ok (.bipush 33, 2) := by decide +kernel
theorem dX12_swap_37 : decode cX12_swap 37 = .ok (.iload_n 1, 1) := by decide +kernel
theorem dX12_swap_38 : decode cX12_swap 38 = .ok (.iadd, 1) := by decide +kernel
theorem dX12_swap_39 : decode cX12_swap 39 = .ok (.aload_n 0, 1) := by decide +kernel
theorem dX12_swap_40 : decode cX12_swap 40 = .ok (.getfield 9, 3) := by decide +kernel
theorem dX12_swap_43 : decode cX12_swap 43 = .ok (.bipush 33, 2) := by decide +kernel
theorem dX12_swap_45 : decode cX12_swap 45 = .ok (.iload_n 1, 1) := by decide +kernel
theorem dX12_swap_46 : decode cX12_swap 46 = .ok (.iadd, 1) := by decide +kernel
theorem dX12_swap_47 : decode cX12_swap 47 = .ok (.iconst 1, 1) := by decide +kernel
theorem dX12_swap_48 : decode cX12_swap 48 = .ok (.iadd, 1) := by decide +kernel
theorem dX12_swap_49 : decode cX12_swap 49 = .ok (.iaload, 1) := by decide +kernel
theorem dX12_swap_50 : decode cX12_swap 50 = .ok (.iastore, 1) := by decide +kernel
theorem dX12_swap_51 : decode cX12_swap 51 = .ok (.aload_n 0, 1) := by decide +kernel
theorem dX12_swap_52 : decode cX12_swap 52 = .ok (.getfield 9, 3) := by decide +kernel
theorem dX12_swap_55 : decode cX12_swap 55 = .ok (.bipush 33, 2) := by decide +kernel
theorem dX12_swap_57 : decode cX12_swap 57 = .ok (.iload_n 1, 1) := by decide +kernel
theorem dX12_swap_58 : decode cX12_swap 58 = .ok (.iadd, 1) := by decide +kernel
theorem dX12_swap_59 : decode cX12_swap 59 = .ok (.iconst 1, 1) := by decide +kernel
theorem dX12_swap_60 : decode cX12_swap 60 = .ok (.iadd, 1) := by decide +kernel
theorem dX12_swap_61 : decode cX12_swap 61 = .ok (.iload_n 2, 1) := by decide +kernel
theorem dX12_swap_62 : decode cX12_swap 62 = .ok (.iastore, 1) := by decide +kernel
theorem dX12_swap_63 : decode cX12_swap 63 = .ok (.aload_n 0, 1) := by decide +kernel
theorem dX12_swap_64 : decode cX12_swap 64 = .ok (.invokevirtual 393, 3) := by decide +kernel
theorem dX12_swap_67 : decode cX12_swap 67 = .ok (.ireturn, 1) := by decide +kernel
theorem dX12_placeOf_0 : decode cX12_placeOf 0 = .ok (.iconst 0, 1) := by decide +kernel
theorem dX12_placeOf_1 : decode cX12_placeOf 1 = .ok (.istore_n 2, 1) := by decide +kernel
theorem dX12_placeOf_2 : decode cX12_placeOf 2 = .ok (.aload_n 0, 1) := by decide +kernel
theorem dX12_placeOf_3 : decode cX12_placeOf 3 = .ok (.getfield 9, 3) := by decide +kernel
theorem dX12_placeOf_6 : decode cX12_placeOf 6 = .ok (.bipush 33, 2) := by decide +kernel
theorem dX12_placeOf_8 : decode cX12_placeOf 8 = .ok (.iload_n 2, 1) := by decide +kernel
theorem dX12_placeOf_9 : decode cX12_placeOf 9 = .ok (.iadd, 1) := by decide +kernel
theorem dX12_placeOf_10 : decode cX12_placeOf 10 = .ok (.iaload, 1) := by decide +kernel
theorem dX12_placeOf_11 : decode cX12_placeOf 11 = .ok (.iload_n 1, 1) := by decide +kernel
theorem dX12_placeOf_12 : decode cX12_placeOf 12 = .ok (.if_icmp .eq 9, 3) := by decide +kernel
theorem dX12_placeOf_15 : decode cX12_placeOf 15 = .ok (.iinc 2 1, 3) := by decide +kernel
theorem dX12_placeOf_18 : decode cX12_placeOf 18 = .ok (.goto (-16), 3) := by decide +kernel
theorem dX12_placeOf_21 : decode cX12_placeOf 21 = .ok (.iload_n 2, 1) := by decide +kernel
theorem dX12_placeOf_22 : decode cX12_placeOf 22 = .ok (.ireturn, 1) := by decide +kernel
theorem dX12_goesTo_0 : decode cX12_goesTo 0 = .ok (.aload_n 0, 1) := by decide +kernel
theorem dX12_goesTo_1 : decode cX12_goesTo 1 = .ok (.iload_n 1, 1) := by decide +kernel
theorem dX12_goesTo_2 : decode cX12_goesTo 2 = .ok (.invokevirtual 396, 3) := by decide +kernel
theorem dX12_goesTo_5 : decode cX12_goesTo 5 = .ok (.istore_n 3, 1) := by decide +kernel
theorem dX12_goesTo_6 : decode cX12_goesTo 6 = .ok (.iload_n 3, 1) := by decide +kernel
theorem dX12_goesTo_7 : decode cX12_goesTo 7 = .ok (.iload_n 2, 1) := by decide +kernel
theorem dX12_goesTo_8 : decode cX12_goesTo 8 = .ok (.if_icmp .ge 29, 3) := by decide +kernel
theorem dX12_goesTo_11 : decode cX12_goesTo 11 = .ok (.aload_n 0, 1) := by decide +kernel
theorem dX12_goesTo_12 : decode cX12_goesTo 12 = .ok (.getfield 9, 3) := by decide +kernel
theorem dX12_goesTo_15 : decode cX12_goesTo 15 = .ok (.bipush 33, 2) := by decide +kernel
theorem dX12_goesTo_17 : decode cX12_goesTo 17 = .ok (.iload_n 3, 1) := by decide +kernel
theorem dX12_goesTo_18 : decode cX12_goesTo 18 = .ok (.iadd, 1) := by decide +kernel
theorem dX12_goesTo_19 : decode cX12_goesTo 19 = .ok (.aload_n 0, 1) := by decide +kernel
theorem dX12_goesTo_20 : decode cX12_goesTo 20 = .ok (.getfield 9, 3) := by decide +kernel
theorem dX12_goesTo_23 : decode cX12_goesTo 23 = .ok (.bipush 33, 2) := by decide +kernel
theorem dX12_goesTo_25 : decode cX12_goesTo 25 = .ok (.iload_n 3, 1) := by decide +kernel
theorem dX12_goesTo_26 : decode cX12_goesTo 26 = .ok (.iadd, 1) := by decide +kernel
theorem dX12_goesTo_27 : decode cX12_goesTo 27 = .ok (.iconst 1, 1) := by decide +kernel
theorem dX12_goesTo_28 : decode cX12_goesTo 28 = .ok (.iadd, 1) := by decide +kernel
theorem dX12_goesTo_29 : decode cX12_goesTo 29 = .ok (.iaload, 1) := by decide +kernel
theorem dX12_goesTo_30 : decode cX12_goesTo 30 = .ok (.iastore, 1) := by decide +kernel
theorem dX12_goesTo_31 : decode cX12_goesTo 31 = .ok (.iinc 3 1, 3) := by decide +kernel
theorem dX12_goesTo_34 : decode cX12_goesTo 34 = .ok (.goto (-28), 3) := by decide +kernel
theorem dX12_goesTo_37 : decode cX12_goesTo 37 = .ok (.iload_n 3, 1) := by decide +kernel
theorem dX12_goesTo_38 : decode cX12_goesTo 38 = .ok (.iload_n 2, 1) := by decide +kernel
theorem dX12_goesTo_39 : decode cX12_goesTo 39 = .ok (.if_icmp .le 29, 3) := by decide +kernel
theorem dX12_goesTo_42 : decode cX12_goesTo 42 = .ok (.aload_n 0, 1) := by decide +kernel
theorem dX12_goesTo_43 : decode cX12_goesTo 43 = .ok (.getfield 9, 3) := by decide +kernel
theorem dX12_goesTo_46 : decode cX12_goesTo 46 = .ok (.bipush 33, 2) := by decide +kernel
theorem dX12_goesTo_48 : decode cX12_goesTo 48 = .ok (.iload_n 3, 1) := by decide +kernel
theorem dX12_goesTo_49 : decode cX12_goesTo 49 = .ok (.iadd, 1) := by decide +kernel
theorem dX12_goesTo_50 : decode cX12_goesTo 50 = .ok (.aload_n 0, 1) := by decide +kernel
theorem dX12_goesTo_51 : decode cX12_goesTo 51 = .ok (.getfield 9, 3) := by decide +kernel
theorem dX12_goesTo_54 : decode cX12_goesTo 54 = .ok (.bipush 33, 2) := by decide +kernel
theorem dX12_goesTo_56 : decode cX12_goesTo 56 = .ok (.iload_n 3, 1) := by decide +kernel
theorem dX12_goesTo_57 : decode cX12_goesTo 57 = .ok (.iadd, 1) := by decide +kernel
theorem dX12_goesTo_58 : decode cX12_goesTo 58 = .ok (.iconst 1, 1) := by decide +kernel
theorem dX12_goesTo_59 : decode cX12_goesTo 59 = .ok (.isub, 1) := by decide +kernel
theorem dX12_goesTo_60 : decode cX12_goesTo 60 = .ok (.iaload, 1) := by decide +kernel
theorem dX12_goesTo_61 : decode cX12_goesTo 61 = .ok (.iastore, 1) := by decide +kernel
theorem dX12_goesTo_62 : decode cX12_goesTo 62 = .ok (.iinc 3 (-1), 3) := by decide +kernel
theorem dX12_goesTo_65 : decode cX12_goesTo 65 = .ok (.goto (-28), 3) := by decide +kernel
theorem dX12_goesTo_68 : decode cX12_goesTo 68 = .ok (.aload_n 0, 1) := by decide +kernel
theorem dX12_goesTo_69 : decode cX12_goesTo 69 = .ok (.getfield 9, 3) := by decide +kernel
theorem dX12_goesTo_72 : decode cX12_goesTo 72 = .ok (.bipush 33, 2) := by decide +kernel
theorem dX12_goesTo_74 : decode cX12_goesTo 74 = .ok (.iload_n 2, 1) := by decide +kernel
theorem dX12_goesTo_75 : decode cX12_goesTo 75 = .ok (.iadd, 1) := by decide +kernel
theorem dX12_goesTo_76 : decode cX12_goesTo 76 = .ok (.iload_n 1, 1) := by decide +kernel
theorem dX12_goesTo_77 : decode cX12_goesTo 77 = .ok (.iastore, 1) := by decide +kernel
theorem dX12_goesTo_78 : decode cX12_goesTo 78 = .ok (.return_, 1) := by decide +kernel
theorem dX12_move_0 : decode cX12_move 0 = .ok (.aload_n 0, 1) := by decide +kernel
theorem dX12_move_1 : decode cX12_move 1 = .ok (.iload_n 1, 1) := by decide +kernel
theorem dX12_move_2 : decode cX12_move 2 = .ok (.invokevirtual 332, 3) := by decide +kernel
theorem dX12_move_5 : decode cX12_move 5 = .ok (.ifCond .eq 11, 3) := by decide +kernel
theorem dX12_move_8 : decode cX12_move 8 = .ok (.aload_n 0, 1) := by decide +kernel
theorem dX12_move_9 : decode cX12_move 9 = .ok (.iload_n 2, 1) := by decide +kernel
theorem dX12_move_10 : decode cX12_move 10 = .ok (.invokevirtual 332, 3) := by decide +kernel
theorem dX12_move_13 : decode cX12_move 13 = .ok (.ifCond .ne 6, 3) := by decide +kernel
theorem dX12_move_16 : decode cX12_move 16 = .ok (.bipush (-2), 2) := by decide +kernel
theorem dX12_move_18 : decode cX12_move 18 = .ok (.ireturn, 1) := by decide +kernel
theorem dX12_move_19 : decode cX12_move 19 = .ok (.aload_n 0, 1) := by decide +kernel
theorem dX12_move_20 : decode cX12_move 20 = .ok (.iload_n 1, 1) := by decide +kernel
theorem dX12_move_21 : decode cX12_move 21 = .ok (.invokevirtual 396, 3) := by decide +kernel
theorem dX12_move_24 : decode cX12_move 24 = .ok (.istore_n 3, 1) := by decide +kernel
theorem dX12_move_25 : decode cX12_move 25 = .ok (.aload_n 0, 1) := by decide +kernel
theorem dX12_move_26 : decode cX12_move 26 = .ok (.iload_n 1, 1) := by decide +kernel
theorem dX12_move_27 : decode cX12_move 27 = .ok (.iload_n 2, 1) := by decide +kernel
theorem dX12_move_28 : decode cX12_move 28 = .ok (.invokevirtual 399, 3) := by decide +kernel
