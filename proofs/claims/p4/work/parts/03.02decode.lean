theorem dX11_light_0 : decode cX11_light 0 = .ok (.aload_n 0, 1) := by decide +kernel
theorem dX11_light_1 : decode cX11_light 1 = .ok (.iload_n 1, 1) := by decide +kernel
theorem dX11_light_2 : decode cX11_light 2 = .ok (.invokevirtual 135, 3) := by decide +kernel
theorem dX11_light_5 : decode cX11_light 5 = .ok (.ifCond .eq 27, 3) := by decide +kernel
theorem dX11_light_8 : decode cX11_light 8 = .ok (.aload_n 0, 1) := by decide +kernel
theorem dX11_light_9 : decode cX11_light 9 = .ok (.getfield 71, 3) := by decide +kernel
theorem dX11_light_12 : decode cX11_light 12 = .ok (.aload_n 0, 1) := by decide +kernel
theorem dX11_light_13 : decode cX11_light 13 = .ok (.getfield 26, 3) := by decide +kernel
theorem dX11_light_16 : decode cX11_light 16 = .ok (.aload_n 0, 1) := by decide +kernel
theorem dX11_light_17 : decode cX11_light 17 = .ok (.getfield 26, 3) := by decide +kernel
theorem dX11_light_20 : decode cX11_light 20 = .ok (.getfield 146, 3) := by decide +kernel
theorem dX11_light_23 : decode cX11_light 23 = .ok (.iload_n 1, 1) := by decide +kernel
theorem dX11_light_24 : decode cX11_light 24 = .ok (.aaload, 1) := by decide +kernel
theorem dX11_light_25 : decode cX11_light 25 = .ok (.iload_n 2, 1) := by decide +kernel
theorem dX11_light_26 : decode cX11_light 26 = .ok (.invokevirtual 204, 3) := by decide +kernel
theorem dX11_light_29 : decode cX11_light 29 = .ok (.goto 5, 3) := by decide +kernel
theorem dX11_light_32 : decode cX11_light 32 = .ok (.bipush (-2), 2) := by decide +kernel
theorem dX11_light_34 : decode cX11_light 34 = .ok (.ireturn, 1) := by decide +kernel
theorem dX11_weight_0 : decode cX11_weight 0 = .ok (.aload_n 0, 1) := by decide +kernel
theorem dX11_weight_1 : decode cX11_weight 1 = .ok (.iload_n 1, 1) := by decide +kernel
theorem dX11_weight_2 : decode cX11_weight 2 = .ok (.invokevirtual 154, 3) := by decide +kernel
theorem dX11_weight_5 : decode cX11_weight 5 = .ok (.ifCond .eq 14, 3) := by decide +kernel
theorem dX11_weight_8 : decode cX11_weight 8 = .ok (.aload_n 0, 1) := by decide +kernel
theorem dX11_weight_9 : decode cX11_weight 9 = .ok (.getfield 26, 3) := by decide +kernel
theorem dX11_weight_12 : decode cX11_weight 12 = .ok (.iload_n 1, 1) := by decide +kernel
theorem dX11_weight_13 : decode cX11_weight 13 = .ok (.invokevirtual 207, 3) := by decide +kernel
theorem dX11_weight_16 : decode cX11_weight 16 = .ok (.goto 5, 3) := by decide +kernel
theorem dX11_weight_19 : decode cX11_weight 19 = .ok (.bipush (-2), 2) := by decide +kernel
theorem dX11_weight_21 : decode cX11_weight 21 = .ok (.ireturn, 1) := by decide +kernel
theorem dX11_weigh_0 : decode cX11_weigh 0 = .ok (.aload_n 0, 1) := by decide +kernel
theorem dX11_weigh_1 : decode cX11_weigh 1 = .ok (.iload_n 1, 1) := by decide +kernel
theorem dX11_weigh_2 : decode cX11_weigh 2 = .ok (.invokevirtual 183, 3) := by decide +kernel
theorem dX11_weigh_5 : decode cX11_weigh 5 = .ok (.ifCond .eq 13, 3) := by decide +kernel
theorem dX11_weigh_8 : decode cX11_weigh 8 = .ok (.iload_n 2, 1) := by decide +kernel
theorem dX11_weigh_9 : decode cX11_weigh 9 = .ok (.ifCond .lt 9, 3) := by decide +kernel
theorem dX11_weigh_12 : decode cX11_weigh 12 = .ok (.iload_n 2, 1) := by decide +kernel
theorem dX11_weigh_13 : decode cX11_weigh 13 = .ok (.bipush 99, 2) := by decide +kernel
theorem dX11_weigh_15 : decode cX11_weigh 15 = .ok (.if_icmp .le 6, 3) := by decide +kernel
theorem dX11_weigh_18 : decode cX11_weigh 18 = .ok (.bipush (-2), 2) := by decide +kernel
theorem dX11_weigh_20 : decode cX11_weigh 20 = .ok (.ireturn, 1) := by decide +kernel
theorem dX11_weigh_21 : decode cX11_weigh 21 = .ok (.aload_n 0, 1) := by decide +kernel
theorem dX11_weigh_22 : decode cX11_weigh 22 = .ok (.getfield 26, 3) := by decide +kernel
theorem dX11_weigh_25 : decode cX11_weigh 25 = .ok (.getfield 210, 3) := by decide +kernel
theorem dX11_weigh_28 : decode cX11_weigh 28 = .ok (.iload_n 1, 1) := by decide +kernel
theorem dX11_weigh_29 : decode cX11_weigh 29 = .ok (.iaload, 1) := by decide +kernel
theorem dX11_weigh_30 : decode cX11_weigh 30 = .ok (.istore_n 3, 1) := by decide +kernel
theorem dX11_weigh_31 : decode cX11_weigh 31 = .ok (.aload_n 0, 1) := by decide +kernel
theorem dX11_weigh_32 : decode cX11_weigh 32 = .ok (.getfield 26, 3) := by decide +kernel
theorem dX11_weigh_35 : decode cX11_weigh 35 = .ok (.getfield 210, 3) := by decide +kernel
theorem dX11_weigh_38 : decode cX11_weigh 38 = .ok (.iload_n 1, 1) := by decide +kernel
theorem dX11_weigh_39 : decode cX11_weigh 39 = .ok (.iload_n 2, 1) := by decide +kernel
theorem dX11_weigh_40 : decode cX11_weigh 40 = .ok (.iastore, 1) := by decide +kernel
theorem dX11_weigh_41 : decode cX11_weigh 41 = .ok (.iload_n 3, 1) := by decide +kernel
theorem dX11_weigh_42 : decode cX11_weigh 42 = .ok (.ireturn, 1) := by decide +kernel
theorem dX11_weighs_0 : decode cX11_weighs 0 = .ok (.aload_n 0, 1) := by decide +kernel
theorem dX11_weighs_1 : decode cX11_weighs 1 = .ok (.iload_n 1, 1) := by decide +kernel
theorem dX11_weighs_2 : decode cX11_weighs 2 = .ok (.invokevirtual 135, 3) := by decide +kernel
theorem dX11_weighs_5 : decode cX11_weighs 5 = .ok (.ifCond .eq 12, 3) := by decide +kernel
theorem dX11_weighs_8 : decode cX11_weighs 8 = .ok (.iload_n 2, 1) := by decide +kernel
theorem dX11_weighs_9 : decode cX11_weighs 9 = .ok (.ifCond .lt 8, 3) := by decide +kernel
theorem dX11_weighs_12 : decode cX11_weighs 12 = .ok (.iload_n 2, 1) := by decide +kernel
theorem dX11_weighs_13 : decode cX11_weighs 13 = .ok (.iconst 2, 1) := by decide +kernel
theorem dX11_weighs_14 : decode cX11_weighs 14 = .ok (.if_icmp .le 6, 3) := by decide +kernel
theorem dX11_weighs_17 : decode cX11_weighs 17 = .ok (.bipush (-2), 2) := by decide +kernel
theorem dX11_weighs_19 : decode cX11_weighs 19 = .ok (.ireturn, 1) := by decide +kernel
theorem dX11_weighs_20 : decode cX11_weighs 20 = .ok (.aload_n 0, 1) := by decide +kernel
theorem dX11_weighs_21 : decode cX11_weighs 21 = .ok (.getfield 71, 3) := by decide +kernel
theorem dX11_weighs_24 : decode cX11_weighs 24 = .ok (.aload_n 0, 1) := by decide +kernel
theorem dX11_weighs_25 : decode cX11_weighs 25 = .ok (.getfield 26, 3) := by decide +kernel
theorem dX11_weighs_28 : decode cX11_weighs 28 = .ok (.aload_n 0, 1) := by decide +kernel
theorem dX11_weighs_29 : decode cX11_weighs 29 = .ok (.getfield 26, 3) := by decide +kernel
theorem dX11_weighs_32 : decode cX11_weighs 32 = .ok (.getfield 146, 3) := by decide +kernel
theorem dX11_weighs_35 : decode cX11_weighs 35 = .ok (.iload_n 1, 1) := by decide +kernel
theorem dX11_weighs_36 : decode cX11_weighs 36 = .ok (.aaload, 1) := by decide +kernel
theorem dX11_weighs_37 : decode cX11_weighs 37 = .ok (.iload_n 2, 1) := by decide +kernel
theorem dX11_weighs_38 : decode cX11_weighs 38 = .ok (.invokevirtual 214, 3) := by decide +kernel
theorem dX11_weighs_41 : decode cX11_weighs 41 = .ok (.ireturn, 1) := by decide +kernel
theorem dX11_each_0 : decode cX11_each 0 = .ok (.aload_n 0, 1) := by decide +kernel
theorem dX11_each_1 : decode cX11_each 1 = .ok (.iload_n 1, 1) := by decide +kernel
theorem dX11_each_2 : decode cX11_each 2 = .ok (.invokevirtual 135, 3) := by decide +kernel
theorem dX11_each_5 : decode cX11_each 5 = .ok (.ifCond .eq 11, 3) := by decide +kernel
theorem dX11_each_8 : decode cX11_each 8 = .ok (.aload_n 0, 1) := by decide +kernel
theorem dX11_each_9 : decode cX11_each 9 = .ok (.iload_n 2, 1) := by decide +kernel
theorem dX11_each_10 : decode cX11_each 10 = .ok (.invokevirtual 183, 3) := by decide +kernel
theorem dX11_each_13 : decode cX11_each 13 = .ok (.ifCond .ne 6, 3) := by decide +kernel
theorem dX11_each_16 : decode cX11_each 16 = .ok (.bipush (-2), 2) := by decide +kernel
theorem dX11_each_18 : decode cX11_each 18 = .ok (.ireturn, 1) := by decide +kernel
theorem dX11_each_19 : decode cX11_each 19 = .ok (.aload_n 0, 1) := by decide +kernel
theorem dX11_each_20 : decode cX11_each 20 = .ok (.getfield 106, 3) := by decide +kernel
theorem dX11_each_23 : decode cX11_each 23 = .ok (.aload_n 0, 1) := by decide +kernel
theorem dX11_each_24 : decode cX11_each 24 = .ok (.getfield 26, 3) := by decide +kernel
theorem dX11_each_27 : decode cX11_each 27 = .ok (.getfield 146, 3) := by decide +kernel
theorem dX11_each_30 : decode cX11_each 30 = .ok (.iload_n 1, 1) := by decide +kernel
theorem dX11_each_31 : decode cX11_each 31 = .ok (.aaload, 1) := by decide +kernel
theorem dX11_each_32 : decode cX11_each 32 = .ok (.invokevirtual 160, 3) := by decide +kernel
theorem dX11_each_35 : decode cX11_each 35 = .ok (.aload_n 0, 1) := by decide +kernel
theorem dX11_each_36 : decode cX11_each 36 = .ok (.getfield 106, 3) := by decide +kernel
theorem dX11_each_39 : decode cX11_each 39 = .ok (.iload_n 2, 1) := by decide +kernel
theorem dX11_each_40 : decode cX11_each 40 = .ok (.invokevirtual 189, 3) := by decide +kernel
theorem dX11_each_43 : decode cX11_each 43 = .ok (.aload_n 0, 1) := by decide +kernel
theorem dX11_each_44 : decode cX11_each 44 = .ok (.getfield 26, 3) := by decide +kernel
theorem dX11_each_47 : decode cX11_each 47 = .ok (.getfield 146, 3) := by decide +kernel
theorem dX11_each_50 : decode cX11_each 50 = .ok (.iload_n 1, 1) := by decide +kernel
theorem dX11_each_51 : decode cX11_each 51 = .ok (.aaload, 1) := by decide +kernel
theorem dX11_each_52 : decode cX11_each 52 = .ok (.invokevirtual 150, 3) := by decide +kernel
theorem dX11_each_55 : decode cX11_each 55 = .ok (.aload_n 0, 1) := by decide +kernel
theorem dX11_each_56 : decode cX11_each 56 = .ok (.getfield 106, 3) := by decide +kernel
theorem dX11_each_59 : decode cX11_each 59 = .ok (.invokevirtual 150, 3) := by decide +kernel
theorem dX11_each_62 : decode cX11_each 62 = .ok (.isub, 1) := by decide +kernel
theorem dX11_each_63 : decode cX11_each 63 = .ok (.ireturn, 1) := by decide +kernel
theorem dX11_names_0 : decode cX11_names 0 = .ok (.aload_n 0, 1) := by decide +kernel
theorem dX11_names_1 : decode cX11_names 1 = .ok (.iload_n 1, 1) := by decide +kernel
theorem dX11_names_2 : decode cX11_names 2 = .ok (.invokevirtual 135, 3) := by decide +kernel
theorem dX11_names_5 : decode cX11_names 5 = .ok (.ifCond .eq 12, 3) := by decide +kernel
theorem dX11_names_8 : decode cX11_names 8 = .ok (.iload_n 2, 1) := by decide +kernel
theorem dX11_names_9 : decode cX11_names 9 = .ok (.ifCond .lt 8, 3) := by decide +kernel
theorem dX11_names_12 : decode cX11_names 12 = .ok (.iload_n 2, 1) := by decide +kernel
theorem dX11_names_13 : decode cX11_names 13 = .ok (.iconst 2, 1) := by decide +kernel
theorem dX11_names_14 : decode cX11_names 14 = .ok (.if_icmp .le 6, 3) := by decide +kernel
theorem dX11_names_17 : decode cX11_names 17 = .ok (.bipush (-2), 2) := by decide +kernel
theorem dX11_names_19 : decode cX11_names 19 = .ok (.ireturn, 1) := by decide +kernel
theorem dX11_names_20 : decode cX11_names 20 = .ok (.aload_n 0, 1) := by decide +kernel
theorem dX11_names_21 : decode cX11_names 21 = .ok (.getfield 26, 3) := by decide +kernel
theorem dX11_names_24 : decode cX11_names 24 = .ok (.getfield 146, 3) := by decide +kernel
theorem dX11_names_27 : decode cX11_names 27 = .ok (.iload_n 1, 1) := by decide +kernel
theorem dX11_names_28 : decode cX11_names 28 = .ok (.aaload, 1) := by decide +kernel
theorem dX11_names_29 : decode cX11_names 29 = .ok (.astore_n 3, 1) := by decide +kernel
theorem dX11_names_30 : decode cX11_names 30 = .ok (.iconst 0, 1) := by decide +kernel
theorem dX11_names_31 : decode cX11_names 31 = .ok (.istore 4, 2) := by decide +kernel
theorem dX11_names_33 : decode cX11_names 33 = .ok (.iconst 0, 1) := by decide +kernel
theorem dX11_names_34 : decode cX11_names 34 = .ok (.istore 5, 2) := by decide +kernel
theorem dX11_names_36 : decode cX11_names 36 = .ok (.iload 5, 2) := by decide +kernel
theorem dX11_names_38 : decode cX11_names 38 = .ok (.aload_n 0, 1) := by decide +kernel
theorem dX11_names_39 : decode cX11_names 39 = .ok (.getfield 26, 3) := by decide +kernel
theorem dX11_names_42 : decode cX11_names 42 = .ok (.getfield 139, 3) := by decide +kernel
theorem dX11_names_45 : decode cX11_names 45 = .ok (.if_icmp .ge 29, 3) := by decide +kernel
theorem dX11_names_48 : decode cX11_names 48 = .ok (.aload_n 0, 1) := by decide +kernel
theorem dX11_names_49 : decode cX11_names 49 = .ok (.aload_n 3, 1) := by decide +kernel
theorem dX11_names_50 : decode cX11_names 50 = .ok (.iload 5, 2) := by decide +kernel
theorem dX11_names_52 : decode cX11_names 52 = .ok (.iload_n 2, 1) := by decide +kernel
theorem dX11_names_53 : decode cX11_names 53 = .ok (.invokevirtual 217, 3) := by decide +kernel
theorem dX11_names_56 : decode cX11_names 56 = .ok (.ifCond .eq 12, 3) := by decide +kernel
theorem dX11_names_59 : decode cX11_names 59 = .ok (.iload 4, 2) := by decide +kernel
theorem dX11_names_61 : decode cX11_names 61 = .ok (.iconst 1, 1) := by decide +kernel
theorem dX11_names_62 : decode cX11_names 62 = .ok (.iload 5, 2) := by decide +kernel
theorem dX11_names_64 : decode cX11_names 64 = .ok (.ishl, 1) := by decide +kernel
theorem dX11_names_65 : decode cX11_names 65 = .ok (.ior, 1) := by decide +kernel
theorem dX11_names_66 : decode cX11_names 66 = .ok (.istore 4, 2) := by decide +kernel
theorem dX11_names_68 : decode cX11_names 68 = .ok (.iinc 5 1, 3) := by decide +kernel
theorem dX11_names_71 : decode cX11_names 71 = .ok (.goto (-35), 3) := by decide +kernel
theorem dX11_names_74 : decode cX11_names 74 = .ok (.iload 4, 2) := by decide +kernel
theorem dX11_names_76 : decode cX11_names 76 = .ok (.ireturn, 1) := by decide +kernel
theorem dX11_draw_0 : decode cX11_draw 0 = .ok (.aload_n 0, 1) := by decide +kernel
theorem dX11_draw_1 : decode cX11_draw 1 = .ok (.iload_n 1, 1) := by decide +kernel
theorem dX11_draw_2 : decode cX11_draw 2 = .ok (.invokevirtual 135, 3) := by decide +kernel
theorem dX11_draw_5 : decode cX11_draw 5 = .ok (.ifCond .eq 13, 3) := by decide +kernel
theorem dX11_draw_8 : decode cX11_draw 8 = .ok (.iload_n 2, 1) := by decide +kernel
theorem dX11_draw_9 : decode cX11_draw 9 = .ok (.ifCond .lt 9, 3) := by decide +kernel
theorem dX11_draw_12 : decode cX11_draw 12 = .ok (.iload_n 2, 1) := by decide +kernel
theorem dX11_draw_13 : decode cX11_draw 13 = .ok (.ldc 221, 2) := by decide +kernel
theorem dX11_draw_15 : decode cX11_draw 15 = .ok (.if_icmp .le 6, 3) := by decide +kernel
theorem dX11_draw_18 : decode cX11_draw 18 = .ok (.bipush (-2), 2) := by decide +kernel
theorem dX11_draw_20 : decode cX11_draw 20 = .ok (.ireturn, 1) := by decide +kernel
theorem dX11_draw_21 : decode cX11_draw 21 = .ok (.aload_n 0, 1) := by decide +kernel
theorem dX11_draw_22 : decode cX11_draw 22 = .ok (.getfield 26, 3) := by decide +kernel
theorem dX11_draw_25 : decode cX11_draw 25 = .ok (.getfield 146, 3) := by decide +kernel
theorem dX11_draw_28 : decode cX11_draw 28 = .ok (.iload_n 1, 1) := by decide +kernel
theorem dX11_draw_29 : decode cX11_draw 29 = .ok (.aaload, 1) := by decide +kernel
theorem dX11_draw_30 : decode cX11_draw 30 = .ok (.invokevirtual 150, 3) := by decide +kernel
theorem dX11_draw_33 : decode cX11_draw 33 = .ok (.istore_n 3, 1) := by decide +kernel
theorem dX11_draw_34 : decode cX11_draw 34 = .ok (.iload_n 3, 1) := by decide +kernel
theorem dX11_draw_35 : decode cX11_draw 35 = .ok (.ifCond .gt 5, 3) := by decide +kernel
theorem dX11_draw_38 : decode cX11_draw 38 = .ok (.iconst (-1), 1) := by decide +kernel
theorem dX11_draw_39 : decode cX11_draw 39 = .ok (.ireturn, 1) := by decide +kernel
theorem dX11_draw_40 : decode cX11_draw 40 = .ok (.ldc2_w 222, 3) := by decide +kernel
theorem dX11_draw_43 : decode cX11_draw 43 = .ok (.iload_n 2, 1) := by decide +kernel
theorem dX11_draw_44 : decode cX11_draw 44 = .ok (.i2l, 1) := by decide +kernel
theorem dX11_draw_45 : decode cX11_draw 45 = .ok (.lmul, 1) := by decide +kernel
theorem dX11_draw_46 : decode cX11_draw 46 = .ok (.ldc2_w 224, 3) := by decide +kernel
theorem dX11_draw_49 : decode cX11_draw 49 = .ok (.ladd, 1) := by decide +kernel
theorem dX11_draw_50 : decode cX11_draw 50 = .ok (.ldc2_w 226, 3) := by decide +kernel
theorem dX11_draw_53 : decode cX11_draw 53 = .ok (.lrem, 1) := by decide +kernel
theorem dX11_draw_54 : decode cX11_draw 54 = .ok (.lstore 4, 2) := by decide +kernel
theorem dX11_draw_56 : decode cX11_draw 56 = .ok (.aload_n 0, 1) := by decide +kernel
theorem dX11_draw_57 : decode cX11_draw 57 = .ok (.getfield 26, 3) := by decide +kernel
theorem dX11_draw_60 : decode cX11_draw 60 = .ok (.getfield 146, 3) := by decide +kernel
theorem dX11_draw_63 : decode cX11_draw 63 = .ok (.iload_n 1, 1) := by decide +kernel
theorem dX11_draw_64 : decode cX11_draw 64 = .ok (.aaload, 1) := by decide +kernel
theorem dX11_draw_65 : decode cX11_draw 65 = .ok (.lload 4, 2) := by decide +kernel
theorem dX11_draw_67 : decode cX11_draw 67 = .ok (.ldc2_w 228, 3) := by decide +kernel
theorem dX11_draw_70 : decode cX11_draw 70 = .ok (.ldiv, 1) := by decide +kernel
theorem dX11_draw_71 : decode cX11_draw 71 = .ok (.iload_n 3, 1) := by decide +kernel
theorem dX11_draw_72 : decode cX11_draw 72 = .ok (.i2l, 1) := by decide +kernel
theorem dX11_draw_73 : decode cX11_draw 73 = .ok (.lrem, 1) := by decide +kernel
theorem dX11_draw_74 : decode cX11_draw 74 = .ok (.l2i, 1) := by decide +kernel
theorem dX11_draw_75 : decode cX11_draw 75 = .ok (.invokevirtual 198, 3) := by decide +kernel
theorem dX11_draw_78 : decode cX11_draw 78 = .ok (.ireturn, 1) := by decide +kernel
theorem dX11_alike_0 : decode cX11_alike 0 = .ok (.aload_n 0, 1) := by decide +kernel
theorem dX11_alike_1 : decode cX11_alike 1 = .ok (.iload_n 1, 1) := by decide +kernel
theorem dX11_alike_2 : decode cX11_alike 2 = .ok (.invokevirtual 135, 3) := by decide +kernel
theorem dX11_alike_5 : decode cX11_alike 5 = .ok (.ifCond .eq 11, 3) := by decide +kernel
theorem dX11_alike_8 : decode cX11_alike 8 = .ok (.aload_n 0, 1) := by decide +kernel
theorem dX11_alike_9 : decode cX11_alike 9 = .ok (.iload_n 2, 1) := by decide +kernel
theorem dX11_alike_10 : decode cX11_alike 10 = .ok (.invokevirtual 135, 3) := by decide +kernel
theorem dX11_alike_13 : decode cX11_alike 13 = .ok (.ifCond .ne 6, 3) := by decide +kernel
theorem dX11_alike_16 : decode cX11_alike 16 = .ok (.bipush (-2), 2) := by decide +kernel
theorem dX11_alike_18 : decode cX11_alike 18 = .ok (.ireturn, 1) := by decide +kernel
theorem dX11_alike_19 : decode cX11_alike 19 = .ok (.aload_n 0, 1) := by decide +kernel
theorem dX11_alike_20 : decode cX11_alike 20 = .ok (.getfield 26, 3) := by decide +kernel
theorem dX11_alike_23 : decode cX11_alike 23 = .ok (.getfield 146, 3) := by decide +kernel
theorem dX11_alike_26 : decode cX11_alike 26 = .ok (.iload_n 1, 1) := by decide +kernel
theorem dX11_alike_27 : decode cX11_alike 27 = .ok (.aaload, 1) := by decide +kernel
theorem dX11_alike_28 : decode cX11_alike 28 = .ok (.aload_n 0, 1) := by decide +kernel
theorem dX11_alike_29 : decode cX11_alike 29 = .ok (.getfield 26, 3) := by decide +kernel
theorem dX11_alike_32 : decode cX11_alike 32 = .ok (.getfield 146, 3) := by decide +kernel
theorem dX11_alike_35 : decode cX11_alike 35 = .ok (.iload_n 2, 1) := by decide +kernel
theorem dX11_alike_36 : decode cX11_alike 36 = .ok (.aaload, 1) := by decide +kernel
theorem dX11_alike_37 : decode cX11_alike 37 = .ok (.invokevirtual 230, 3) := by decide +kernel
theorem dX11_alike_40 : decode cX11_alike 40 = .ok (.ifCond .eq 7, 3) := by decide +kernel
theorem dX11_alike_43 : decode cX11_alike 43 = .ok (.iconst 1, 1) := by decide +kernel
theorem dX11_alike_44 : decode cX11_alike 44 = .ok (.goto 4, 3) := by decide +kernel
theorem dX11_alike_47 : decode cX11_alike 47 = .ok (.iconst 0, 1) := by decide +kernel
theorem dX11_alike_48 : decode cX11_alike 48 = .ok (.ireturn, 1) := by decide +kernel
theorem dX11_differ_0 : decode cX11_differ 0 = .ok (.aload_n 0, 1) := by decide +kernel
theorem dX11_differ_1 : decode cX11_differ 1 = .ok (.iload_n 1, 1) := by decide +kernel
theorem dX11_differ_2 : decode cX11_differ 2 = .ok (.invokevirtual 135, 3) := by decide +kernel
theorem dX11_differ_5 : decode cX11_differ 5 = .ok (.ifCond .eq 11, 3) := by decide +kernel
theorem dX11_differ_8 : decode cX11_differ 8 = .ok (.aload_n 0, 1) := by decide +kernel
theorem dX11_differ_9 : decode cX11_differ 9 = .ok (.iload_n 2, 1) := by decide +kernel
theorem dX11_differ_10 : decode cX11_differ 10 = .ok (.invokevirtual 135, 3) := by decide +kernel
theorem dX11_differ_13 : decode cX11_differ 13 = .ok (.ifCond .ne 6, 3) := by decide +kernel
theorem dX11_differ_16 : decode cX11_differ 16 = .ok (.bipush (-2), 2) := by decide +kernel
theorem dX11_differ_18 : decode cX11_differ 18 = .ok (.ireturn, 1) := by decide +kernel
theorem dX11_differ_19 : decode cX11_differ 19 = .ok (.aload_n 0, 1) := by decide +kernel
theorem dX11_differ_20 : decode cX11_differ 20 = .ok (.getfield 106, 3) := by decide +kernel
theorem dX11_differ_23 : decode cX11_differ 23 = .ok (.aload_n 0, 1) := by decide +kernel
theorem dX11_differ_24 : decode cX11_differ 24 = .ok (.getfield 26, 3) := by decide +kernel
theorem dX11_differ_27 : decode cX11_differ 27 = .ok (.getfield 146, 3) := by decide +kernel
theorem dX11_differ_30 : decode cX11_differ 30 = .ok (.iload_n 1, 1) := by decide +kernel
theorem dX11_differ_31 : decode cX11_differ 31 = .ok (.aaload, 1) := by decide +kernel
theorem dX11_differ_32 : decode cX11_differ 32 = .ok (.invokevirtual 160, 3) := by decide +kernel
theorem dX11_differ_35 : decode cX11_differ 35 = .ok (.aload_n 0, 1) := by decide +kernel
theorem dX11_differ_36 : decode cX11_differ 36 = .ok (.getfield 106, 3) := by decide +kernel
theorem dX11_differ_39 : decode cX11_differ 39 = .ok (.aload_n 0, 1) := by decide +kernel
theorem dX11_differ_40 : decode cX11_differ 40 = .ok (.getfield 26, 3) := by decide +kernel
theorem dX11_differ_43 : decode cX11_differ 43 = .ok (.getfield 146, 3) := by decide +kernel
theorem dX11_differ_46 : decode cX11_differ 46 = .ok (.iload_n 2, 1) := by decide +kernel
theorem dX11_differ_47 : decode cX11_differ 47 = .ok (.aaload, 1) := by decide +kernel
theorem dX11_differ_48 : decode cX11_differ 48 = .ok (.invokevirtual 234, 3) := by decide +kernel
theorem dX11_differ_51 : decode cX11_differ 51 = .ok (.aload_n 0, 1) := by decide +kernel
theorem dX11_differ_52 : decode cX11_differ 52 = .ok (.getfield 110, 3) := by decide +kernel
theorem dX11_differ_55 : decode cX11_differ 55 = .ok (.aload_n 0, 1) := by decide +kernel
theorem dX11_differ_56 : decode cX11_differ 56 = .ok (.getfield 26, 3) := by decide +kernel
theorem dX11_differ_59 : decode cX11_differ 59 = .ok (.getfield 146, 3) := by decide +kernel
theorem dX11_differ_62 : decode cX11_differ 62 = .ok (.iload_n 2, 1) := by decide +kernel
theorem dX11_differ_63 : decode cX11_differ 63 = .ok (.aaload, 1) := by decide +kernel
theorem dX11_differ_64 : decode cX11_differ 64 = .ok (.invokevirtual 160, 3) := by decide +kernel
theorem dX11_differ_67 : decode cX11_differ 67 = .ok (.aload_n 0, 1) := by decide +kernel
theorem dX11_differ_68 : decode cX11_differ 68 = .ok (.getfield 110, 3) := by decide +kernel
theorem dX11_differ_71 : decode cX11_differ 71 = .ok (.aload_n 0, 1) := by decide +kernel
theorem dX11_differ_72 : decode cX11_differ 72 = .ok (.getfield 26, 3) := by decide +kernel
theorem dX11_differ_75 : decode cX11_differ 75 = .ok (.getfield 146, 3) := by decide +kernel
theorem dX11_differ_78 : decode cX11_differ 78 = .ok (.iload_n 1, 1) := by decide +kernel
theorem dX11_differ_79 : decode cX11_differ 79 = .ok (.aaload, 1) := by decide +kernel
theorem dX11_differ_80 : decode cX11_differ 80 = .ok (.invokevirtual 234, 3) := by decide +kernel
theorem dX11_differ_83 : decode cX11_differ 83 = .ok (.aload_n 0, 1) := by decide +kernel
theorem dX11_differ_84 : decode cX11_differ 84 = .ok (.getfield 106, 3) := by decide +kernel
theorem dX11_differ_87 : decode cX11_differ 87 = .ok (.aload_n 0, 1) := by decide +kernel
theorem dX11_differ_88 : decode cX11_differ 88 = .ok (.getfield 110, 3) := by decide +kernel
theorem dX11_differ_91 : decode cX11_differ 91 = .ok (.invokevirtual 237, 3) := by decide +kernel
theorem dX11_differ_94 : decode cX11_differ 94 = .ok (.aload_n 0, 1) := by decide +kernel
theorem dX11_differ_95 : decode cX11_differ 95 = .ok (.getfield 106, 3) := by decide +kernel
theorem dX11_differ_98 : decode cX11_differ 98 = .ok (.iconst 0, 1) := by decide +kernel
theorem dX11_differ_99 : decode cX11_differ 99 = .ok (.invokevirtual 198, 3) := by decide +kernel
theorem dX11_differ_102 : decode cX11_differ 102 = .ok (.ireturn, 1) := by decide +kernel
theorem dX11_within_0 : decode cX11_within 0 = .ok (.aload_n 0, 1) := by decide +kernel
theorem dX11_within_1 : decode cX11_within 1 = .ok (.iload_n 1, 1) := by decide +kernel
theorem dX11_within_2 : decode cX11_within 2 = .ok (.invokevirtual 135, 3) := by decide +kernel
theorem dX11_within_5 : decode cX11_within 5 = .ok (.ifCond .eq 11, 3) := by decide +kernel
theorem dX11_within_8 : decode cX11_within 8 = .ok (.aload_n 0, 1) := by decide +kernel
theorem dX11_within_9 : decode cX11_within 9 = .ok (.iload_n 2, 1) := by decide +kernel
theorem dX11_within_10 : decode cX11_within 10 = .ok (.invokevirtual 135, 3) := by decide +kernel
theorem dX11_within_13 : decode cX11_within 13 = .ok (.ifCond .ne 6, 3) := by decide +kernel
theorem dX11_within_16 : decode cX11_within 16 = .ok (.bipush (-2), 2) := by decide +kernel
theorem dX11_within_18 : decode cX11_within 18 = .ok (.ireturn, 1) := by decide +kernel
theorem dX11_within_19 : decode cX11_within 19 = .ok (.aload_n 0, 1) := by decide +kernel
theorem dX11_within_20 : decode cX11_within 20 = .ok (.getfield 106, 3) := by decide +kernel
theorem dX11_within_23 : decode cX11_within 23 = .ok (.aload_n 0, 1) := by decide +kernel
theorem dX11_within_24 : decode cX11_within 24 = .ok (.getfield 26, 3) := by decide +kernel
theorem dX11_within_27 : decode cX11_within 27 = .ok (.getfield 146, 3) := by decide +kernel
theorem dX11_within_30 : decode cX11_within 30 = .ok (.iload_n 1, 1) := by decide +kernel
theorem dX11_within_31 : decode cX11_within 31 = .ok (.aaload, 1) := by decide +kernel
theorem dX11_within_32 : decode cX11_within 32 = .ok (.invokevirtual 160, 3) := by decide +kernel
theorem dX11_within_35 : decode cX11_within 35 = .ok (.aload_n 0, 1) := by decide +kernel
theorem dX11_within_36 : decode cX11_within 36 = .ok (.getfield 106, 3) := by decide +kernel
theorem dX11_within_39 : decode cX11_within 39 = .ok (.aload_n 0, 1) := by decide +kernel
theorem dX11_within_40 : decode cX11_within 40 = .ok (.getfield 26, 3) := by decide +kernel
theorem dX11_within_43 : decode cX11_within 43 = .ok (.getfield 146, 3) := by decide +kernel
theorem dX11_within_46 : decode cX11_within 46 = .ok (.iload_n 2, 1) := by decide +kernel
theorem dX11_within_47 : decode cX11_within 47 = .ok (.aaload, 1) := by decide +kernel
theorem dX11_within_48 : decode cX11_within 48 = .ok (.invokevirtual 234, 3) := by decide +kernel
theorem dX11_within_51 : decode cX11_within 51 = .ok (.aload_n 0, 1) := by decide +kernel
theorem dX11_within_52 : decode cX11_within 52 = .ok (.getfield 106, 3) := by decide +kernel
theorem dX11_within_55 : decode cX11_within 55 = .ok (.invokevirtual 240, 3) := by decide +kernel
theorem dX11_within_58 : decode cX11_within 58 = .ok (.ifCond .eq 7, 3) := by decide +kernel
theorem dX11_within_61 : decode cX11_within 61 = .ok (.iconst 1, 1) := by decide +kernel
theorem dX11_within_62 : decode cX11_within 62 = .ok (.goto 4, 3) := by decide +kernel
theorem dX11_within_65 : decode cX11_within 65 = .ok (.iconst 0, 1) := by decide +kernel
theorem dX11_within_66 : decode cX11_within 66 = .ok (.ireturn, 1) := by decide +kernel
theorem dX11_dual_0 : decode cX11_dual 0 = .ok (.aload_n 0, 1) := by decide +kernel
theorem dX11_dual_1 : decode cX11_dual 1 = .ok (.iload_n 1, 1) := by decide +kernel
theorem dX11_dual_2 : decode cX11_dual 2 = .ok (.invokevirtual 135, 3) := by decide +kernel
theorem dX11_dual_5 : decode cX11_dual 5 = .ok (.ifCond .eq 11, 3) := by decide +kernel
theorem dX11_dual_8 : decode cX11_dual 8 = .ok (.aload_n 0, 1) := by decide +kernel
theorem dX11_dual_9 : decode cX11_dual 9 = .ok (.iload_n 2, 1) := by decide +kernel
theorem dX11_dual_10 : decode cX11_dual 10 = .ok (.invokevirtual 135, 3) := by decide +kernel
theorem dX11_dual_13 : decode cX11_dual 13 = .ok (.ifCond .ne 6, 3) := by decide +kernel
theorem dX11_dual_16 : decode cX11_dual 16 = .ok (.bipush (-2), 2) := by decide +kernel
theorem dX11_dual_18 : decode cX11_dual 18 = .ok (.ireturn, 1) := by decide +kernel
theorem dX11_dual_19 : decode cX11_dual 19 = .ok (.aload_n 0, 1) := by decide +kernel
theorem dX11_dual_20 : decode cX11_dual 20 = .ok (.getfield 106, 3) := by decide +kernel
theorem dX11_dual_23 : decode cX11_dual 23 = .ok (.aload_n 0, 1) := by decide +kernel
theorem dX11_dual_24 : decode cX11_dual 24 = .ok (.getfield 26, 3) := by decide +kernel
theorem dX11_dual_27 : decode cX11_dual 27 = .ok (.getfield 146, 3) := by decide +kernel
theorem dX11_dual_30 : decode cX11_dual 30 = .ok (.iload_n 2, 1) := by decide +kernel
theorem dX11_dual_31 : decode cX11_dual 31 = .ok (.aaload, 1) := by decide +kernel
theorem dX11_dual_32 : decode cX11_dual 32 = .ok (.invokevirtual 160, 3) := by decide +kernel
theorem dX11_dual_35 : decode cX11_dual 35 = .ok (.aload_n 0, 1) := by decide +kernel
theorem dX11_dual_36 : decode cX11_dual 36 = .ok (.getfield 64, 3) := by decide +kernel
theorem dX11_dual_39 : decode cX11_dual 39 = .ok (.iconst 2, 1) := by decide +kernel
theorem dX11_dual_40 : decode cX11_dual 40 = .ok (.aload_n 0, 1) := by decide +kernel
theorem dX11_dual_41 : decode cX11_dual 41 = .ok (.getfield 106, 3) := by decide +kernel
theorem dX11_dual_44 : decode cX11_dual 44 = .ok (.aload_n 0, 1) := by decide +kernel
theorem dX11_dual_45 : decode cX11_dual 45 = .ok (.getfield 26, 3) := by decide +kernel
theorem dX11_dual_48 : decode cX11_dual 48 = .ok (.getfield 139, 3) := by decide +kernel
theorem dX11_dual_51 : decode cX11_dual 51 = .ok (.invokevirtual 172, 3) := by decide +kernel
theorem dX11_dual_54 : decode cX11_dual 54 = .ok (.aload_n 0, 1) := by decide +kernel
theorem dX11_dual_55 : decode cX11_dual 55 = .ok (.getfield 110, 3) := by decide +kernel
theorem dX11_dual_58 : decode cX11_dual 58 = .ok (.aload_n 0, 1) := by decide +kernel
theorem dX11_dual_59 : decode cX11_dual 59 = .ok (.getfield 26, 3) := by decide +kernel
theorem dX11_dual_62 : decode cX11_dual 62 = .ok (.getfield 146, 3) := by decide +kernel
theorem dX11_dual_65 : decode cX11_dual 65 = .ok (.iload_n 1, 1) := by decide +kernel
theorem dX11_dual_66 : decode cX11_dual 66 = .ok (.aaload, 1) := by decide +kernel
theorem dX11_dual_67 : decode cX11_dual 67 = .ok (.invokevirtual 160, 3) := by decide +kernel
theorem dX11_dual_70 : decode cX11_dual 70 = .ok (.aload_n 0, 1) := by decide +kernel
theorem dX11_dual_71 : decode cX11_dual 71 = .ok (.getfield 64, 3) := by decide +kernel
theorem dX11_dual_74 : decode cX11_dual 74 = .ok (.iconst 2, 1) := by decide +kernel
theorem dX11_dual_75 : decode cX11_dual 75 = .ok (.aload_n 0, 1) := by decide +kernel
theorem dX11_dual_76 : decode cX11_dual 76 = .ok (.getfield 110, 3) := by decide +kernel
theorem dX11_dual_79 : decode cX11_dual 79 = .ok (.aload_n 0, 1) := by decide +kernel
theorem dX11_dual_80 : decode cX11_dual 80 = .ok (.getfield 26, 3) := by decide +kernel
theorem dX11_dual_83 : decode cX11_dual 83 = .ok (.getfield 139, 3) := by decide +kernel
theorem dX11_dual_86 : decode cX11_dual 86 = .ok (.invokevirtual 172, 3) := by decide +kernel
theorem dX11_dual_89 : decode cX11_dual 89 = .ok (.aload_n 0, 1) := by decide +kernel
theorem dX11_dual_90 : decode cX11_dual 90 = .ok (.getfield 106, 3) := by decide +kernel
theorem dX11_dual_93 : decode cX11_dual 93 = .ok (.aload_n 0, 1) := by decide +kernel
theorem dX11_dual_94 : decode cX11_dual 94 = .ok (.getfield 26, 3) := by decide +kernel
theorem dX11_dual_97 : decode cX11_dual 97 = .ok (.getfield 146, 3) := by decide +kernel
theorem dX11_dual_100 : decode cX11_dual 100 = .ok (.iload_n 1, 1) := by decide +kernel
theorem dX11_dual_101 : decode cX11_dual 101 = .ok (.aaload, 1) := by decide +kernel
theorem dX11_dual_102 : decode cX11_dual 102 = .ok (.invokevirtual 230, 3) := by decide +kernel
theorem dX11_dual_105 : decode cX11_dual 105 = .ok (.ifCond .eq 26, 3) := by decide +kernel
theorem dX11_dual_108 : decode cX11_dual 108 = .ok (.aload_n 0, 1) := by decide +kernel
theorem dX11_dual_109 : decode cX11_dual 109 = .ok (.getfield 110, 3) := by decide +kernel
theorem dX11_dual_112 : decode cX11_dual 112 = .ok (.aload_n 0, 1) := by decide +kernel
theorem dX11_dual_113 : decode cX11_dual 113 = .ok (.getfield 26, 3) := by decide +kernel
theorem dX11_dual_116 : decode cX11_dual 116 = .ok (.getfield 146, 3) := by decide +kernel
theorem dX11_dual_119 : decode cX11_dual 119 = .ok (.iload_n 2, 1) := by decide +kernel
theorem dX11_dual_120 : decode cX11_dual 120 = .ok (.aaload, 1) := by decide +kernel
theorem dX11_dual_121 : decode cX11_dual 121 = .ok (.invokevirtual 230, 3) := by decide +kernel
theorem dX11_dual_124 : decode cX11_dual 124 = .ok (.ifCond .eq 7, 3) := by decide +kernel
theorem dX11_dual_127 : decode cX11_dual 127 = .ok (.iconst 1, 1) := by decide +kernel
theorem dX11_dual_128 : decode cX11_dual 128 = .ok (.goto 4, 3) := by decide +kernel
theorem dX11_dual_131 : decode cX11_dual 131 = .ok (.iconst 0, 1) := by decide +kernel
theorem dX11_dual_132 : decode cX11_dual 132 = .ok (.ireturn, 1) := by decide +kernel
theorem dX11_apart_0 : decode cX11_apart 0 = .ok (.aload_n 0, 1) := by decide +kernel
theorem dX11_apart_1 : decode cX11_apart 1 = .ok (.iload_n 1, 1) := by decide +kernel
theorem dX11_apart_2 : decode cX11_apart 2 = .ok (.invokevirtual 135, 3) := by decide +kernel
theorem dX11_apart_5 : decode cX11_apart 5 = .ok (.ifCond .eq 11, 3) := by decide +kernel
theorem dX11_apart_8 : decode cX11_apart 8 = .ok (.aload_n 0, 1) := by decide +kernel
theorem dX11_apart_9 : decode cX11_apart 9 = .ok (.iload_n 2, 1) := by decide +kernel
theorem dX11_apart_10 : decode cX11_apart 10 = .ok (.invokevirtual 135, 3) := by decide +kernel
theorem dX11_apart_13 : decode cX11_apart 13 = .ok (.ifCond .ne 6, 3) := by decide +kernel
theorem dX11_apart_16 : decode cX11_apart 16 = .ok (.bipush (-2), 2) := by decide +kernel
theorem dX11_apart_18 : decode cX11_apart 18 = .ok (.ireturn, 1) := by decide +kernel
theorem dX11_apart_19 : decode cX11_apart 19 = .ok (.aload_n 0, 1) := by decide +kernel
theorem dX11_apart_20 : decode cX11_apart 20 = .ok (.getfield 64, 3) := by decide +kernel
theorem dX11_apart_23 : decode cX11_apart 23 = .ok (.aload_n 0, 1) := by decide +kernel
theorem dX11_apart_24 : decode cX11_apart 24 = .ok (.getfield 26, 3) := by decide +kernel
theorem dX11_apart_27 : decode cX11_apart 27 = .ok (.getfield 146, 3) := by decide +kernel
theorem dX11_apart_30 : decode cX11_apart 30 = .ok (.iload_n 1, 1) := by decide +kernel
theorem dX11_apart_31 : decode cX11_apart 31 = .ok (.aaload, 1) := by decide +kernel
theorem dX11_apart_32 : decode cX11_apart 32 = .ok (.aload_n 0, 1) := by decide +kernel
theorem dX11_apart_33 : decode cX11_apart 33 = .ok (.getfield 26, 3) := by decide +kernel
theorem dX11_apart_36 : decode cX11_apart 36 = .ok (.getfield 146, 3) := by decide +kernel
theorem dX11_apart_39 : decode cX11_apart 39 = .ok (.iload_n 2, 1) := by decide +kernel
theorem dX11_apart_40 : decode cX11_apart 40 = .ok (.aaload, 1) := by decide +kernel
theorem dX11_apart_41 : decode cX11_apart 41 = .ok (.aload_n 0, 1) := by decide +kernel
theorem dX11_apart_42 : decode cX11_apart 42 = .ok (.getfield 26, 3) := by decide +kernel
theorem dX11_apart_45 : decode cX11_apart 45 = .ok (.getfield 139, 3) := by decide +kernel
theorem dX11_apart_48 : decode cX11_apart 48 = .ok (.invokevirtual 244, 3) := by decide +kernel
theorem dX11_apart_51 : decode cX11_apart 51 = .ok (.ireturn, 1) := by decide +kernel
theorem dX11_packs_0 : decode cX11_packs 0 = .ok (.aload_n 0, 1) := by decide +kernel
theorem dX11_packs_1 : decode cX11_packs 1 = .ok (.iload_n 1, 1) := by decide +kernel
theorem dX11_packs_2 : decode cX11_packs 2 = .ok (.invokevirtual 135, 3) := by decide +kernel
theorem dX11_packs_5 : decode cX11_packs 5 = .ok (.ifCond .eq 12, 3) := by decide +kernel
theorem dX11_packs_8 : decode cX11_packs 8 = .ok (.iload_n 2, 1) := by decide +kernel
theorem dX11_packs_9 : decode cX11_packs 9 = .ok (.ifCond .lt 8, 3) := by decide +kernel
theorem dX11_packs_12 : decode cX11_packs 12 = .ok (.iload_n 2, 1) := by decide +kernel
theorem dX11_packs_13 : decode cX11_packs 13 = .ok (.iconst 1, 1) := by decide +kernel
theorem dX11_packs_14 : decode cX11_packs 14 = .ok (.if_icmp .le 6, 3) := by decide +kernel
theorem dX11_packs_17 : decode cX11_packs 17 = .ok (.bipush (-2), 2) := by decide +kernel
theorem dX11_packs_19 : decode cX11_packs 19 = .ok (.ireturn, 1) := by decide +kernel
theorem dX11_packs_20 : decode cX11_packs 20 = .ok (.aload_n 0, 1) := by decide +kernel
theorem dX11_packs_21 : decode cX11_packs 21 = .ok (.getfield 26, 3) := by decide +kernel
theorem dX11_packs_24 : decode cX11_packs 24 = .ok (.getfield 146, 3) := by decide +kernel
theorem dX11_packs_27 : decode cX11_packs 27 = .ok (.iload_n 1, 1) := by decide +kernel
theorem dX11_packs_28 : decode cX11_packs 28 = .ok (.aaload, 1) := by decide +kernel
theorem dX11_packs_29 : decode cX11_packs 29 = .ok (.astore_n 3, 1) := by decide +kernel
theorem dX11_packs_30 : decode cX11_packs 30 = .ok (.aload_n 3, 1) := by decide +kernel
theorem dX11_packs_31 : decode cX11_packs 31 = .ok (.invokevirtual 150, 3) := by decide +kernel
theorem dX11_packs_34 : decode cX11_packs 34 = .ok (.istore 4, 2) := by decide +kernel
theorem dX11_packs_36 : decode cX11_packs 36 = .ok (.iload 4, 2) := by decide +kernel
theorem dX11_packs_38 : decode cX11_packs 38 = .ok (.ifCond .ne 5, 3) := by decide +kernel
theorem dX11_packs_41 : decode cX11_packs 41 = .ok (.iconst (-1), 1) := by decide +kernel
theorem dX11_packs_42 : decode cX11_packs 42 = .ok (.ireturn, 1) := by decide +kernel
theorem dX11_packs_43 : decode cX11_packs 43 = .ok (.iload 4, 2) := by decide +kernel
theorem dX11_packs_45 : decode cX11_packs 45 = .ok (.bipush 12, 2) := by decide +kernel
theorem dX11_packs_47 : decode cX11_packs 47 = .ok (.if_icmp .le 6, 3) := by decide +kernel
theorem dX11_packs_50 : decode cX11_packs 50 = .ok (.bipush (-3), 2) := by decide +kernel
theorem dX11_packs_52 : decode cX11_packs 52 = .ok (.ireturn, 1) := by decide +kernel
theorem dX11_packs_53 : decode cX11_packs 53 = .ok (.aload_n 0, 1) := by decide +kernel
theorem dX11_packs_54 : decode cX11_packs 54 = .ok (.getfield 99, 3) := by decide +kernel
theorem dX11_packs_57 : decode cX11_packs 57 = .ok (.aload_n 3, 1) := by decide +kernel
theorem dX11_packs_58 : decode cX11_packs 58 = .ok (.invokevirtual 248, 3) := by decide +kernel
theorem dX11_packs_61 : decode cX11_packs 61 = .ok (.iload_n 2, 1) := by decide +kernel
theorem dX11_packs_62 : decode cX11_packs 62 = .ok (.ifCond .ne 13, 3) := by decide +kernel
theorem dX11_packs_65 : decode cX11_packs 65 = .ok (.aload_n 0, 1) := by decide +kernel
theorem dX11_packs_66 : decode cX11_packs 66 = .ok (.getfield 99, 3) := by decide +kernel
theorem dX11_packs_69 : decode cX11_packs 69 = .ok (.invokevirtual 250, 3) := by decide +kernel
theorem dX11_packs_72 : decode cX11_packs 72 = .ok (.goto 10, 3) := by decide +kernel
theorem dX11_packs_75 : decode cX11_packs 75 = .ok (.aload_n 0, 1) := by decide +kernel
theorem dX11_packs_76 : decode cX11_packs 76 = .ok (.getfield 99, 3) := by decide +kernel
theorem dX11_packs_79 : decode cX11_packs 79 = .ok (.invokevirtual 253, 3) := by decide +kernel
theorem dX11_packs_82 : decode cX11_packs 82 = .ok (.ireturn, 1) := by decide +kernel
theorem dX11_nodes_0 : decode cX11_nodes 0 = .ok (.aload_n 0, 1) := by decide +kernel
theorem dX11_nodes_1 : decode cX11_nodes 1 = .ok (.iload_n 1, 1) := by decide +kernel
theorem dX11_nodes_2 : decode cX11_nodes 2 = .ok (.invokevirtual 135, 3) := by decide +kernel
theorem dX11_nodes_5 : decode cX11_nodes 5 = .ok (.ifCond .eq 26, 3) := by decide +kernel
theorem dX11_nodes_8 : decode cX11_nodes 8 = .ok (.aload_n 0, 1) := by decide +kernel
theorem dX11_nodes_9 : decode cX11_nodes 9 = .ok (.getfield 78, 3) := by decide +kernel
theorem dX11_nodes_12 : decode cX11_nodes 12 = .ok (.aload_n 0, 1) := by decide +kernel
theorem dX11_nodes_13 : decode cX11_nodes 13 = .ok (.getfield 26, 3) := by decide +kernel
theorem dX11_nodes_16 : decode cX11_nodes 16 = .ok (.aload_n 0, 1) := by decide +kernel
theorem dX11_nodes_17 : decode cX11_nodes 17 = .ok (.getfield 26, 3) := by decide +kernel
theorem dX11_nodes_20 : decode cX11_nodes 20 = .ok (.getfield 146, 3) := by decide +kernel
theorem dX11_nodes_23 : decode cX11_nodes 23 = .ok (.iload_n 1, 1) := by decide +kernel
theorem dX11_nodes_24 : decode cX11_nodes 24 = .ok (.aaload, 1) := by decide +kernel
theorem dX11_nodes_25 : decode cX11_nodes 25 = .ok (.invokevirtual 256, 3) := by decide +kernel
theorem dX11_nodes_28 : decode cX11_nodes 28 = .ok (.goto 5, 3) := by decide +kernel
theorem dX11_nodes_31 : decode cX11_nodes 31 = .ok (.bipush (-2), 2) := by decide +kernel
theorem dX11_nodes_33 : decode cX11_nodes 33 = .ok (.ireturn, 1) := by decide +kernel
theorem dX11_net_0 : decode cX11_net 0 = .ok (.aload_n 0, 1) := by decide +kernel
theorem dX11_net_1 : decode cX11_net 1 = .ok (.invokevirtual 260, 3) := by decide +kernel
theorem dX11_net_4 : decode cX11_net 4 = .ok (.ifCond .eq 17, 3) := by decide +kernel
theorem dX11_net_7 : decode cX11_net 7 = .ok (.aload_n 0, 1) := by decide +kernel
theorem dX11_net_8 : decode cX11_net 8 = .ok (.getfield 78, 3) := by decide +kernel
theorem dX11_net_11 : decode cX11_net 11 = .ok (.aload_n 0, 1) := by decide +kernel
theorem dX11_net_12 : decode cX11_net 12 = .ok (.getfield 26, 3) := by decide +kernel
theorem dX11_net_15 : decode cX11_net 15 = .ok (.invokevirtual 263, 3) := by decide +kernel
theorem dX11_net_18 : decode cX11_net 18 = .ok (.goto 5, 3) := by decide +kernel
theorem dX11_net_21 : decode cX11_net 21 = .ok (.bipush (-2), 2) := by decide +kernel
theorem dX11_net_23 : decode cX11_net 23 = .ok (.ireturn, 1) := by decide +kernel
theorem dX11_wide_0 : decode cX11_wide 0 = .ok (.aload_n 0, 1) := by decide +kernel
theorem dX11_wide_1 : decode cX11_wide 1 = .ok (.iload_n 1, 1) := by decide +kernel
theorem dX11_wide_2 : decode cX11_wide 2 = .ok (.invokevirtual 135, 3) := by decide +kernel
theorem dX11_wide_5 : decode cX11_wide 5 = .ok (.ifCond .eq 11, 3) := by decide +kernel
theorem dX11_wide_8 : decode cX11_wide 8 = .ok (.aload_n 0, 1) := by decide +kernel
theorem dX11_wide_9 : decode cX11_wide 9 = .ok (.iload_n 2, 1) := by decide +kernel
theorem dX11_wide_10 : decode cX11_wide 10 = .ok (.invokevirtual 183, 3) := by decide +kernel
theorem dX11_wide_13 : decode cX11_wide 13 = .ok (.ifCond .ne 6, 3) := by decide +kernel
theorem dX11_wide_16 : decode cX11_wide 16 = .ok (.bipush (-2), 2) := by decide +kernel
theorem dX11_wide_18 : decode cX11_wide 18 = .ok (.ireturn, 1) := by decide +kernel
theorem dX11_wide_19 : decode cX11_wide 19 = .ok (.aload_n 0, 1) := by decide +kernel
theorem dX11_wide_20 : decode cX11_wide 20 = .ok (.getfield 78, 3) := by decide +kernel
theorem dX11_wide_23 : decode cX11_wide 23 = .ok (.aload_n 0, 1) := by decide +kernel
theorem dX11_wide_24 : decode cX11_wide 24 = .ok (.getfield 26, 3) := by decide +kernel
theorem dX11_wide_27 : decode cX11_wide 27 = .ok (.aload_n 0, 1) := by decide +kernel
theorem dX11_wide_28 : decode cX11_wide 28 = .ok (.getfield 26, 3) := by decide +kernel
theorem dX11_wide_31 : decode cX11_wide 31 = .ok (.getfield 146, 3) := by decide +kernel
theorem dX11_wide_34 : decode cX11_wide 34 = .ok (.iload_n 1, 1) := by decide +kernel
theorem dX11_wide_35 : decode cX11_wide 35 = .ok (.aaload, 1) := by decide +kernel
theorem dX11_wide_36 : decode cX11_wide 36 = .ok (.invokevirtual 256, 3) := by decide +kernel
theorem dX11_wide_39 : decode cX11_wide 39 = .ok (.pop, 1) := by decide +kernel
theorem dX11_wide_40 : decode cX11_wide 40 = .ok (.aload_n 0, 1) := by decide +kernel
theorem dX11_wide_41 : decode cX11_wide 41 = .ok (.getfield 78, 3) := by decide +kernel
theorem dX11_wide_44 : decode cX11_wide 44 = .ok (.iload_n 2, 1) := by decide +kernel
theorem dX11_wide_45 : decode cX11_wide 45 = .ok (.invokevirtual 267, 3) := by decide +kernel
theorem dX11_wide_48 : decode cX11_wide 48 = .ok (.ireturn, 1) := by decide +kernel
theorem dX11_order_0 : decode cX11_order 0 = .ok (.aload_n 0, 1) := by decide +kernel
theorem dX11_order_1 : decode cX11_order 1 = .ok (.iload_n 1, 1) := by decide +kernel
theorem dX11_order_2 : decode cX11_order 2 = .ok (.invokevirtual 183, 3) := by decide +kernel
theorem dX11_order_5 : decode cX11_order 5 = .ok (.ifCond .eq 15, 3) := by decide +kernel
theorem dX11_order_8 : decode cX11_order 8 = .ok (.aload_n 0, 1) := by decide +kernel
theorem dX11_order_9 : decode cX11_order 9 = .ok (.getfield 26, 3) := by decide +kernel
theorem dX11_order_12 : decode cX11_order 12 = .ok (.getfield 270, 3) := by decide +kernel
theorem dX11_order_15 : decode cX11_order 15 = .ok (.iload_n 1, 1) := by decide +kernel
theorem dX11_order_16 : decode cX11_order 16 = .ok (.iaload, 1) := by decide +kernel
theorem dX11_order_17 : decode cX11_order 17 = .ok (.goto 5, 3) := by decide +kernel
theorem dX11_order_20 : decode cX11_order 20 = .ok (.bipush (-2), 2) := by decide +kernel
theorem dX11_order_22 : decode cX11_order 22 = .ok (.ireturn, 1) := by decide +kernel
theorem dX11_swap_0 : decode cX11_swap 0 = .ok (.aload_n 0, 1) := by decide +kernel
theorem dX11_swap_1 : decode cX11_swap 1 = .ok (.iload_n 1, 1) := by decide +kernel
theorem dX11_swap_2 : decode cX11_swap 2 = .ok (.invokevirtual 183, 3) := by decide +kernel
theorem dX11_swap_5 : decode cX11_swap 5 = .ok (.ifCond .eq 16, 3) := by decide +kernel
theorem dX11_swap_8 : decode cX11_swap 8 = .ok (.iload_n 1, 1) := by decide +kernel
theorem dX11_swap_9 : decode cX11_swap 9 = .ok (.aload_n 0, 1) := by decide +kernel
theorem dX11_swap_10 : decode cX11_swap 10 = .ok (.getfield 26, 3) := by decide +kernel
theorem dX11_swap_13 : decode cX11_swap 13 = .ok (.getfield 139, 3) := by decide +kernel
theorem dX11_swap_16 : decode cX11_swap 16 = .ok (.iconst 1, 1) := by decide +kernel
theorem dX11_swap_17 : decode cX11_swap 17 = .ok (.isub, 1) := by decide +kernel
theorem dX11_swap_18 : decode cX11_swap 18 = .ok (.if_icmp .lt 6, 3) := by decide +kernel
theorem dX11_swap_21 : decode cX11_swap 21 = .ok (.bipush (-2), 2) := by decide +kernel
theorem dX11_swap_23 : decode cX11_swap 23 = .ok (.ireturn, 1) := by decide +kernel
theorem dX11_swap_24 : decode cX11_swap 24 = .ok (.aload_n 0, 1) := by decide +kernel
theorem dX11_swap_25 : decode cX11_swap 25 = .ok (.getfield 26, 3) := by decide +kernel
theorem dX11_swap_28 : decode cX11_swap 28 = .ok (.aload_n 0, 1) := by decide +kernel
theorem dX11_swap_29 : decode cX11_swap 29 = .ok (.getfield 26, 3) := by decide +kernel
theorem dX11_swap_32 : decode cX11_swap 32 = .ok (.getfield 270, 3) := by decide +kernel
theorem dX11_swap_35 : decode cX11_swap 35 = .ok (.iload_n 1, 1) := by decide +kernel
theorem dX11_swap_36 : decode cX11_swap 36 = .ok (.iaload, 1) := by decide +kernel
theorem dX11_swap_37 : decode cX11_swap 37 = .ok (.iload_n 1, 1) := by decide +kernel
theorem dX11_swap_38 : decode cX11_swap 38 = .ok (.iconst 1, 1) := by decide +kernel
theorem dX11_swap_39 : decode cX11_swap 39 = .ok (.iadd, 1) := by decide +kernel
theorem dX11_swap_40 : decode cX11_swap 40 = .ok (.invokevirtual 273, 3) := by decide +kernel
theorem dX11_swap_43 : decode cX11_swap 43 = .ok (.pop, 1) := by decide +kernel
theorem dX11_swap_44 : decode cX11_swap 44 = .ok (.aload_n 0, 1) := by decide +kernel
theorem dX11_swap_45 : decode cX11_swap 45 = .ok (.getfield 78, 3) := by decide +kernel
theorem dX11_swap_48 : decode cX11_swap 48 = .ok (.aload_n 0, 1) := by decide +kernel
theorem dX11_swap_49 : decode cX11_swap 49 = .ok (.getfield 26, 3) := by decide +kernel
theorem dX11_swap_52 : decode cX11_swap 52 = .ok (.invokevirtual 263, 3) := by decide +kernel
theorem dX11_swap_55 : decode cX11_swap 55 = .ok (.ireturn, 1) := by decide +kernel
theorem dX11_move_0 : decode cX11_move 0 = .ok (.aload_n 0, 1) := by decide +kernel
theorem dX11_move_1 : decode cX11_move 1 = .ok (.iload_n 1, 1) := by decide +kernel
theorem dX11_move_2 : decode cX11_move 2 = .ok (.invokevirtual 183, 3) := by decide +kernel
theorem dX11_move_5 : decode cX11_move 5 = .ok (.ifCond .eq 11, 3) := by decide +kernel
theorem dX11_move_8 : decode cX11_move 8 = .ok (.aload_n 0, 1) := by decide +kernel
theorem dX11_move_9 : decode cX11_move 9 = .ok (.iload_n 2, 1) := by decide +kernel
theorem dX11_move_10 : decode cX11_move 10 = .ok (.invokevirtual 183, 3) := by decide +kernel
theorem dX11_move_13 : decode cX11_move 13 = .ok (.ifCond .ne 6, 3) := by decide +kernel
theorem dX11_move_16 : decode cX11_move 16 = .ok (.bipush (-2), 2) := by decide +kernel
theorem dX11_move_18 : decode cX11_move 18 = .ok (.ireturn, 1) := by decide +kernel
theorem dX11_move_19 : decode cX11_move 19 = .ok (.aload_n 0, 1) := by decide +kernel
theorem dX11_move_20 : decode cX11_move 20 = .ok (.getfield 26, 3) := by decide +kernel
theorem dX11_move_23 : decode cX11_move 23 = .ok (.iload_n 1, 1) := by decide +kernel
theorem dX11_move_24 : decode cX11_move 24 = .ok (.iload_n 2, 1) := by decide +kernel
theorem dX11_move_25 : decode cX11_move 25 = .ok (.invokevirtual 273, 3) := by decide +kernel
theorem dX11_move_28 : decode cX11_move 28 = .ok (.ireturn, 1) := by decide +kernel
theorem dX11_best_0 : decode cX11_best 0 = .ok (.aload_n 0, 1) := by decide +kernel
theorem dX11_best_1 : decode cX11_best 1 = .ok (.iload_n 1, 1) := by decide +kernel
theorem dX11_best_2 : decode cX11_best 2 = .ok (.invokevirtual 135, 3) := by decide +kernel
theorem dX11_best_5 : decode cX11_best 5 = .ok (.ifCond .eq 13, 3) := by decide +kernel
theorem dX11_best_8 : decode cX11_best 8 = .ok (.iload_n 2, 1) := by decide +kernel
theorem dX11_best_9 : decode cX11_best 9 = .ok (.ifCond .lt 9, 3) := by decide +kernel
theorem dX11_best_12 : decode cX11_best 12 = .ok (.iload_n 2, 1) := by decide +kernel
theorem dX11_best_13 : decode cX11_best 13 = .ok (.bipush 10, 2) := by decide +kernel
theorem dX11_best_15 : decode cX11_best 15 = .ok (.if_icmp .le 6, 3) := by decide +kernel
theorem dX11_best_18 : decode cX11_best 18 = .ok (.bipush (-2), 2) := by decide +kernel
theorem dX11_best_20 : decode cX11_best 20 = .ok (.ireturn, 1) := by decide +kernel
theorem dX11_best_21 : decode cX11_best 21 = .ok (.aload_n 0, 1) := by decide +kernel
theorem dX11_best_22 : decode cX11_best 22 = .ok (.getfield 26, 3) := by decide +kernel
theorem dX11_best_25 : decode cX11_best 25 = .ok (.getfield 139, 3) := by decide +kernel
theorem dX11_best_28 : decode cX11_best 28 = .ok (.bipush 6, 2) := by decide +kernel
theorem dX11_best_30 : decode cX11_best 30 = .ok (.if_icmp .le 6, 3) := by decide +kernel
theorem dX11_best_33 : decode cX11_best 33 = .ok (.bipush (-3), 2) := by decide +kernel
theorem dX11_best_35 : decode cX11_best 35 = .ok (.ireturn, 1) := by decide +kernel
theorem dX11_best_36 : decode cX11_best 36 = .ok (.iload_n 2, 1) := by decide +kernel
theorem dX11_best_37 : decode cX11_best 37 = .ok (.aload_n 0, 1) := by decide +kernel
theorem dX11_best_38 : decode cX11_best 38 = .ok (.getfield 26, 3) := by decide +kernel
theorem dX11_best_41 : decode cX11_best 41 = .ok (.getfield 139, 3) := by decide +kernel
theorem dX11_best_44 : decode cX11_best 44 = .ok (.if_icmp .le 5, 3) := by decide +kernel
theorem dX11_best_47 : decode cX11_best 47 = .ok (.iconst (-1), 1) := by decide +kernel
theorem dX11_best_48 : decode cX11_best 48 = .ok (.ireturn, 1) := by decide +kernel
theorem dX11_best_49 : decode cX11_best 49 = .ok (.aload_n 0, 1) := by decide +kernel
theorem dX11_best_50 : decode cX11_best 50 = .ok (.getfield 85, 3) := by decide +kernel
theorem dX11_best_53 : decode cX11_best 53 = .ok (.aload_n 0, 1) := by decide +kernel
theorem dX11_best_54 : decode cX11_best 54 = .ok (.getfield 26, 3) := by decide +kernel
theorem dX11_best_57 : decode cX11_best 57 = .ok (.getfield 146, 3) := by decide +kernel
theorem dX11_best_60 : decode cX11_best 60 = .ok (.iload_n 1, 1) := by decide +kernel
theorem dX11_best_61 : decode cX11_best 61 = .ok (.aaload, 1) := by decide +kernel
theorem dX11_best_62 : decode cX11_best 62 = .ok (.aload_n 0, 1) := by decide +kernel
theorem dX11_best_63 : decode cX11_best 63 = .ok (.getfield 26, 3) := by decide +kernel
theorem dX11_best_66 : decode cX11_best 66 = .ok (.getfield 139, 3) := by decide +kernel
theorem dX11_best_69 : decode cX11_best 69 = .ok (.invokevirtual 277, 3) := by decide +kernel
theorem dX11_best_72 : decode cX11_best 72 = .ok (.iload_n 2, 1) := by decide +kernel
theorem dX11_best_73 : decode cX11_best 73 = .ok (.ifCond .ne 13, 3) := by decide +kernel
theorem dX11_best_76 : decode cX11_best 76 = .ok (.aload_n 0, 1) := by decide +kernel
theorem dX11_best_77 : decode cX11_best 77 = .ok (.getfield 85, 3) := by decide +kernel
theorem dX11_best_80 : decode cX11_best 80 = .ok (.invokevirtual 281, 3) := by decide +kernel
theorem dX11_best_83 : decode cX11_best 83 = .ok (.goto 13, 3) := by decide +kernel
theorem dX11_best_86 : decode cX11_best 86 = .ok (.aload_n 0, 1) := by decide +kernel
theorem dX11_best_87 : decode cX11_best 87 = .ok (.getfield 85, 3) := by decide +kernel
theorem dX11_best_90 : decode cX11_best 90 = .ok (.iload_n 2, 1) := by decide +kernel
theorem dX11_best_91 : decode cX11_best 91 = .ok (.iconst 1, 1) := by decide +kernel
theorem dX11_best_92 : decode cX11_best 92 = .ok (.isub, 1) := by decide +kernel
theorem dX11_best_93 : decode cX11_best 93 = .ok (.invokevirtual 284, 3) := by decide +kernel
theorem dX11_best_96 : decode cX11_best 96 = .ok (.ireturn, 1) := by decide +kernel
theorem dX11_sift_0 : decode cX11_sift 0 = .ok (.aload_n 0, 1) := by decide +kernel
theorem dX11_sift_1 : decode cX11_sift 1 = .ok (.iload_n 1, 1) := by decide +kernel
theorem dX11_sift_2 : decode cX11_sift 2 = .ok (.invokevirtual 135, 3) := by decide +kernel
theorem dX11_sift_5 : decode cX11_sift 5 = .ok (.ifCond .ne 6, 3) := by decide +kernel
theorem dX11_sift_8 : decode cX11_sift 8 = .ok (.bipush (-2), 2) := by decide +kernel
theorem dX11_sift_10 : decode cX11_sift 10 = .ok (.ireturn, 1) := by decide +kernel
theorem dX11_sift_11 : decode cX11_sift 11 = .ok (.aload_n 0, 1) := by decide +kernel
theorem dX11_sift_12 : decode cX11_sift 12 = .ok (.getfield 85, 3) := by decide +kernel
theorem dX11_sift_15 : decode cX11_sift 15 = .ok (.aload_n 0, 1) := by decide +kernel
theorem dX11_sift_16 : decode cX11_sift 16 = .ok (.getfield 26, 3) := by decide +kernel
theorem dX11_sift_19 : decode cX11_sift 19 = .ok (.aload_n 0, 1) := by decide +kernel
theorem dX11_sift_20 : decode cX11_sift 20 = .ok (.getfield 26, 3) := by decide +kernel
theorem dX11_sift_23 : decode cX11_sift 23 = .ok (.getfield 146, 3) := by decide +kernel
theorem dX11_sift_26 : decode cX11_sift 26 = .ok (.iload_n 1, 1) := by decide +kernel
theorem dX11_sift_27 : decode cX11_sift 27 = .ok (.aaload, 1) := by decide +kernel
theorem dX11_sift_28 : decode cX11_sift 28 = .ok (.aload_n 0, 1) := by decide +kernel
theorem dX11_sift_29 : decode cX11_sift 29 = .ok (.getfield 78, 3) := by decide +kernel
theorem dX11_sift_32 : decode cX11_sift 32 = .ok (.invokevirtual 287, 3) := by decide +kernel
theorem dX11_sift_35 : decode cX11_sift 35 = .ok (.ireturn, 1) := by decide +kernel
theorem dX11_ways_0 : decode cX11_ways 0 = .ok (.aload_n 0, 1) := by decide +kernel
theorem dX11_ways_1 : decode cX11_ways 1 = .ok (.iload_n 1, 1) := by decide +kernel
theorem dX11_ways_2 : decode cX11_ways 2 = .ok (.invokevirtual 135, 3) := by decide +kernel
theorem dX11_ways_5 : decode cX11_ways 5 = .ok (.ifCond .eq 19, 3) := by decide +kernel
theorem dX11_ways_8 : decode cX11_ways 8 = .ok (.aload_n 0, 1) := by decide +kernel
theorem dX11_ways_9 : decode cX11_ways 9 = .ok (.iload_n 2, 1) := by decide +kernel
theorem dX11_ways_10 : decode cX11_ways 10 = .ok (.invokevirtual 291, 3) := by decide +kernel
theorem dX11_ways_13 : decode cX11_ways 13 = .ok (.ifCond .eq 11, 3) := by decide +kernel
theorem dX11_ways_16 : decode cX11_ways 16 = .ok (.aload_n 0, 1) := by decide +kernel
theorem dX11_ways_17 : decode cX11_ways 17 = .ok (.iload_n 3, 1) := by decide +kernel
theorem dX11_ways_18 : decode cX11_ways 18 = .ok (.invokevirtual 291, 3) := by decide +kernel
theorem dX11_ways_21 : decode cX11_ways 21 = .ok (.ifCond .ne 6, 3) := by decide +kernel
theorem dX11_ways_24 : decode cX11_ways 24 = .ok (.bipush (-2), 2) := by decide +kernel
theorem dX11_ways_26 : decode cX11_ways 26 = .ok (.ireturn, 1) := by decide +kernel
theorem dX11_ways_27 : decode cX11_ways 27 = .ok (.aload_n 0, 1) := by decide +kernel
theorem dX11_ways_28 : decode cX11_ways 28 = .ok (.getfield 92, 3) := by decide +kernel
theorem dX11_ways_31 : decode cX11_ways 31 = .ok (.aload_n 0, 1) := by decide +kernel
theorem dX11_ways_32 : decode cX11_ways 32 = .ok (.getfield 26, 3) := by decide +kernel
theorem dX11_ways_35 : decode cX11_ways 35 = .ok (.iload_n 2, 1) := by decide +kernel
theorem dX11_ways_36 : decode cX11_ways 36 = .ok (.iload_n 3, 1) := by decide +kernel
theorem dX11_ways_37 : decode cX11_ways 37 = .ok (.aload_n 0, 1) := by decide +kernel
theorem dX11_ways_38 : decode cX11_ways 38 = .ok (.getfield 106, 3) := by decide +kernel
theorem dX11_ways_41 : decode cX11_ways 41 = .ok (.invokevirtual 294, 3) := by decide +kernel
theorem dX11_ways_44 : decode cX11_ways 44 = .ok (.aload_n 0, 1) := by decide +kernel
theorem dX11_ways_45 : decode cX11_ways 45 = .ok (.iload_n 1, 1) := by decide +kernel
theorem dX11_ways_46 : decode cX11_ways 46 = .ok (.invokevirtual 168, 3) := by decide +kernel
theorem dX11_ways_49 : decode cX11_ways 49 = .ok (.ireturn, 1) := by decide +kernel
theorem dX11_map_0 : decode cX11_map 0 = .ok (.aload_n 0, 1) := by decide +kernel
theorem dX11_map_1 : decode cX11_map 1 = .ok (.iload_n 1, 1) := by decide +kernel
theorem dX11_map_2 : decode cX11_map 2 = .ok (.invokevirtual 135, 3) := by decide +kernel
theorem dX11_map_5 : decode cX11_map 5 = .ok (.ifCond .eq 12, 3) := by decide +kernel
theorem dX11_map_8 : decode cX11_map 8 = .ok (.iload_n 2, 1) := by decide +kernel
theorem dX11_map_9 : decode cX11_map 9 = .ok (.ifCond .lt 8, 3) := by decide +kernel
theorem dX11_map_12 : decode cX11_map 12 = .ok (.iload_n 2, 1) := by decide +kernel
theorem dX11_map_13 : decode cX11_map 13 = .ok (.iconst 2, 1) := by decide +kernel
theorem dX11_map_14 : decode cX11_map 14 = .ok (.if_icmp .le 6, 3) := by decide +kernel
theorem dX11_map_17 : decode cX11_map 17 = .ok (.bipush (-2), 2) := by decide +kernel
theorem dX11_map_19 : decode cX11_map 19 = .ok (.ireturn, 1) := by decide +kernel
theorem dX11_map_20 : decode cX11_map 20 = .ok (.aload_n 0, 1) := by decide +kernel
theorem dX11_map_21 : decode cX11_map 21 = .ok (.getfield 92, 3) := by decide +kernel
theorem dX11_map_24 : decode cX11_map 24 = .ok (.aload_n 0, 1) := by decide +kernel
theorem dX11_map_25 : decode cX11_map 25 = .ok (.getfield 26, 3) := by decide +kernel
theorem dX11_map_28 : decode cX11_map 28 = .ok (.iload_n 2, 1) := by decide +kernel
theorem dX11_map_29 : decode cX11_map 29 = .ok (.aload_n 0, 1) := by decide +kernel
theorem dX11_map_30 : decode cX11_map 30 = .ok (.getfield 106, 3) := by decide +kernel
theorem dX11_map_33 : decode cX11_map 33 = .ok (.invokevirtual 298, 3) := by decide +kernel
theorem dX11_map_36 : decode cX11_map 36 = .ok (.aload_n 0, 1) := by decide +kernel
theorem dX11_map_37 : decode cX11_map 37 = .ok (.iload_n 1, 1) := by decide +kernel
theorem dX11_map_38 : decode cX11_map 38 = .ok (.invokevirtual 168, 3) := by decide +kernel
theorem dX11_map_41 : decode cX11_map 41 = .ok (.ireturn, 1) := by decide +kernel
theorem dX11_cuts_0 : decode cX11_cuts 0 = .ok (.aload_n 0, 1) := by decide +kernel
theorem dX11_cuts_1 : decode cX11_cuts 1 = .ok (.iload_n 1, 1) := by decide +kernel
theorem dX11_cuts_2 : decode cX11_cuts 2 = .ok (.invokevirtual 135, 3) := by decide +kernel
theorem dX11_cuts_5 : decode cX11_cuts 5 = .ok (.ifCond .eq 19, 3) := by decide +kernel
theorem dX11_cuts_8 : decode cX11_cuts 8 = .ok (.aload_n 0, 1) := by decide +kernel
theorem dX11_cuts_9 : decode cX11_cuts 9 = .ok (.iload_n 2, 1) := by decide +kernel
theorem dX11_cuts_10 : decode cX11_cuts 10 = .ok (.invokevirtual 291, 3) := by decide +kernel
theorem dX11_cuts_13 : decode cX11_cuts 13 = .ok (.ifCond .eq 11, 3) := by decide +kernel
theorem dX11_cuts_16 : decode cX11_cuts 16 = .ok (.aload_n 0, 1) := by decide +kernel
theorem dX11_cuts_17 : decode cX11_cuts 17 = .ok (.iload_n 3, 1) := by decide +kernel
theorem dX11_cuts_18 : decode cX11_cuts 18 = .ok (.invokevirtual 291, 3) := by decide +kernel
theorem dX11_cuts_21 : decode cX11_cuts 21 = .ok (.ifCond .ne 6, 3) := by decide +kernel
theorem dX11_cuts_24 : decode cX11_cuts 24 = .ok (.bipush (-2), 2) := by decide +kernel
theorem dX11_cuts_26 : decode cX11_cuts 26 = .ok (.ireturn, 1) := by decide +kernel
theorem dX11_cuts_27 : decode cX11_cuts 27 = .ok (.aload_n 0, 1) := by decide +kernel
theorem dX11_cuts_28 : decode cX11_cuts 28 = .ok (.getfield 92, 3) := by decide +kernel
theorem dX11_cuts_31 : decode cX11_cuts 31 = .ok (.aload_n 0, 1) := by decide +kernel
theorem dX11_cuts_32 : decode cX11_cuts 32 = .ok (.getfield 26, 3) := by decide +kernel
theorem dX11_cuts_35 : decode cX11_cuts 35 = .ok (.iload_n 2, 1) := by decide +kernel
theorem dX11_cuts_36 : decode cX11_cuts 36 = .ok (.iload_n 3, 1) := by decide +kernel
theorem dX11_cuts_37 : decode cX11_cuts 37 = .ok (.aload_n 0, 1) := by decide +kernel
theorem dX11_cuts_38 : decode cX11_cuts 38 = .ok (.getfield 106, 3) := by decide +kernel
theorem dX11_cuts_41 : decode cX11_cuts 41 = .ok (.invokevirtual 294, 3) := by decide +kernel
theorem dX11_cuts_44 : decode cX11_cuts 44 = .ok (.aload_n 0, 1) := by decide +kernel
theorem dX11_cuts_45 : decode cX11_cuts 45 = .ok (.getfield 64, 3) := by decide +kernel
theorem dX11_cuts_48 : decode cX11_cuts 48 = .ok (.iconst 2, 1) := by decide +kernel
theorem dX11_cuts_49 : decode cX11_cuts 49 = .ok (.aload_n 0, 1) := by decide +kernel
theorem dX11_cuts_50 : decode cX11_cuts 50 = .ok (.getfield 106, 3) := by decide +kernel
theorem dX11_cuts_53 : decode cX11_cuts 53 = .ok (.aload_n 0, 1) := by decide +kernel
theorem dX11_cuts_54 : decode cX11_cuts 54 = .ok (.getfield 26, 3) := by decide +kernel
theorem dX11_cuts_57 : decode cX11_cuts 57 = .ok (.getfield 139, 3) := by decide +kernel
theorem dX11_cuts_60 : decode cX11_cuts 60 = .ok (.invokevirtual 172, 3) := by decide +kernel
theorem dX11_cuts_63 : decode cX11_cuts 63 = .ok (.aload_n 0, 1) := by decide +kernel
theorem dX11_cuts_64 : decode cX11_cuts 64 = .ok (.iload_n 1, 1) := by decide +kernel
theorem dX11_cuts_65 : decode cX11_cuts 65 = .ok (.invokevirtual 168, 3) := by decide +kernel
theorem dX11_cuts_68 : decode cX11_cuts 68 = .ok (.ireturn, 1) := by decide +kernel
theorem dX11_judge_0 : decode cX11_judge 0 = .ok (.aload_n 0, 1) := by decide +kernel
theorem dX11_judge_1 : decode cX11_judge 1 = .ok (.iload_n 1, 1) := by decide +kernel
theorem dX11_judge_2 : decode cX11_judge 2 = .ok (.invokevirtual 302, 3) := by decide +kernel
theorem dX11_judge_5 : decode cX11_judge 5 = .ok (.ifCond .eq 11, 3) := by decide +kernel
theorem dX11_judge_8 : decode cX11_judge 8 = .ok (.aload_n 0, 1) := by decide +kernel
theorem dX11_judge_9 : decode cX11_judge 9 = .ok (.iload_n 2, 1) := by decide +kernel
theorem dX11_judge_10 : decode cX11_judge 10 = .ok (.invokevirtual 135, 3) := by decide +kernel
theorem dX11_judge_13 : decode cX11_judge 13 = .ok (.ifCond .ne 6, 3) := by decide +kernel
theorem dX11_judge_16 : decode cX11_judge 16 = .ok (.bipush (-2), 2) := by decide +kernel
theorem dX11_judge_18 : decode cX11_judge 18 = .ok (.ireturn, 1) := by decide +kernel
theorem dX11_judge_19 : decode cX11_judge 19 = .ok (.aload_n 0, 1) := by decide +kernel
theorem dX11_judge_20 : decode cX11_judge 20 = .ok (.getfield 43, 3) := by decide +kernel
theorem dX11_judge_23 : decode cX11_judge 23 = .ok (.iload_n 1, 1) := by decide +kernel
theorem dX11_judge_24 : decode cX11_judge 24 = .ok (.aaload, 1) := by decide +kernel
theorem dX11_judge_25 : decode cX11_judge 25 = .ok (.astore_n 3, 1) := by decide +kernel
theorem dX11_judge_26 : decode cX11_judge 26 = .ok (.aload_n 3, 1) := by decide +kernel
theorem dX11_judge_27 : decode cX11_judge 27 = .ok (.invokevirtual 305, 3) := by decide +kernel
theorem dX11_judge_30 : decode cX11_judge 30 = .ok (.ifCond .eq 6, 3) := by decide +kernel
theorem dX11_judge_33 : decode cX11_judge 33 = .ok (.bipush (-6), 2) := by decide +kernel
theorem dX11_judge_35 : decode cX11_judge 35 = .ok (.ireturn, 1) := by decide +kernel
theorem dX11_judge_36 : decode cX11_judge 36 = .ok (.aload_n 0, 1) := by decide +kernel
theorem dX11_judge_37 : decode cX11_judge 37 = .ok (.getfield 26, 3) := by decide +kernel
theorem dX11_judge_40 : decode cX11_judge 40 = .ok (.getfield 146, 3) := by decide +kernel
theorem dX11_judge_43 : decode cX11_judge 43 = .ok (.iload_n 2, 1) := by decide +kernel
theorem dX11_judge_44 : decode cX11_judge 44 = .ok (.aaload, 1) := by decide +kernel
theorem dX11_judge_45 : decode cX11_judge 45 = .ok (.astore 4, 2) := by decide +kernel
theorem dX11_judge_47 : decode cX11_judge 47 = .ok (.iconst 0, 1) := by decide +kernel
theorem dX11_judge_48 : decode cX11_judge 48 = .ok (.istore 5, 2) := by decide +kernel
theorem dX11_judge_50 : decode cX11_judge 50 = .ok (.iconst 0, 1) := by decide +kernel
theorem dX11_judge_51 : decode cX11_judge 51 = .ok (.istore 6, 2) := by decide +kernel
theorem dX11_judge_53 : decode cX11_judge 53 = .ok (.iload 6, 2) := by decide +kernel
theorem dX11_judge_55 : decode cX11_judge 55 = .ok (.aload_n 3, 1) := by decide +kernel
theorem dX11_judge_56 : decode cX11_judge 56 = .ok (.getfield 308, 3) := by decide +kernel
theorem dX11_judge_59 : decode cX11_judge 59 = .ok (.if_icmp .ge 46, 3) := by decide +kernel
theorem dX11_judge_62 : decode cX11_judge 62 = .ok (.aload 4, 2) := by decide +kernel
theorem dX11_judge_64 : decode cX11_judge 64 = .ok (.iload 5, 2) := by decide +kernel
theorem dX11_judge_66 : decode cX11_judge 66 = .ok (.invokevirtual 311, 3) := by decide +kernel
theorem dX11_judge_69 : decode cX11_judge 69 = .ok (.istore 7, 2) := by decide +kernel
theorem dX11_judge_71 : decode cX11_judge 71 = .ok (.iload 7, 2) := by decide +kernel
theorem dX11_judge_73 : decode cX11_judge 73 = .ok (.ifCond .lt 17, 3) := by decide +kernel
theorem dX11_judge_76 : decode cX11_judge 76 = .ok (.aload_n 3, 1) := by decide +kernel
theorem dX11_judge_77 : decode cX11_judge 77 = .ok (.getfield 314, 3) := by decide +kernel
theorem dX11_judge_80 : decode cX11_judge 80 = .ok (.iload 6, 2) := by decide +kernel
theorem dX11_judge_82 : decode cX11_judge 82 = .ok (.laload, 1) := by decide +kernel
theorem dX11_judge_83 : decode cX11_judge 83 = .ok (.iload 7, 2) := by decide +kernel
theorem dX11_judge_85 : decode cX11_judge 85 = .ok (.i2l, 1) := by decide +kernel
theorem dX11_judge_86 : decode cX11_judge 86 = .ok (.lcmp, 1) := by decide +kernel
theorem dX11_judge_87 : decode cX11_judge 87 = .ok (.ifCond .eq 6, 3) := by decide +kernel
theorem dX11_judge_90 : decode cX11_judge 90 = .ok (.iload 6, 2) := by decide +kernel
theorem dX11_judge_92 : decode cX11_judge 92 = .ok (.ireturn, 1) := by decide +kernel
theorem dX11_judge_93 : decode cX11_judge 93 = .ok (.iload 7, 2) := by decide +kernel
theorem dX11_judge_95 : decode cX11_judge 95 = .ok (.iconst 1, 1) := by decide +kernel
theorem dX11_judge_96 : decode cX11_judge 96 = .ok (.iadd, 1) := by decide +kernel
theorem dX11_judge_97 : decode cX11_judge 97 = .ok (.istore 5, 2) := by decide +kernel
theorem dX11_judge_99 : decode cX11_judge 99 = .ok (.iinc 6 1, 3) := by decide +kernel
theorem dX11_judge_102 : decode cX11_judge 102 = .ok (.goto (-49), 3) := by decide +kernel
theorem dX11_judge_105 : decode cX11_judge 105 = .ok (.aload 4, 2) := by decide +kernel
theorem dX11_judge_107 : decode cX11_judge 107 = .ok (.iload 5, 2) := by decide +kernel
theorem dX11_judge_109 : decode cX11_judge 109 = .ok (.invokevirtual 311, 3) := by decide +kernel
theorem dX11_judge_112 : decode cX11_judge 112 = .ok (.ifCond .lt 7, 3) := by decide +kernel
theorem dX11_judge_115 : decode cX11_judge 115 = .ok (.iconst (-1), 1) := by decide +kernel
theorem dX11_judge_116 : decode cX11_judge 116 = .ok (.goto 7, 3) := by decide +kernel
theorem dX11_judge_119 : decode cX11_judge 119 = .ok (.aload_n 3, 1) := by decide +kernel
theorem dX11_judge_120 : decode cX11_judge 120 = .ok (.getfield 308, 3) := by decide +kernel
theorem dX11_judge_123 : decode cX11_judge 123 = .ok (.ireturn, 1) := by decide +kernel
theorem dX11_takes_0 : decode cX11_takes 0 = .ok (.aload_n 0, 1) := by decide +kernel
theorem dX11_takes_1 : decode cX11_takes 1 = .ok (.iload_n 1, 1) := by decide +kernel
theorem dX11_takes_2 : decode cX11_takes 2 = .ok (.invokevirtual 135, 3) := by decide +kernel
theorem dX11_takes_5 : decode cX11_takes 5 = .ok (.ifCond .eq 11, 3) := by decide +kernel
theorem dX11_takes_8 : decode cX11_takes 8 = .ok (.aload_n 0, 1) := by decide +kernel
theorem dX11_takes_9 : decode cX11_takes 9 = .ok (.iload_n 2, 1) := by decide +kernel
theorem dX11_takes_10 : decode cX11_takes 10 = .ok (.invokevirtual 302, 3) := by decide +kernel
theorem dX11_takes_13 : decode cX11_takes 13 = .ok (.ifCond .ne 6, 3) := by decide +kernel
theorem dX11_takes_16 : decode cX11_takes 16 = .ok (.bipush (-2), 2) := by decide +kernel
theorem dX11_takes_18 : decode cX11_takes 18 = .ok (.ireturn, 1) := by decide +kernel
theorem dX11_takes_19 : decode cX11_takes 19 = .ok (.aload_n 0, 1) := by decide +kernel
theorem dX11_takes_20 : decode cX11_takes 20 = .ok (.getfield 43, 3) := by decide +kernel
theorem dX11_takes_23 : decode cX11_takes 23 = .ok (.iload_n 2, 1) := by decide +kernel
theorem dX11_takes_24 : decode cX11_takes 24 = .ok (.aaload, 1) := by decide +kernel
theorem dX11_takes_25 : decode cX11_takes 25 = .ok (.astore_n 3, 1) := by decide +kernel
theorem dX11_takes_26 : decode cX11_takes 26 = .ok (.aload_n 3, 1) := by decide +kernel
theorem dX11_takes_27 : decode cX11_takes 27 = .ok (.invokevirtual 305, 3) := by decide +kernel
theorem dX11_takes_30 : decode cX11_takes 30 = .ok (.ifCond .eq 6, 3) := by decide +kernel
theorem dX11_takes_33 : decode cX11_takes 33 = .ok (.bipush (-6), 2) := by decide +kernel
theorem dX11_takes_35 : decode cX11_takes 35 = .ok (.ireturn, 1) := by decide +kernel
theorem dX11_takes_36 : decode cX11_takes 36 = .ok (.aload_n 0, 1) := by decide +kernel
theorem dX11_takes_37 : decode cX11_takes 37 = .ok (.getfield 106, 3) := by decide +kernel
theorem dX11_takes_40 : decode cX11_takes 40 = .ok (.invokevirtual 192, 3) := by decide +kernel
theorem dX11_takes_43 : decode cX11_takes 43 = .ok (.iconst 0, 1) := by decide +kernel
theorem dX11_takes_44 : decode cX11_takes 44 = .ok (.istore 4, 2) := by decide +kernel
theorem dX11_takes_46 : decode cX11_takes 46 = .ok (.iload 4, 2) := by decide +kernel
theorem dX11_takes_48 : decode cX11_takes 48 = .ok (.aload_n 3, 1) := by decide +kernel
theorem dX11_takes_49 : decode cX11_takes 49 = .ok (.getfield 308, 3) := by decide +kernel
theorem dX11_takes_52 : decode cX11_takes 52 = .ok (.if_icmp .ge 53, 3) := by decide +kernel
theorem dX11_takes_55 : decode cX11_takes 55 = .ok (.aload_n 3, 1) := by decide +kernel
theorem dX11_takes_56 : decode cX11_takes 56 = .ok (.getfield 314, 3) := by decide +kernel
theorem dX11_takes_59 : decode cX11_takes 59 = .ok (.iload 4, 2) := by decide +kernel
theorem dX11_takes_61 : decode cX11_takes 61 = .ok (.laload, 1) := by decide +kernel
theorem dX11_takes_62 : decode cX11_takes 62 = .ok (.lstore 5, 2) := by decide +kernel
theorem dX11_takes_64 : decode cX11_takes 64 = .ok (.lload 5, 2) := by decide +kernel
theorem dX11_takes_66 : decode cX11_takes 66 = .ok (.lconst 0, 1) := by decide +kernel
theorem dX11_takes_67 : decode cX11_takes 67 = .ok (.lcmp, 1) := by decide +kernel
theorem dX11_takes_68 : decode cX11_takes 68 = .ok (.ifCond .lt 18, 3) := by decide +kernel
theorem dX11_takes_71 : decode cX11_takes 71 = .ok (.lload 5, 2) := by decide +kernel
theorem dX11_takes_73 : decode cX11_takes 73 = .ok (.lconst 1, 1) := by decide +kernel
theorem dX11_takes_74 : decode cX11_takes 74 = .ok (.aload_n 0, 1) := by decide +kernel
theorem dX11_takes_75 : decode cX11_takes 75 = .ok (.getfield 26, 3) := by decide +kernel
theorem dX11_takes_78 : decode cX11_takes 78 = .ok (.getfield 139, 3) := by decide +kernel
theorem dX11_takes_81 : decode cX11_takes 81 = .ok (.lshl, 1) := by decide +kernel
theorem dX11_takes_82 : decode cX11_takes 82 = .ok (.lcmp, 1) := by decide +kernel
theorem dX11_takes_83 : decode cX11_takes 83 = .ok (.ifCond .lt 6, 3) := by decide +kernel
theorem dX11_takes_86 : decode cX11_takes 86 = .ok (.bipush (-2), 2) := by decide +kernel
theorem dX11_takes_88 : decode cX11_takes 88 = .ok (.ireturn, 1) := by decide +kernel
theorem dX11_takes_89 : decode cX11_takes 89 = .ok (.aload_n 0, 1) := by decide +kernel
theorem dX11_takes_90 : decode cX11_takes 90 = .ok (.getfield 106, 3) := by decide +kernel
theorem dX11_takes_93 : decode cX11_takes 93 = .ok (.lload 5, 2) := by decide +kernel
theorem dX11_takes_95 : decode cX11_takes 95 = .ok (.l2i, 1) := by decide +kernel
theorem dX11_takes_96 : decode cX11_takes 96 = .ok (.invokevirtual 176, 3) := by decide +kernel
theorem dX11_takes_99 : decode cX11_takes 99 = .ok (.iinc 4 1, 3) := by decide +kernel
theorem dX11_takes_102 : decode cX11_takes 102 = .ok (.goto (-56), 3) := by decide +kernel
theorem dX11_takes_105 : decode cX11_takes 105 = .ok (.aload_n 0, 1) := by decide +kernel
theorem dX11_takes_106 : decode cX11_takes 106 = .ok (.iload_n 1, 1) := by decide +kernel
theorem dX11_takes_107 : decode cX11_takes 107 = .ok (.invokevirtual 168, 3) := by decide +kernel
theorem dX11_takes_110 : decode cX11_takes 110 = .ok (.ireturn, 1) := by decide +kernel
theorem dX11_count_0 : decode cX11_count 0 = .ok (.iload_n 1, 1) := by decide +kernel
theorem dX11_count_1 : decode cX11_count 1 = .ok (.tableswitch 104 0 6 #[43, 51, 59, 67, 72, 80, 99], 43) := by decide +kernel
theorem dX11_count_44 : decode cX11_count 44 = .ok (.aload_n 0, 1) := by decide +kernel
theorem dX11_count_45 : decode cX11_count 45 = .ok (.getfield 26, 3) := by decide +kernel
theorem dX11_count_48 : decode cX11_count 48 = .ok (.getfield 139, 3) := by decide +kernel
theorem dX11_count_51 : decode cX11_count 51 = .ok (.ireturn, 1) := by decide +kernel
theorem dX11_count_52 : decode cX11_count 52 = .ok (.aload_n 0, 1) := by decide +kernel
theorem dX11_count_53 : decode cX11_count 53 = .ok (.getfield 26, 3) := by decide +kernel
theorem dX11_count_56 : decode cX11_count 56 = .ok (.getfield 132, 3) := by decide +kernel
theorem dX11_count_59 : decode cX11_count 59 = .ok (.ireturn, 1) := by decide +kernel
theorem dX11_count_60 : decode cX11_count 60 = .ok (.aload_n 0, 1) := by decide +kernel
theorem dX11_count_61 : decode cX11_count 61 = .ok (.getfield 26, 3) := by decide +kernel
theorem dX11_count_64 : decode cX11_count 64 = .ok (.getfield 318, 3) := by decide +kernel
theorem dX11_count_67 : decode cX11_count 67 = .ok (.ireturn, 1) := by decide +kernel
theorem dX11_count_68 : decode cX11_count 68 = .ok (.aload_n 0, 1) := by decide +kernel
theorem dX11_count_69 : decode cX11_count 69 = .ok (.getfield 13, 3) := by decide +kernel
theorem dX11_count_72 : decode cX11_count 72 = .ok (.ireturn, 1) := by decide +kernel
theorem dX11_count_73 : decode cX11_count 73 = .ok (.aload_n 0, 1) := by decide +kernel
theorem dX11_count_74 : decode cX11_count 74 = .ok (.getfield 26, 3) := by decide +kernel
theorem dX11_count_77 : decode cX11_count 77 = .ok (.invokevirtual 321, 3) := by decide +kernel
theorem dX11_count_80 : decode cX11_count 80 = .ok (.ireturn, 1) := by decide +kernel
theorem dX11_count_81 : decode cX11_count 81 = .ok (.aload_n 0, 1) := by decide +kernel
theorem dX11_count_82 : decode cX11_count 82 = .ok (.invokevirtual 260, 3) := by decide +kernel
theorem dX11_count_85 : decode cX11_count 85 = .ok (.ifCond .eq 13, 3) := by decide +kernel
theorem dX11_count_88 : decode cX11_count 88 = .ok (.aload_n 0, 1) := by decide +kernel
theorem dX11_count_89 : decode cX11_count 89 = .ok (.getfield 26, 3) := by decide +kernel
theorem dX11_count_92 : decode cX11_count 92 = .ok (.invokevirtual 324, 3) := by decide +kernel
theorem dX11_count_95 : decode cX11_count 95 = .ok (.goto 4, 3) := by decide +kernel
theorem dX11_count_98 : decode cX11_count 98 = .ok (.iconst 0, 1) := by decide +kernel
theorem dX11_count_99 : decode cX11_count 99 = .ok (.ireturn, 1) := by decide +kernel
theorem dX11_count_100 : decode cX11_count 100 = .ok (.aload_n 0, 1) := by decide +kernel
theorem dX11_count_101 : decode cX11_count 101 = .ok (.invokevirtual 327, 3) := by decide +kernel
theorem dX11_count_104 : decode cX11_count 104 = .ok (.ireturn, 1) := by decide +kernel
theorem dX11_count_105 : decode cX11_count 105 = .ok (.iconst (-1), 1) := by decide +kernel
theorem dX11_count_106 : decode cX11_count 106 = .ok (.ireturn, 1) := by decide +kernel
theorem dX11_keep_0 : decode cX11_keep 0 = .ok (.iload_n 1, 1) := by decide +kernel
theorem dX11_keep_1 : decode cX11_keep 1 = .ok (.ifCond .lt 8, 3) := by decide +kernel
theorem dX11_keep_4 : decode cX11_keep 4 = .ok (.iload_n 1, 1) := by decide +kernel
theorem dX11_keep_5 : decode cX11_keep 5 = .ok (.iconst 3, 1) := by decide +kernel
theorem dX11_keep_6 : decode cX11_keep 6 = .ok (.if_icmp .lt 6, 3) := by decide +kernel
theorem dX11_keep_9 : decode cX11_keep 9 = .ok (.bipush (-2), 2) := by decide +kernel
theorem dX11_keep_11 : decode cX11_keep 11 = .ok (.ireturn, 1) := by decide +kernel
theorem dX11_keep_12 : decode cX11_keep 12 = .ok (.aload_n 0, 1) := by decide +kernel
theorem dX11_keep_13 : decode cX11_keep 13 = .ok (.getfield 33, 3) := by decide +kernel
theorem dX11_keep_16 : decode cX11_keep 16 = .ok (.iload_n 1, 1) := by decide +kernel
theorem dX11_keep_17 : decode cX11_keep 17 = .ok (.aaload, 1) := by decide +kernel
theorem dX11_keep_18 : decode cX11_keep 18 = .ok (.aload_n 0, 1) := by decide +kernel
theorem dX11_keep_19 : decode cX11_keep 19 = .ok (.getfield 26, 3) := by decide +kernel
theorem dX11_keep_22 : decode cX11_keep 22 = .ok (.invokevirtual 330, 3) := by decide +kernel
theorem dX11_keep_25 : decode cX11_keep 25 = .ok (.aload_n 0, 1) := by decide +kernel
theorem dX11_keep_26 : decode cX11_keep 26 = .ok (.getfield 37, 3) := by decide +kernel
theorem dX11_keep_29 : decode cX11_keep 29 = .ok (.iload_n 1, 1) := by decide +kernel
theorem dX11_keep_30 : decode cX11_keep 30 = .ok (.iconst 1, 1) := by decide +kernel
theorem dX11_keep_31 : decode cX11_keep 31 = .ok (.bastore, 1) := by decide +kernel
theorem dX11_keep_32 : decode cX11_keep 32 = .ok (.iconst 0, 1) := by decide +kernel
theorem dX11_keep_33 : decode cX11_keep 33 = .ok (.ireturn, 1) := by decide +kernel
theorem dX11_back_0 : decode cX11_back 0 = .ok (.iload_n 1, 1) := by decide +kernel
theorem dX11_back_1 : decode cX11_back 1 = .ok (.ifCond .lt 8, 3) := by decide +kernel
theorem dX11_back_4 : decode cX11_back 4 = .ok (.iload_n 1, 1) := by decide +kernel
theorem dX11_back_5 : decode cX11_back 5 = .ok (.iconst 3, 1) := by decide +kernel
theorem dX11_back_6 : decode cX11_back 6 = .ok (.if_icmp .lt 6, 3) := by decide +kernel
theorem dX11_back_9 : decode cX11_back 9 = .ok (.bipush (-2), 2) := by decide +kernel
theorem dX11_back_11 : decode cX11_back 11 = .ok (.ireturn, 1) := by decide +kernel
theorem dX11_back_12 : decode cX11_back 12 = .ok (.aload_n 0, 1) := by decide +kernel
theorem dX11_back_13 : decode cX11_back 13 = .ok (.getfield 37, 3) := by decide +kernel
theorem dX11_back_16 : decode cX11_back 16 = .ok (.iload_n 1, 1) := by decide +kernel
theorem dX11_back_17 : decode cX11_back 17 = .ok (.baload, 1) := by decide +kernel
theorem dX11_back_18 : decode cX11_back 18 = .ok (.ifCond .ne 6, 3) := by decide +kernel
theorem dX11_back_21 : decode cX11_back 21 = .ok (.bipush (-6), 2) := by decide +kernel
theorem dX11_back_23 : decode cX11_back 23 = .ok (.ireturn, 1) := by decide +kernel
theorem dX11_back_24 : decode cX11_back 24 = .ok (.aload_n 0, 1) := by decide +kernel
theorem dX11_back_25 : decode cX11_back 25 = .ok (.getfield 26, 3) := by decide +kernel
theorem dX11_back_28 : decode cX11_back 28 = .ok (.aload_n 0, 1) := by decide +kernel
theorem dX11_back_29 : decode cX11_back 29 = .ok (.getfield 33, 3) := by decide +kernel
theorem dX11_back_32 : decode cX11_back 32 = .ok (.iload_n 1, 1) := by decide +kernel
theorem dX11_back_33 : decode cX11_back 33 = .ok (.aaload, 1) := by decide +kernel
theorem dX11_back_34 : decode cX11_back 34 = .ok (.invokevirtual 330, 3) := by decide +kernel
theorem dX11_back_37 : decode cX11_back 37 = .ok (.iconst 0, 1) := by decide +kernel
theorem dX11_back_38 : decode cX11_back 38 = .ok (.ireturn, 1) := by decide +kernel
theorem dX11_row_0 : decode cX11_row 0 = .ok (.aload_n 0, 1) := by decide +kernel
theorem dX11_row_1 : decode cX11_row 1 = .ok (.iload_n 1, 1) := by decide +kernel
theorem dX11_row_2 : decode cX11_row 2 = .ok (.invokevirtual 302, 3) := by decide +kernel
theorem dX11_row_5 : decode cX11_row 5 = .ok (.ifCond .eq 18, 3) := by decide +kernel
theorem dX11_row_8 : decode cX11_row 8 = .ok (.iload_n 2, 1) := by decide +kernel
theorem dX11_row_9 : decode cX11_row 9 = .ok (.ifCond .lt 14, 3) := by decide +kernel
theorem dX11_row_12 : decode cX11_row 12 = .ok (.iload_n 2, 1) := by decide +kernel
theorem dX11_row_13 : decode cX11_row 13 = .ok (.iconst 4, 1) := by decide +kernel
theorem dX11_row_14 : decode cX11_row 14 = .ok (.if_icmp .ge 9, 3) := by decide +kernel
theorem dX11_row_17 : decode cX11_row 17 = .ok (.iload_n 3, 1) := by decide +kernel
theorem dX11_row_18 : decode cX11_row 18 = .ok (.bipush 60, 2) := by decide +kernel
theorem dX11_row_20 : decode cX11_row 20 = .ok (.if_icmp .le 6, 3) := by decide +kernel
theorem dX11_row_23 : decode cX11_row 23 = .ok (.bipush (-2), 2) := by decide +kernel
theorem dX11_row_25 : decode cX11_row 25 = .ok (.ireturn, 1) := by decide +kernel
theorem dX11_row_26 : decode cX11_row 26 = .ok (.iload_n 3, 1) := by decide +kernel
theorem dX11_row_27 : decode cX11_row 27 = .ok (.ifCond .ge 6, 3) := by decide +kernel
theorem dX11_row_30 : decode cX11_row 30 = .ok (.bipush (-3), 2) := by decide +kernel
theorem dX11_row_32 : decode cX11_row 32 = .ok (.ireturn, 1) := by decide +kernel
theorem dX11_row_33 : decode cX11_row 33 = .ok (.aload_n 0, 1) := by decide +kernel
theorem dX11_row_34 : decode cX11_row 34 = .ok (.getfield 43, 3) := by decide +kernel
theorem dX11_row_37 : decode cX11_row 37 = .ok (.iload_n 1, 1) := by decide +kernel
theorem dX11_row_38 : decode cX11_row 38 = .ok (.aaload, 1) := by decide +kernel
theorem dX11_row_39 : decode cX11_row 39 = .ok (.iload_n 2, 1) := by decide +kernel
theorem dX11_row_40 : decode cX11_row 40 = .ok (.iload_n 3, 1) := by decide +kernel
theorem dX11_row_41 : decode cX11_row 41 = .ok (.invokevirtual 333, 3) := by decide +kernel
theorem dX11_row_44 : decode cX11_row 44 = .ok (.iconst 0, 1) := by decide +kernel
theorem dX11_row_45 : decode cX11_row 45 = .ok (.ireturn, 1) := by decide +kernel
theorem dX11_write_0 : decode cX11_write 0 = .ok (.aload_n 0, 1) := by decide +kernel
theorem dX11_write_1 : decode cX11_write 1 = .ok (.iload_n 1, 1) := by decide +kernel
theorem dX11_write_2 : decode cX11_write 2 = .ok (.invokevirtual 302, 3) := by decide +kernel
theorem dX11_write_5 : decode cX11_write 5 = .ok (.ifCond .ne 6, 3) := by decide +kernel
theorem dX11_write_8 : decode cX11_write 8 = .ok (.bipush (-2), 2) := by decide +kernel
theorem dX11_write_10 : decode cX11_write 10 = .ok (.ireturn, 1) := by decide +kernel
theorem dX11_write_11 : decode cX11_write 11 = .ok (.aload_n 0, 1) := by decide +kernel
theorem dX11_write_12 : decode cX11_write 12 = .ok (.getfield 43, 3) := by decide +kernel
theorem dX11_write_15 : decode cX11_write 15 = .ok (.iload_n 1, 1) := by decide +kernel
theorem dX11_write_16 : decode cX11_write 16 = .ok (.aaload, 1) := by decide +kernel
theorem dX11_write_17 : decode cX11_write 17 = .ok (.astore 5, 2) := by decide +kernel
theorem dX11_write_19 : decode cX11_write 19 = .ok (.aload 5, 2) := by decide +kernel
theorem dX11_write_21 : decode cX11_write 21 = .ok (.invokevirtual 305, 3) := by decide +kernel
theorem dX11_write_24 : decode cX11_write 24 = .ok (.ifCond .eq 6, 3) := by decide +kernel
theorem dX11_write_27 : decode cX11_write 27 = .ok (.bipush (-6), 2) := by decide +kernel
theorem dX11_write_29 : decode cX11_write 29 = .ok (.ireturn, 1) := by decide +kernel
theorem dX11_write_30 : decode cX11_write 30 = .ok (.iload_n 2, 1) := by decide +kernel
theorem dX11_write_31 : decode cX11_write 31 = .ok (.ifCond .lt 12, 3) := by decide +kernel
theorem dX11_write_34 : decode cX11_write 34 = .ok (.iload_n 2, 1) := by decide +kernel
theorem dX11_write_35 : decode cX11_write 35 = .ok (.aload 5, 2) := by decide +kernel
theorem dX11_write_37 : decode cX11_write 37 = .ok (.getfield 308, 3) := by decide +kernel
theorem dX11_write_40 : decode cX11_write 40 = .ok (.if_icmp .lt 6, 3) := by decide +kernel
theorem dX11_write_43 : decode cX11_write 43 = .ok (.bipush (-7), 2) := by decide +kernel
theorem dX11_write_45 : decode cX11_write 45 = .ok (.ireturn, 1) := by decide +kernel
theorem dX11_write_46 : decode cX11_write 46 = .ok (.aload 5, 2) := by decide +kernel
theorem dX11_write_48 : decode cX11_write 48 = .ok (.getfield 314, 3) := by decide +kernel
theorem dX11_write_51 : decode cX11_write 51 = .ok (.iload_n 2, 1) := by decide +kernel
theorem dX11_write_52 : decode cX11_write 52 = .ok (.aload 5, 2) := by decide +kernel
theorem dX11_write_54 : decode cX11_write 54 = .ok (.lload_n 3, 1) := by decide +kernel
theorem dX11_write_55 : decode cX11_write 55 = .ok (.invokevirtual 336, 3) := by decide +kernel
theorem dX11_write_58 : decode cX11_write 58 = .ok (.lastore, 1) := by decide +kernel
theorem dX11_write_59 : decode cX11_write 59 = .ok (.iconst 0, 1) := by decide +kernel
theorem dX11_write_60 : decode cX11_write 60 = .ok (.ireturn, 1) := by decide +kernel
theorem dX11_paste_0 : decode cX11_paste 0 = .ok (.aload_n 0, 1) := by decide +kernel
theorem dX11_paste_1 : decode cX11_paste 1 = .ok (.iload_n 1, 1) := by decide +kernel
theorem dX11_paste_2 : decode cX11_paste 2 = .ok (.invokevirtual 302, 3) := by decide +kernel
theorem dX11_paste_5 : decode cX11_paste 5 = .ok (.ifCond .eq 11, 3) := by decide +kernel
theorem dX11_paste_8 : decode cX11_paste 8 = .ok (.aload_n 0, 1) := by decide +kernel
theorem dX11_paste_9 : decode cX11_paste 9 = .ok (.iload_n 3, 1) := by decide +kernel
theorem dX11_paste_10 : decode cX11_paste 10 = .ok (.invokevirtual 302, 3) := by decide +kernel
theorem dX11_paste_13 : decode cX11_paste 13 = .ok (.ifCond .ne 6, 3) := by decide +kernel
theorem dX11_paste_16 : decode cX11_paste 16 = .ok (.bipush (-2), 2) := by decide +kernel
theorem dX11_paste_18 : decode cX11_paste 18 = .ok (.ireturn, 1) := by decide +kernel
theorem dX11_paste_19 : decode cX11_paste 19 = .ok (.aload_n 0, 1) := by decide +kernel
theorem dX11_paste_20 : decode cX11_paste 20 = .ok (.getfield 43, 3) := by decide +kernel
theorem dX11_paste_23 : decode cX11_paste 23 = .ok (.iload_n 1, 1) := by decide +kernel
theorem dX11_paste_24 : decode cX11_paste 24 = .ok (.aaload, 1) := by decide +kernel
theorem dX11_paste_25 : decode cX11_paste 25 = .ok (.astore 6, 2) := by decide +kernel
theorem dX11_paste_27 : decode cX11_paste 27 = .ok (.aload_n 0, 1) := by decide +kernel
theorem dX11_paste_28 : decode cX11_paste 28 = .ok (.getfield 43, 3) := by decide +kernel
theorem dX11_paste_31 : decode cX11_paste 31 = .ok (.iload_n 3, 1) := by decide +kernel
theorem dX11_paste_32 : decode cX11_paste 32 = .ok (.aaload, 1) := by decide +kernel
theorem dX11_paste_33 : decode cX11_paste 33 = .ok (.astore 7, 2) := by decide +kernel
theorem dX11_paste_35 : decode cX11_paste 35 = .ok (.aload 6, 2) := by decide +kernel
theorem dX11_paste_37 : decode cX11_paste 37 = .ok (.invokevirtual 305, 3) := by decide +kernel
theorem dX11_paste_40 : decode cX11_paste 40 = .ok (.ifCond .ne 11, 3) := by decide +kernel
theorem dX11_paste_43 : decode cX11_paste 43 = .ok (.aload 7, 2) := by decide +kernel
theorem dX11_paste_45 : decode cX11_paste 45 = .ok (.invokevirtual 305, 3) := by decide +kernel
theorem dX11_paste_48 : decode cX11_paste 48 = .ok (.ifCond .eq 6, 3) := by decide +kernel
theorem dX11_paste_51 : decode cX11_paste 51 = .ok (.bipush (-6), 2) := by decide +kernel
theorem dX11_paste_53 : decode cX11_paste 53 = .ok (.ireturn, 1) := by decide +kernel
theorem dX11_paste_54 : decode cX11_paste 54 = .ok (.aload 6, 2) := by decide +kernel
theorem dX11_paste_56 : decode cX11_paste 56 = .ok (.getfield 340, 3) := by decide +kernel
theorem dX11_paste_59 : decode cX11_paste 59 = .ok (.aload 7, 2) := by decide +kernel
theorem dX11_paste_61 : decode cX11_paste 61 = .ok (.getfield 340, 3) := by decide +kernel
theorem dX11_paste_64 : decode cX11_paste 64 = .ok (.if_icmp .eq 6, 3) := by decide +kernel
theorem dX11_paste_67 : decode cX11_paste 67 = .ok (.bipush (-8), 2) := by decide +kernel
theorem dX11_paste_69 : decode cX11_paste 69 = .ok (.ireturn, 1) := by decide +kernel
theorem dX11_paste_70 : decode cX11_paste 70 = .ok (.aload 6, 2) := by decide +kernel
theorem dX11_paste_72 : decode cX11_paste 72 = .ok (.iload_n 2, 1) := by decide +kernel
theorem dX11_paste_73 : decode cX11_paste 73 = .ok (.iload 5, 2) := by decide +kernel
theorem dX11_paste_75 : decode cX11_paste 75 = .ok (.invokevirtual 343, 3) := by decide +kernel
theorem dX11_paste_78 : decode cX11_paste 78 = .ok (.ifCond .eq 15, 3) := by decide +kernel
theorem dX11_paste_81 : decode cX11_paste 81 = .ok (.aload 7, 2) := by decide +kernel
theorem dX11_paste_83 : decode cX11_paste 83 = .ok (.iload 4, 2) := by decide +kernel
theorem dX11_paste_85 : decode cX11_paste 85 = .ok (.iload 5, 2) := by decide +kernel
theorem dX11_paste_87 : decode cX11_paste 87 = .ok (.invokevirtual 343, 3) := by decide +kernel
theorem dX11_paste_90 : decode cX11_paste 90 = .ok (.ifCond .ne 6, 3) := by decide +kernel
theorem dX11_paste_93 : decode cX11_paste 93 = .ok (.bipush (-7), 2) := by decide +kernel
theorem dX11_paste_95 : decode cX11_paste 95 = .ok (.ireturn, 1) := by decide +kernel
theorem dX11_paste_96 : decode cX11_paste 96 = .ok (.aload 6, 2) := by decide +kernel
theorem dX11_paste_98 : decode cX11_paste 98 = .ok (.getfield 314, 3) := by decide +kernel
theorem dX11_paste_101 : decode cX11_paste 101 = .ok (.iload_n 2, 1) := by decide +kernel
theorem dX11_paste_102 : decode cX11_paste 102 = .ok (.aload 7, 2) := by decide +kernel
theorem dX11_paste_104 : decode cX11_paste 104 = .ok (.getfield 314, 3) := by decide +kernel
theorem dX11_paste_107 : decode cX11_paste 107 = .ok (.iload 4, 2) := by decide +kernel
theorem dX11_paste_109 : decode cX11_paste 109 = .ok (.iload 5, 2) := by decide +kernel
theorem dX11_paste_111 : decode cX11_paste 111 = .ok (.invokestatic 347, 3) := by decide +kernel
theorem dX11_paste_114 : decode cX11_paste 114 = .ok (.iconst 0, 1) := by decide +kernel
theorem dX11_paste_115 : decode cX11_paste 115 = .ok (.ireturn, 1) := by decide +kernel
theorem dX11_tapeNumber_0 : decode cX11_tapeNumber 0 = .ok (.iconst 0, 1) := by decide +kernel
theorem dX11_tapeNumber_1 : decode cX11_tapeNumber 1 = .ok (.istore_n 3, 1) := by decide +kernel
theorem dX11_tapeNumber_2 : decode cX11_tapeNumber 2 = .ok (.iload_n 3, 1) := by decide +kernel
theorem dX11_tapeNumber_3 : decode cX11_tapeNumber 3 = .ok (.iconst 4, 1) := by decide +kernel
theorem dX11_tapeNumber_4 : decode cX11_tapeNumber 4 = .ok (.if_icmp .ge 40, 3) := by decide +kernel
theorem dX11_tapeNumber_7 : decode cX11_tapeNumber 7 = .ok (.iload_n 2, 1) := by decide +kernel
theorem dX11_tapeNumber_8 : decode cX11_tapeNumber 8 = .ok (.ifCond .lt 30, 3) := by decide +kernel
theorem dX11_tapeNumber_11 : decode cX11_tapeNumber 11 = .ok (.iload_n 2, 1) := by decide +kernel
theorem dX11_tapeNumber_12 : decode cX11_tapeNumber 12 = .ok (.iload_n 3, 1) := by decide +kernel
theorem dX11_tapeNumber_13 : decode cX11_tapeNumber 13 = .ok (.iadd, 1) := by decide +kernel
theorem dX11_tapeNumber_14 : decode cX11_tapeNumber 14 = .ok (.sipush 600, 3) := by decide +kernel
theorem dX11_tapeNumber_17 : decode cX11_tapeNumber 17 = .ok (.if_icmp .ge 21, 3) := by decide +kernel
theorem dX11_tapeNumber_20 : decode cX11_tapeNumber 20 = .ok (.aload_n 0, 1) := by decide +kernel
theorem dX11_tapeNumber_21 : decode cX11_tapeNumber 21 = .ok (.getfield 9, 3) := by decide +kernel
theorem dX11_tapeNumber_24 : decode cX11_tapeNumber 24 = .ok (.iload_n 2, 1) := by decide +kernel
theorem dX11_tapeNumber_25 : decode cX11_tapeNumber 25 = .ok (.iload_n 3, 1) := by decide +kernel
theorem dX11_tapeNumber_26 : decode cX11_tapeNumber 26 = .ok (.iadd, 1) := by decide +kernel
theorem dX11_tapeNumber_27 : decode cX11_tapeNumber 27 = .ok (.iload_n 1, 1) := by decide +kernel
theorem dX11_tapeNumber_28 : decode cX11_tapeNumber 28 = .ok (.bipush 24, 2) := by decide +kernel
theorem dX11_tapeNumber_30 : decode cX11_tapeNumber 30 = .ok (.bipush 8, 2) := by decide +kernel
theorem dX11_tapeNumber_32 : decode cX11_tapeNumber 32 = .ok (.iload_n 3, 1) := by decide +kernel
theorem dX11_tapeNumber_33 : decode cX11_tapeNumber 33 = .ok (.imul, 1) := by decide +kernel
theorem dX11_tapeNumber_34 : decode cX11_tapeNumber 34 = .ok (.isub, 1) := by decide +kernel
theorem dX11_tapeNumber_35 : decode cX11_tapeNumber 35 = .ok (.iushr, 1) := by decide +kernel
theorem dX11_tapeNumber_36 : decode cX11_tapeNumber 36 = .ok (.i2b, 1) := by decide +kernel
theorem dX11_tapeNumber_37 : decode cX11_tapeNumber 37 = .ok (.bastore, 1) := by decide +kernel
theorem dX11_tapeNumber_38 : decode cX11_tapeNumber 38 = .ok (.iinc 3 1, 3) := by decide +kernel
theorem dX11_tapeNumber_41 : decode cX11_tapeNumber 41 = .ok (.goto (-39), 3) := by decide +kernel
theorem dX11_tapeNumber_44 : decode cX11_tapeNumber 44 = .ok (.return_, 1) := by decide +kernel
theorem dX11_takeFault_0 : decode cX11_takeFault 0 = .ok (.aload_n 0, 1) := by decide +kernel
theorem dX11_takeFault_1 : decode cX11_takeFault 1 = .ok (.iconst 0, 1) := by decide +kernel
theorem dX11_takeFault_2 : decode cX11_takeFault 2 = .ok (.putfield 13, 3) := by decide +kernel
theorem dX11_takeFault_5 : decode cX11_takeFault 5 = .ok (.aload_n 0, 1) := by decide +kernel
theorem dX11_takeFault_6 : decode cX11_takeFault 6 = .ok (.aload_n 0, 1) := by decide +kernel
theorem dX11_takeFault_7 : decode cX11_takeFault 7 = .ok (.getfield 50, 3) := by decide +kernel
theorem dX11_takeFault_10 : decode cX11_takeFault 10 = .ok (.getfield 353, 3) := by decide +kernel
theorem dX11_takeFault_13 : decode cX11_takeFault 13 = .ok (.putfield 17, 3) := by decide +kernel
theorem dX11_takeFault_16 : decode cX11_takeFault 16 = .ok (.aload_n 0, 1) := by decide +kernel
theorem dX11_takeFault_17 : decode cX11_takeFault 17 = .ok (.aload_n 0, 1) := by decide +kernel
theorem dX11_takeFault_18 : decode cX11_takeFault 18 = .ok (.getfield 50, 3) := by decide +kernel
theorem dX11_takeFault_21 : decode cX11_takeFault 21 = .ok (.getfield 354, 3) := by decide +kernel
theorem dX11_takeFault_24 : decode cX11_takeFault 24 = .ok (.putfield 20, 3) := by decide +kernel
theorem dX11_takeFault_27 : decode cX11_takeFault 27 = .ok (.return_, 1) := by decide +kernel
theorem dX11_isWorld_0 : decode cX11_isWorld 0 = .ok (.aload_n 0, 1) := by decide +kernel
theorem dX11_isWorld_1 : decode cX11_isWorld 1 = .ok (.getfield 26, 3) := by decide +kernel
theorem dX11_isWorld_4 : decode cX11_isWorld 4 = .ok (.getfield 139, 3) := by decide +kernel
theorem dX11_isWorld_7 : decode cX11_isWorld 7 = .ok (.ifCond .le 7, 3) := by decide +kernel
theorem dX11_isWorld_10 : decode cX11_isWorld 10 = .ok (.iconst 1, 1) := by decide +kernel
theorem dX11_isWorld_11 : decode cX11_isWorld 11 = .ok (.goto 4, 3) := by decide +kernel
theorem dX11_isWorld_14 : decode cX11_isWorld 14 = .ok (.iconst 0, 1) := by decide +kernel
theorem dX11_isWorld_15 : decode cX11_isWorld 15 = .ok (.ireturn, 1) := by decide +kernel
theorem dX11_isRegister_0 : decode cX11_isRegister 0 = .ok (.aload_n 0, 1) := by decide +kernel
theorem dX11_isRegister_1 : decode cX11_isRegister 1 = .ok (.invokevirtual 260, 3) := by decide +kernel
theorem dX11_isRegister_4 : decode cX11_isRegister 4 = .ok (.ifCond .eq 17, 3) := by decide +kernel
theorem dX11_isRegister_7 : decode cX11_isRegister 7 = .ok (.iload_n 1, 1) := by decide +kernel
theorem dX11_isRegister_8 : decode cX11_isRegister 8 = .ok (.ifCond .lt 13, 3) := by decide +kernel
theorem dX11_isRegister_11 : decode cX11_isRegister 11 = .ok (.iload_n 1, 1) := by decide +kernel
theorem dX11_isRegister_12 : decode cX11_isRegister 12 = .ok (.bipush 10, 2) := by decide +kernel
theorem dX11_isRegister_14 : decode cX11_isRegister 14 = .ok (.if_icmp .ge 7, 3) := by decide +kernel
theorem dX11_isRegister_17 : decode cX11_isRegister 17 = .ok (.iconst 1, 1) := by decide +kernel
theorem dX11_isRegister_18 : decode cX11_isRegister 18 = .ok (.goto 4, 3) := by decide +kernel
theorem dX11_isRegister_21 : decode cX11_isRegister 21 = .ok (.iconst 0, 1) := by decide +kernel
theorem dX11_isRegister_22 : decode cX11_isRegister 22 = .ok (.ireturn, 1) := by decide +kernel
theorem dX11_isSet_0 : decode cX11_isSet 0 = .ok (.aload_n 0, 1) := by decide +kernel
theorem dX11_isSet_1 : decode cX11_isSet 1 = .ok (.invokevirtual 260, 3) := by decide +kernel
theorem dX11_isSet_4 : decode cX11_isSet 4 = .ok (.ifCond .eq 24, 3) := by decide +kernel
theorem dX11_isSet_7 : decode cX11_isSet 7 = .ok (.iload_n 1, 1) := by decide +kernel
theorem dX11_isSet_8 : decode cX11_isSet 8 = .ok (.ifCond .lt 20, 3) := by decide +kernel
theorem dX11_isSet_11 : decode cX11_isSet 11 = .ok (.iload_n 1, 1) := by decide +kernel
theorem dX11_isSet_12 : decode cX11_isSet 12 = .ok (.iconst 1, 1) := by decide +kernel
theorem dX11_isSet_13 : decode cX11_isSet 13 = .ok (.aload_n 0, 1) := by decide +kernel
theorem dX11_isSet_14 : decode cX11_isSet 14 = .ok (.getfield 26, 3) := by decide +kernel
theorem dX11_isSet_17 : decode cX11_isSet 17 = .ok (.getfield 139, 3) := by decide +kernel
theorem dX11_isSet_20 : decode cX11_isSet 20 = .ok (.ishl, 1) := by decide +kernel
theorem dX11_isSet_21 : decode cX11_isSet 21 = .ok (.if_icmp .ge 7, 3) := by decide +kernel
theorem dX11_isSet_24 : decode cX11_isSet 24 = .ok (.iconst 1, 1) := by decide +kernel
theorem dX11_isSet_25 : decode cX11_isSet 25 = .ok (.goto 4, 3) := by decide +kernel
theorem dX11_isSet_28 : decode cX11_isSet 28 = .ok (.iconst 0, 1) := by decide +kernel
theorem dX11_isSet_29 : decode cX11_isSet 29 = .ok (.ireturn, 1) := by decide +kernel
theorem dX11_isName_0 : decode cX11_isName 0 = .ok (.iload_n 1, 1) := by decide +kernel
theorem dX11_isName_1 : decode cX11_isName 1 = .ok (.ifCond .lt 18, 3) := by decide +kernel
theorem dX11_isName_4 : decode cX11_isName 4 = .ok (.iload_n 1, 1) := by decide +kernel
theorem dX11_isName_5 : decode cX11_isName 5 = .ok (.aload_n 0, 1) := by decide +kernel
theorem dX11_isName_6 : decode cX11_isName 6 = .ok (.getfield 26, 3) := by decide +kernel
theorem dX11_isName_9 : decode cX11_isName 9 = .ok (.getfield 139, 3) := by decide +kernel
theorem dX11_isName_12 : decode cX11_isName 12 = .ok (.if_icmp .ge 7, 3) := by decide +kernel
theorem dX11_isName_15 : decode cX11_isName 15 = .ok (.iconst 1, 1) := by decide +kernel
theorem dX11_isName_16 : decode cX11_isName 16 = .ok (.goto 4, 3) := by decide +kernel
theorem dX11_isName_19 : decode cX11_isName 19 = .ok (.iconst 0, 1) := by decide +kernel
theorem dX11_isName_20 : decode cX11_isName 20 = .ok (.ireturn, 1) := by decide +kernel
theorem dX11_isCrossing_0 : decode cX11_isCrossing 0 = .ok (.iload_n 1, 1) := by decide +kernel
theorem dX11_isCrossing_1 : decode cX11_isCrossing 1 = .ok (.ifCond .lt 13, 3) := by decide +kernel
theorem dX11_isCrossing_4 : decode cX11_isCrossing 4 = .ok (.iload_n 1, 1) := by decide +kernel
theorem dX11_isCrossing_5 : decode cX11_isCrossing 5 = .ok (.bipush 8, 2) := by decide +kernel
theorem dX11_isCrossing_7 : decode cX11_isCrossing 7 = .ok (.if_icmp .ge 7, 3) := by decide +kernel
theorem dX11_isCrossing_10 : decode cX11_isCrossing 10 = .ok (.iconst 1, 1) := by decide +kernel
theorem dX11_isCrossing_11 : decode cX11_isCrossing 11 = .ok (.goto 4, 3) := by decide +kernel
theorem dX11_isCrossing_14 : decode cX11_isCrossing 14 = .ok (.iconst 0, 1) := by decide +kernel
theorem dX11_isCrossing_15 : decode cX11_isCrossing 15 = .ok (.ireturn, 1) := by decide +kernel
theorem dX11_isSlot_0 : decode cX11_isSlot 0 = .ok (.iload_n 1, 1) := by decide +kernel
theorem dX11_isSlot_1 : decode cX11_isSlot 1 = .ok (.ifCond .lt 12, 3) := by decide +kernel
theorem dX11_isSlot_4 : decode cX11_isSlot 4 = .ok (.iload_n 1, 1) := by decide +kernel
theorem dX11_isSlot_5 : decode cX11_isSlot 5 = .ok (.iconst 4, 1) := by decide +kernel
theorem dX11_isSlot_6 : decode cX11_isSlot 6 = .ok (.if_icmp .ge 7, 3) := by decide +kernel
theorem dX11_isSlot_9 : decode cX11_isSlot 9 = .ok (.iconst 1, 1) := by decide +kernel
theorem dX11_isSlot_10 : decode cX11_isSlot 10 = .ok (.goto 4, 3) := by decide +kernel
theorem dX11_isSlot_13 : decode cX11_isSlot 13 = .ok (.iconst 0, 1) := by decide +kernel
theorem dX11_isSlot_14 : decode cX11_isSlot 14 = .ok (.ireturn, 1) := by decide +kernel
theorem dX11_store_0 : decode cX11_store 0 = .ok (.aload_n 0, 1) := by decide +kernel
theorem dX11_store_1 : decode cX11_store 1 = .ok (.iload_n 1, 1) := by decide +kernel
theorem dX11_store_2 : decode cX11_store 2 = .ok (.invokevirtual 135, 3) := by decide +kernel
theorem dX11_store_5 : decode cX11_store 5 = .ok (.ifCond .ne 6, 3) := by decide +kernel
theorem dX11_store_8 : decode cX11_store 8 = .ok (.bipush (-2), 2) := by decide +kernel
theorem dX11_store_10 : decode cX11_store 10 = .ok (.ireturn, 1) := by decide +kernel
theorem dX11_store_11 : decode cX11_store 11 = .ok (.aload_n 0, 1) := by decide +kernel
theorem dX11_store_12 : decode cX11_store 12 = .ok (.getfield 26, 3) := by decide +kernel
theorem dX11_store_15 : decode cX11_store 15 = .ok (.getfield 146, 3) := by decide +kernel
theorem dX11_store_18 : decode cX11_store 18 = .ok (.iload_n 1, 1) := by decide +kernel
theorem dX11_store_19 : decode cX11_store 19 = .ok (.aaload, 1) := by decide +kernel
theorem dX11_store_20 : decode cX11_store 20 = .ok (.aload_n 0, 1) := by decide +kernel
theorem dX11_store_21 : decode cX11_store 21 = .ok (.getfield 106, 3) := by decide +kernel
theorem dX11_store_24 : decode cX11_store 24 = .ok (.invokevirtual 160, 3) := by decide +kernel
theorem dX11_store_27 : decode cX11_store 27 = .ok (.aload_n 0, 1) := by decide +kernel
theorem dX11_store_28 : decode cX11_store 28 = .ok (.getfield 106, 3) := by decide +kernel
theorem dX11_store_31 : decode cX11_store 31 = .ok (.invokevirtual 150, 3) := by decide +kernel
theorem dX11_store_34 : decode cX11_store 34 = .ok (.ireturn, 1) := by decide +kernel
theorem dX11_isFoundName_0 : decode cX11_isFoundName 0 = .ok (.aload_n 0, 1) := by decide +kernel
theorem dX11_isFoundName_1 : decode cX11_isFoundName 1 = .ok (.getfield 106, 3) := by decide +kernel
theorem dX11_isFoundName_4 : decode cX11_isFoundName 4 = .ok (.aload_n 1, 1) := by decide +kernel
theorem dX11_isFoundName_5 : decode cX11_isFoundName 5 = .ok (.invokevirtual 160, 3) := by decide +kernel
theorem dX11_isFoundName_8 : decode cX11_isFoundName 8 = .ok (.iload_n 3, 1) := by decide +kernel
theorem dX11_isFoundName_9 : decode cX11_isFoundName 9 = .ok (.iconst 2, 1) := by decide +kernel
theorem dX11_isFoundName_10 : decode cX11_isFoundName 10 = .ok (.if_icmp .ne 20, 3) := by decide +kernel
theorem dX11_isFoundName_13 : decode cX11_isFoundName 13 = .ok (.aload_n 0, 1) := by decide +kernel
theorem dX11_isFoundName_14 : decode cX11_isFoundName 14 = .ok (.getfield 106, 3) := by decide +kernel
theorem dX11_isFoundName_17 : decode cX11_isFoundName 17 = .ok (.iload_n 2, 1) := by decide +kernel
theorem dX11_isFoundName_18 : decode cX11_isFoundName 18 = .ok (.invokevirtual 186, 3) := by decide +kernel
theorem dX11_isFoundName_21 : decode cX11_isFoundName 21 = .ok (.aload_n 0, 1) := by decide +kernel
theorem dX11_isFoundName_22 : decode cX11_isFoundName 22 = .ok (.getfield 106, 3) := by decide +kernel
theorem dX11_isFoundName_25 : decode cX11_isFoundName 25 = .ok (.aload_n 1, 1) := by decide +kernel
theorem dX11_isFoundName_26 : decode cX11_isFoundName 26 = .ok (.invokevirtual 230, 3) := by decide +kernel
theorem dX11_isFoundName_29 : decode cX11_isFoundName 29 = .ok (.ireturn, 1) := by decide +kernel
theorem dX11_isFoundName_30 : decode cX11_isFoundName 30 = .ok (.aload_n 0, 1) := by decide +kernel
theorem dX11_isFoundName_31 : decode cX11_isFoundName 31 = .ok (.getfield 106, 3) := by decide +kernel
theorem dX11_isFoundName_34 : decode cX11_isFoundName 34 = .ok (.iload_n 2, 1) := by decide +kernel
theorem dX11_isFoundName_35 : decode cX11_isFoundName 35 = .ok (.invokevirtual 189, 3) := by decide +kernel
theorem dX11_isFoundName_38 : decode cX11_isFoundName 38 = .ok (.iload_n 3, 1) := by decide +kernel
theorem dX11_isFoundName_39 : decode cX11_isFoundName 39 = .ok (.ifCond .ne 13, 3) := by decide +kernel
theorem dX11_isFoundName_42 : decode cX11_isFoundName 42 = .ok (.aload_n 0, 1) := by decide +kernel
theorem dX11_isFoundName_43 : decode cX11_isFoundName 43 = .ok (.getfield 106, 3) := by decide +kernel
theorem dX11_isFoundName_46 : decode cX11_isFoundName 46 = .ok (.invokevirtual 240, 3) := by decide +kernel
theorem dX11_isFoundName_49 : decode cX11_isFoundName 49 = .ok (.goto 19, 3) := by decide +kernel
theorem dX11_isFoundName_52 : decode cX11_isFoundName 52 = .ok (.aload_n 0, 1) := by decide +kernel
theorem dX11_isFoundName_53 : decode cX11_isFoundName 53 = .ok (.getfield 106, 3) := by decide +kernel
theorem dX11_isFoundName_56 : decode cX11_isFoundName 56 = .ok (.aload_n 1, 1) := by decide +kernel
theorem dX11_isFoundName_57 : decode cX11_isFoundName 57 = .ok (.invokevirtual 230, 3) := by decide +kernel
theorem dX11_isFoundName_60 : decode cX11_isFoundName 60 = .ok (.ifCond .ne 7, 3) := by decide +kernel
theorem dX11_isFoundName_63 : decode cX11_isFoundName 63 = .ok (.iconst 1, 1) := by decide +kernel
theorem dX11_isFoundName_64 : decode cX11_isFoundName 64 = .ok (.goto 4, 3) := by decide +kernel
theorem dX11_isFoundName_67 : decode cX11_isFoundName 67 = .ok (.iconst 0, 1) := by decide +kernel
theorem dX11_isFoundName_68 : decode cX11_isFoundName 68 = .ok (.ireturn, 1) := by decide +kernel
theorem dX11_rowsInSlots_0 : decode cX11_rowsInSlots 0 = .ok (.iconst 0, 1) := by decide +kernel
theorem dX11_rowsInSlots_1 : decode cX11_rowsInSlots 1 = .ok (.istore_n 1, 1) := by decide +kernel
theorem dX11_rowsInSlots_2 : decode cX11_rowsInSlots 2 = .ok (.iconst 0, 1) := by decide +kernel
theorem dX11_rowsInSlots_3 : decode cX11_rowsInSlots 3 = .ok (.istore_n 2, 1) := by decide +kernel
theorem dX11_rowsInSlots_4 : decode cX11_rowsInSlots 4 = .ok (.iload_n 2, 1) := by decide +kernel
theorem dX11_rowsInSlots_5 : decode cX11_rowsInSlots 5 = .ok (.iconst 4, 1) := by decide +kernel
theorem dX11_rowsInSlots_6 : decode cX11_rowsInSlots 6 = .ok (.if_icmp .ge 24, 3) := by decide +kernel
theorem dX11_rowsInSlots_9 : decode cX11_rowsInSlots 9 = .ok (.aload_n 0, 1) := by decide +kernel
theorem dX11_rowsInSlots_10 : decode cX11_rowsInSlots 10 = .ok (.getfield 43, 3) := by decide +kernel
theorem dX11_rowsInSlots_13 : decode cX11_rowsInSlots 13 = .ok (.iload_n 2, 1) := by decide +kernel
theorem dX11_rowsInSlots_14 : decode cX11_rowsInSlots 14 = .ok (.aaload, 1) := by decide +kernel
theorem dX11_rowsInSlots_15 : decode cX11_rowsInSlots 15 = .ok (.invokevirtual 305, 3) := by decide +kernel
theorem dX11_rowsInSlots_18 : decode cX11_rowsInSlots 18 = .ok (.ifCond .ne 6, 3) := by decide +kernel
theorem dX11_rowsInSlots_21 : decode cX11_rowsInSlots 21 = .ok (.iinc 1 1, 3) := by decide +kernel
theorem dX11_rowsInSlots_24 : decode cX11_rowsInSlots 24 = .ok (.iinc 2 1, 3) := by decide +kernel
theorem dX11_rowsInSlots_27 : decode cX11_rowsInSlots 27 = .ok (.goto (-23), 3) := by decide +kernel
theorem dX11_rowsInSlots_30 : decode cX11_rowsInSlots 30 = .ok (.iload_n 1, 1) := by decide +kernel
theorem dX11_rowsInSlots_31 : decode cX11_rowsInSlots 31 = .ok (.ireturn, 1) := by decide +kernel
theorem dX12_init_0 : decode cX12_init 0 = .ok (.aload_n 0, 1) := by decide +kernel
theorem dX12_init_1 : decode cX12_init 1 = .ok (.invokespecial 3, 3) := by decide +kernel
theorem dX12_init_4 : decode cX12_init 4 = .ok (.aload_n 0, 1) := by decide +kernel
theorem dX12_init_5 : decode cX12_init 5 = .ok (.bipush 43, 2) := by decide +kernel
theorem dX12_init_7 : decode cX12_init 7 = .ok (.newarray .int, 2) := by decide +kernel
theorem dX12_init_9 : decode cX12_init 9 = .ok (.putfield 9, 3) := by decide +kernel
theorem dX12_init_12 : decode cX12_init 12 = .ok (.aload_n 0, 1) := by decide +kernel
theorem dX12_init_13 : decode cX12_init 13 = .ok (.sipush 10240, 3) := by decide +kernel
theorem dX12_init_16 : decode cX12_init 16 = .ok (.newarray .boolean, 2) := by decide +kernel
theorem dX12_init_18 : decode cX12_init 18 = .ok (.putfield 13, 3) := by decide +kernel
theorem dX12_init_21 : decode cX12_init 21 = .ok (.aload_n 0, 1) := by decide +kernel
theorem dX12_init_22 : decode cX12_init 22 = .ok (.sipush 129, 3) := by decide +kernel
theorem dX12_init_25 : decode cX12_init 25 = .ok (.newarray .int, 2) := by decide +kernel
theorem dX12_init_27 : decode cX12_init 27 = .ok (.putfield 17, 3) := by decide +kernel
theorem dX12_init_30 : decode cX12_init 30 = .ok (.aload_n 0, 1) := by decide +kernel
theorem dX12_init_31 : decode cX12_init 31 = .ok (.sipush 30720, 3) := by decide +kernel
theorem dX12_init_34 : decode cX12_init 34 = .ok (.newarray .boolean, 2) := by decide +kernel
theorem dX12_init_36 : decode cX12_init 36 = .ok (.putfield 20, 3) := by decide +kernel
theorem dX12_init_39 : decode cX12_init 39 = .ok (.aload_n 0, 1) := by decide +kernel
theorem dX12_init_40 : decode cX12_init 40 = .ok (.iconst 3, 1) := by decide +kernel
theorem dX12_init_41 : decode cX12_init 41 = .ok (.newarray .boolean, 2) := by decide +kernel
theorem dX12_init_43 : decode cX12_init 43 = .ok (.putfield 23, 3) := by decide +kernel
theorem dX12_init_46 : decode cX12_init 46 = .ok (.aload_n 0, 1) := by decide +kernel
theorem dX12_init_47 : decode cX12_init 47 = .ok (.sipush 600, 3) := by decide +kernel
theorem dX12_init_50 : decode cX12_init 50 = .ok (.newarray .byte, 2) := by decide +kernel
theorem dX12_init_52 : decode cX12_init 52 = .ok (.putfield 26, 3) := by decide +kernel
theorem dX12_init_55 : decode cX12_init 55 = .ok (.aload_n 0, 1) := by decide +kernel
theorem dX12_init_56 : decode cX12_init 56 = .ok (.iconst 5, 1) := by decide +kernel
theorem dX12_init_57 : decode cX12_init 57 = .ok (.newarray .int, 2) := by decide +kernel
theorem dX12_init_59 : decode cX12_init 59 = .ok (.putfield 30, 3) := by decide +kernel
theorem dX12_init_62 : decode cX12_init 62 = .ok (.aload_n 0, 1) := by decide +kernel
theorem dX12_init_63 : decode cX12_init 63 = .ok (.iconst (-1), 1) := by decide +kernel
theorem dX12_init_64 : decode cX12_init 64 = .ok (.putfield 33, 3) := by decide +kernel
theorem dX12_init_67 : decode cX12_init 67 = .ok (.aload_n 0, 1) := by decide +kernel
theorem dX12_init_68 : decode cX12_init 68 = .ok (.sipush 18432, 3) := by decide +kernel
theorem dX12_init_71 : decode cX12_init 71 = .ok (.newarray .boolean, 2) := by decide +kernel
theorem dX12_init_73 : decode cX12_init 73 = .ok (.putfield 37, 3) := by decide +kernel
theorem dX12_init_76 : decode cX12_init 76 = .ok (.aload_n 0, 1) := by decide +kernel
theorem dX12_init_77 : decode cX12_init 77 = .ok (.sipush 1024, 3) := by decide +kernel
theorem dX12_init_80 : decode cX12_init 80 = .ok (.newarray .boolean, 2) := by decide +kernel
theorem dX12_init_82 : decode cX12_init 82 = .ok (.putfield 40, 3) := by decide +kernel
theorem dX12_init_85 : decode cX12_init 85 = .ok (.aload_n 0, 1) := by decide +kernel
theorem dX12_init_86 : decode cX12_init 86 = .ok (.sipush 1024, 3) := by decide +kernel
theorem dX12_init_89 : decode cX12_init 89 = .ok (.newarray .boolean, 2) := by decide +kernel
theorem dX12_init_91 : decode cX12_init 91 = .ok (.putfield 43, 3) := by decide +kernel
theorem dX12_init_94 : decode cX12_init 94 = .ok (.aload_n 0, 1) := by decide +kernel
theorem dX12_init_95 : decode cX12_init 95 = .ok (.sipush 1024, 3) := by decide +kernel
theorem dX12_init_98 : decode cX12_init 98 = .ok (.newarray .boolean, 2) := by decide +kernel
theorem dX12_init_100 : decode cX12_init 100 = .ok (.putfield 46, 3) := by decide +kernel
theorem dX12_init_103 : decode cX12_init 103 = .ok (.aload_n 0, 1) := by decide +kernel
theorem dX12_init_104 : decode cX12_init 104 = .ok (.bipush 40, 2) := by decide +kernel
theorem dX12_init_106 : decode cX12_init 106 = .ok (.newarray .int, 2) := by decide +kernel
theorem dX12_init_108 : decode cX12_init 108 = .ok (.putfield 49, 3) := by decide +kernel
theorem dX12_init_111 : decode cX12_init 111 = .ok (.aload_n 0, 1) := by decide +kernel
theorem dX12_init_112 : decode cX12_init 112 = .ok (.bipush 43, 2) := by decide +kernel
theorem dX12_init_114 : decode cX12_init 114 = .ok (.newarray .int, 2) := by decide +kernel
theorem dX12_init_116 : decode cX12_init 116 = .ok (.putfield 52, 3) := by decide +kernel
theorem dX12_init_119 : decode cX12_init 119 = .ok (.aload_n 0, 1) := by decide +kernel
theorem dX12_init_120 : decode cX12_init 120 = .ok (.sipush 10240, 3) := by decide +kernel
theorem dX12_init_123 : decode cX12_init 123 = .ok (.newarray .boolean, 2) := by decide +kernel
theorem dX12_init_125 : decode cX12_init 125 = .ok (.putfield 55, 3) := by decide +kernel
theorem dX12_init_128 : decode cX12_init 128 = .ok (.aload_n 0, 1) := by decide +kernel
theorem dX12_init_129 : decode cX12_init 129 = .ok (.bipush 12, 2) := by decide +kernel
theorem dX12_init_131 : decode cX12_init 131 = .ok (.newarray .int, 2) := by decide +kernel
theorem dX12_init_133 : decode cX12_init 133 = .ok (.putfield 58, 3) := by decide +kernel
theorem dX12_init_136 : decode cX12_init 136 = .ok (.aload_n 0, 1) := by decide +kernel
theorem dX12_init_137 : decode cX12_init 137 = .ok (.sipush 1024, 3) := by decide +kernel
theorem dX12_init_140 : decode cX12_init 140 = .ok (.newarray .boolean, 2) := by decide +kernel
theorem dX12_init_142 : decode cX12_init 142 = .ok (.putfield 61, 3) := by decide +kernel
theorem dX12_init_145 : decode cX12_init 145 = .ok (.aload_n 0, 1) := by decide +kernel
theorem dX12_init_146 : decode cX12_init 146 = .ok (.bipush 10, 2) := by decide +kernel
theorem dX12_init_148 : decode cX12_init 148 = .ok (.newarray .int, 2) := by decide +kernel
theorem dX12_init_150 : decode cX12_init 150 = .ok (.putfield 64, 3) := by decide +kernel
theorem dX12_init_153 : decode cX12_init 153 = .ok (.aload_n 0, 1) := by decide +kernel
theorem dX12_init_154 : decode cX12_init 154 = .ok (.sipush 10240, 3) := by decide +kernel
theorem dX12_init_157 : decode cX12_init 157 = .ok (.newarray .boolean, 2) := by decide +kernel
theorem dX12_init_159 : decode cX12_init 159 = .ok (.putfield 67, 3) := by decide +kernel
theorem dX12_init_162 : decode cX12_init 162 = .ok (.aload_n 0, 1) := by decide +kernel
theorem dX12_init_163 : decode cX12_init 163 = .ok (.bipush 10, 2) := by decide +kernel
theorem dX12_init_165 : decode cX12_init 165 = .ok (.newarray .int, 2) := by decide +kernel
theorem dX12_init_167 : decode cX12_init 167 = .ok (.putfield 70, 3) := by decide +kernel
theorem dX12_init_170 : decode cX12_init 170 = .ok (.aload_n 0, 1) := by decide +kernel
theorem dX12_init_171 : decode cX12_init 171 = .ok (.bipush 8, 2) := by decide +kernel
theorem dX12_init_173 : decode cX12_init 173 = .ok (.newarray .int, 2) := by decide +kernel
theorem dX12_init_175 : decode cX12_init 175 = .ok (.putfield 73, 3) := by decide +kernel
theorem dX12_init_178 : decode cX12_init 178 = .ok (.aload_n 0, 1) := by decide +kernel
theorem dX12_init_179 : decode cX12_init 179 = .ok (.iconst 4, 1) := by decide +kernel
theorem dX12_init_180 : decode cX12_init 180 = .ok (.newarray .int, 2) := by decide +kernel
theorem dX12_init_182 : decode cX12_init 182 = .ok (.dup, 1) := by decide +kernel
theorem dX12_init_183 : decode cX12_init 183 = .ok (.iconst 0, 1) := by decide +kernel
theorem dX12_init_184 : decode cX12_init 184 = .ok (.iconst (-1), 1) := by decide +kernel
theorem dX12_init_185 : decode cX12_init 185 = .ok (.iastore, 1) := by decide +kernel
theorem dX12_init_186 : decode cX12_init 186 = .ok (.dup, 1) := by decide +kernel
theorem dX12_init_187 : decode cX12_init 187 = .ok (.iconst 1, 1) := by decide +kernel
theorem dX12_init_188 : decode cX12_init 188 = .ok (.iconst (-1), 1) := by decide +kernel
theorem dX12_init_189 : decode cX12_init 189 = .ok (.iastore, 1) := by decide +kernel
theorem dX12_init_190 : decode cX12_init 190 = .ok (.dup, 1) := by decide +kernel
theorem dX12_init_191 : decode cX12_init 191 = .ok (.iconst 2, 1) := by decide +kernel
theorem dX12_init_192 : decode cX12_init 192 = .ok (.iconst (-1), 1) := by decide +kernel
theorem dX12_init_193 : decode cX12_init 193 = .ok (.iastore, 1) := by decide +kernel
theorem dX12_init_194 : decode cX12_init 194 = .ok (.dup, 1) := by decide +kernel
theorem dX12_init_195 : decode cX12_init 195 = .ok (.iconst 3, 1) := by decide +kernel
theorem dX12_init_196 : decode cX12_init 196 = .ok (.iconst (-1), 1) := by decide +kernel
theorem dX12_init_197 : decode cX12_init 197 = .ok (.iastore, 1) := by decide +kernel
theorem dX12_init_198 : decode cX12_init 198 = .ok (.putfield 76, 3) := by decide +kernel
theorem dX12_init_201 : decode cX12_init 201 = .ok (.aload_n 0, 1) := by decide +kernel
theorem dX12_init_202 : decode cX12_init 202 = .ok (.iconst 4, 1) := by decide +kernel
theorem dX12_init_203 : decode cX12_init 203 = .ok (.newarray .int, 2) := by decide +kernel
theorem dX12_init_205 : decode cX12_init 205 = .ok (.putfield 79, 3) := by decide +kernel
theorem dX12_init_208 : decode cX12_init 208 = .ok (.aload_n 0, 1) := by decide +kernel
theorem dX12_init_209 : decode cX12_init 209 = .ok (.sipush 240, 3) := by decide +kernel
theorem dX12_init_212 : decode cX12_init 212 = .ok (.newarray .long, 2) := by decide +kernel
theorem dX12_init_214 : decode cX12_init 214 = .ok (.putfield 82, 3) := by decide +kernel
theorem dX12_init_217 : decode cX12_init 217 = .ok (.aload_n 0, 1) := by decide +kernel
theorem dX12_init_218 : decode cX12_init 218 = .ok (.bipush 60, 2) := by decide +kernel
theorem dX12_init_220 : decode cX12_init 220 = .ok (.newarray .long, 2) := by decide +kernel
theorem dX12_init_222 : decode cX12_init 222 = .ok (.putfield 86, 3) := by decide +kernel
theorem dX12_init_225 : decode cX12_init 225 = .ok (.return_, 1) := by decide +kernel
theorem dX12_in_0 : decode cX12_in 0 = .ok (.lload_n 0, 1) := by decide +kernel
theorem dX12_in_1 : decode cX12_in 1 = .ok (.lload_n 2, 1) := by decide +kernel
theorem dX12_in_2 : decode cX12_in 2 = .ok (.lcmp, 1) := by decide +kernel
theorem dX12_in_3 : decode cX12_in 3 = .ok (.ifCond .lt 14, 3) := by decide +kernel
theorem dX12_in_6 : decode cX12_in 6 = .ok (.lload_n 0, 1) := by decide +kernel
theorem dX12_in_7 : decode cX12_in 7 = .ok (.lload 4, 2) := by decide +kernel
theorem dX12_in_9 : decode cX12_in 9 = .ok (.lcmp, 1) := by decide +kernel
theorem dX12_in_10 : decode cX12_in 10 = .ok (.ifCond .gt 7, 3) := by decide +kernel
theorem dX12_in_13 : decode cX12_in 13 = .ok (.iconst 1, 1) := by decide +kernel
theorem dX12_in_14 : decode cX12_in 14 = .ok (.goto 4, 3) := by decide +kernel
theorem dX12_in_17 : decode cX12_in 17 = .ok (.iconst 0, 1) := by decide +kernel
theorem dX12_in_18 : decode cX12_in 18 = .ok (.ireturn, 1) := by decide +kernel
theorem dX12_keep_0 : decode cX12_keep 0 = .ok (.iload_n 1, 1) := by decide +kernel
theorem dX12_keep_1 : decode cX12_keep 1 = .ok (.i2l, 1) := by decide +kernel
theorem dX12_keep_2 : decode cX12_keep 2 = .ok (.lconst 0, 1) := by decide +kernel
theorem dX12_keep_3 : decode cX12_keep 3 = .ok (.ldc2_w 92, 3) := by decide +kernel
theorem dX12_keep_6 : decode cX12_keep 6 = .ok (.invokestatic 94, 3) := by decide +kernel
theorem dX12_keep_9 : decode cX12_keep 9 = .ok (.ifCond .ne 6, 3) := by decide +kernel
theorem dX12_keep_12 : decode cX12_keep 12 = .ok (.bipush (-2), 2) := by decide +kernel
theorem dX12_keep_14 : decode cX12_keep 14 = .ok (.ireturn, 1) := by decide +kernel
theorem dX12_keep_15 : decode cX12_keep 15 = .ok (.iconst 0, 1) := by decide +kernel
theorem dX12_keep_16 : decode cX12_keep 16 = .ok (.istore_n 2, 1) := by decide +kernel
theorem dX12_keep_17 : decode cX12_keep 17 = .ok (.iload_n 2, 1) := by decide +kernel
theorem dX12_keep_18 : decode cX12_keep 18 = .ok (.bipush 43, 2) := by decide +kernel
theorem dX12_keep_20 : decode cX12_keep 20 = .ok (.if_icmp .ge 26, 3) := by decide +kernel
theorem dX12_keep_23 : decode cX12_keep 23 = .ok (.aload_n 0, 1) := by decide +kernel
theorem dX12_keep_24 : decode cX12_keep 24 = .ok (.getfield 17, 3) := by decide +kernel
theorem dX12_keep_27 : decode cX12_keep 27 = .ok (.bipush 43, 2) := by decide +kernel
theorem dX12_keep_29 : decode cX12_keep 29 = .ok (.iload_n 1, 1) := by decide +kernel
theorem dX12_keep_30 : decode cX12_keep 30 = .ok (.imul, 1) := by decide +kernel
theorem dX12_keep_31 : decode cX12_keep 31 = .ok (.iload_n 2, 1) := by decide +kernel
theorem dX12_keep_32 : decode cX12_keep 32 = .ok (.iadd, 1) := by decide +kernel
theorem dX12_keep_33 : decode cX12_keep 33 = .ok (.aload_n 0, 1) := by decide +kernel
theorem dX12_keep_34 : decode cX12_keep 34 = .ok (.getfield 9, 3) := by decide +kernel
theorem dX12_keep_37 : decode cX12_keep 37 = .ok (.iload_n 2, 1) := by decide +kernel
theorem dX12_keep_38 : decode cX12_keep 38 = .ok (.iaload, 1) := by decide +kernel
theorem dX12_keep_39 : decode cX12_keep 39 = .ok (.iastore, 1) := by decide +kernel
theorem dX12_keep_40 : decode cX12_keep 40 = .ok (.iinc 2 1, 3) := by decide +kernel
theorem dX12_keep_43 : decode cX12_keep 43 = .ok (.goto (-26), 3) := by decide +kernel
theorem dX12_keep_46 : decode cX12_keep 46 = .ok (.iconst 0, 1) := by decide +kernel
theorem dX12_keep_47 : decode cX12_keep 47 = .ok (.istore_n 2, 1) := by decide +kernel
theorem dX12_keep_48 : decode cX12_keep 48 = .ok (.iload_n 2, 1) := by decide +kernel
theorem dX12_keep_49 : decode cX12_keep 49 = .ok (.sipush 10240, 3) := by decide +kernel
theorem dX12_keep_52 : decode cX12_keep 52 = .ok (.if_icmp .ge 27, 3) := by decide +kernel
theorem dX12_keep_55 : decode cX12_keep 55 = .ok (.aload_n 0, 1) := by decide +kernel
theorem dX12_keep_56 : decode cX12_keep 56 = .ok (.getfield 20, 3) := by decide +kernel
theorem dX12_keep_59 : decode cX12_keep 59 = .ok (.sipush 10240, 3) := by decide +kernel
theorem dX12_keep_62 : decode cX12_keep 62 = .ok (.iload_n 1, 1) := by decide +kernel
theorem dX12_keep_63 : decode cX12_keep 63 = .ok (.imul, 1) := by decide +kernel
theorem dX12_keep_64 : decode cX12_keep 64 = .ok (.iload_n 2, 1) := by decide +kernel
theorem dX12_keep_65 : decode cX12_keep 65 = .ok (.iadd, 1) := by decide +kernel
theorem dX12_keep_66 : decode cX12_keep 66 = .ok (.aload_n 0, 1) := by decide +kernel
theorem dX12_keep_67 : decode cX12_keep 67 = .ok (.getfield 13, 3) := by decide +kernel
theorem dX12_keep_70 : decode cX12_keep 70 = .ok (.iload_n 2, 1) := by decide +kernel
theorem dX12_keep_71 : decode cX12_keep 71 = .ok (.baload, 1) := by decide +kernel
theorem dX12_keep_72 : decode cX12_keep 72 = .ok (.bastore, 1) := by decide +kernel
theorem dX12_keep_73 : decode cX12_keep 73 = .ok (.iinc 2 1, 3) := by decide +kernel
theorem dX12_keep_76 : decode cX12_keep 76 = .ok (.goto (-28), 3) := by decide +kernel
theorem dX12_keep_79 : decode cX12_keep 79 = .ok (.aload_n 0, 1) := by decide +kernel
theorem dX12_keep_80 : decode cX12_keep 80 = .ok (.getfield 23, 3) := by decide +kernel
theorem dX12_keep_83 : decode cX12_keep 83 = .ok (.iload_n 1, 1) := by decide +kernel
theorem dX12_keep_84 : decode cX12_keep 84 = .ok (.iconst 1, 1) := by decide +kernel
theorem dX12_keep_85 : decode cX12_keep 85 = .ok (.bastore, 1) := by decide +kernel
theorem dX12_keep_86 : decode cX12_keep 86 = .ok (.iconst 0, 1) := by decide +kernel
theorem dX12_keep_87 : decode cX12_keep 87 = .ok (.ireturn, 1) := by decide +kernel
theorem dX12_back_0 : decode cX12_back 0 = .ok (.iload_n 1, 1) := by decide +kernel
theorem dX12_back_1 : decode cX12_back 1 = .ok (.i2l, 1) := by decide +kernel
theorem dX12_back_2 : decode cX12_back 2 = .ok (.lconst 0, 1) := by decide +kernel
theorem dX12_back_3 : decode cX12_back 3 = .ok (.ldc2_w 92, 3) := by decide +kernel
theorem dX12_back_6 : decode cX12_back 6 = .ok (.invokestatic 94, 3) := by decide +kernel
theorem dX12_back_9 : decode cX12_back 9 = .ok (.ifCond .ne 6, 3) := by decide +kernel
theorem dX12_back_12 : decode cX12_back 12 = .ok (.bipush (-2), 2) := by decide +kernel
theorem dX12_back_14 : decode cX12_back 14 = .ok (.ireturn, 1) := by decide +kernel
theorem dX12_back_15 : decode cX12_back 15 = .ok (.aload_n 0, 1) := by decide +kernel
theorem dX12_back_16 : decode cX12_back 16 = .ok (.getfield 23, 3) := by decide +kernel
theorem dX12_back_19 : decode cX12_back 19 = .ok (.iload_n 1, 1) := by decide +kernel
theorem dX12_back_20 : decode cX12_back 20 = .ok (.baload, 1) := by decide +kernel
theorem dX12_back_21 : decode cX12_back 21 = .ok (.ifCond .ne 6, 3) := by decide +kernel
theorem dX12_back_24 : decode cX12_back 24 = .ok (.bipush (-6), 2) := by decide +kernel
theorem dX12_back_26 : decode cX12_back 26 = .ok (.ireturn, 1) := by decide +kernel
theorem dX12_back_27 : decode cX12_back 27 = .ok (.iconst 0, 1) := by decide +kernel
theorem dX12_back_28 : decode cX12_back 28 = .ok (.istore_n 2, 1) := by decide +kernel
theorem dX12_back_29 : decode cX12_back 29 = .ok (.iload_n 2, 1) := by decide +kernel
theorem dX12_back_30 : decode cX12_back 30 = .ok (.bipush 43, 2) := by decide +kernel
theorem dX12_back_32 : decode cX12_back 32 = .ok (.if_icmp .ge 26, 3) := by decide +kernel
theorem dX12_back_35 : decode cX12_back 35 = .ok (.aload_n 0, 1) := by decide +kernel
theorem dX12_back_36 : decode cX12_back 36 = .ok (.getfield 9, 3) := by decide +kernel
theorem dX12_back_39 : decode cX12_back 39 = .ok (.iload_n 2, 1) := by decide +kernel
theorem dX12_back_40 : decode cX12_back 40 = .ok (.aload_n 0, 1) := by decide +kernel
theorem dX12_back_41 : decode cX12_back 41 = .ok (.getfield 17, 3) := by decide +kernel
theorem dX12_back_44 : decode cX12_back 44 = .ok (.bipush 43, 2) := by decide +kernel
theorem dX12_back_46 : decode cX12_back 46 = .ok (.iload_n 1, 1) := by decide +kernel
theorem dX12_back_47 : decode cX12_back 47 = .ok (.imul, 1) := by decide +kernel
theorem dX12_back_48 : decode cX12_back 48 = .ok (.iload_n 2, 1) := by decide +kernel
theorem dX12_back_49 : decode cX12_back 49 = .ok (.iadd, 1) := by decide +kernel
theorem dX12_back_50 : decode cX12_back 50 = .ok (.iaload, 1) := by decide +kernel
theorem dX12_back_51 : decode cX12_back 51 = .ok (.iastore, 1) := by decide +kernel
theorem dX12_back_52 : decode cX12_back 52 = .ok (.iinc 2 1, 3) := by decide +kernel
theorem dX12_back_55 : decode cX12_back 55 = .ok (.goto (-26), 3) := by decide +kernel
theorem dX12_back_58 : decode cX12_back 58 = .ok (.iconst 0, 1) := by decide +kernel
theorem dX12_back_59 : decode cX12_back 59 = .ok (.istore_n 2, 1) := by decide +kernel
theorem dX12_back_60 : decode cX12_back 60 = .ok (.iload_n 2, 1) := by decide +kernel
theorem dX12_back_61 : decode cX12_back 61 = .ok (.sipush 10240, 3) := by decide +kernel
theorem dX12_back_64 : decode cX12_back 64 = .ok (.if_icmp .ge 27, 3) := by decide +kernel
theorem dX12_back_67 : decode cX12_back 67 = .ok (.aload_n 0, 1) := by decide +kernel
theorem dX12_back_68 : decode cX12_back 68 = .ok (.getfield 13, 3) := by decide +kernel
theorem dX12_back_71 : decode cX12_back 71 = .ok (.iload_n 2, 1) := by decide +kernel
theorem dX12_back_72 : decode cX12_back 72 = .ok (.aload_n 0, 1) := by decide +kernel
theorem dX12_back_73 : decode cX12_back 73 = .ok (.getfield 20, 3) := by decide +kernel
theorem dX12_back_76 : decode cX12_back 76 = .ok (.sipush 10240, 3) := by decide +kernel
theorem dX12_back_79 : decode cX12_back 79 = .ok (.iload_n 1, 1) := by decide +kernel
theorem dX12_back_80 : decode cX12_back 80 = .ok (.imul, 1) := by decide +kernel
theorem dX12_back_81 : decode cX12_back 81 = .ok (.iload_n 2, 1) := by decide +kernel
theorem dX12_back_82 : decode cX12_back 82 = .ok (.iadd, 1) := by decide +kernel
theorem dX12_back_83 : decode cX12_back 83 = .ok (.baload, 1) := by decide +kernel
theorem dX12_back_84 : decode cX12_back 84 = .ok (.bastore, 1) := by decide +kernel
theorem dX12_back_85 : decode cX12_back 85 = .ok (.iinc 2 1, 3) := by decide +kernel
theorem dX12_back_88 : decode cX12_back 88 = .ok (.goto (-28), 3) := by decide +kernel
theorem dX12_back_91 : decode cX12_back 91 = .ok (.iconst 0, 1) := by decide +kernel
theorem dX12_back_92 : decode cX12_back 92 = .ok (.ireturn, 1) := by decide +kernel
theorem dX12_isWorld_0 : decode cX12_isWorld 0 = .ok (.aload_n 0, 1) := by decide +kernel
theorem dX12_isWorld_1 : decode cX12_isWorld 1 = .ok (.getfield 9, 3) := by decide +kernel
theorem dX12_isWorld_4 : decode cX12_isWorld 4 = .ok (.iconst 0, 1) := by decide +kernel
theorem dX12_isWorld_5 : decode cX12_isWorld 5 = .ok (.iaload, 1) := by decide +kernel
theorem dX12_isWorld_6 : decode cX12_isWorld 6 = .ok (.ifCond .le 7, 3) := by decide +kernel
theorem dX12_isWorld_9 : decode cX12_isWorld 9 = .ok (.iconst 1, 1) := by decide +kernel
theorem dX12_isWorld_10 : decode cX12_isWorld 10 = .ok (.goto 4, 3) := by decide +kernel
theorem dX12_isWorld_13 : decode cX12_isWorld 13 = .ok (.iconst 0, 1) := by decide +kernel
theorem dX12_isWorld_14 : decode cX12_isWorld 14 = .ok (.ireturn, 1) := by decide +kernel
theorem dX12_isRegister_0 : decode cX12_isRegister 0 = .ok (.aload_n 0, 1) := by decide +kernel
theorem dX12_isRegister_1 : decode cX12_isRegister 1 = .ok (.invokevirtual 98, 3) := by decide +kernel
theorem dX12_isRegister_4 : decode cX12_isRegister 4 = .ok (.ifCond .eq 19, 3) := by decide +kernel
theorem dX12_isRegister_7 : decode cX12_isRegister 7 = .ok (.iload_n 1, 1) := by decide +kernel
theorem dX12_isRegister_8 : decode cX12_isRegister 8 = .ok (.i2l, 1) := by decide +kernel
theorem dX12_isRegister_9 : decode cX12_isRegister 9 = .ok (.lconst 0, 1) := by decide +kernel
theorem dX12_isRegister_10 : decode cX12_isRegister 10 = .ok (.ldc2_w 102, 3) := by decide +kernel
theorem dX12_isRegister_13 : decode cX12_isRegister 13 = .ok (.invokestatic 94, 3) := by decide +kernel
theorem dX12_isRegister_16 : decode cX12_isRegister 16 = .ok (.ifCond .eq 7, 3) := by decide +kernel
theorem dX12_isRegister_19 : decode cX12_isRegister 19 = .ok (.iconst 1, 1) := by decide +kernel
theorem dX12_isRegister_20 : decode cX12_isRegister 20 = .ok (.goto 4, 3) := by decide +kernel
theorem dX12_isRegister_23 : decode cX12_isRegister 23 = .ok (.iconst 0, 1) := by decide +kernel
theorem dX12_isRegister_24 : decode cX12_isRegister 24 = .ok (.ireturn, 1) := by decide +kernel
theorem dX12_many_0 : decode cX12_many 0 = .ok (.aload_n 0, 1) := by decide +kernel
theorem dX12_many_1 : decode cX12_many 1 = .ok (.invokevirtual 98, 3) := by decide +kernel
theorem dX12_many_4 : decode cX12_many 4 = .ok (.ifCond .eq 14, 3) := by decide +kernel
theorem dX12_many_7 : decode cX12_many 7 = .ok (.iconst 1, 1) := by decide +kernel
theorem dX12_many_8 : decode cX12_many 8 = .ok (.aload_n 0, 1) := by decide +kernel
theorem dX12_many_9 : decode cX12_many 9 = .ok (.getfield 9, 3) := by decide +kernel
theorem dX12_many_12 : decode cX12_many 12 = .ok (.iconst 0, 1) := by decide +kernel
theorem dX12_many_13 : decode cX12_many 13 = .ok (.iaload, 1) := by decide +kernel
theorem dX12_many_14 : decode cX12_many 14 = .ok (.ishl, 1) := by decide +kernel
theorem dX12_many_15 : decode cX12_many 15 = .ok (.goto 4, 3) := by decide +kernel
theorem dX12_many_18 : decode cX12_many 18 = .ok (.iconst 0, 1) := by decide +kernel
theorem dX12_many_19 : decode cX12_many 19 = .ok (.ireturn, 1) := by decide +kernel
theorem dX12_isSet_0 : decode cX12_isSet 0 = .ok (.iload_n 1, 1) := by decide +kernel
theorem dX12_isSet_1 : decode cX12_isSet 1 = .ok (.i2l, 1) := by decide +kernel
theorem dX12_isSet_2 : decode cX12_isSet 2 = .ok (.lconst 0, 1) := by decide +kernel
theorem dX12_isSet_3 : decode cX12_isSet 3 = .ok (.aload_n 0, 1) := by decide +kernel
theorem dX12_isSet_4 : decode cX12_isSet 4 = .ok (.invokevirtual 104, 3) := by decide +kernel
theorem dX12_isSet_7 : decode cX12_isSet 7 = .ok (.iconst 1, 1) := by decide +kernel
theorem dX12_isSet_8 : decode cX12_isSet 8 = .ok (.isub, 1) := by decide +kernel
theorem dX12_isSet_9 : decode cX12_isSet 9 = .ok (.i2l, 1) := by decide +kernel
theorem dX12_isSet_10 : decode cX12_isSet 10 = .ok (.invokestatic 94, 3) := by decide +kernel
theorem dX12_isSet_13 : decode cX12_isSet 13 = .ok (.ireturn, 1) := by decide +kernel
theorem dX12_isName_0 : decode cX12_isName 0 = .ok (.iload_n 1, 1) := by decide +kernel
theorem dX12_isName_1 : decode cX12_isName 1 = .ok (.i2l, 1) := by decide +kernel
theorem dX12_isName_2 : decode cX12_isName 2 = .ok (.lconst 0, 1) := by decide +kernel
theorem dX12_isName_3 : decode cX12_isName 3 = .ok (.aload_n 0, 1) := by decide +kernel
theorem dX12_isName_4 : decode cX12_isName 4 = .ok (.getfield 9, 3) := by decide +kernel
theorem dX12_isName_7 : decode cX12_isName 7 = .ok (.iconst 0, 1) := by decide +kernel
theorem dX12_isName_8 : decode cX12_isName 8 = .ok (.iaload, 1) := by decide +kernel
theorem dX12_isName_9 : decode cX12_isName 9 = .ok (.iconst 1, 1) := by decide +kernel
theorem dX12_isName_10 : decode cX12_isName 10 = .ok (.isub, 1) := by decide +kernel
theorem dX12_isName_11 : decode cX12_isName 11 = .ok (.i2l, 1) := by decide +kernel
theorem dX12_isName_12 : decode cX12_isName 12 = .ok (.invokestatic 94, 3) := by decide +kernel
theorem dX12_isName_15 : decode cX12_isName 15 = .ok (.ireturn, 1) := by decide +kernel
theorem dX12_of_0 : decode cX12_of 0 = .ok (.aload_n 0, 1) := by decide +kernel
theorem dX12_of_1 : decode cX12_of 1 = .ok (.getfield 13, 3) := by decide +kernel
theorem dX12_of_4 : decode cX12_of 4 = .ok (.sipush 1024, 3) := by decide +kernel
theorem dX12_of_7 : decode cX12_of 7 = .ok (.iload_n 1, 1) := by decide +kernel
theorem dX12_of_8 : decode cX12_of 8 = .ok (.imul, 1) := by decide +kernel
theorem dX12_of_9 : decode cX12_of 9 = .ok (.iload_n 2, 1) := by decide +kernel
theorem dX12_of_10 : decode cX12_of 10 = .ok (.iadd, 1) := by decide +kernel
theorem dX12_of_11 : decode cX12_of 11 = .ok (.baload, 1) := by decide +kernel
theorem dX12_of_12 : decode cX12_of 12 = .ok (.ireturn, 1) := by decide +kernel
theorem dX12_namesOf_0 : decode cX12_namesOf 0 = .ok (.iconst 0, 1) := by decide +kernel
theorem dX12_namesOf_1 : decode cX12_namesOf 1 = .ok (.istore_n 1, 1) := by decide +kernel
theorem dX12_namesOf_2 : decode cX12_namesOf 2 = .ok (.iconst 0, 1) := by decide +kernel
theorem dX12_namesOf_3 : decode cX12_namesOf 3 = .ok (.istore_n 2, 1) := by decide +kernel
theorem dX12_namesOf_4 : decode cX12_namesOf 4 = .ok (.iload_n 2, 1) := by decide +kernel
theorem dX12_namesOf_5 : decode cX12_namesOf 5 = .ok (.bipush 10, 2) := by decide +kernel
theorem dX12_namesOf_7 : decode cX12_namesOf 7 = .ok (.if_icmp .ge 17, 3) := by decide +kernel
theorem dX12_namesOf_10 : decode cX12_namesOf 10 = .ok (.iload_n 1, 1) := by decide +kernel
theorem dX12_namesOf_11 : decode cX12_namesOf 11 = .ok (.iload_n 0, 1) := by decide +kernel
theorem dX12_namesOf_12 : decode cX12_namesOf 12 = .ok (.iload_n 2, 1) := by decide +kernel
theorem dX12_namesOf_13 : decode cX12_namesOf 13 = .ok (.ishr, 1) := by decide +kernel
theorem dX12_namesOf_14 : decode cX12_namesOf 14 = .ok (.iconst 1, 1) := by decide +kernel
theorem dX12_namesOf_15 : decode cX12_namesOf 15 = .ok (.iand, 1) := by decide +kernel
theorem dX12_namesOf_16 : decode cX12_namesOf 16 = .ok (.iadd, 1) := by decide +kernel
theorem dX12_namesOf_17 : decode cX12_namesOf 17 = .ok (.istore_n 1, 1) := by decide +kernel
theorem dX12_namesOf_18 : decode cX12_namesOf 18 = .ok (.iinc 2 1, 3) := by decide +kernel
theorem dX12_namesOf_21 : decode cX12_namesOf 21 = .ok (.goto (-17), 3) := by decide +kernel
theorem dX12_namesOf_24 : decode cX12_namesOf 24 = .ok (.iload_n 1, 1) := by decide +kernel
theorem dX12_namesOf_25 : decode cX12_namesOf 25 = .ok (.ireturn, 1) := by decide +kernel
theorem dX12_feed_0 : decode cX12_feed 0 = .ok (.aload_n 0, 1) := by decide +kernel
theorem dX12_feed_1 : decode cX12_feed 1 = .ok (.getfield 107, 3) := by decide +kernel
theorem dX12_feed_4 : decode cX12_feed 4 = .ok (.bipush 20, 2) := by decide +kernel
theorem dX12_feed_6 : decode cX12_feed 6 = .ok (.iadd, 1) := by decide +kernel
theorem dX12_feed_7 : decode cX12_feed 7 = .ok (.sipush 600, 3) := by decide +kernel
theorem dX12_feed_10 : decode cX12_feed 10 = .ok (.if_icmp .le 5, 3) := by decide +kernel
theorem dX12_feed_13 : decode cX12_feed 13 = .ok (.iconst (-1), 1) := by decide +kernel
theorem dX12_feed_14 : decode cX12_feed 14 = .ok (.ireturn, 1) := by decide +kernel
theorem dX12_feed_15 : decode cX12_feed 15 = .ok (.aload_n 0, 1) := by decide +kernel
theorem dX12_feed_16 : decode cX12_feed 16 = .ok (.getfield 30, 3) := by decide +kernel
theorem dX12_feed_19 : decode cX12_feed 19 = .ok (.iconst 0, 1) := by decide +kernel
theorem dX12_feed_20 : decode cX12_feed 20 = .ok (.iload_n 1, 1) := by decide +kernel
theorem dX12_feed_21 : decode cX12_feed 21 = .ok (.iastore, 1) := by decide +kernel
theorem dX12_feed_22 : decode cX12_feed 22 = .ok (.aload_n 0, 1) := by decide +kernel
theorem dX12_feed_23 : decode cX12_feed 23 = .ok (.getfield 30, 3) := by decide +kernel
theorem dX12_feed_26 : decode cX12_feed 26 = .ok (.iconst 1, 1) := by decide +kernel
theorem dX12_feed_27 : decode cX12_feed 27 = .ok (.iload_n 2, 1) := by decide +kernel
theorem dX12_feed_28 : decode cX12_feed 28 = .ok (.iastore, 1) := by decide +kernel
theorem dX12_feed_29 : decode cX12_feed 29 = .ok (.aload_n 0, 1) := by decide +kernel
theorem dX12_feed_30 : decode cX12_feed 30 = .ok (.getfield 30, 3) := by decide +kernel
theorem dX12_feed_33 : decode cX12_feed 33 = .ok (.iconst 2, 1) := by decide +kernel
theorem dX12_feed_34 : decode cX12_feed 34 = .ok (.iload_n 3, 1) := by decide +kernel
theorem dX12_feed_35 : decode cX12_feed 35 = .ok (.iastore, 1) := by decide +kernel
theorem dX12_feed_36 : decode cX12_feed 36 = .ok (.aload_n 0, 1) := by decide +kernel
theorem dX12_feed_37 : decode cX12_feed 37 = .ok (.getfield 30, 3) := by decide +kernel
theorem dX12_feed_40 : decode cX12_feed 40 = .ok (.iconst 3, 1) := by decide +kernel
theorem dX12_feed_41 : decode cX12_feed 41 = .ok (.iload 4, 2) := by decide +kernel
theorem dX12_feed_43 : decode cX12_feed 43 = .ok (.iastore, 1) := by decide +kernel
theorem dX12_feed_44 : decode cX12_feed 44 = .ok (.aload_n 0, 1) := by decide +kernel
theorem dX12_feed_45 : decode cX12_feed 45 = .ok (.getfield 30, 3) := by decide +kernel
theorem dX12_feed_48 : decode cX12_feed 48 = .ok (.iconst 4, 1) := by decide +kernel
theorem dX12_feed_49 : decode cX12_feed 49 = .ok (.iload 5, 2) := by decide +kernel
theorem dX12_feed_51 : decode cX12_feed 51 = .ok (.iastore, 1) := by decide +kernel
theorem dX12_feed_52 : decode cX12_feed 52 = .ok (.iconst 0, 1) := by decide +kernel
theorem dX12_feed_53 : decode cX12_feed 53 = .ok (.istore 6, 2) := by decide +kernel
theorem dX12_feed_55 : decode cX12_feed 55 = .ok (.iload 6, 2) := by decide +kernel
theorem dX12_feed_57 : decode cX12_feed 57 = .ok (.bipush 20, 2) := by decide +kernel
theorem dX12_feed_59 : decode cX12_feed 59 = .ok (.if_icmp .ge 42, 3) := by decide +kernel
theorem dX12_feed_62 : decode cX12_feed 62 = .ok (.aload_n 0, 1) := by decide +kernel
theorem dX12_feed_63 : decode cX12_feed 63 = .ok (.getfield 26, 3) := by decide +kernel
theorem dX12_feed_66 : decode cX12_feed 66 = .ok (.aload_n 0, 1) := by decide +kernel
theorem dX12_feed_67 : decode cX12_feed 67 = .ok (.getfield 107, 3) := by decide +kernel
theorem dX12_feed_70 : decode cX12_feed 70 = .ok (.iload 6, 2) := by decide +kernel
theorem dX12_feed_72 : decode cX12_feed 72 = .ok (.iadd, 1) := by decide +kernel
theorem dX12_feed_73 : decode cX12_feed 73 = .ok (.aload_n 0, 1) := by decide +kernel
theorem dX12_feed_74 : decode cX12_feed 74 = .ok (.getfield 30, 3) := by decide +kernel
theorem dX12_feed_77 : decode cX12_feed 77 = .ok (.iload 6, 2) := by decide +kernel
theorem dX12_feed_79 : decode cX12_feed 79 = .ok (.iconst 4, 1) := by decide +kernel
theorem dX12_feed_80 : decode cX12_feed 80 = .ok (.idiv, 1) := by decide +kernel
theorem dX12_feed_81 : decode cX12_feed 81 = .ok (.iaload, 1) := by decide +kernel
theorem dX12_feed_82 : decode cX12_feed 82 = .ok (.bipush 24, 2) := by decide +kernel
theorem dX12_feed_84 : decode cX12_feed 84 = .ok (.bipush 8, 2) := by decide +kernel
theorem dX12_feed_86 : decode cX12_feed 86 = .ok (.iload 6, 2) := by decide +kernel
theorem dX12_feed_88 : decode cX12_feed 88 = .ok (.iconst 4, 1) := by decide +kernel
theorem dX12_feed_89 : decode cX12_feed 89 = .ok (.irem, 1) := by decide +kernel
theorem dX12_feed_90 : decode cX12_feed 90 = .ok (.imul, 1) := by decide +kernel
theorem dX12_feed_91 : decode cX12_feed 91 = .ok (.isub, 1) := by decide +kernel
theorem dX12_feed_92 : decode cX12_feed 92 = .ok (.ishr, 1) := by decide +kernel
theorem dX12_feed_93 : decode cX12_feed 93 = .ok (.i2b, 1) := by decide +kernel
theorem dX12_feed_94 : decode cX12_feed 94 = .ok (.bastore, 1) := by decide +kernel
theorem dX12_feed_95 : decode cX12_feed 95 = .ok (.iinc 6 1, 3) := by decide +kernel
theorem dX12_feed_98 : decode cX12_feed 98 = .ok (.goto (-43), 3) := by decide +kernel
theorem dX12_feed_101 : decode cX12_feed 101 = .ok (.aload_n 0, 1) := by decide +kernel
theorem dX12_feed_102 : decode cX12_feed 102 = .ok (.dup, 1) := by decide +kernel
theorem dX12_feed_103 : decode cX12_feed 103 = .ok (.getfield 107, 3) := by decide +kernel
theorem dX12_feed_106 : decode cX12_feed 106 = .ok (.bipush 20, 2) := by decide +kernel
theorem dX12_feed_108 : decode cX12_feed 108 = .ok (.iadd, 1) := by decide +kernel
theorem dX12_feed_109 : decode cX12_feed 109 = .ok (.putfield 107, 3) := by decide +kernel
theorem dX12_feed_112 : decode cX12_feed 112 = .ok (.aload_n 0, 1) := by decide +kernel
theorem dX12_feed_113 : decode cX12_feed 113 = .ok (.getfield 107, 3) := by decide +kernel
theorem dX12_feed_116 : decode cX12_feed 116 = .ok (.ireturn, 1) := by decide +kernel
theorem dX12_end_0 : decode cX12_end 0 = .ok (.iload_n 1, 1) := by decide +kernel
theorem dX12_end_1 : decode cX12_end 1 = .ok (.i2l, 1) := by decide +kernel
theorem dX12_end_2 : decode cX12_end 2 = .ok (.lconst 0, 1) := by decide +kernel
theorem dX12_end_3 : decode cX12_end 3 = .ok (.aload_n 0, 1) := by decide +kernel
theorem dX12_end_4 : decode cX12_end 4 = .ok (.getfield 107, 3) := by decide +kernel
theorem dX12_end_7 : decode cX12_end 7 = .ok (.i2l, 1) := by decide +kernel
theorem dX12_end_8 : decode cX12_end 8 = .ok (.invokestatic 94, 3) := by decide +kernel
theorem dX12_end_11 : decode cX12_end 11 = .ok (.ifCond .ne 5, 3) := by decide +kernel
theorem dX12_end_14 : decode cX12_end 14 = .ok (.iconst (-1), 1) := by decide +kernel
theorem dX12_end_15 : decode cX12_end 15 = .ok (.ireturn, 1) := by decide +kernel
theorem dX12_end_16 : decode cX12_end 16 = .ok (.aload_n 0, 1) := by decide +kernel
theorem dX12_end_17 : decode cX12_end 17 = .ok (.iload_n 1, 1) := by decide +kernel
theorem dX12_end_18 : decode cX12_end 18 = .ok (.putfield 107, 3) := by decide +kernel
theorem dX12_end_21 : decode cX12_end 21 = .ok (.iload_n 1, 1) := by decide +kernel
theorem dX12_end_22 : decode cX12_end 22 = .ok (.ireturn, 1) := by decide +kernel
theorem dX12_see_0 : decode cX12_see 0 = .ok (.iload_n 1, 1) := by decide +kernel
theorem dX12_see_1 : decode cX12_see 1 = .ok (.aload_n 0, 1) := by decide +kernel
theorem dX12_see_2 : decode cX12_see 2 = .ok (.getfield 110, 3) := by decide +kernel
theorem dX12_see_5 : decode cX12_see 5 = .ok (.if_icmp .ge 16, 3) := by decide +kernel
theorem dX12_see_8 : decode cX12_see 8 = .ok (.aload_n 0, 1) := by decide +kernel
theorem dX12_see_9 : decode cX12_see 9 = .ok (.getfield 26, 3) := by decide +kernel
theorem dX12_see_12 : decode cX12_see 12 = .ok (.iload_n 1, 1) := by decide +kernel
theorem dX12_see_13 : decode cX12_see 13 = .ok (.baload, 1) := by decide +kernel
theorem dX12_see_14 : decode cX12_see 14 = .ok (.sipush 255, 3) := by decide +kernel
theorem dX12_see_17 : decode cX12_see 17 = .ok (.iand, 1) := by decide +kernel
theorem dX12_see_18 : decode cX12_see 18 = .ok (.goto 4, 3) := by decide +kernel
theorem dX12_see_21 : decode cX12_see 21 = .ok (.iconst (-1), 1) := by decide +kernel
theorem dX12_see_22 : decode cX12_see 22 = .ok (.ireturn, 1) := by decide +kernel
theorem dX12_isSign_0 : decode cX12_isSign 0 = .ok (.iload_n 0, 1) := by decide +kernel
theorem dX12_isSign_1 : decode cX12_isSign 1 = .ok (.bipush 59, 2) := by decide +kernel
theorem dX12_isSign_3 : decode cX12_isSign 3 = .ok (.if_icmp .eq 81, 3) := by decide +kernel
theorem dX12_isSign_6 : decode cX12_isSign 6 = .ok (.iload_n 0, 1) := by decide +kernel
theorem dX12_isSign_7 : decode cX12_isSign 7 = .ok (.bipush 61, 2) := by decide +kernel
theorem dX12_isSign_9 : decode cX12_isSign 9 = .ok (.if_icmp .eq 75, 3) := by decide +kernel
theorem dX12_isSign_12 : decode cX12_isSign 12 = .ok (.iload_n 0, 1) := by decide +kernel
theorem dX12_isSign_13 : decode cX12_isSign 13 = .ok (.bipush 43, 2) := by decide +kernel
theorem dX12_isSign_15 : decode cX12_isSign 15 = .ok (.if_icmp .eq 69, 3) := by decide +kernel
theorem dX12_isSign_18 : decode cX12_isSign 18 = .ok (.iload_n 0, 1) := by decide +kernel
theorem dX12_isSign_19 : decode cX12_isSign 19 = .ok (.bipush 45, 2) := by decide +kernel
theorem dX12_isSign_21 : decode cX12_isSign 21 = .ok (.if_icmp .eq 63, 3) := by decide +kernel
theorem dX12_isSign_24 : decode cX12_isSign 24 = .ok (.iload_n 0, 1) := by decide +kernel
theorem dX12_isSign_25 : decode cX12_isSign 25 = .ok (.bipush 38, 2) := by decide +kernel
theorem dX12_isSign_27 : decode cX12_isSign 27 = .ok (.if_icmp .eq 57, 3) := by decide +kernel
theorem dX12_isSign_30 : decode cX12_isSign 30 = .ok (.iload_n 0, 1) := by decide +kernel
theorem dX12_isSign_31 : decode cX12_isSign 31 = .ok (.bipush 42, 2) := by decide +kernel
theorem dX12_isSign_33 : decode cX12_isSign 33 = .ok (.if_icmp .eq 51, 3) := by decide +kernel
theorem dX12_isSign_36 : decode cX12_isSign 36 = .ok (.iload_n 0, 1) := by decide +kernel
theorem dX12_isSign_37 : decode cX12_isSign 37 = .ok (.bipush 47, 2) := by decide +kernel
theorem dX12_isSign_39 : decode cX12_isSign 39 = .ok (.if_icmp .eq 45, 3) := by decide +kernel
theorem dX12_isSign_42 : decode cX12_isSign 42 = .ok (.iload_n 0, 1) := by decide +kernel
theorem dX12_isSign_43 : decode cX12_isSign 43 = .ok (.bipush 37, 2) := by decide +kernel
theorem dX12_isSign_45 : decode cX12_isSign 45 = .ok (.if_icmp .eq 39, 3) := by decide +kernel
theorem dX12_isSign_48 : decode cX12_isSign 48 = .ok (.iload_n 0, 1) := by decide +kernel
theorem dX12_isSign_49 : decode cX12_isSign 49 = .ok (.bipush 35, 2) := by decide +kernel
theorem dX12_isSign_51 : decode cX12_isSign 51 = .ok (.if_icmp .eq 33, 3) := by decide +kernel
theorem dX12_isSign_54 : decode cX12_isSign 54 = .ok (.iload_n 0, 1) := by decide +kernel
theorem dX12_isSign_55 : decode cX12_isSign 55 = .ok (.bipush 40, 2) := by decide +kernel
theorem dX12_isSign_57 : decode cX12_isSign 57 = .ok (.if_icmp .eq 27, 3) := by decide +kernel
theorem dX12_isSign_60 : decode cX12_isSign 60 = .ok (.iload_n 0, 1) := by decide +kernel
theorem dX12_isSign_61 : decode cX12_isSign 61 = .ok (.bipush 41, 2) := by decide +kernel
theorem dX12_isSign_63 : decode cX12_isSign 63 = .ok (.if_icmp .eq 21, 3) := by decide +kernel
theorem dX12_isSign_66 : decode cX12_isSign 66 = .ok (.iload_n 0, 1) := by decide +kernel
theorem dX12_isSign_67 : decode cX12_isSign 67 = .ok (.bipush 123, 2) := by decide +kernel
theorem dX12_isSign_69 : decode cX12_isSign 69 = .ok (.if_icmp .eq 15, 3) := by decide +kernel
theorem dX12_isSign_72 : decode cX12_isSign 72 = .ok (.iload_n 0, 1) := by decide +kernel
theorem dX12_isSign_73 : decode cX12_isSign 73 = .ok (.bipush 125, 2) := by decide +kernel
theorem dX12_isSign_75 : decode cX12_isSign 75 = .ok (.if_icmp .eq 9, 3) := by decide +kernel
theorem dX12_isSign_78 : decode cX12_isSign 78 = .ok (.iload_n 0, 1) := by decide +kernel
theorem dX12_isSign_79 : decode cX12_isSign 79 = .ok (.bipush 44, 2) := by decide +kernel
theorem dX12_isSign_81 : decode cX12_isSign 81 = .ok (.if_icmp .ne 7, 3) := by decide +kernel
theorem dX12_isSign_84 : decode cX12_isSign 84 = .ok (.iconst 1, 1) := by decide +kernel
theorem dX12_isSign_85 : decode cX12_isSign 85 = .ok (.goto 4, 3) := by decide +kernel
theorem dX12_isSign_88 : decode cX12_isSign 88 = .ok (.iconst 0, 1) := by decide +kernel
theorem dX12_isSign_89 : decode cX12_isSign 89 = .ok (.ireturn, 1) := by decide +kernel
theorem dX12_advance_0 : decode cX12_advance 0 = .ok (.aload_n 0, 1) := by decide +kernel
theorem dX12_advance_1 : decode cX12_advance 1 = .ok (.aload_n 0, 1) := by decide +kernel
theorem dX12_advance_2 : decode cX12_advance 2 = .ok (.getfield 113, 3) := by decide +kernel
theorem dX12_advance_5 : decode cX12_advance 5 = .ok (.invokevirtual 116, 3) := by decide +kernel
theorem dX12_advance_8 : decode cX12_advance 8 = .ok (.bipush 32, 2) := by decide +kernel
theorem dX12_advance_10 : decode cX12_advance 10 = .ok (.if_icmp .eq 16, 3) := by decide +kernel
theorem dX12_advance_13 : decode cX12_advance 13 = .ok (.aload_n 0, 1) := by decide +kernel
theorem dX12_advance_14 : decode cX12_advance 14 = .ok (.aload_n 0, 1) := by decide +kernel
theorem dX12_advance_15 : decode cX12_advance 15 = .ok (.getfield 113, 3) := by decide +kernel
theorem dX12_advance_18 : decode cX12_advance 18 = .ok (.invokevirtual 116, 3) := by decide +kernel
theorem dX12_advance_21 : decode cX12_advance 21 = .ok (.bipush 10, 2) := by decide +kernel
theorem dX12_advance_23 : decode cX12_advance 23 = .ok (.if_icmp .ne 16, 3) := by decide +kernel
theorem dX12_advance_26 : decode cX12_advance 26 = .ok (.aload_n 0, 1) := by decide +kernel
theorem dX12_advance_27 : decode cX12_advance 27 = .ok (.dup, 1) := by decide +kernel
theorem dX12_advance_28 : decode cX12_advance 28 = .ok (.getfield 113, 3) := by decide +kernel
theorem dX12_advance_31 : decode cX12_advance 31 = .ok (.iconst 1, 1) := by decide +kernel
theorem dX12_advance_32 : decode cX12_advance 32 = .ok (.iadd, 1) := by decide +kernel
theorem dX12_advance_33 : decode cX12_advance 33 = .ok (.putfield 113, 3) := by decide +kernel
theorem dX12_advance_36 : decode cX12_advance 36 = .ok (.goto (-36), 3) := by decide +kernel
theorem dX12_advance_39 : decode cX12_advance 39 = .ok (.aload_n 0, 1) := by decide +kernel
theorem dX12_advance_40 : decode cX12_advance 40 = .ok (.aload_n 0, 1) := by decide +kernel
theorem dX12_advance_41 : decode cX12_advance 41 = .ok (.getfield 113, 3) := by decide +kernel
theorem dX12_advance_44 : decode cX12_advance 44 = .ok (.putfield 120, 3) := by decide +kernel
theorem dX12_advance_47 : decode cX12_advance 47 = .ok (.aload_n 0, 1) := by decide +kernel
theorem dX12_advance_48 : decode cX12_advance 48 = .ok (.aload_n 0, 1) := by decide +kernel
theorem dX12_advance_49 : decode cX12_advance 49 = .ok (.getfield 113, 3) := by decide +kernel
theorem dX12_advance_52 : decode cX12_advance 52 = .ok (.invokevirtual 116, 3) := by decide +kernel
theorem dX12_advance_55 : decode cX12_advance 55 = .ok (.istore_n 1, 1) := by decide +kernel
theorem dX12_advance_56 : decode cX12_advance 56 = .ok (.iload_n 1, 1) := by decide +kernel
theorem dX12_advance_57 : decode cX12_advance 57 = .ok (.iconst (-1), 1) := by decide +kernel
theorem dX12_advance_58 : decode cX12_advance 58 = .ok (.if_icmp .ne 11, 3) := by decide +kernel
theorem dX12_advance_61 : decode cX12_advance 61 = .ok (.aload_n 0, 1) := by decide +kernel
theorem dX12_advance_62 : decode cX12_advance 62 = .ok (.iconst 0, 1) := by decide +kernel
theorem dX12_advance_63 : decode cX12_advance 63 = .ok (.putfield 123, 3) := by decide +kernel
theorem dX12_advance_66 : decode cX12_advance 66 = .ok (.goto 174, 3) := by decide +kernel
theorem dX12_advance_69 : decode cX12_advance 69 = .ok (.iload_n 1, 1) := by decide +kernel
theorem dX12_advance_70 : decode cX12_advance 70 = .ok (.i2l, 1) := by decide +kernel
theorem dX12_advance_71 : decode cX12_advance 71 = .ok (.ldc2_w 126, 3) := by decide +kernel
theorem dX12_advance_74 : decode cX12_advance 74 = .ok (.ldc2_w 128, 3) := by decide +kernel
theorem dX12_advance_77 : decode cX12_advance 77 = .ok (.invokestatic 94, 3) := by decide +kernel
theorem dX12_advance_80 : decode cX12_advance 80 = .ok (.ifCond .eq 45, 3) := by decide +kernel
theorem dX12_advance_83 : decode cX12_advance 83 = .ok (.aload_n 0, 1) := by decide +kernel
theorem dX12_advance_84 : decode cX12_advance 84 = .ok (.aload_n 0, 1) := by decide +kernel
theorem dX12_advance_85 : decode cX12_advance 85 = .ok (.getfield 113, 3) := by decide +kernel
theorem dX12_advance_88 : decode cX12_advance 88 = .ok (.invokevirtual 116, 3) := by decide +kernel
theorem dX12_advance_91 : decode cX12_advance 91 = .ok (.i2l, 1) := by decide +kernel
theorem dX12_advance_92 : decode cX12_advance 92 = .ok (.ldc2_w 126, 3) := by decide +kernel
theorem dX12_advance_95 : decode cX12_advance 95 = .ok (.ldc2_w 128, 3) := by decide +kernel
theorem dX12_advance_98 : decode cX12_advance 98 = .ok (.invokestatic 94, 3) := by decide +kernel
theorem dX12_advance_101 : decode cX12_advance 101 = .ok (.ifCond .eq 16, 3) := by decide +kernel
theorem dX12_advance_104 : decode cX12_advance 104 = .ok (.aload_n 0, 1) := by decide +kernel
theorem dX12_advance_105 : decode cX12_advance 105 = .ok (.dup, 1) := by decide +kernel
theorem dX12_advance_106 : decode cX12_advance 106 = .ok (.getfield 113, 3) := by decide +kernel
theorem dX12_advance_109 : decode cX12_advance 109 = .ok (.iconst 1, 1) := by decide +kernel
theorem dX12_advance_110 : decode cX12_advance 110 = .ok (.iadd, 1) := by decide +kernel
theorem dX12_advance_111 : decode cX12_advance 111 = .ok (.putfield 113, 3) := by decide +kernel
theorem dX12_advance_114 : decode cX12_advance 114 = .ok (.goto (-31), 3) := by decide +kernel
theorem dX12_advance_117 : decode cX12_advance 117 = .ok (.aload_n 0, 1) := by decide +kernel
theorem dX12_advance_118 : decode cX12_advance 118 = .ok (.iconst 1, 1) := by decide +kernel
theorem dX12_advance_119 : decode cX12_advance 119 = .ok (.putfield 123, 3) := by decide +kernel
theorem dX12_advance_122 : decode cX12_advance 122 = .ok (.goto 118, 3) := by decide +kernel
theorem dX12_advance_125 : decode cX12_advance 125 = .ok (.iload_n 1, 1) := by decide +kernel
theorem dX12_advance_126 : decode cX12_advance 126 = .ok (.i2l, 1) := by decide +kernel
theorem dX12_advance_127 : decode cX12_advance 127 = .ok (.ldc2_w 130, 3) := by decide +kernel
theorem dX12_advance_130 : decode cX12_advance 130 = .ok (.ldc2_w 132, 3) := by decide +kernel
theorem dX12_advance_133 : decode cX12_advance 133 = .ok (.invokestatic 94, 3) := by decide +kernel
theorem dX12_advance_136 : decode cX12_advance 136 = .ok (.ifCond .eq 78, 3) := by decide +kernel
theorem dX12_advance_139 : decode cX12_advance 139 = .ok (.aload_n 0, 1) := by decide +kernel
theorem dX12_advance_140 : decode cX12_advance 140 = .ok (.iconst 0, 1) := by decide +kernel
theorem dX12_advance_141 : decode cX12_advance 141 = .ok (.putfield 134, 3) := by decide +kernel
theorem dX12_advance_144 : decode cX12_advance 144 = .ok (.aload_n 0, 1) := by decide +kernel
theorem dX12_advance_145 : decode cX12_advance 145 = .ok (.aload_n 0, 1) := by decide +kernel
theorem dX12_advance_146 : decode cX12_advance 146 = .ok (.getfield 113, 3) := by decide +kernel
theorem dX12_advance_149 : decode cX12_advance 149 = .ok (.invokevirtual 116, 3) := by decide +kernel
theorem dX12_advance_152 : decode cX12_advance 152 = .ok (.i2l, 1) := by decide +kernel
theorem dX12_advance_153 : decode cX12_advance 153 = .ok (.ldc2_w 130, 3) := by decide +kernel
theorem dX12_advance_156 : decode cX12_advance 156 = .ok (.ldc2_w 132, 3) := by decide +kernel
theorem dX12_advance_159 : decode cX12_advance 159 = .ok (.invokestatic 94, 3) := by decide +kernel
theorem dX12_advance_162 : decode cX12_advance 162 = .ok (.ifCond .eq 44, 3) := by decide +kernel
theorem dX12_advance_165 : decode cX12_advance 165 = .ok (.aload_n 0, 1) := by decide +kernel
theorem dX12_advance_166 : decode cX12_advance 166 = .ok (.ldc 137, 2) := by decide +kernel
theorem dX12_advance_168 : decode cX12_advance 168 = .ok (.bipush 10, 2) := by decide +kernel
theorem dX12_advance_170 : decode cX12_advance 170 = .ok (.aload_n 0, 1) := by decide +kernel
theorem dX12_advance_171 : decode cX12_advance 171 = .ok (.getfield 134, 3) := by decide +kernel
theorem dX12_advance_174 : decode cX12_advance 174 = .ok (.imul, 1) := by decide +kernel
theorem dX12_advance_175 : decode cX12_advance 175 = .ok (.aload_n 0, 1) := by decide +kernel
theorem dX12_advance_176 : decode cX12_advance 176 = .ok (.aload_n 0, 1) := by decide +kernel
theorem dX12_advance_177 : decode cX12_advance 177 = .ok (.getfield 113, 3) := by decide +kernel
theorem dX12_advance_180 : decode cX12_advance 180 = .ok (.invokevirtual 116, 3) := by decide +kernel
theorem dX12_advance_183 : decode cX12_advance 183 = .ok (.iadd, 1) := by decide +kernel
theorem dX12_advance_184 : decode cX12_advance 184 = .ok (.bipush 48, 2) := by decide +kernel
theorem dX12_advance_186 : decode cX12_advance 186 = .ok (.isub, 1) := by decide +kernel
theorem dX12_advance_187 : decode cX12_advance 187 = .ok (.invokestatic 138, 3) := by decide +kernel
theorem dX12_advance_190 : decode cX12_advance 190 = .ok (.putfield 134, 3) := by decide +kernel
theorem dX12_advance_193 : decode cX12_advance 193 = .ok (.aload_n 0, 1) := by decide +kernel
theorem dX12_advance_194 : decode cX12_advance 194 = .ok (.dup, 1) := by decide +kernel
theorem dX12_advance_195 : decode cX12_advance 195 = .ok (.getfield 113, 3) := by decide +kernel
theorem dX12_advance_198 : decode cX12_advance 198 = .ok (.iconst 1, 1) := by decide +kernel
theorem dX12_advance_199 : decode cX12_advance 199 = .ok (.iadd, 1) := by decide +kernel
theorem dX12_advance_200 : decode cX12_advance 200 = .ok (.putfield 113, 3) := by decide +kernel
theorem dX12_advance_203 : decode cX12_advance 203 = .ok (.goto (-59), 3) := by decide +kernel
theorem dX12_advance_206 : decode cX12_advance 206 = .ok (.aload_n 0, 1) := by decide +kernel
theorem dX12_advance_207 : decode cX12_advance 207 = .ok (.iconst 2, 1) := by decide +kernel
theorem dX12_advance_208 : decode cX12_advance 208 = .ok (.putfield 123, 3) := by decide +kernel
theorem dX12_advance_211 : decode cX12_advance 211 = .ok (.goto 29, 3) := by decide +kernel
theorem dX12_advance_214 : decode cX12_advance 214 = .ok (.aload_n 0, 1) := by decide +kernel
theorem dX12_advance_215 : decode cX12_advance 215 = .ok (.iload_n 1, 1) := by decide +kernel
theorem dX12_advance_216 : decode cX12_advance 216 = .ok (.invokestatic 144, 3) := by decide +kernel
theorem dX12_advance_219 : decode cX12_advance 219 = .ok (.ifCond .eq 7, 3) := by decide +kernel
theorem dX12_advance_222 : decode cX12_advance 222 = .ok (.iload_n 1, 1) := by decide +kernel
theorem dX12_advance_223 : decode cX12_advance 223 = .ok (.goto 4, 3) := by decide +kernel
theorem dX12_advance_226 : decode cX12_advance 226 = .ok (.iconst 3, 1) := by decide +kernel
theorem dX12_advance_227 : decode cX12_advance 227 = .ok (.putfield 123, 3) := by decide +kernel
theorem dX12_advance_230 : decode cX12_advance 230 = .ok (.aload_n 0, 1) := by decide +kernel
theorem dX12_advance_231 : decode cX12_advance 231 = .ok (.dup, 1) := by decide +kernel
theorem dX12_advance_232 : decode cX12_advance 232 = .ok (.getfield 113, 3) := by decide +kernel
theorem dX12_advance_235 : decode cX12_advance 235 = .ok (.iconst 1, 1) := by decide +kernel
theorem dX12_advance_236 : decode cX12_advance 236 = .ok (.iadd, 1) := by decide +kernel
theorem dX12_advance_237 : decode cX12_advance 237 = .ok (.putfield 113, 3) := by decide +kernel
theorem dX12_advance_240 : decode cX12_advance 240 = .ok (.return_, 1) := by decide +kernel
theorem dX12_begins_0 : decode cX12_begins 0 = .ok (.aload_n 0, 1) := by decide +kernel
theorem dX12_begins_1 : decode cX12_begins 1 = .ok (.aload_n 0, 1) := by decide +kernel
theorem dX12_begins_2 : decode cX12_begins 2 = .ok (.getfield 107, 3) := by decide +kernel
theorem dX12_begins_5 : decode cX12_begins 5 = .ok (.putfield 110, 3) := by decide +kernel
theorem dX12_begins_8 : decode cX12_begins 8 = .ok (.aload_n 0, 1) := by decide +kernel
theorem dX12_begins_9 : decode cX12_begins 9 = .ok (.iconst 0, 1) := by decide +kernel
theorem dX12_begins_10 : decode cX12_begins 10 = .ok (.putfield 107, 3) := by decide +kernel
theorem dX12_begins_13 : decode cX12_begins 13 = .ok (.aload_n 0, 1) := by decide +kernel
theorem dX12_begins_14 : decode cX12_begins 14 = .ok (.iconst 0, 1) := by decide +kernel
theorem dX12_begins_15 : decode cX12_begins 15 = .ok (.putfield 113, 3) := by decide +kernel
theorem dX12_begins_18 : decode cX12_begins 18 = .ok (.aload_n 0, 1) := by decide +kernel
theorem dX12_begins_19 : decode cX12_begins 19 = .ok (.iconst 0, 1) := by decide +kernel
theorem dX12_begins_20 : decode cX12_begins 20 = .ok (.putfield 148, 3) := by decide +kernel
theorem dX12_begins_23 : decode cX12_begins 23 = .ok (.aload_n 0, 1) := by decide +kernel
theorem dX12_begins_24 : decode cX12_begins 24 = .ok (.iconst (-1), 1) := by decide +kernel
theorem dX12_begins_25 : decode cX12_begins 25 = .ok (.putfield 33, 3) := by decide +kernel
theorem dX12_begins_28 : decode cX12_begins 28 = .ok (.aload_n 0, 1) := by decide +kernel
theorem dX12_begins_29 : decode cX12_begins 29 = .ok (.iconst 0, 1) := by decide +kernel
theorem dX12_begins_30 : decode cX12_begins 30 = .ok (.putfield 151, 3) := by decide +kernel
theorem dX12_begins_33 : decode cX12_begins 33 = .ok (.aload_n 0, 1) := by decide +kernel
theorem dX12_begins_34 : decode cX12_begins 34 = .ok (.invokevirtual 154, 3) := by decide +kernel
theorem dX12_begins_37 : decode cX12_begins 37 = .ok (.return_, 1) := by decide +kernel
theorem dX12_good_0 : decode cX12_good 0 = .ok (.aload_n 0, 1) := by decide +kernel
theorem dX12_good_1 : decode cX12_good 1 = .ok (.getfield 148, 3) := by decide +kernel
theorem dX12_good_4 : decode cX12_good 4 = .ok (.ifCond .ne 7, 3) := by decide +kernel
theorem dX12_good_7 : decode cX12_good 7 = .ok (.iconst 1, 1) := by decide +kernel
theorem dX12_good_8 : decode cX12_good 8 = .ok (.goto 4, 3) := by decide +kernel
theorem dX12_good_11 : decode cX12_good 11 = .ok (.iconst 0, 1) := by decide +kernel
theorem dX12_good_12 : decode cX12_good 12 = .ok (.ireturn, 1) := by decide +kernel
theorem dX12_errs_0 : decode cX12_errs 0 = .ok (.aload_n 0, 1) := by decide +kernel
theorem dX12_errs_1 : decode cX12_errs 1 = .ok (.invokevirtual 157, 3) := by decide +kernel
theorem dX12_errs_4 : decode cX12_errs 4 = .ok (.ifCond .ne 4, 3) := by decide +kernel
theorem dX12_errs_7 : decode cX12_errs 7 = .ok (.return_, 1) := by decide +kernel
theorem dX12_errs_8 : decode cX12_errs 8 = .ok (.aload_n 0, 1) := by decide +kernel
theorem dX12_errs_9 : decode cX12_errs 9 = .ok (.iload_n 1, 1) := by decide +kernel
theorem dX12_errs_10 : decode cX12_errs 10 = .ok (.putfield 148, 3) := by decide +kernel
theorem dX12_errs_13 : decode cX12_errs 13 = .ok (.aload_n 0, 1) := by decide +kernel
theorem dX12_errs_14 : decode cX12_errs 14 = .ok (.aload_n 0, 1) := by decide +kernel
theorem dX12_errs_15 : decode cX12_errs 15 = .ok (.getfield 120, 3) := by decide +kernel
theorem dX12_errs_18 : decode cX12_errs 18 = .ok (.putfield 33, 3) := by decide +kernel
theorem dX12_errs_21 : decode cX12_errs 21 = .ok (.return_, 1) := by decide +kernel
theorem dX12_is_0 : decode cX12_is 0 = .ok (.aload_n 0, 1) := by decide +kernel
theorem dX12_is_1 : decode cX12_is 1 = .ok (.invokevirtual 157, 3) := by decide +kernel
theorem dX12_is_4 : decode cX12_is 4 = .ok (.ifCond .eq 31, 3) := by decide +kernel
theorem dX12_is_7 : decode cX12_is 7 = .ok (.aload_n 0, 1) := by decide +kernel
theorem dX12_is_8 : decode cX12_is 8 = .ok (.getfield 123, 3) := by decide +kernel
theorem dX12_is_11 : decode cX12_is 11 = .ok (.iconst 1, 1) := by decide +kernel
theorem dX12_is_12 : decode cX12_is 12 = .ok (.if_icmp .ne 23, 3) := by decide +kernel
theorem dX12_is_15 : decode cX12_is 15 = .ok (.aload_n 0, 1) := by decide +kernel
theorem dX12_is_16 : decode cX12_is 16 = .ok (.getfield 113, 3) := by decide +kernel
theorem dX12_is_19 : decode cX12_is 19 = .ok (.aload_n 0, 1) := by decide +kernel
theorem dX12_is_20 : decode cX12_is 20 = .ok (.getfield 120, 3) := by decide +kernel
theorem dX12_is_23 : decode cX12_is 23 = .ok (.isub, 1) := by decide +kernel
theorem dX12_is_24 : decode cX12_is 24 = .ok (.aload_n 1, 1) := by decide +kernel
theorem dX12_is_25 : decode cX12_is 25 = .ok (.invokevirtual 160, 3) := by decide +kernel
theorem dX12_is_28 : decode cX12_is 28 = .ok (.if_icmp .ne 7, 3) := by decide +kernel
theorem dX12_is_31 : decode cX12_is 31 = .ok (.iconst 1, 1) := by decide +kernel
theorem dX12_is_32 : decode cX12_is 32 = .ok (.goto 4, 3) := by decide +kernel
theorem dX12_is_35 : decode cX12_is 35 = .ok (.iconst 0, 1) := by decide +kernel
theorem dX12_is_36 : decode cX12_is 36 = .ok (.istore_n 2, 1) := by decide +kernel
theorem dX12_is_37 : decode cX12_is 37 = .ok (.iconst 0, 1) := by decide +kernel
theorem dX12_is_38 : decode cX12_is 38 = .ok (.istore_n 3, 1) := by decide +kernel
theorem dX12_is_39 : decode cX12_is 39 = .ok (.iload_n 3, 1) := by decide +kernel
theorem dX12_is_40 : decode cX12_is 40 = .ok (.aload_n 1, 1) := by decide +kernel
theorem dX12_is_41 : decode cX12_is 41 = .ok (.invokevirtual 160, 3) := by decide +kernel
theorem dX12_is_44 : decode cX12_is 44 = .ok (.if_icmp .ge 38, 3) := by decide +kernel
theorem dX12_is_47 : decode cX12_is 47 = .ok (.iload_n 2, 1) := by decide +kernel
theorem dX12_is_48 : decode cX12_is 48 = .ok (.ifCond .eq 34, 3) := by decide +kernel
theorem dX12_is_51 : decode cX12_is 51 = .ok (.aload_n 0, 1) := by decide +kernel
theorem dX12_is_52 : decode cX12_is 52 = .ok (.getfield 26, 3) := by decide +kernel
theorem dX12_is_55 : decode cX12_is 55 = .ok (.aload_n 0, 1) := by decide +kernel
theorem dX12_is_56 : decode cX12_is 56 = .ok (.getfield 120, 3) := by decide +kernel
theorem dX12_is_59 : decode cX12_is 59 = .ok (.iload_n 3, 1) := by decide +kernel
theorem dX12_is_60 : decode cX12_is 60 = .ok (.iadd, 1) := by decide +kernel
theorem dX12_is_61 : decode cX12_is 61 = .ok (.baload, 1) := by decide +kernel
theorem dX12_is_62 : decode cX12_is 62 = .ok (.aload_n 1, 1) := by decide +kernel
theorem dX12_is_63 : decode cX12_is 63 = .ok (.iload_n 3, 1) := by decide +kernel
theorem dX12_is_64 : decode cX12_is 64 = .ok (.invokevirtual 165, 3) := by decide +kernel
theorem dX12_is_67 : decode cX12_is 67 = .ok (.if_icmp .ne 7, 3) := by decide +kernel
theorem dX12_is_70 : decode cX12_is 70 = .ok (.iconst 1, 1) := by decide +kernel
theorem dX12_is_71 : decode cX12_is 71 = .ok (.goto 4, 3) := by decide +kernel
theorem dX12_is_74 : decode cX12_is 74 = .ok (.iconst 0, 1) := by decide +kernel
theorem dX12_is_75 : decode cX12_is 75 = .ok (.istore_n 2, 1) := by decide +kernel
theorem dX12_is_76 : decode cX12_is 76 = .ok (.iinc 3 1, 3) := by decide +kernel
theorem dX12_is_79 : decode cX12_is 79 = .ok (.goto (-40), 3) := by decide +kernel
theorem dX12_is_82 : decode cX12_is 82 = .ok (.iload_n 2, 1) := by decide +kernel
theorem dX12_is_83 : decode cX12_is 83 = .ok (.ireturn, 1) := by decide +kernel
theorem dX12_takes_0 : decode cX12_takes 0 = .ok (.aload_n 0, 1) := by decide +kernel
theorem dX12_takes_1 : decode cX12_takes 1 = .ok (.aload_n 1, 1) := by decide +kernel
theorem dX12_takes_2 : decode cX12_takes 2 = .ok (.invokevirtual 169, 3) := by decide +kernel
theorem dX12_takes_5 : decode cX12_takes 5 = .ok (.istore_n 2, 1) := by decide +kernel
theorem dX12_takes_6 : decode cX12_takes 6 = .ok (.iload_n 2, 1) := by decide +kernel
theorem dX12_takes_7 : decode cX12_takes 7 = .ok (.ifCond .eq 7, 3) := by decide +kernel
theorem dX12_takes_10 : decode cX12_takes 10 = .ok (.aload_n 0, 1) := by decide +kernel
theorem dX12_takes_11 : decode cX12_takes 11 = .ok (.invokevirtual 154, 3) := by decide +kernel
theorem dX12_takes_14 : decode cX12_takes 14 = .ok (.iload_n 2, 1) := by decide +kernel
theorem dX12_takes_15 : decode cX12_takes 15 = .ok (.ireturn, 1) := by decide +kernel
theorem dX12_needs_0 : decode cX12_needs 0 = .ok (.aload_n 0, 1) := by decide +kernel
theorem dX12_needs_1 : decode cX12_needs 1 = .ok (.aload_n 1, 1) := by decide +kernel
theorem dX12_needs_2 : decode cX12_needs 2 = .ok (.invokevirtual 173, 3) := by decide +kernel
theorem dX12_needs_5 : decode cX12_needs 5 = .ok (.ifCond .ne 8, 3) := by decide +kernel
theorem dX12_needs_8 : decode cX12_needs 8 = .ok (.aload_n 0, 1) := by decide +kernel
theorem dX12_needs_9 : decode cX12_needs 9 = .ok (.iconst 1, 1) := by decide +kernel
theorem dX12_needs_10 : decode cX12_needs 10 = .ok (.invokevirtual 176, 3) := by decide +kernel
theorem dX12_needs_13 : decode cX12_needs 13 = .ok (.return_, 1) := by decide +kernel
theorem dX12_needsSign_0 : decode cX12_needsSign 0 = .ok (.aload_n 0, 1) := by decide +kernel
theorem dX12_needsSign_1 : decode cX12_needsSign 1 = .ok (.invokevirtual 157, 3) := by decide +kernel
theorem dX12_needsSign_4 : decode cX12_needsSign 4 = .ok (.ifCond .eq 16, 3) := by decide +kernel
theorem dX12_needsSign_7 : decode cX12_needsSign 7 = .ok (.aload_n 0, 1) := by decide +kernel
theorem dX12_needsSign_8 : decode cX12_needsSign 8 = .ok (.getfield 123, 3) := by decide +kernel
theorem dX12_needsSign_11 : decode cX12_needsSign 11 = .ok (.iload_n 1, 1) := by decide +kernel
theorem dX12_needsSign_12 : decode cX12_needsSign 12 = .ok (.if_icmp .eq 8, 3) := by decide +kernel
theorem dX12_needsSign_15 : decode cX12_needsSign 15 = .ok (.aload_n 0, 1) := by decide +kernel
theorem dX12_needsSign_16 : decode cX12_needsSign 16 = .ok (.iconst 1, 1) := by decide +kernel
theorem dX12_needsSign_17 : decode cX12_needsSign 17 = .ok (.invokevirtual 176, 3) := by decide +kernel
theorem dX12_needsSign_20 : decode cX12_needsSign 20 = .ok (.aload_n 0, 1) := by decide +kernel
theorem dX12_needsSign_21 : decode cX12_needsSign 21 = .ok (.invokevirtual 157, 3) := by decide +kernel
theorem dX12_needsSign_24 : decode cX12_needsSign 24 = .ok (.ifCond .eq 7, 3) := by decide +kernel
theorem dX12_needsSign_27 : decode cX12_needsSign 27 = .ok (.aload_n 0, 1) := by decide +kernel
theorem dX12_needsSign_28 : decode cX12_needsSign 28 = .ok (.invokevirtual 154, 3) := by decide +kernel
theorem dX12_needsSign_31 : decode cX12_needsSign 31 = .ok (.return_, 1) := by decide +kernel
theorem dX12_number_0 : decode cX12_number 0 = .ok (.aload_n 0, 1) := by decide +kernel
theorem dX12_number_1 : decode cX12_number 1 = .ok (.invokevirtual 157, 3) := by decide +kernel
theorem dX12_number_4 : decode cX12_number 4 = .ok (.ifCond .eq 16, 3) := by decide +kernel
theorem dX12_number_7 : decode cX12_number 7 = .ok (.aload_n 0, 1) := by decide +kernel
theorem dX12_number_8 : decode cX12_number 8 = .ok (.getfield 123, 3) := by decide +kernel
theorem dX12_number_11 : decode cX12_number 11 = .ok (.iconst 2, 1) := by decide +kernel
theorem dX12_number_12 : decode cX12_number 12 = .ok (.if_icmp .eq 8, 3) := by decide +kernel
theorem dX12_number_15 : decode cX12_number 15 = .ok (.aload_n 0, 1) := by decide +kernel
theorem dX12_number_16 : decode cX12_number 16 = .ok (.iconst 1, 1) := by decide +kernel
theorem dX12_number_17 : decode cX12_number 17 = .ok (.invokevirtual 176, 3) := by decide +kernel
theorem dX12_number_20 : decode cX12_number 20 = .ok (.aload_n 0, 1) := by decide +kernel
theorem dX12_number_21 : decode cX12_number 21 = .ok (.invokevirtual 157, 3) := by decide +kernel
theorem dX12_number_24 : decode cX12_number 24 = .ok (.ifCond .eq 23, 3) := by decide +kernel
theorem dX12_number_27 : decode cX12_number 27 = .ok (.aload_n 0, 1) := by decide +kernel
theorem dX12_number_28 : decode cX12_number 28 = .ok (.getfield 134, 3) := by decide +kernel
theorem dX12_number_31 : decode cX12_number 31 = .ok (.i2l, 1) := by decide +kernel
theorem dX12_number_32 : decode cX12_number 32 = .ok (.iload_n 1, 1) := by decide +kernel
theorem dX12_number_33 : decode cX12_number 33 = .ok (.i2l, 1) := by decide +kernel
theorem dX12_number_34 : decode cX12_number 34 = .ok (.iload_n 2, 1) := by decide +kernel
theorem dX12_number_35 : decode cX12_number 35 = .ok (.i2l, 1) := by decide +kernel
theorem dX12_number_36 : decode cX12_number 36 = .ok (.invokestatic 94, 3) := by decide +kernel
theorem dX12_number_39 : decode cX12_number 39 = .ok (.ifCond .ne 8, 3) := by decide +kernel
theorem dX12_number_42 : decode cX12_number 42 = .ok (.aload_n 0, 1) := by decide +kernel
theorem dX12_number_43 : decode cX12_number 43 = .ok (.iconst 2, 1) := by decide +kernel
theorem dX12_number_44 : decode cX12_number 44 = .ok (.invokevirtual 176, 3) := by decide +kernel
theorem dX12_number_47 : decode cX12_number 47 = .ok (.aload_n 0, 1) := by decide +kernel
theorem dX12_number_48 : decode cX12_number 48 = .ok (.invokevirtual 157, 3) := by decide +kernel
theorem dX12_number_51 : decode cX12_number 51 = .ok (.ifCond .ne 5, 3) := by decide +kernel
theorem dX12_number_54 : decode cX12_number 54 = .ok (.iconst 0, 1) := by decide +kernel
theorem dX12_number_55 : decode cX12_number 55 = .ok (.ireturn, 1) := by decide +kernel
theorem dX12_number_56 : decode cX12_number 56 = .ok (.aload_n 0, 1) := by decide +kernel
theorem dX12_number_57 : decode cX12_number 57 = .ok (.getfield 134, 3) := by decide +kernel
theorem dX12_number_60 : decode cX12_number 60 = .ok (.istore_n 3, 1) := by decide +kernel
theorem dX12_number_61 : decode cX12_number 61 = .ok (.aload_n 0, 1) := by decide +kernel
theorem dX12_number_62 : decode cX12_number 62 = .ok (.invokevirtual 154, 3) := by decide +kernel
theorem dX12_number_65 : decode cX12_number 65 = .ok (.iload_n 3, 1) := by decide +kernel
theorem dX12_number_66 : decode cX12_number 66 = .ok (.ireturn, 1) := by decide +kernel
theorem dX12_fault_0 : decode cX12_fault 0 = .ok (.iload_n 1, 1) := by decide +kernel
theorem dX12_fault_1 : decode cX12_fault 1 = .ok (.ifCond .ne 10, 3) := by decide +kernel
theorem dX12_fault_4 : decode cX12_fault 4 = .ok (.aload_n 0, 1) := by decide +kernel
theorem dX12_fault_5 : decode cX12_fault 5 = .ok (.getfield 148, 3) := by decide +kernel
theorem dX12_fault_8 : decode cX12_fault 8 = .ok (.goto 16, 3) := by decide +kernel
theorem dX12_fault_11 : decode cX12_fault 11 = .ok (.iload_n 1, 1) := by decide +kernel
theorem dX12_fault_12 : decode cX12_fault 12 = .ok (.iconst 1, 1) := by decide +kernel
theorem dX12_fault_13 : decode cX12_fault 13 = .ok (.if_icmp .ne 10, 3) := by decide +kernel
theorem dX12_fault_16 : decode cX12_fault 16 = .ok (.aload_n 0, 1) := by decide +kernel
theorem dX12_fault_17 : decode cX12_fault 17 = .ok (.getfield 33, 3) := by decide +kernel
theorem dX12_fault_20 : decode cX12_fault 20 = .ok (.goto 4, 3) := by decide +kernel
theorem dX12_fault_23 : decode cX12_fault 23 = .ok (.iconst (-1), 1) := by decide +kernel
theorem dX12_fault_24 : decode cX12_fault 24 = .ok (.ireturn, 1) := by decide +kernel
theorem dX12_joins_0 : decode cX12_joins 0 = .ok (.iconst 0, 1) := by decide +kernel
theorem dX12_joins_1 : decode cX12_joins 1 = .ok (.istore 6, 2) := by decide +kernel
theorem dX12_joins_3 : decode cX12_joins 3 = .ok (.iload 6, 2) := by decide +kernel
theorem dX12_joins_5 : decode cX12_joins 5 = .ok (.sipush 1024, 3) := by decide +kernel
theorem dX12_joins_8 : decode cX12_joins 8 = .ok (.if_icmp .ge 15, 3) := by decide +kernel
theorem dX12_joins_11 : decode cX12_joins 11 = .ok (.aload 5, 2) := by decide +kernel
theorem dX12_joins_13 : decode cX12_joins 13 = .ok (.iload 6, 2) := by decide +kernel
theorem dX12_joins_15 : decode cX12_joins 15 = .ok (.iconst 0, 1) := by decide +kernel
theorem dX12_joins_16 : decode cX12_joins 16 = .ok (.bastore, 1) := by decide +kernel
theorem dX12_joins_17 : decode cX12_joins 17 = .ok (.iinc 6 1, 3) := by decide +kernel
theorem dX12_joins_20 : decode cX12_joins 20 = .ok (.goto (-17), 3) := by decide +kernel
theorem dX12_joins_23 : decode cX12_joins 23 = .ok (.iconst 0, 1) := by decide +kernel
theorem dX12_joins_24 : decode cX12_joins 24 = .ok (.istore 6, 2) := by decide +kernel
theorem dX12_joins_26 : decode cX12_joins 26 = .ok (.iload 6, 2) := by decide +kernel
theorem dX12_joins_28 : decode cX12_joins 28 = .ok (.aload_n 0, 1) := by decide +kernel
theorem dX12_joins_29 : decode cX12_joins 29 = .ok (.getfield 180, 3) := by decide +kernel
theorem dX12_joins_32 : decode cX12_joins 32 = .ok (.if_icmp .ge 55, 3) := by decide +kernel
theorem dX12_joins_35 : decode cX12_joins 35 = .ok (.iconst 0, 1) := by decide +kernel
theorem dX12_joins_36 : decode cX12_joins 36 = .ok (.istore 7, 2) := by decide +kernel
theorem dX12_joins_38 : decode cX12_joins 38 = .ok (.iload 7, 2) := by decide +kernel
theorem dX12_joins_40 : decode cX12_joins 40 = .ok (.aload_n 0, 1) := by decide +kernel
theorem dX12_joins_41 : decode cX12_joins 41 = .ok (.getfield 180, 3) := by decide +kernel
theorem dX12_joins_44 : decode cX12_joins 44 = .ok (.if_icmp .ge 37, 3) := by decide +kernel
theorem dX12_joins_47 : decode cX12_joins 47 = .ok (.aload_n 1, 1) := by decide +kernel
theorem dX12_joins_48 : decode cX12_joins 48 = .ok (.iload_n 2, 1) := by decide +kernel
theorem dX12_joins_49 : decode cX12_joins 49 = .ok (.iload 6, 2) := by decide +kernel
theorem dX12_joins_51 : decode cX12_joins 51 = .ok (.iadd, 1) := by decide +kernel
theorem dX12_joins_52 : decode cX12_joins 52 = .ok (.baload, 1) := by decide +kernel
theorem dX12_joins_53 : decode cX12_joins 53 = .ok (.ifCond .eq 28, 3) := by decide +kernel
theorem dX12_joins_56 : decode cX12_joins 56 = .ok (.aload_n 3, 1) := by decide +kernel
theorem dX12_joins_57 : decode cX12_joins 57 = .ok (.iload 4, 2) := by decide +kernel
theorem dX12_joins_59 : decode cX12_joins 59 = .ok (.iload 7, 2) := by decide +kernel
theorem dX12_joins_61 : decode cX12_joins 61 = .ok (.iadd, 1) := by decide +kernel
theorem dX12_joins_62 : decode cX12_joins 62 = .ok (.baload, 1) := by decide +kernel
theorem dX12_joins_63 : decode cX12_joins 63 = .ok (.ifCond .eq 12, 3) := by decide +kernel
theorem dX12_joins_66 : decode cX12_joins 66 = .ok (.aload 5, 2) := by decide +kernel
theorem dX12_joins_68 : decode cX12_joins 68 = .ok (.iload 6, 2) := by decide +kernel
theorem dX12_joins_70 : decode cX12_joins 70 = .ok (.iload 7, 2) := by decide +kernel
theorem dX12_joins_72 : decode cX12_joins 72 = .ok (.ior, 1) := by decide +kernel
theorem dX12_joins_73 : decode cX12_joins 73 = .ok (.iconst 1, 1) := by decide +kernel
theorem dX12_joins_74 : decode cX12_joins 74 = .ok (.bastore, 1) := by decide +kernel
theorem dX12_joins_75 : decode cX12_joins 75 = .ok (.iinc 7 1, 3) := by decide +kernel
theorem dX12_joins_78 : decode cX12_joins 78 = .ok (.goto (-40), 3) := by decide +kernel
theorem dX12_joins_81 : decode cX12_joins 81 = .ok (.iinc 6 1, 3) := by decide +kernel
theorem dX12_joins_84 : decode cX12_joins 84 = .ok (.goto (-58), 3) := by decide +kernel
theorem dX12_joins_87 : decode cX12_joins 87 = .ok (.return_, 1) := by decide +kernel
theorem dX12_isOver_0 : decode cX12_isOver 0 = .ok (.iconst 0, 1) := by decide +kernel
theorem dX12_isOver_1 : decode cX12_isOver 1 = .ok (.istore 6, 2) := by decide +kernel
theorem dX12_isOver_3 : decode cX12_isOver 3 = .ok (.iconst 0, 1) := by decide +kernel
theorem dX12_isOver_4 : decode cX12_isOver 4 = .ok (.istore 7, 2) := by decide +kernel
theorem dX12_isOver_6 : decode cX12_isOver 6 = .ok (.iload 7, 2) := by decide +kernel
theorem dX12_isOver_8 : decode cX12_isOver 8 = .ok (.aload_n 0, 1) := by decide +kernel
theorem dX12_isOver_9 : decode cX12_isOver 9 = .ok (.getfield 180, 3) := by decide +kernel
theorem dX12_isOver_12 : decode cX12_isOver 12 = .ok (.if_icmp .ge 47, 3) := by decide +kernel
theorem dX12_isOver_15 : decode cX12_isOver 15 = .ok (.aload_n 3, 1) := by decide +kernel
theorem dX12_isOver_16 : decode cX12_isOver 16 = .ok (.iload 4, 2) := by decide +kernel
theorem dX12_isOver_18 : decode cX12_isOver 18 = .ok (.iload 7, 2) := by decide +kernel
theorem dX12_isOver_20 : decode cX12_isOver 20 = .ok (.iadd, 1) := by decide +kernel
theorem dX12_isOver_21 : decode cX12_isOver 21 = .ok (.baload, 1) := by decide +kernel
theorem dX12_isOver_22 : decode cX12_isOver 22 = .ok (.ifCond .ne 6, 3) := by decide +kernel
theorem dX12_isOver_25 : decode cX12_isOver 25 = .ok (.goto 28, 3) := by decide +kernel
theorem dX12_isOver_28 : decode cX12_isOver 28 = .ok (.iconst 1, 1) := by decide +kernel
theorem dX12_isOver_29 : decode cX12_isOver 29 = .ok (.istore 6, 2) := by decide +kernel
theorem dX12_isOver_31 : decode cX12_isOver 31 = .ok (.iload 5, 2) := by decide +kernel
theorem dX12_isOver_33 : decode cX12_isOver 33 = .ok (.iload 7, 2) := by decide +kernel
theorem dX12_isOver_35 : decode cX12_isOver 35 = .ok (.iand, 1) := by decide +kernel
theorem dX12_isOver_36 : decode cX12_isOver 36 = .ok (.ifCond .ne 15, 3) := by decide +kernel
theorem dX12_isOver_39 : decode cX12_isOver 39 = .ok (.aload_n 1, 1) := by decide +kernel
theorem dX12_isOver_40 : decode cX12_isOver 40 = .ok (.iload_n 2, 1) := by decide +kernel
theorem dX12_isOver_41 : decode cX12_isOver 41 = .ok (.iload 5, 2) := by decide +kernel
theorem dX12_isOver_43 : decode cX12_isOver 43 = .ok (.iload 7, 2) := by decide +kernel
theorem dX12_isOver_45 : decode cX12_isOver 45 = .ok (.ior, 1) := by decide +kernel
theorem dX12_isOver_46 : decode cX12_isOver 46 = .ok (.iadd, 1) := by decide +kernel
theorem dX12_isOver_47 : decode cX12_isOver 47 = .ok (.baload, 1) := by decide +kernel
theorem dX12_isOver_48 : decode cX12_isOver 48 = .ok (.ifCond .ne 5, 3) := by decide +kernel
theorem dX12_isOver_51 : decode cX12_isOver 51 = .ok (.iconst 0, 1) := by decide +kernel
theorem dX12_isOver_52 : decode cX12_isOver 52 = .ok (.ireturn, 1) := by decide +kernel
theorem dX12_isOver_53 : decode cX12_isOver 53 = .ok (.iinc 7 1, 3) := by decide +kernel
theorem dX12_isOver_56 : decode cX12_isOver 56 = .ok (.goto (-50), 3) := by decide +kernel
theorem dX12_isOver_59 : decode cX12_isOver 59 = .ok (.iload 6, 2) := by decide +kernel
theorem dX12_isOver_61 : decode cX12_isOver 61 = .ok (.ireturn, 1) := by decide +kernel
theorem dX12_isTouching_0 : decode cX12_isTouching 0 = .ok (.iconst 0, 1) := by decide +kernel
theorem dX12_isTouching_1 : decode cX12_isTouching 1 = .ok (.istore 4, 2) := by decide +kernel
theorem dX12_isTouching_3 : decode cX12_isTouching 3 = .ok (.iload 4, 2) := by decide +kernel
theorem dX12_isTouching_5 : decode cX12_isTouching 5 = .ok (.aload_n 0, 1) := by decide +kernel
theorem dX12_isTouching_6 : decode cX12_isTouching 6 = .ok (.getfield 180, 3) := by decide +kernel
theorem dX12_isTouching_9 : decode cX12_isTouching 9 = .ok (.if_icmp .ge 27, 3) := by decide +kernel
theorem dX12_isTouching_12 : decode cX12_isTouching 12 = .ok (.aload_n 1, 1) := by decide +kernel
theorem dX12_isTouching_13 : decode cX12_isTouching 13 = .ok (.iload_n 2, 1) := by decide +kernel
theorem dX12_isTouching_14 : decode cX12_isTouching 14 = .ok (.iload 4, 2) := by decide +kernel
theorem dX12_isTouching_16 : decode cX12_isTouching 16 = .ok (.iadd, 1) := by decide +kernel
theorem dX12_isTouching_17 : decode cX12_isTouching 17 = .ok (.baload, 1) := by decide +kernel
theorem dX12_isTouching_18 : decode cX12_isTouching 18 = .ok (.ifCond .eq 12, 3) := by decide +kernel
theorem dX12_isTouching_21 : decode cX12_isTouching 21 = .ok (.iload_n 3, 1) := by decide +kernel
theorem dX12_isTouching_22 : decode cX12_isTouching 22 = .ok (.iload 4, 2) := by decide +kernel
theorem dX12_isTouching_24 : decode cX12_isTouching 24 = .ok (.iand, 1) := by decide +kernel
theorem dX12_isTouching_25 : decode cX12_isTouching 25 = .ok (.ifCond .ne 5, 3) := by decide +kernel
theorem dX12_isTouching_28 : decode cX12_isTouching 28 = .ok (.iconst 0, 1) := by decide +kernel
theorem dX12_isTouching_29 : decode cX12_isTouching 29 = .ok (.ireturn, 1) := by decide +kernel
theorem dX12_isTouching_30 : decode cX12_isTouching 30 = .ok (.iinc 4 1, 3) := by decide +kernel
theorem dX12_isTouching_33 : decode cX12_isTouching 33 = .ok (.goto (-30), 3) := by decide +kernel
theorem dX12_isTouching_36 : decode cX12_isTouching 36 = .ok (.iconst 1, 1) := by decide +kernel
theorem dX12_isTouching_37 : decode cX12_isTouching 37 = .ok (.ireturn, 1) := by decide +kernel
theorem dX12_gives_0 : decode cX12_gives 0 = .ok (.iload_n 1, 1) := by decide +kernel
theorem dX12_gives_1 : decode cX12_gives 1 = .ok (.iconst 3, 1) := by decide +kernel
theorem dX12_gives_2 : decode cX12_gives 2 = .ok (.if_icmp .ne 18, 3) := by decide +kernel
theorem dX12_gives_5 : decode cX12_gives 5 = .ok (.aload_n 0, 1) := by decide +kernel
theorem dX12_gives_6 : decode cX12_gives 6 = .ok (.aload_n 2, 1) := by decide +kernel
theorem dX12_gives_7 : decode cX12_gives 7 = .ok (.iload_n 3, 1) := by decide +kernel
theorem dX12_gives_8 : decode cX12_gives 8 = .ok (.aload 4, 2) := by decide +kernel
theorem dX12_gives_10 : decode cX12_gives 10 = .ok (.iload 5, 2) := by decide +kernel
theorem dX12_gives_12 : decode cX12_gives 12 = .ok (.aload_n 0, 1) := by decide +kernel
theorem dX12_gives_13 : decode cX12_gives 13 = .ok (.getfield 40, 3) := by decide +kernel
theorem dX12_gives_16 : decode cX12_gives 16 = .ok (.invokevirtual 183, 3) := by decide +kernel
theorem dX12_gives_19 : decode cX12_gives 19 = .ok (.return_, 1) := by decide +kernel
theorem dX12_gives_20 : decode cX12_gives 20 = .ok (.iload_n 1, 1) := by decide +kernel
theorem dX12_gives_21 : decode cX12_gives 21 = .ok (.iconst 5, 1) := by decide +kernel
theorem dX12_gives_22 : decode cX12_gives 22 = .ok (.if_icmp .ne 131, 3) := by decide +kernel
theorem dX12_gives_25 : decode cX12_gives 25 = .ok (.iconst 0, 1) := by decide +kernel
theorem dX12_gives_26 : decode cX12_gives 26 = .ok (.istore 6, 2) := by decide +kernel
theorem dX12_gives_28 : decode cX12_gives 28 = .ok (.iload 6, 2) := by decide +kernel
theorem dX12_gives_30 : decode cX12_gives 30 = .ok (.sipush 1024, 3) := by decide +kernel
theorem dX12_gives_33 : decode cX12_gives 33 = .ok (.if_icmp .ge 45, 3) := by decide +kernel
theorem dX12_gives_36 : decode cX12_gives 36 = .ok (.aload_n 0, 1) := by decide +kernel
theorem dX12_gives_37 : decode cX12_gives 37 = .ok (.getfield 43, 3) := by decide +kernel
theorem dX12_gives_40 : decode cX12_gives 40 = .ok (.iload 6, 2) := by decide +kernel
theorem dX12_gives_42 : decode cX12_gives 42 = .ok (.iload 6, 2) := by decide +kernel
theorem dX12_gives_44 : decode cX12_gives 44 = .ok (.aload_n 0, 1) := by decide +kernel
theorem dX12_gives_45 : decode cX12_gives 45 = .ok (.getfield 180, 3) := by decide +kernel
theorem dX12_gives_48 : decode cX12_gives 48 = .ok (.if_icmp .ge 22, 3) := by decide +kernel
theorem dX12_gives_51 : decode cX12_gives 51 = .ok (.aload_n 0, 1) := by decide +kernel
theorem dX12_gives_52 : decode cX12_gives 52 = .ok (.aload_n 2, 1) := by decide +kernel
theorem dX12_gives_53 : decode cX12_gives 53 = .ok (.iload_n 3, 1) := by decide +kernel
theorem dX12_gives_54 : decode cX12_gives 54 = .ok (.aload 4, 2) := by decide +kernel
theorem dX12_gives_56 : decode cX12_gives 56 = .ok (.iload 5, 2) := by decide +kernel
theorem dX12_gives_58 : decode cX12_gives 58 = .ok (.iload 6, 2) := by decide +kernel
theorem dX12_gives_60 : decode cX12_gives 60 = .ok (.invokevirtual 187, 3) := by decide +kernel
theorem dX12_gives_63 : decode cX12_gives 63 = .ok (.ifCond .eq 7, 3) := by decide +kernel
theorem dX12_gives_66 : decode cX12_gives 66 = .ok (.iconst 1, 1) := by decide +kernel
theorem dX12_gives_67 : decode cX12_gives 67 = .ok (.goto 4, 3) := by decide +kernel
theorem dX12_gives_70 : decode cX12_gives 70 = .ok (.iconst 0, 1) := by decide +kernel
theorem dX12_gives_71 : decode cX12_gives 71 = .ok (.bastore, 1) := by decide +kernel
theorem dX12_gives_72 : decode cX12_gives 72 = .ok (.iinc 6 1, 3) := by decide +kernel
theorem dX12_gives_75 : decode cX12_gives 75 = .ok (.goto (-47), 3) := by decide +kernel
theorem dX12_gives_78 : decode cX12_gives 78 = .ok (.aload_n 0, 1) := by decide +kernel
theorem dX12_gives_79 : decode cX12_gives 79 = .ok (.aload 4, 2) := by decide +kernel
theorem dX12_gives_81 : decode cX12_gives 81 = .ok (.iload 5, 2) := by decide +kernel
theorem dX12_gives_83 : decode cX12_gives 83 = .ok (.aload_n 0, 1) := by decide +kernel
theorem dX12_gives_84 : decode cX12_gives 84 = .ok (.getfield 43, 3) := by decide +kernel
theorem dX12_gives_87 : decode cX12_gives 87 = .ok (.iconst 0, 1) := by decide +kernel
theorem dX12_gives_88 : decode cX12_gives 88 = .ok (.aload_n 0, 1) := by decide +kernel
theorem dX12_gives_89 : decode cX12_gives 89 = .ok (.getfield 46, 3) := by decide +kernel
theorem dX12_gives_92 : decode cX12_gives 92 = .ok (.invokevirtual 183, 3) := by decide +kernel
theorem dX12_gives_95 : decode cX12_gives 95 = .ok (.iconst 0, 1) := by decide +kernel
theorem dX12_gives_96 : decode cX12_gives 96 = .ok (.istore 6, 2) := by decide +kernel
theorem dX12_gives_98 : decode cX12_gives 98 = .ok (.iload 6, 2) := by decide +kernel
theorem dX12_gives_100 : decode cX12_gives 100 = .ok (.sipush 1024, 3) := by decide +kernel
theorem dX12_gives_103 : decode cX12_gives 103 = .ok (.if_icmp .ge 49, 3) := by decide +kernel
theorem dX12_gives_106 : decode cX12_gives 106 = .ok (.aload_n 0, 1) := by decide +kernel
theorem dX12_gives_107 : decode cX12_gives 107 = .ok (.getfield 40, 3) := by decide +kernel
theorem dX12_gives_110 : decode cX12_gives 110 = .ok (.iload 6, 2) := by decide +kernel
theorem dX12_gives_112 : decode cX12_gives 112 = .ok (.iload 6, 2) := by decide +kernel
theorem dX12_gives_114 : decode cX12_gives 114 = .ok (.aload_n 0, 1) := by decide +kernel
theorem dX12_gives_115 : decode cX12_gives 115 = .ok (.getfield 180, 3) := by decide +kernel
theorem dX12_gives_118 : decode cX12_gives 118 = .ok (.if_icmp .ge 26, 3) := by decide +kernel
theorem dX12_gives_121 : decode cX12_gives 121 = .ok (.aload_n 2, 1) := by decide +kernel
theorem dX12_gives_122 : decode cX12_gives 122 = .ok (.iload_n 3, 1) := by decide +kernel
theorem dX12_gives_123 : decode cX12_gives 123 = .ok (.iload 6, 2) := by decide +kernel
theorem dX12_gives_125 : decode cX12_gives 125 = .ok (.iadd, 1) := by decide +kernel
theorem dX12_gives_126 : decode cX12_gives 126 = .ok (.baload, 1) := by decide +kernel
theorem dX12_gives_127 : decode cX12_gives 127 = .ok (.ifCond .eq 17, 3) := by decide +kernel
theorem dX12_gives_130 : decode cX12_gives 130 = .ok (.aload_n 0, 1) := by decide +kernel
theorem dX12_gives_131 : decode cX12_gives 131 = .ok (.getfield 46, 3) := by decide +kernel
theorem dX12_gives_134 : decode cX12_gives 134 = .ok (.iload 6, 2) := by decide +kernel
theorem dX12_gives_136 : decode cX12_gives 136 = .ok (.baload, 1) := by decide +kernel
theorem dX12_gives_137 : decode cX12_gives 137 = .ok (.ifCond .ne 7, 3) := by decide +kernel
theorem dX12_gives_140 : decode cX12_gives 140 = .ok (.iconst 1, 1) := by decide +kernel
theorem dX12_gives_141 : decode cX12_gives 141 = .ok (.goto 4, 3) := by decide +kernel
theorem dX12_gives_144 : decode cX12_gives 144 = .ok (.iconst 0, 1) := by decide +kernel
theorem dX12_gives_145 : decode cX12_gives 145 = .ok (.bastore, 1) := by decide +kernel
theorem dX12_gives_146 : decode cX12_gives 146 = .ok (.iinc 6 1, 3) := by decide +kernel
theorem dX12_gives_149 : decode cX12_gives 149 = .ok (.goto (-51), 3) := by decide +kernel
theorem dX12_gives_152 : decode cX12_gives 152 = .ok (.return_, 1) := by decide +kernel
theorem dX12_gives_153 : decode cX12_gives 153 = .ok (.iconst 0, 1) := by decide +kernel
theorem dX12_gives_154 : decode cX12_gives 154 = .ok (.istore 6, 2) := by decide +kernel
theorem dX12_gives_156 : decode cX12_gives 156 = .ok (.iload 6, 2) := by decide +kernel
theorem dX12_gives_158 : decode cX12_gives 158 = .ok (.sipush 1024, 3) := by decide +kernel
theorem dX12_gives_161 : decode cX12_gives 161 = .ok (.if_icmp .ge 222, 3) := by decide +kernel
theorem dX12_gives_164 : decode cX12_gives 164 = .ok (.iload 6, 2) := by decide +kernel
theorem dX12_gives_166 : decode cX12_gives 166 = .ok (.aload_n 0, 1) := by decide +kernel
theorem dX12_gives_167 : decode cX12_gives 167 = .ok (.getfield 180, 3) := by decide +kernel
theorem dX12_gives_170 : decode cX12_gives 170 = .ok (.if_icmp .ge 7, 3) := by decide +kernel
theorem dX12_gives_173 : decode cX12_gives 173 = .ok (.iconst 1, 1) := by decide +kernel
theorem dX12_gives_174 : decode cX12_gives 174 = .ok (.goto 4, 3) := by decide +kernel
theorem dX12_gives_177 : decode cX12_gives 177 = .ok (.iconst 0, 1) := by decide +kernel
theorem dX12_gives_178 : decode cX12_gives 178 = .ok (.istore 7, 2) := by decide +kernel
theorem dX12_gives_180 : decode cX12_gives 180 = .ok (.iload_n 1, 1) := by decide +kernel
theorem dX12_gives_181 : decode cX12_gives 181 = .ok (.ifCond .ne 38, 3) := by decide +kernel
theorem dX12_gives_184 : decode cX12_gives 184 = .ok (.iload 7, 2) := by decide +kernel
theorem dX12_gives_186 : decode cX12_gives 186 = .ok (.ifCond .eq 27, 3) := by decide +kernel
theorem dX12_gives_189 : decode cX12_gives 189 = .ok (.aload_n 2, 1) := by decide +kernel
theorem dX12_gives_190 : decode cX12_gives 190 = .ok (.iload_n 3, 1) := by decide +kernel
theorem dX12_gives_191 : decode cX12_gives 191 = .ok (.iload 6, 2) := by decide +kernel
theorem dX12_gives_193 : decode cX12_gives 193 = .ok (.iadd, 1) := by decide +kernel
theorem dX12_gives_194 : decode cX12_gives 194 = .ok (.baload, 1) := by decide +kernel
theorem dX12_gives_195 : decode cX12_gives 195 = .ok (.ifCond .ne 14, 3) := by decide +kernel
theorem dX12_gives_198 : decode cX12_gives 198 = .ok (.aload 4, 2) := by decide +kernel
theorem dX12_gives_200 : decode cX12_gives 200 = .ok (.iload 5, 2) := by decide +kernel
theorem dX12_gives_202 : decode cX12_gives 202 = .ok (.iload 6, 2) := by decide +kernel
theorem dX12_gives_204 : decode cX12_gives 204 = .ok (.iadd, 1) := by decide +kernel
theorem dX12_gives_205 : decode cX12_gives 205 = .ok (.baload, 1) := by decide +kernel
theorem dX12_gives_206 : decode cX12_gives 206 = .ok (.ifCond .eq 7, 3) := by decide +kernel
theorem dX12_gives_209 : decode cX12_gives 209 = .ok (.iconst 1, 1) := by decide +kernel
theorem dX12_gives_210 : decode cX12_gives 210 = .ok (.goto 4, 3) := by decide +kernel
theorem dX12_gives_213 : decode cX12_gives 213 = .ok (.iconst 0, 1) := by decide +kernel
theorem dX12_gives_214 : decode cX12_gives 214 = .ok (.istore 7, 2) := by decide +kernel
theorem dX12_gives_216 : decode cX12_gives 216 = .ok (.goto 152, 3) := by decide +kernel
theorem dX12_gives_219 : decode cX12_gives 219 = .ok (.iload_n 1, 1) := by decide +kernel
theorem dX12_gives_220 : decode cX12_gives 220 = .ok (.iconst 1, 1) := by decide +kernel
theorem dX12_gives_221 : decode cX12_gives 221 = .ok (.if_icmp .ne 38, 3) := by decide +kernel
theorem dX12_gives_224 : decode cX12_gives 224 = .ok (.iload 7, 2) := by decide +kernel
theorem dX12_gives_226 : decode cX12_gives 226 = .ok (.ifCond .eq 27, 3) := by decide +kernel
theorem dX12_gives_229 : decode cX12_gives 229 = .ok (.aload_n 2, 1) := by decide +kernel
theorem dX12_gives_230 : decode cX12_gives 230 = .ok (.iload_n 3, 1) := by decide +kernel
theorem dX12_gives_231 : decode cX12_gives 231 = .ok (.iload 6, 2) := by decide +kernel
theorem dX12_gives_233 : decode cX12_gives 233 = .ok (.iadd, 1) := by decide +kernel
theorem dX12_gives_234 : decode cX12_gives 234 = .ok (.baload, 1) := by decide +kernel
theorem dX12_gives_235 : decode cX12_gives 235 = .ok (.ifCond .eq 18, 3) := by decide +kernel
theorem dX12_gives_238 : decode cX12_gives 238 = .ok (.aload 4, 2) := by decide +kernel
theorem dX12_gives_240 : decode cX12_gives 240 = .ok (.iload 5, 2) := by decide +kernel
theorem dX12_gives_242 : decode cX12_gives 242 = .ok (.iload 6, 2) := by decide +kernel
theorem dX12_gives_244 : decode cX12_gives 244 = .ok (.iadd, 1) := by decide +kernel
theorem dX12_gives_245 : decode cX12_gives 245 = .ok (.baload, 1) := by decide +kernel
theorem dX12_gives_246 : decode cX12_gives 246 = .ok (.ifCond .ne 7, 3) := by decide +kernel
theorem dX12_gives_249 : decode cX12_gives 249 = .ok (.iconst 1, 1) := by decide +kernel
theorem dX12_gives_250 : decode cX12_gives 250 = .ok (.goto 4, 3) := by decide +kernel
theorem dX12_gives_253 : decode cX12_gives 253 = .ok (.iconst 0, 1) := by decide +kernel
theorem dX12_gives_254 : decode cX12_gives 254 = .ok (.istore 7, 2) := by decide +kernel
theorem dX12_gives_256 : decode cX12_gives 256 = .ok (.goto 112, 3) := by decide +kernel
theorem dX12_gives_259 : decode cX12_gives 259 = .ok (.iload_n 1, 1) := by decide +kernel
theorem dX12_gives_260 : decode cX12_gives 260 = .ok (.iconst 2, 1) := by decide +kernel
theorem dX12_gives_261 : decode cX12_gives 261 = .ok (.if_icmp .ne 38, 3) := by decide +kernel
theorem dX12_gives_264 : decode cX12_gives 264 = .ok (.iload 7, 2) := by decide +kernel
theorem dX12_gives_266 : decode cX12_gives 266 = .ok (.ifCond .eq 27, 3) := by decide +kernel
theorem dX12_gives_269 : decode cX12_gives 269 = .ok (.aload_n 2, 1) := by decide +kernel
theorem dX12_gives_270 : decode cX12_gives 270 = .ok (.iload_n 3, 1) := by decide +kernel
theorem dX12_gives_271 : decode cX12_gives 271 = .ok (.iload 6, 2) := by decide +kernel
theorem dX12_gives_273 : decode cX12_gives 273 = .ok (.iadd, 1) := by decide +kernel
theorem dX12_gives_274 : decode cX12_gives 274 = .ok (.baload, 1) := by decide +kernel
theorem dX12_gives_275 : decode cX12_gives 275 = .ok (.ifCond .eq 18, 3) := by decide +kernel
theorem dX12_gives_278 : decode cX12_gives 278 = .ok (.aload 4, 2) := by decide +kernel
theorem dX12_gives_280 : decode cX12_gives 280 = .ok (.iload 5, 2) := by decide +kernel
theorem dX12_gives_282 : decode cX12_gives 282 = .ok (.iload 6, 2) := by decide +kernel
theorem dX12_gives_284 : decode cX12_gives 284 = .ok (.iadd, 1) := by decide +kernel
theorem dX12_gives_285 : decode cX12_gives 285 = .ok (.baload, 1) := by decide +kernel
theorem dX12_gives_286 : decode cX12_gives 286 = .ok (.ifCond .eq 7, 3) := by decide +kernel
theorem dX12_gives_289 : decode cX12_gives 289 = .ok (.iconst 1, 1) := by decide +kernel
theorem dX12_gives_290 : decode cX12_gives 290 = .ok (.goto 4, 3) := by decide +kernel
theorem dX12_gives_293 : decode cX12_gives 293 = .ok (.iconst 0, 1) := by decide +kernel
theorem dX12_gives_294 : decode cX12_gives 294 = .ok (.istore 7, 2) := by decide +kernel
theorem dX12_gives_296 : decode cX12_gives 296 = .ok (.goto 72, 3) := by decide +kernel
theorem dX12_gives_299 : decode cX12_gives 299 = .ok (.iload_n 1, 1) := by decide +kernel
theorem dX12_gives_300 : decode cX12_gives 300 = .ok (.iconst 4, 1) := by decide +kernel
theorem dX12_gives_301 : decode cX12_gives 301 = .ok (.if_icmp .ne 33, 3) := by decide +kernel
theorem dX12_gives_304 : decode cX12_gives 304 = .ok (.iload 7, 2) := by decide +kernel
theorem dX12_gives_306 : decode cX12_gives 306 = .ok (.ifCond .eq 22, 3) := by decide +kernel
theorem dX12_gives_309 : decode cX12_gives 309 = .ok (.aload_n 0, 1) := by decide +kernel
theorem dX12_gives_310 : decode cX12_gives 310 = .ok (.aload_n 2, 1) := by decide +kernel
theorem dX12_gives_311 : decode cX12_gives 311 = .ok (.iload_n 3, 1) := by decide +kernel
theorem dX12_gives_312 : decode cX12_gives 312 = .ok (.aload 4, 2) := by decide +kernel
theorem dX12_gives_314 : decode cX12_gives 314 = .ok (.iload 5, 2) := by decide +kernel
theorem dX12_gives_316 : decode cX12_gives 316 = .ok (.iload 6, 2) := by decide +kernel
theorem dX12_gives_318 : decode cX12_gives 318 = .ok (.invokevirtual 187, 3) := by decide +kernel
theorem dX12_gives_321 : decode cX12_gives 321 = .ok (.ifCond .eq 7, 3) := by decide +kernel
theorem dX12_gives_324 : decode cX12_gives 324 = .ok (.iconst 1, 1) := by decide +kernel
theorem dX12_gives_325 : decode cX12_gives 325 = .ok (.goto 4, 3) := by decide +kernel
theorem dX12_gives_328 : decode cX12_gives 328 = .ok (.iconst 0, 1) := by decide +kernel
theorem dX12_gives_329 : decode cX12_gives 329 = .ok (.istore 7, 2) := by decide +kernel
theorem dX12_gives_331 : decode cX12_gives 331 = .ok (.goto 37, 3) := by decide +kernel
theorem dX12_gives_334 : decode cX12_gives 334 = .ok (.iload 7, 2) := by decide +kernel
theorem dX12_gives_336 : decode cX12_gives 336 = .ok (.ifCond .eq 29, 3) := by decide +kernel
theorem dX12_gives_339 : decode cX12_gives 339 = .ok (.aload_n 2, 1) := by decide +kernel
theorem dX12_gives_340 : decode cX12_gives 340 = .ok (.iload_n 3, 1) := by decide +kernel
theorem dX12_gives_341 : decode cX12_gives 341 = .ok (.iload 6, 2) := by decide +kernel
theorem dX12_gives_343 : decode cX12_gives 343 = .ok (.iadd, 1) := by decide +kernel
theorem dX12_gives_344 : decode cX12_gives 344 = .ok (.baload, 1) := by decide +kernel
theorem dX12_gives_345 : decode cX12_gives 345 = .ok (.ifCond .eq 20, 3) := by decide +kernel
theorem dX12_gives_348 : decode cX12_gives 348 = .ok (.aload_n 0, 1) := by decide +kernel
theorem dX12_gives_349 : decode cX12_gives 349 = .ok (.aload 4, 2) := by decide +kernel
theorem dX12_gives_351 : decode cX12_gives 351 = .ok (.iload 5, 2) := by decide +kernel
theorem dX12_gives_353 : decode cX12_gives 353 = .ok (.iload 6, 2) := by decide +kernel
theorem dX12_gives_355 : decode cX12_gives 355 = .ok (.invokevirtual 191, 3) := by decide +kernel
theorem dX12_gives_358 : decode cX12_gives 358 = .ok (.ifCond .eq 7, 3) := by decide +kernel
theorem dX12_gives_361 : decode cX12_gives 361 = .ok (.iconst 1, 1) := by decide +kernel
theorem dX12_gives_362 : decode cX12_gives 362 = .ok (.goto 4, 3) := by decide +kernel
theorem dX12_gives_365 : decode cX12_gives 365 = .ok (.iconst 0, 1) := by decide +kernel
theorem dX12_gives_366 : decode cX12_gives 366 = .ok (.istore 7, 2) := by decide +kernel
theorem dX12_gives_368 : decode cX12_gives 368 = .ok (.aload_n 0, 1) := by decide +kernel
theorem dX12_gives_369 : decode cX12_gives 369 = .ok (.getfield 40, 3) := by decide +kernel
theorem dX12_gives_372 : decode cX12_gives 372 = .ok (.iload 6, 2) := by decide +kernel
theorem dX12_gives_374 : decode cX12_gives 374 = .ok (.iload 7, 2) := by decide +kernel
theorem dX12_gives_376 : decode cX12_gives 376 = .ok (.bastore, 1) := by decide +kernel
theorem dX12_gives_377 : decode cX12_gives 377 = .ok (.iinc 6 1, 3) := by decide +kernel
theorem dX12_gives_380 : decode cX12_gives 380 = .ok (.goto (-224), 3) := by decide +kernel
theorem dX12_gives_383 : decode cX12_gives 383 = .ok (.return_, 1) := by decide +kernel
theorem dX12_isNested_0 : decode cX12_isNested 0 = .ok (.iconst 0, 1) := by decide +kernel
theorem dX12_isNested_1 : decode cX12_isNested 1 = .ok (.istore 5, 2) := by decide +kernel
theorem dX12_isNested_3 : decode cX12_isNested 3 = .ok (.iload 5, 2) := by decide +kernel
theorem dX12_isNested_5 : decode cX12_isNested 5 = .ok (.aload_n 0, 1) := by decide +kernel
theorem dX12_isNested_6 : decode cX12_isNested 6 = .ok (.getfield 180, 3) := by decide +kernel
theorem dX12_isNested_9 : decode cX12_isNested 9 = .ok (.if_icmp .ge 52, 3) := by decide +kernel
theorem dX12_isNested_12 : decode cX12_isNested 12 = .ok (.iload 5, 2) := by decide +kernel
theorem dX12_isNested_14 : decode cX12_isNested 14 = .ok (.iload_n 3, 1) := by decide +kernel
theorem dX12_isNested_15 : decode cX12_isNested 15 = .ok (.if_icmp .eq 40, 3) := by decide +kernel
theorem dX12_isNested_18 : decode cX12_isNested 18 = .ok (.aload_n 1, 1) := by decide +kernel
theorem dX12_isNested_19 : decode cX12_isNested 19 = .ok (.iload_n 2, 1) := by decide +kernel
theorem dX12_isNested_20 : decode cX12_isNested 20 = .ok (.iload 5, 2) := by decide +kernel
theorem dX12_isNested_22 : decode cX12_isNested 22 = .ok (.iadd, 1) := by decide +kernel
theorem dX12_isNested_23 : decode cX12_isNested 23 = .ok (.baload, 1) := by decide +kernel
theorem dX12_isNested_24 : decode cX12_isNested 24 = .ok (.ifCond .eq 31, 3) := by decide +kernel
theorem dX12_isNested_27 : decode cX12_isNested 27 = .ok (.iload 4, 2) := by decide +kernel
theorem dX12_isNested_29 : decode cX12_isNested 29 = .ok (.ifCond .eq 15, 3) := by decide +kernel
theorem dX12_isNested_32 : decode cX12_isNested 32 = .ok (.iload 5, 2) := by decide +kernel
theorem dX12_isNested_34 : decode cX12_isNested 34 = .ok (.iload_n 3, 1) := by decide +kernel
theorem dX12_isNested_35 : decode cX12_isNested 35 = .ok (.iconst (-1), 1) := by decide +kernel
theorem dX12_isNested_36 : decode cX12_isNested 36 = .ok (.ixor, 1) := by decide +kernel
theorem dX12_isNested_37 : decode cX12_isNested 37 = .ok (.iand, 1) := by decide +kernel
theorem dX12_isNested_38 : decode cX12_isNested 38 = .ok (.ifCond .ne 17, 3) := by decide +kernel
theorem dX12_isNested_41 : decode cX12_isNested 41 = .ok (.goto 12, 3) := by decide +kernel
theorem dX12_isNested_44 : decode cX12_isNested 44 = .ok (.iload_n 3, 1) := by decide +kernel
theorem dX12_isNested_45 : decode cX12_isNested 45 = .ok (.iload 5, 2) := by decide +kernel
theorem dX12_isNested_47 : decode cX12_isNested 47 = .ok (.iconst (-1), 1) := by decide +kernel
theorem dX12_isNested_48 : decode cX12_isNested 48 = .ok (.ixor, 1) := by decide +kernel
theorem dX12_isNested_49 : decode cX12_isNested 49 = .ok (.iand, 1) := by decide +kernel
theorem dX12_isNested_50 : decode cX12_isNested 50 = .ok (.ifCond .ne 5, 3) := by decide +kernel
theorem dX12_isNested_53 : decode cX12_isNested 53 = .ok (.iconst 1, 1) := by decide +kernel
theorem dX12_isNested_54 : decode cX12_isNested 54 = .ok (.ireturn, 1) := by decide +kernel
theorem dX12_isNested_55 : decode cX12_isNested 55 = .ok (.iinc 5 1, 3) := by decide +kernel
theorem dX12_isNested_58 : decode cX12_isNested 58 = .ok (.goto (-55), 3) := by decide +kernel
theorem dX12_isNested_61 : decode cX12_isNested 61 = .ok (.iconst 0, 1) := by decide +kernel
theorem dX12_isNested_62 : decode cX12_isNested 62 = .ok (.ireturn, 1) := by decide +kernel
theorem dX12_turns_0 : decode cX12_turns 0 = .ok (.iload_n 1, 1) := by decide +kernel
theorem dX12_turns_1 : decode cX12_turns 1 = .ok (.iconst 2, 1) := by decide +kernel
theorem dX12_turns_2 : decode cX12_turns 2 = .ok (.if_icmp .ne 61, 3) := by decide +kernel
theorem dX12_turns_5 : decode cX12_turns 5 = .ok (.iconst 0, 1) := by decide +kernel
theorem dX12_turns_6 : decode cX12_turns 6 = .ok (.istore 4, 2) := by decide +kernel
theorem dX12_turns_8 : decode cX12_turns 8 = .ok (.iload 4, 2) := by decide +kernel
theorem dX12_turns_10 : decode cX12_turns 10 = .ok (.sipush 1024, 3) := by decide +kernel
theorem dX12_turns_13 : decode cX12_turns 13 = .ok (.if_icmp .ge 41, 3) := by decide +kernel
theorem dX12_turns_16 : decode cX12_turns 16 = .ok (.aload_n 0, 1) := by decide +kernel
theorem dX12_turns_17 : decode cX12_turns 17 = .ok (.getfield 43, 3) := by decide +kernel
theorem dX12_turns_20 : decode cX12_turns 20 = .ok (.iload 4, 2) := by decide +kernel
theorem dX12_turns_22 : decode cX12_turns 22 = .ok (.iload 4, 2) := by decide +kernel
theorem dX12_turns_24 : decode cX12_turns 24 = .ok (.aload_n 0, 1) := by decide +kernel
theorem dX12_turns_25 : decode cX12_turns 25 = .ok (.getfield 180, 3) := by decide +kernel
theorem dX12_turns_28 : decode cX12_turns 28 = .ok (.if_icmp .ge 18, 3) := by decide +kernel
theorem dX12_turns_31 : decode cX12_turns 31 = .ok (.aload_n 0, 1) := by decide +kernel
theorem dX12_turns_32 : decode cX12_turns 32 = .ok (.aload_n 2, 1) := by decide +kernel
theorem dX12_turns_33 : decode cX12_turns 33 = .ok (.iload_n 3, 1) := by decide +kernel
theorem dX12_turns_34 : decode cX12_turns 34 = .ok (.iload 4, 2) := by decide +kernel
theorem dX12_turns_36 : decode cX12_turns 36 = .ok (.invokevirtual 191, 3) := by decide +kernel
theorem dX12_turns_39 : decode cX12_turns 39 = .ok (.ifCond .eq 7, 3) := by decide +kernel
theorem dX12_turns_42 : decode cX12_turns 42 = .ok (.iconst 1, 1) := by decide +kernel
theorem dX12_turns_43 : decode cX12_turns 43 = .ok (.goto 4, 3) := by decide +kernel
theorem dX12_turns_46 : decode cX12_turns 46 = .ok (.iconst 0, 1) := by decide +kernel
theorem dX12_turns_47 : decode cX12_turns 47 = .ok (.bastore, 1) := by decide +kernel
theorem dX12_turns_48 : decode cX12_turns 48 = .ok (.iinc 4 1, 3) := by decide +kernel
theorem dX12_turns_51 : decode cX12_turns 51 = .ok (.goto (-43), 3) := by decide +kernel
theorem dX12_turns_54 : decode cX12_turns 54 = .ok (.aload_n 0, 1) := by decide +kernel
theorem dX12_turns_55 : decode cX12_turns 55 = .ok (.aload_n 0, 1) := by decide +kernel
theorem dX12_turns_56 : decode cX12_turns 56 = .ok (.getfield 43, 3) := by decide +kernel
theorem dX12_turns_59 : decode cX12_turns 59 = .ok (.invokevirtual 195, 3) := by decide +kernel
theorem dX12_turns_62 : decode cX12_turns 62 = .ok (.return_, 1) := by decide +kernel
theorem dX12_turns_63 : decode cX12_turns 63 = .ok (.iconst 0, 1) := by decide +kernel
theorem dX12_turns_64 : decode cX12_turns 64 = .ok (.istore 4, 2) := by decide +kernel
theorem dX12_turns_66 : decode cX12_turns 66 = .ok (.iload 4, 2) := by decide +kernel
theorem dX12_turns_68 : decode cX12_turns 68 = .ok (.sipush 1024, 3) := by decide +kernel
theorem dX12_turns_71 : decode cX12_turns 71 = .ok (.if_icmp .ge 192, 3) := by decide +kernel
theorem dX12_turns_74 : decode cX12_turns 74 = .ok (.iload 4, 2) := by decide +kernel
theorem dX12_turns_76 : decode cX12_turns 76 = .ok (.aload_n 0, 1) := by decide +kernel
theorem dX12_turns_77 : decode cX12_turns 77 = .ok (.getfield 180, 3) := by decide +kernel
theorem dX12_turns_80 : decode cX12_turns 80 = .ok (.if_icmp .ge 7, 3) := by decide +kernel
theorem dX12_turns_83 : decode cX12_turns 83 = .ok (.iconst 1, 1) := by decide +kernel
theorem dX12_turns_84 : decode cX12_turns 84 = .ok (.goto 4, 3) := by decide +kernel
theorem dX12_turns_87 : decode cX12_turns 87 = .ok (.iconst 0, 1) := by decide +kernel
theorem dX12_turns_88 : decode cX12_turns 88 = .ok (.istore 5, 2) := by decide +kernel
theorem dX12_turns_90 : decode cX12_turns 90 = .ok (.iload_n 1, 1) := by decide +kernel
theorem dX12_turns_91 : decode cX12_turns 91 = .ok (.ifCond .eq 8, 3) := by decide +kernel
theorem dX12_turns_94 : decode cX12_turns 94 = .ok (.iload_n 1, 1) := by decide +kernel
theorem dX12_turns_95 : decode cX12_turns 95 = .ok (.iconst 1, 1) := by decide +kernel
theorem dX12_turns_96 : decode cX12_turns 96 = .ok (.if_icmp .ne 47, 3) := by decide +kernel
theorem dX12_turns_99 : decode cX12_turns 99 = .ok (.iload 5, 2) := by decide +kernel
theorem dX12_turns_101 : decode cX12_turns 101 = .ok (.ifCond .eq 36, 3) := by decide +kernel
theorem dX12_turns_104 : decode cX12_turns 104 = .ok (.aload_n 2, 1) := by decide +kernel
theorem dX12_turns_105 : decode cX12_turns 105 = .ok (.iload_n 3, 1) := by decide +kernel
theorem dX12_turns_106 : decode cX12_turns 106 = .ok (.iload 4, 2) := by decide +kernel
theorem dX12_turns_108 : decode cX12_turns 108 = .ok (.iadd, 1) := by decide +kernel
theorem dX12_turns_109 : decode cX12_turns 109 = .ok (.baload, 1) := by decide +kernel
theorem dX12_turns_110 : decode cX12_turns 110 = .ok (.ifCond .eq 27, 3) := by decide +kernel
theorem dX12_turns_113 : decode cX12_turns 113 = .ok (.aload_n 0, 1) := by decide +kernel
theorem dX12_turns_114 : decode cX12_turns 114 = .ok (.aload_n 2, 1) := by decide +kernel
theorem dX12_turns_115 : decode cX12_turns 115 = .ok (.iload_n 3, 1) := by decide +kernel
theorem dX12_turns_116 : decode cX12_turns 116 = .ok (.iload 4, 2) := by decide +kernel
theorem dX12_turns_118 : decode cX12_turns 118 = .ok (.iload_n 1, 1) := by decide +kernel
theorem dX12_turns_119 : decode cX12_turns 119 = .ok (.ifCond .ne 7, 3) := by decide +kernel
theorem dX12_turns_122 : decode cX12_turns 122 = .ok (.iconst 1, 1) := by decide +kernel
theorem dX12_turns_123 : decode cX12_turns 123 = .ok (.goto 4, 3) := by decide +kernel
theorem dX12_turns_126 : decode cX12_turns 126 = .ok (.iconst 0, 1) := by decide +kernel
theorem dX12_turns_127 : decode cX12_turns 127 = .ok (.invokevirtual 199, 3) := by decide +kernel
theorem dX12_turns_130 : decode cX12_turns 130 = .ok (.ifCond .ne 7, 3) := by decide +kernel
theorem dX12_turns_133 : decode cX12_turns 133 = .ok (.iconst 1, 1) := by decide +kernel
theorem dX12_turns_134 : decode cX12_turns 134 = .ok (.goto 4, 3) := by decide +kernel
theorem dX12_turns_137 : decode cX12_turns 137 = .ok (.iconst 0, 1) := by decide +kernel
theorem dX12_turns_138 : decode cX12_turns 138 = .ok (.istore 5, 2) := by decide +kernel
theorem dX12_turns_140 : decode cX12_turns 140 = .ok (.goto 108, 3) := by decide +kernel
theorem dX12_turns_143 : decode cX12_turns 143 = .ok (.iload_n 1, 1) := by decide +kernel
theorem dX12_turns_144 : decode cX12_turns 144 = .ok (.iconst 3, 1) := by decide +kernel
theorem dX12_turns_145 : decode cX12_turns 145 = .ok (.if_icmp .ne 27, 3) := by decide +kernel
theorem dX12_turns_148 : decode cX12_turns 148 = .ok (.iload 5, 2) := by decide +kernel
theorem dX12_turns_150 : decode cX12_turns 150 = .ok (.ifCond .eq 16, 3) := by decide +kernel
theorem dX12_turns_153 : decode cX12_turns 153 = .ok (.aload_n 2, 1) := by decide +kernel
theorem dX12_turns_154 : decode cX12_turns 154 = .ok (.iload_n 3, 1) := by decide +kernel
theorem dX12_turns_155 : decode cX12_turns 155 = .ok (.iload 4, 2) := by decide +kernel
theorem dX12_turns_157 : decode cX12_turns 157 = .ok (.iadd, 1) := by decide +kernel
theorem dX12_turns_158 : decode cX12_turns 158 = .ok (.baload, 1) := by decide +kernel
theorem dX12_turns_159 : decode cX12_turns 159 = .ok (.ifCond .ne 7, 3) := by decide +kernel
theorem dX12_turns_162 : decode cX12_turns 162 = .ok (.iconst 1, 1) := by decide +kernel
theorem dX12_turns_163 : decode cX12_turns 163 = .ok (.goto 4, 3) := by decide +kernel
theorem dX12_turns_166 : decode cX12_turns 166 = .ok (.iconst 0, 1) := by decide +kernel
theorem dX12_turns_167 : decode cX12_turns 167 = .ok (.istore 5, 2) := by decide +kernel
theorem dX12_turns_169 : decode cX12_turns 169 = .ok (.goto 79, 3) := by decide +kernel
theorem dX12_turns_172 : decode cX12_turns 172 = .ok (.iload_n 1, 1) := by decide +kernel
theorem dX12_turns_173 : decode cX12_turns 173 = .ok (.iconst 4, 1) := by decide +kernel
theorem dX12_turns_174 : decode cX12_turns 174 = .ok (.if_icmp .eq 8, 3) := by decide +kernel
theorem dX12_turns_177 : decode cX12_turns 177 = .ok (.iload_n 1, 1) := by decide +kernel
theorem dX12_turns_178 : decode cX12_turns 178 = .ok (.iconst 5, 1) := by decide +kernel
theorem dX12_turns_179 : decode cX12_turns 179 = .ok (.if_icmp .ne 48, 3) := by decide +kernel
theorem dX12_turns_182 : decode cX12_turns 182 = .ok (.iload 5, 2) := by decide +kernel
theorem dX12_turns_184 : decode cX12_turns 184 = .ok (.ifCond .eq 37, 3) := by decide +kernel
theorem dX12_turns_187 : decode cX12_turns 187 = .ok (.aload_n 2, 1) := by decide +kernel
theorem dX12_turns_188 : decode cX12_turns 188 = .ok (.iload_n 3, 1) := by decide +kernel
theorem dX12_turns_189 : decode cX12_turns 189 = .ok (.iload 4, 2) := by decide +kernel
theorem dX12_turns_191 : decode cX12_turns 191 = .ok (.iadd, 1) := by decide +kernel
theorem dX12_turns_192 : decode cX12_turns 192 = .ok (.baload, 1) := by decide +kernel
theorem dX12_turns_193 : decode cX12_turns 193 = .ok (.ifCond .ne 24, 3) := by decide +kernel
theorem dX12_turns_196 : decode cX12_turns 196 = .ok (.aload_n 0, 1) := by decide +kernel
theorem dX12_turns_197 : decode cX12_turns 197 = .ok (.aload_n 2, 1) := by decide +kernel
theorem dX12_turns_198 : decode cX12_turns 198 = .ok (.iload_n 3, 1) := by decide +kernel
theorem dX12_turns_199 : decode cX12_turns 199 = .ok (.iload 4, 2) := by decide +kernel
theorem dX12_turns_201 : decode cX12_turns 201 = .ok (.iload_n 1, 1) := by decide +kernel
theorem dX12_turns_202 : decode cX12_turns 202 = .ok (.iconst 4, 1) := by decide +kernel
theorem dX12_turns_203 : decode cX12_turns 203 = .ok (.if_icmp .ne 7, 3) := by decide +kernel
theorem dX12_turns_206 : decode cX12_turns 206 = .ok (.iconst 1, 1) := by decide +kernel
theorem dX12_turns_207 : decode cX12_turns 207 = .ok (.goto 4, 3) := by decide +kernel
theorem dX12_turns_210 : decode cX12_turns 210 = .ok (.iconst 0, 1) := by decide +kernel
theorem dX12_turns_211 : decode cX12_turns 211 = .ok (.invokevirtual 199, 3) := by decide +kernel
theorem dX12_turns_214 : decode cX12_turns 214 = .ok (.ifCond .eq 7, 3) := by decide +kernel
theorem dX12_turns_217 : decode cX12_turns 217 = .ok (.iconst 1, 1) := by decide +kernel
theorem dX12_turns_218 : decode cX12_turns 218 = .ok (.goto 4, 3) := by decide +kernel
theorem dX12_turns_221 : decode cX12_turns 221 = .ok (.iconst 0, 1) := by decide +kernel
theorem dX12_turns_222 : decode cX12_turns 222 = .ok (.istore 5, 2) := by decide +kernel
theorem dX12_turns_224 : decode cX12_turns 224 = .ok (.goto 24, 3) := by decide +kernel
theorem dX12_turns_227 : decode cX12_turns 227 = .ok (.iload 5, 2) := by decide +kernel
theorem dX12_turns_229 : decode cX12_turns 229 = .ok (.ifCond .eq 16, 3) := by decide +kernel
theorem dX12_turns_232 : decode cX12_turns 232 = .ok (.aload_n 2, 1) := by decide +kernel
theorem dX12_turns_233 : decode cX12_turns 233 = .ok (.iload_n 3, 1) := by decide +kernel
theorem dX12_turns_234 : decode cX12_turns 234 = .ok (.iload 4, 2) := by decide +kernel
theorem dX12_turns_236 : decode cX12_turns 236 = .ok (.iadd, 1) := by decide +kernel
theorem dX12_turns_237 : decode cX12_turns 237 = .ok (.baload, 1) := by decide +kernel
theorem dX12_turns_238 : decode cX12_turns 238 = .ok (.ifCond .eq 7, 3) := by decide +kernel
theorem dX12_turns_241 : decode cX12_turns 241 = .ok (.iconst 1, 1) := by decide +kernel
theorem dX12_turns_242 : decode cX12_turns 242 = .ok (.goto 4, 3) := by decide +kernel
theorem dX12_turns_245 : decode cX12_turns 245 = .ok (.iconst 0, 1) := by decide +kernel
theorem dX12_turns_246 : decode cX12_turns 246 = .ok (.istore 5, 2) := by decide +kernel
theorem dX12_turns_248 : decode cX12_turns 248 = .ok (.aload_n 0, 1) := by decide +kernel
theorem dX12_turns_249 : decode cX12_turns 249 = .ok (.getfield 40, 3) := by decide +kernel
theorem dX12_turns_252 : decode cX12_turns 252 = .ok (.iload 4, 2) := by decide +kernel
theorem dX12_turns_254 : decode cX12_turns 254 = .ok (.iload 5, 2) := by decide +kernel
theorem dX12_turns_256 : decode cX12_turns 256 = .ok (.bastore, 1) := by decide +kernel
theorem dX12_turns_257 : decode cX12_turns 257 = .ok (.iinc 4 1, 3) := by decide +kernel
theorem dX12_turns_260 : decode cX12_turns 260 = .ok (.goto (-194), 3) := by decide +kernel
theorem dX12_turns_263 : decode cX12_turns 263 = .ok (.return_, 1) := by decide +kernel
theorem dX12_turns__0 : decode cX12_turns_ 0 = .ok (.iconst 0, 1) := by decide +kernel
theorem dX12_turns__1 : decode cX12_turns_ 1 = .ok (.istore_n 2, 1) := by decide +kernel
theorem dX12_turns__2 : decode cX12_turns_ 2 = .ok (.iload_n 2, 1) := by decide +kernel
theorem dX12_turns__3 : decode cX12_turns_ 3 = .ok (.sipush 1024, 3) := by decide +kernel
theorem dX12_turns__6 : decode cX12_turns_ 6 = .ok (.if_icmp .ge 45, 3) := by decide +kernel
theorem dX12_turns__9 : decode cX12_turns_ 9 = .ok (.aload_n 0, 1) := by decide +kernel
theorem dX12_turns__10 : decode cX12_turns_ 10 = .ok (.getfield 40, 3) := by decide +kernel
theorem dX12_turns__13 : decode cX12_turns_ 13 = .ok (.iload_n 2, 1) := by decide +kernel
theorem dX12_turns__14 : decode cX12_turns_ 14 = .ok (.iload_n 2, 1) := by decide +kernel
theorem dX12_turns__15 : decode cX12_turns_ 15 = .ok (.aload_n 0, 1) := by decide +kernel
theorem dX12_turns__16 : decode cX12_turns_ 16 = .ok (.getfield 180, 3) := by decide +kernel
theorem dX12_turns__19 : decode cX12_turns_ 19 = .ok (.if_icmp .ge 24, 3) := by decide +kernel
theorem dX12_turns__22 : decode cX12_turns_ 22 = .ok (.aload_n 1, 1) := by decide +kernel
theorem dX12_turns__23 : decode cX12_turns_ 23 = .ok (.iload_n 2, 1) := by decide +kernel
theorem dX12_turns__24 : decode cX12_turns_ 24 = .ok (.baload, 1) := by decide +kernel
theorem dX12_turns__25 : decode cX12_turns_ 25 = .ok (.ifCond .eq 18, 3) := by decide +kernel
theorem dX12_turns__28 : decode cX12_turns_ 28 = .ok (.aload_n 0, 1) := by decide +kernel
theorem dX12_turns__29 : decode cX12_turns_ 29 = .ok (.aload_n 1, 1) := by decide +kernel
theorem dX12_turns__30 : decode cX12_turns_ 30 = .ok (.iconst 0, 1) := by decide +kernel
theorem dX12_turns__31 : decode cX12_turns_ 31 = .ok (.iload_n 2, 1) := by decide +kernel
theorem dX12_turns__32 : decode cX12_turns_ 32 = .ok (.iconst 1, 1) := by decide +kernel
theorem dX12_turns__33 : decode cX12_turns_ 33 = .ok (.invokevirtual 199, 3) := by decide +kernel
theorem dX12_turns__36 : decode cX12_turns_ 36 = .ok (.ifCond .ne 7, 3) := by decide +kernel
theorem dX12_turns__39 : decode cX12_turns_ 39 = .ok (.iconst 1, 1) := by decide +kernel
theorem dX12_turns__40 : decode cX12_turns_ 40 = .ok (.goto 4, 3) := by decide +kernel
theorem dX12_turns__43 : decode cX12_turns_ 43 = .ok (.iconst 0, 1) := by decide +kernel
theorem dX12_turns__44 : decode cX12_turns_ 44 = .ok (.bastore, 1) := by decide +kernel
theorem dX12_turns__45 : decode cX12_turns_ 45 = .ok (.iinc 2 1, 3) := by decide +kernel
theorem dX12_turns__48 : decode cX12_turns_ 48 = .ok (.goto (-46), 3) := by decide +kernel
theorem dX12_turns__51 : decode cX12_turns_ 51 = .ok (.return_, 1) := by decide +kernel
theorem dX12_rank_0 : decode cX12_rank 0 = .ok (.iload_n 0, 1) := by decide +kernel
theorem dX12_rank_1 : decode cX12_rank 1 = .ok (.bipush 100, 2) := by decide +kernel
theorem dX12_rank_3 : decode cX12_rank 3 = .ok (.if_icmp .ne 7, 3) := by decide +kernel
theorem dX12_rank_6 : decode cX12_rank 6 = .ok (.iconst 0, 1) := by decide +kernel
theorem dX12_rank_7 : decode cX12_rank 7 = .ok (.goto 27, 3) := by decide +kernel
theorem dX12_rank_10 : decode cX12_rank 10 = .ok (.iload_n 0, 1) := by decide +kernel
theorem dX12_rank_11 : decode cX12_rank 11 = .ok (.bipush 50, 2) := by decide +kernel
theorem dX12_rank_13 : decode cX12_rank 13 = .ok (.if_icmp .lt 7, 3) := by decide +kernel
theorem dX12_rank_16 : decode cX12_rank 16 = .ok (.iconst 3, 1) := by decide +kernel
theorem dX12_rank_17 : decode cX12_rank 17 = .ok (.goto 17, 3) := by decide +kernel
theorem dX12_rank_20 : decode cX12_rank 20 = .ok (.iload_n 0, 1) := by decide +kernel
theorem dX12_rank_21 : decode cX12_rank 21 = .ok (.ifCond .eq 8, 3) := by decide +kernel
theorem dX12_rank_24 : decode cX12_rank 24 = .ok (.iload_n 0, 1) := by decide +kernel
theorem dX12_rank_25 : decode cX12_rank 25 = .ok (.iconst 1, 1) := by decide +kernel
theorem dX12_rank_26 : decode cX12_rank 26 = .ok (.if_icmp .ne 7, 3) := by decide +kernel
theorem dX12_rank_29 : decode cX12_rank 29 = .ok (.iconst 1, 1) := by decide +kernel
theorem dX12_rank_30 : decode cX12_rank 30 = .ok (.goto 4, 3) := by decide +kernel
theorem dX12_rank_33 : decode cX12_rank 33 = .ok (.iconst 2, 1) := by decide +kernel
theorem dX12_rank_34 : decode cX12_rank 34 = .ok (.ireturn, 1) := by decide +kernel
