theorem dX7_act_94 : decode cX7_act 94 = .ok (.getfield 131, 3) := by decide +kernel
theorem dX7_act_97 : decode cX7_act 97 = .ok (.i2l, 1) := by decide +kernel
theorem dX7_act_98 : decode cX7_act 98 = .ok (.lreturn, 1) := by decide +kernel
theorem dX7_act_99 : decode cX7_act 99 = .ok (.aload_n 0, 1) := by decide +kernel
theorem dX7_act_100 : decode cX7_act 100 = .ok (.ldc2_w 41, 3) := by decide +kernel
theorem dX7_act_103 : decode cX7_act 103 = .ok (.invokevirtual 43, 3) := by decide +kernel
theorem dX7_act_106 : decode cX7_act 106 = .ok (.lreturn, 1) := by decide +kernel
theorem dX7_untell_0 : decode cX7_untell 0 = .ok (.aload_n 0, 1) := by decide +kernel
theorem dX7_untell_1 : decode cX7_untell 1 = .ok (.getfield 12, 3) := by decide +kernel
theorem dX7_untell_4 : decode cX7_untell 4 = .ok (.getfield 134, 3) := by decide +kernel
theorem dX7_untell_7 : decode cX7_untell 7 = .ok (.ifCond .ne 11, 3) := by decide +kernel
theorem dX7_untell_10 : decode cX7_untell 10 = .ok (.aload_n 0, 1) := by decide +kernel
theorem dX7_untell_11 : decode cX7_untell 11 = .ok (.ldc2_w 137, 3) := by decide +kernel
theorem dX7_untell_14 : decode cX7_untell 14 = .ok (.invokevirtual 43, 3) := by decide +kernel
theorem dX7_untell_17 : decode cX7_untell 17 = .ok (.lreturn, 1) := by decide +kernel
theorem dX7_untell_18 : decode cX7_untell 18 = .ok (.aload_n 0, 1) := by decide +kernel
theorem dX7_untell_19 : decode cX7_untell 19 = .ok (.getfield 12, 3) := by decide +kernel
theorem dX7_untell_22 : decode cX7_untell 22 = .ok (.invokevirtual 139, 3) := by decide +kernel
theorem dX7_untell_25 : decode cX7_untell 25 = .ok (.aload_n 0, 1) := by decide +kernel
theorem dX7_untell_26 : decode cX7_untell 26 = .ok (.getfield 12, 3) := by decide +kernel
theorem dX7_untell_29 : decode cX7_untell 29 = .ok (.getfield 134, 3) := by decide +kernel
theorem dX7_untell_32 : decode cX7_untell 32 = .ok (.i2l, 1) := by decide +kernel
theorem dX7_untell_33 : decode cX7_untell 33 = .ok (.lreturn, 1) := by decide +kernel
theorem dX7_who_0 : decode cX7_who 0 = .ok (.iload_n 1, 1) := by decide +kernel
theorem dX7_who_1 : decode cX7_who 1 = .ok (.invokestatic 142, 3) := by decide +kernel
theorem dX7_who_4 : decode cX7_who 4 = .ok (.ifCond .eq 10, 3) := by decide +kernel
theorem dX7_who_7 : decode cX7_who 7 = .ok (.iload_n 2, 1) := by decide +kernel
theorem dX7_who_8 : decode cX7_who 8 = .ok (.invokestatic 69, 3) := by decide +kernel
theorem dX7_who_11 : decode cX7_who 11 = .ok (.ifCond .ne 11, 3) := by decide +kernel
theorem dX7_who_14 : decode cX7_who 14 = .ok (.aload_n 0, 1) := by decide +kernel
theorem dX7_who_15 : decode cX7_who 15 = .ok (.ldc2_w 41, 3) := by decide +kernel
theorem dX7_who_18 : decode cX7_who 18 = .ok (.invokevirtual 43, 3) := by decide +kernel
theorem dX7_who_21 : decode cX7_who 21 = .ok (.lreturn, 1) := by decide +kernel
theorem dX7_who_22 : decode cX7_who 22 = .ok (.aload_n 0, 1) := by decide +kernel
theorem dX7_who_23 : decode cX7_who 23 = .ok (.getfield 12, 3) := by decide +kernel
theorem dX7_who_26 : decode cX7_who 26 = .ok (.iload_n 2, 1) := by decide +kernel
theorem dX7_who_27 : decode cX7_who 27 = .ok (.invokevirtual 145, 3) := by decide +kernel
theorem dX7_who_30 : decode cX7_who 30 = .ok (.iload_n 1, 1) := by decide +kernel
theorem dX7_who_31 : decode cX7_who 31 = .ok (.invokevirtual 149, 3) := by decide +kernel
theorem dX7_who_34 : decode cX7_who 34 = .ok (.i2l, 1) := by decide +kernel
theorem dX7_who_35 : decode cX7_who 35 = .ok (.lreturn, 1) := by decide +kernel
theorem dX7_there_0 : decode cX7_there 0 = .ok (.aload_n 0, 1) := by decide +kernel
theorem dX7_there_1 : decode cX7_there 1 = .ok (.getfield 12, 3) := by decide +kernel
theorem dX7_there_4 : decode cX7_there 4 = .ok (.iload_n 1, 1) := by decide +kernel
theorem dX7_there_5 : decode cX7_there 5 = .ok (.invokevirtual 57, 3) := by decide +kernel
theorem dX7_there_8 : decode cX7_there 8 = .ok (.ifCond .eq 10, 3) := by decide +kernel
theorem dX7_there_11 : decode cX7_there 11 = .ok (.iload_n 2, 1) := by decide +kernel
theorem dX7_there_12 : decode cX7_there 12 = .ok (.invokestatic 69, 3) := by decide +kernel
theorem dX7_there_15 : decode cX7_there 15 = .ok (.ifCond .ne 11, 3) := by decide +kernel
theorem dX7_there_18 : decode cX7_there 18 = .ok (.aload_n 0, 1) := by decide +kernel
theorem dX7_there_19 : decode cX7_there 19 = .ok (.ldc2_w 41, 3) := by decide +kernel
theorem dX7_there_22 : decode cX7_there 22 = .ok (.invokevirtual 43, 3) := by decide +kernel
theorem dX7_there_25 : decode cX7_there 25 = .ok (.lreturn, 1) := by decide +kernel
theorem dX7_there_26 : decode cX7_there 26 = .ok (.aload_n 0, 1) := by decide +kernel
theorem dX7_there_27 : decode cX7_there 27 = .ok (.getfield 12, 3) := by decide +kernel
theorem dX7_there_30 : decode cX7_there 30 = .ok (.iload_n 1, 1) := by decide +kernel
theorem dX7_there_31 : decode cX7_there 31 = .ok (.invokevirtual 78, 3) := by decide +kernel
theorem dX7_there_34 : decode cX7_there 34 = .ok (.ifCond .ne 18, 3) := by decide +kernel
theorem dX7_there_37 : decode cX7_there 37 = .ok (.aload_n 0, 1) := by decide +kernel
theorem dX7_there_38 : decode cX7_there 38 = .ok (.getfield 12, 3) := by decide +kernel
theorem dX7_there_41 : decode cX7_there 41 = .ok (.iload_n 2, 1) := by decide +kernel
theorem dX7_there_42 : decode cX7_there 42 = .ok (.invokevirtual 145, 3) := by decide +kernel
theorem dX7_there_45 : decode cX7_there 45 = .ok (.iload_n 1, 1) := by decide +kernel
theorem dX7_there_46 : decode cX7_there 46 = .ok (.invokevirtual 154, 3) := by decide +kernel
theorem dX7_there_49 : decode cX7_there 49 = .ok (.ifCond .eq 7, 3) := by decide +kernel
theorem dX7_there_52 : decode cX7_there 52 = .ok (.iconst 1, 1) := by decide +kernel
theorem dX7_there_53 : decode cX7_there 53 = .ok (.goto 4, 3) := by decide +kernel
theorem dX7_there_56 : decode cX7_there 56 = .ok (.iconst 0, 1) := by decide +kernel
theorem dX7_there_57 : decode cX7_there 57 = .ok (.invokestatic 117, 3) := by decide +kernel
theorem dX7_there_60 : decode cX7_there 60 = .ok (.lreturn, 1) := by decide +kernel
theorem dX7_cells_0 : decode cX7_cells 0 = .ok (.aload_n 0, 1) := by decide +kernel
theorem dX7_cells_1 : decode cX7_cells 1 = .ok (.getfield 12, 3) := by decide +kernel
theorem dX7_cells_4 : decode cX7_cells 4 = .ok (.iload_n 1, 1) := by decide +kernel
theorem dX7_cells_5 : decode cX7_cells 5 = .ok (.invokevirtual 57, 3) := by decide +kernel
theorem dX7_cells_8 : decode cX7_cells 8 = .ok (.ifCond .eq 10, 3) := by decide +kernel
theorem dX7_cells_11 : decode cX7_cells 11 = .ok (.iload_n 2, 1) := by decide +kernel
theorem dX7_cells_12 : decode cX7_cells 12 = .ok (.invokestatic 69, 3) := by decide +kernel
theorem dX7_cells_15 : decode cX7_cells 15 = .ok (.ifCond .ne 11, 3) := by decide +kernel
theorem dX7_cells_18 : decode cX7_cells 18 = .ok (.aload_n 0, 1) := by decide +kernel
theorem dX7_cells_19 : decode cX7_cells 19 = .ok (.ldc2_w 41, 3) := by decide +kernel
theorem dX7_cells_22 : decode cX7_cells 22 = .ok (.invokevirtual 43, 3) := by decide +kernel
theorem dX7_cells_25 : decode cX7_cells 25 = .ok (.lreturn, 1) := by decide +kernel
theorem dX7_cells_26 : decode cX7_cells 26 = .ok (.aload_n 0, 1) := by decide +kernel
theorem dX7_cells_27 : decode cX7_cells 27 = .ok (.getfield 12, 3) := by decide +kernel
theorem dX7_cells_30 : decode cX7_cells 30 = .ok (.iload_n 1, 1) := by decide +kernel
theorem dX7_cells_31 : decode cX7_cells 31 = .ok (.iload_n 2, 1) := by decide +kernel
theorem dX7_cells_32 : decode cX7_cells 32 = .ok (.invokevirtual 157, 3) := by decide +kernel
theorem dX7_cells_35 : decode cX7_cells 35 = .ok (.lreturn, 1) := by decide +kernel
theorem dX7_shape_0 : decode cX7_shape 0 = .ok (.aload_n 0, 1) := by decide +kernel
theorem dX7_shape_1 : decode cX7_shape 1 = .ok (.getfield 12, 3) := by decide +kernel
theorem dX7_shape_4 : decode cX7_shape 4 = .ok (.iload_n 1, 1) := by decide +kernel
theorem dX7_shape_5 : decode cX7_shape 5 = .ok (.invokevirtual 57, 3) := by decide +kernel
theorem dX7_shape_8 : decode cX7_shape 8 = .ok (.ifCond .eq 10, 3) := by decide +kernel
theorem dX7_shape_11 : decode cX7_shape 11 = .ok (.iload_n 2, 1) := by decide +kernel
theorem dX7_shape_12 : decode cX7_shape 12 = .ok (.invokestatic 69, 3) := by decide +kernel
theorem dX7_shape_15 : decode cX7_shape 15 = .ok (.ifCond .ne 11, 3) := by decide +kernel
theorem dX7_shape_18 : decode cX7_shape 18 = .ok (.aload_n 0, 1) := by decide +kernel
theorem dX7_shape_19 : decode cX7_shape 19 = .ok (.ldc2_w 41, 3) := by decide +kernel
theorem dX7_shape_22 : decode cX7_shape 22 = .ok (.invokevirtual 43, 3) := by decide +kernel
theorem dX7_shape_25 : decode cX7_shape 25 = .ok (.lreturn, 1) := by decide +kernel
theorem dX7_shape_26 : decode cX7_shape 26 = .ok (.aload_n 0, 1) := by decide +kernel
theorem dX7_shape_27 : decode cX7_shape 27 = .ok (.getfield 12, 3) := by decide +kernel
theorem dX7_shape_30 : decode cX7_shape 30 = .ok (.iload_n 1, 1) := by decide +kernel
theorem dX7_shape_31 : decode cX7_shape 31 = .ok (.iload_n 2, 1) := by decide +kernel
theorem dX7_shape_32 : decode cX7_shape 32 = .ok (.invokevirtual 157, 3) := by decide +kernel
theorem dX7_shape_35 : decode cX7_shape 35 = .ok (.lstore 4, 2) := by decide +kernel
theorem dX7_shape_37 : decode cX7_shape 37 = .ok (.iload_n 3, 1) := by decide +kernel
theorem dX7_shape_38 : decode cX7_shape 38 = .ok (.tableswitch 47 0 2 #[26, 33, 40], 26) := by decide +kernel
theorem dX7_shape_64 : decode cX7_shape 64 = .ok (.lload 4, 2) := by decide +kernel
theorem dX7_shape_66 : decode cX7_shape 66 = .ok (.invokestatic 125, 3) := by decide +kernel
theorem dX7_shape_69 : decode cX7_shape 69 = .ok (.i2l, 1) := by decide +kernel
theorem dX7_shape_70 : decode cX7_shape 70 = .ok (.lreturn, 1) := by decide +kernel
theorem dX7_shape_71 : decode cX7_shape 71 = .ok (.lload 4, 2) := by decide +kernel
theorem dX7_shape_73 : decode cX7_shape 73 = .ok (.invokestatic 161, 3) := by decide +kernel
theorem dX7_shape_76 : decode cX7_shape 76 = .ok (.i2l, 1) := by decide +kernel
theorem dX7_shape_77 : decode cX7_shape 77 = .ok (.lreturn, 1) := by decide +kernel
theorem dX7_shape_78 : decode cX7_shape 78 = .ok (.lload 4, 2) := by decide +kernel
theorem dX7_shape_80 : decode cX7_shape 80 = .ok (.invokestatic 164, 3) := by decide +kernel
theorem dX7_shape_83 : decode cX7_shape 83 = .ok (.i2l, 1) := by decide +kernel
theorem dX7_shape_84 : decode cX7_shape 84 = .ok (.lreturn, 1) := by decide +kernel
theorem dX7_shape_85 : decode cX7_shape 85 = .ok (.aload_n 0, 1) := by decide +kernel
theorem dX7_shape_86 : decode cX7_shape 86 = .ok (.ldc2_w 41, 3) := by decide +kernel
theorem dX7_shape_89 : decode cX7_shape 89 = .ok (.invokevirtual 43, 3) := by decide +kernel
theorem dX7_shape_92 : decode cX7_shape 92 = .ok (.lreturn, 1) := by decide +kernel
theorem dX7_under_0 : decode cX7_under 0 = .ok (.aload_n 0, 1) := by decide +kernel
theorem dX7_under_1 : decode cX7_under 1 = .ok (.getfield 12, 3) := by decide +kernel
theorem dX7_under_4 : decode cX7_under 4 = .ok (.iload_n 1, 1) := by decide +kernel
theorem dX7_under_5 : decode cX7_under 5 = .ok (.invokevirtual 57, 3) := by decide +kernel
theorem dX7_under_8 : decode cX7_under 8 = .ok (.ifCond .eq 10, 3) := by decide +kernel
theorem dX7_under_11 : decode cX7_under 11 = .ok (.iload_n 2, 1) := by decide +kernel
theorem dX7_under_12 : decode cX7_under 12 = .ok (.invokestatic 69, 3) := by decide +kernel
theorem dX7_under_15 : decode cX7_under 15 = .ok (.ifCond .ne 11, 3) := by decide +kernel
theorem dX7_under_18 : decode cX7_under 18 = .ok (.aload_n 0, 1) := by decide +kernel
theorem dX7_under_19 : decode cX7_under 19 = .ok (.ldc2_w 41, 3) := by decide +kernel
theorem dX7_under_22 : decode cX7_under 22 = .ok (.invokevirtual 43, 3) := by decide +kernel
theorem dX7_under_25 : decode cX7_under 25 = .ok (.lreturn, 1) := by decide +kernel
theorem dX7_under_26 : decode cX7_under 26 = .ok (.aload_n 0, 1) := by decide +kernel
theorem dX7_under_27 : decode cX7_under 27 = .ok (.getfield 12, 3) := by decide +kernel
theorem dX7_under_30 : decode cX7_under 30 = .ok (.iload_n 1, 1) := by decide +kernel
theorem dX7_under_31 : decode cX7_under 31 = .ok (.invokevirtual 78, 3) := by decide +kernel
theorem dX7_under_34 : decode cX7_under 34 = .ok (.ifCond .eq 11, 3) := by decide +kernel
theorem dX7_under_37 : decode cX7_under 37 = .ok (.aload_n 0, 1) := by decide +kernel
theorem dX7_under_38 : decode cX7_under 38 = .ok (.ldc2_w 67, 3) := by decide +kernel
theorem dX7_under_41 : decode cX7_under 41 = .ok (.invokevirtual 43, 3) := by decide +kernel
theorem dX7_under_44 : decode cX7_under 44 = .ok (.lreturn, 1) := by decide +kernel
theorem dX7_under_45 : decode cX7_under 45 = .ok (.aload_n 0, 1) := by decide +kernel
theorem dX7_under_46 : decode cX7_under 46 = .ok (.getfield 12, 3) := by decide +kernel
theorem dX7_under_49 : decode cX7_under 49 = .ok (.iload_n 2, 1) := by decide +kernel
theorem dX7_under_50 : decode cX7_under 50 = .ok (.invokevirtual 145, 3) := by decide +kernel
theorem dX7_under_53 : decode cX7_under 53 = .ok (.iload_n 1, 1) := by decide +kernel
theorem dX7_under_54 : decode cX7_under 54 = .ok (.invokevirtual 167, 3) := by decide +kernel
theorem dX7_under_57 : decode cX7_under 57 = .ok (.istore_n 3, 1) := by decide +kernel
theorem dX7_under_58 : decode cX7_under 58 = .ok (.iload_n 3, 1) := by decide +kernel
theorem dX7_under_59 : decode cX7_under 59 = .ok (.bipush 10, 2) := by decide +kernel
theorem dX7_under_61 : decode cX7_under 61 = .ok (.if_icmp .ne 13, 3) := by decide +kernel
theorem dX7_under_64 : decode cX7_under 64 = .ok (.aload_n 0, 1) := by decide +kernel
theorem dX7_under_65 : decode cX7_under 65 = .ok (.ldc2_w 137, 3) := by decide +kernel
theorem dX7_under_68 : decode cX7_under 68 = .ok (.invokevirtual 43, 3) := by decide +kernel
theorem dX7_under_71 : decode cX7_under 71 = .ok (.goto 5, 3) := by decide +kernel
theorem dX7_under_74 : decode cX7_under 74 = .ok (.iload_n 3, 1) := by decide +kernel
theorem dX7_under_75 : decode cX7_under 75 = .ok (.i2l, 1) := by decide +kernel
theorem dX7_under_76 : decode cX7_under 76 = .ok (.lreturn, 1) := by decide +kernel
theorem dX7_led_0 : decode cX7_led 0 = .ok (.iload_n 1, 1) := by decide +kernel
theorem dX7_led_1 : decode cX7_led 1 = .ok (.invokestatic 142, 3) := by decide +kernel
theorem dX7_led_4 : decode cX7_led 4 = .ok (.ifCond .eq 17, 3) := by decide +kernel
theorem dX7_led_7 : decode cX7_led 7 = .ok (.iload_n 2, 1) := by decide +kernel
theorem dX7_led_8 : decode cX7_led 8 = .ok (.invokestatic 142, 3) := by decide +kernel
theorem dX7_led_11 : decode cX7_led 11 = .ok (.ifCond .eq 10, 3) := by decide +kernel
theorem dX7_led_14 : decode cX7_led 14 = .ok (.iload_n 3, 1) := by decide +kernel
theorem dX7_led_15 : decode cX7_led 15 = .ok (.invokestatic 69, 3) := by decide +kernel
theorem dX7_led_18 : decode cX7_led 18 = .ok (.ifCond .ne 11, 3) := by decide +kernel
theorem dX7_led_21 : decode cX7_led 21 = .ok (.aload_n 0, 1) := by decide +kernel
theorem dX7_led_22 : decode cX7_led 22 = .ok (.ldc2_w 41, 3) := by decide +kernel
theorem dX7_led_25 : decode cX7_led 25 = .ok (.invokevirtual 43, 3) := by decide +kernel
theorem dX7_led_28 : decode cX7_led 28 = .ok (.lreturn, 1) := by decide +kernel
theorem dX7_led_29 : decode cX7_led 29 = .ok (.iload_n 1, 1) := by decide +kernel
theorem dX7_led_30 : decode cX7_led 30 = .ok (.iload_n 2, 1) := by decide +kernel
theorem dX7_led_31 : decode cX7_led 31 = .ok (.invokestatic 170, 3) := by decide +kernel
theorem dX7_led_34 : decode cX7_led 34 = .ok (.ifCond .ne 11, 3) := by decide +kernel
theorem dX7_led_37 : decode cX7_led 37 = .ok (.aload_n 0, 1) := by decide +kernel
theorem dX7_led_38 : decode cX7_led 38 = .ok (.ldc2_w 173, 3) := by decide +kernel
theorem dX7_led_41 : decode cX7_led 41 = .ok (.invokevirtual 43, 3) := by decide +kernel
theorem dX7_led_44 : decode cX7_led 44 = .ok (.lreturn, 1) := by decide +kernel
theorem dX7_led_45 : decode cX7_led 45 = .ok (.aload_n 0, 1) := by decide +kernel
theorem dX7_led_46 : decode cX7_led 46 = .ok (.getfield 12, 3) := by decide +kernel
theorem dX7_led_49 : decode cX7_led 49 = .ok (.iload_n 1, 1) := by decide +kernel
theorem dX7_led_50 : decode cX7_led 50 = .ok (.iload_n 2, 1) := by decide +kernel
theorem dX7_led_51 : decode cX7_led 51 = .ok (.iload_n 3, 1) := by decide +kernel
theorem dX7_led_52 : decode cX7_led 52 = .ok (.invokevirtual 175, 3) := by decide +kernel
theorem dX7_led_55 : decode cX7_led 55 = .ok (.istore 4, 2) := by decide +kernel
theorem dX7_led_57 : decode cX7_led 57 = .ok (.iload 4, 2) := by decide +kernel
theorem dX7_led_59 : decode cX7_led 59 = .ok (.iconst (-1), 1) := by decide +kernel
theorem dX7_led_60 : decode cX7_led 60 = .ok (.if_icmp .ne 13, 3) := by decide +kernel
theorem dX7_led_63 : decode cX7_led 63 = .ok (.aload_n 0, 1) := by decide +kernel
theorem dX7_led_64 : decode cX7_led 64 = .ok (.ldc2_w 137, 3) := by decide +kernel
theorem dX7_led_67 : decode cX7_led 67 = .ok (.invokevirtual 43, 3) := by decide +kernel
theorem dX7_led_70 : decode cX7_led 70 = .ok (.goto 6, 3) := by decide +kernel
theorem dX7_led_73 : decode cX7_led 73 = .ok (.iload 4, 2) := by decide +kernel
theorem dX7_led_75 : decode cX7_led 75 = .ok (.i2l, 1) := by decide +kernel
theorem dX7_led_76 : decode cX7_led 76 = .ok (.lreturn, 1) := by decide +kernel
theorem dX7_borders_0 : decode cX7_borders 0 = .ok (.iload_n 1, 1) := by decide +kernel
theorem dX7_borders_1 : decode cX7_borders 1 = .ok (.invokestatic 69, 3) := by decide +kernel
theorem dX7_borders_4 : decode cX7_borders 4 = .ok (.ifCond .ne 11, 3) := by decide +kernel
theorem dX7_borders_7 : decode cX7_borders 7 = .ok (.aload_n 0, 1) := by decide +kernel
theorem dX7_borders_8 : decode cX7_borders 8 = .ok (.ldc2_w 41, 3) := by decide +kernel
theorem dX7_borders_11 : decode cX7_borders 11 = .ok (.invokevirtual 43, 3) := by decide +kernel
theorem dX7_borders_14 : decode cX7_borders 14 = .ok (.lreturn, 1) := by decide +kernel
theorem dX7_borders_15 : decode cX7_borders 15 = .ok (.aload_n 0, 1) := by decide +kernel
theorem dX7_borders_16 : decode cX7_borders 16 = .ok (.getfield 12, 3) := by decide +kernel
theorem dX7_borders_19 : decode cX7_borders 19 = .ok (.iload_n 1, 1) := by decide +kernel
theorem dX7_borders_20 : decode cX7_borders 20 = .ok (.invokevirtual 145, 3) := by decide +kernel
theorem dX7_borders_23 : decode cX7_borders 23 = .ok (.invokevirtual 179, 3) := by decide +kernel
theorem dX7_borders_26 : decode cX7_borders 26 = .ok (.i2l, 1) := by decide +kernel
theorem dX7_borders_27 : decode cX7_borders 27 = .ok (.lreturn, 1) := by decide +kernel
theorem dX7_changes_0 : decode cX7_changes 0 = .ok (.aload_n 0, 1) := by decide +kernel
theorem dX7_changes_1 : decode cX7_changes 1 = .ok (.getfield 12, 3) := by decide +kernel
theorem dX7_changes_4 : decode cX7_changes 4 = .ok (.iload_n 1, 1) := by decide +kernel
theorem dX7_changes_5 : decode cX7_changes 5 = .ok (.invokevirtual 57, 3) := by decide +kernel
theorem dX7_changes_8 : decode cX7_changes 8 = .ok (.ifCond .eq 10, 3) := by decide +kernel
theorem dX7_changes_11 : decode cX7_changes 11 = .ok (.iload_n 2, 1) := by decide +kernel
theorem dX7_changes_12 : decode cX7_changes 12 = .ok (.invokestatic 69, 3) := by decide +kernel
theorem dX7_changes_15 : decode cX7_changes 15 = .ok (.ifCond .ne 11, 3) := by decide +kernel
theorem dX7_changes_18 : decode cX7_changes 18 = .ok (.aload_n 0, 1) := by decide +kernel
theorem dX7_changes_19 : decode cX7_changes 19 = .ok (.ldc2_w 41, 3) := by decide +kernel
theorem dX7_changes_22 : decode cX7_changes 22 = .ok (.invokevirtual 43, 3) := by decide +kernel
theorem dX7_changes_25 : decode cX7_changes 25 = .ok (.lreturn, 1) := by decide +kernel
theorem dX7_changes_26 : decode cX7_changes 26 = .ok (.aload_n 0, 1) := by decide +kernel
theorem dX7_changes_27 : decode cX7_changes 27 = .ok (.getfield 12, 3) := by decide +kernel
theorem dX7_changes_30 : decode cX7_changes 30 = .ok (.iload_n 1, 1) := by decide +kernel
theorem dX7_changes_31 : decode cX7_changes 31 = .ok (.iload_n 2, 1) := by decide +kernel
theorem dX7_changes_32 : decode cX7_changes 32 = .ok (.invokevirtual 183, 3) := by decide +kernel
theorem dX7_changes_35 : decode cX7_changes 35 = .ok (.istore_n 3, 1) := by decide +kernel
theorem dX7_changes_36 : decode cX7_changes 36 = .ok (.iload_n 3, 1) := by decide +kernel
theorem dX7_changes_37 : decode cX7_changes 37 = .ok (.iconst (-1), 1) := by decide +kernel
theorem dX7_changes_38 : decode cX7_changes 38 = .ok (.if_icmp .ne 13, 3) := by decide +kernel
theorem dX7_changes_41 : decode cX7_changes 41 = .ok (.aload_n 0, 1) := by decide +kernel
theorem dX7_changes_42 : decode cX7_changes 42 = .ok (.ldc2_w 137, 3) := by decide +kernel
theorem dX7_changes_45 : decode cX7_changes 45 = .ok (.invokevirtual 43, 3) := by decide +kernel
theorem dX7_changes_48 : decode cX7_changes 48 = .ok (.goto 5, 3) := by decide +kernel
theorem dX7_changes_51 : decode cX7_changes 51 = .ok (.iload_n 3, 1) := by decide +kernel
theorem dX7_changes_52 : decode cX7_changes 52 = .ok (.i2l, 1) := by decide +kernel
theorem dX7_changes_53 : decode cX7_changes 53 = .ok (.lreturn, 1) := by decide +kernel
theorem dX7_map_0 : decode cX7_map 0 = .ok (.iload_n 1, 1) := by decide +kernel
theorem dX7_map_1 : decode cX7_map 1 = .ok (.invokestatic 187, 3) := by decide +kernel
theorem dX7_map_4 : decode cX7_map 4 = .ok (.ifCond .eq 10, 3) := by decide +kernel
theorem dX7_map_7 : decode cX7_map 7 = .ok (.iload_n 2, 1) := by decide +kernel
theorem dX7_map_8 : decode cX7_map 8 = .ok (.invokestatic 69, 3) := by decide +kernel
theorem dX7_map_11 : decode cX7_map 11 = .ok (.ifCond .ne 11, 3) := by decide +kernel
theorem dX7_map_14 : decode cX7_map 14 = .ok (.aload_n 0, 1) := by decide +kernel
theorem dX7_map_15 : decode cX7_map 15 = .ok (.ldc2_w 41, 3) := by decide +kernel
theorem dX7_map_18 : decode cX7_map 18 = .ok (.invokevirtual 43, 3) := by decide +kernel
theorem dX7_map_21 : decode cX7_map 21 = .ok (.lreturn, 1) := by decide +kernel
theorem dX7_map_22 : decode cX7_map 22 = .ok (.aload_n 0, 1) := by decide +kernel
theorem dX7_map_23 : decode cX7_map 23 = .ok (.getfield 25, 3) := by decide +kernel
theorem dX7_map_26 : decode cX7_map 26 = .ok (.iload_n 1, 1) := by decide +kernel
theorem dX7_map_27 : decode cX7_map 27 = .ok (.aaload, 1) := by decide +kernel
theorem dX7_map_28 : decode cX7_map 28 = .ok (.getfield 190, 3) := by decide +kernel
theorem dX7_map_31 : decode cX7_map 31 = .ok (.istore_n 3, 1) := by decide +kernel
theorem dX7_map_32 : decode cX7_map 32 = .ok (.aload_n 0, 1) := by decide +kernel
theorem dX7_map_33 : decode cX7_map 33 = .ok (.getfield 25, 3) := by decide +kernel
theorem dX7_map_36 : decode cX7_map 36 = .ok (.iload_n 1, 1) := by decide +kernel
theorem dX7_map_37 : decode cX7_map 37 = .ok (.aaload, 1) := by decide +kernel
theorem dX7_map_38 : decode cX7_map 38 = .ok (.iload_n 2, 1) := by decide +kernel
theorem dX7_map_39 : decode cX7_map 39 = .ok (.putfield 190, 3) := by decide +kernel
theorem dX7_map_42 : decode cX7_map 42 = .ok (.iload_n 3, 1) := by decide +kernel
theorem dX7_map_43 : decode cX7_map 43 = .ok (.i2l, 1) := by decide +kernel
theorem dX7_map_44 : decode cX7_map 44 = .ok (.lreturn, 1) := by decide +kernel
theorem dX7_claim_0 : decode cX7_claim 0 = .ok (.iload_n 1, 1) := by decide +kernel
theorem dX7_claim_1 : decode cX7_claim 1 = .ok (.invokestatic 187, 3) := by decide +kernel
theorem dX7_claim_4 : decode cX7_claim 4 = .ok (.ifCond .eq 18, 3) := by decide +kernel
theorem dX7_claim_7 : decode cX7_claim 7 = .ok (.iload_n 2, 1) := by decide +kernel
theorem dX7_claim_8 : decode cX7_claim 8 = .ok (.invokestatic 142, 3) := by decide +kernel
theorem dX7_claim_11 : decode cX7_claim 11 = .ok (.ifCond .eq 11, 3) := by decide +kernel
theorem dX7_claim_14 : decode cX7_claim 14 = .ok (.aload_n 0, 1) := by decide +kernel
theorem dX7_claim_15 : decode cX7_claim 15 = .ok (.iload_n 3, 1) := by decide +kernel
theorem dX7_claim_16 : decode cX7_claim 16 = .ok (.invokevirtual 191, 3) := by decide +kernel
theorem dX7_claim_19 : decode cX7_claim 19 = .ok (.ifCond .ne 11, 3) := by decide +kernel
theorem dX7_claim_22 : decode cX7_claim 22 = .ok (.aload_n 0, 1) := by decide +kernel
theorem dX7_claim_23 : decode cX7_claim 23 = .ok (.ldc2_w 41, 3) := by decide +kernel
theorem dX7_claim_26 : decode cX7_claim 26 = .ok (.invokevirtual 43, 3) := by decide +kernel
theorem dX7_claim_29 : decode cX7_claim 29 = .ok (.lreturn, 1) := by decide +kernel
theorem dX7_claim_30 : decode cX7_claim 30 = .ok (.aload_n 0, 1) := by decide +kernel
theorem dX7_claim_31 : decode cX7_claim 31 = .ok (.getfield 12, 3) := by decide +kernel
theorem dX7_claim_34 : decode cX7_claim 34 = .ok (.iload_n 3, 1) := by decide +kernel
theorem dX7_claim_35 : decode cX7_claim 35 = .ok (.invokevirtual 78, 3) := by decide +kernel
theorem dX7_claim_38 : decode cX7_claim 38 = .ok (.ifCond .eq 11, 3) := by decide +kernel
theorem dX7_claim_41 : decode cX7_claim 41 = .ok (.aload_n 0, 1) := by decide +kernel
theorem dX7_claim_42 : decode cX7_claim 42 = .ok (.ldc2_w 67, 3) := by decide +kernel
theorem dX7_claim_45 : decode cX7_claim 45 = .ok (.invokevirtual 43, 3) := by decide +kernel
theorem dX7_claim_48 : decode cX7_claim 48 = .ok (.lreturn, 1) := by decide +kernel
theorem dX7_claim_49 : decode cX7_claim 49 = .ok (.aload_n 0, 1) := by decide +kernel
theorem dX7_claim_50 : decode cX7_claim 50 = .ok (.getfield 25, 3) := by decide +kernel
theorem dX7_claim_53 : decode cX7_claim 53 = .ok (.iload_n 1, 1) := by decide +kernel
theorem dX7_claim_54 : decode cX7_claim 54 = .ok (.aaload, 1) := by decide +kernel
theorem dX7_claim_55 : decode cX7_claim 55 = .ok (.invokevirtual 194, 3) := by decide +kernel
theorem dX7_claim_58 : decode cX7_claim 58 = .ok (.iload_n 2, 1) := by decide +kernel
theorem dX7_claim_59 : decode cX7_claim 59 = .ok (.invokestatic 198, 3) := by decide +kernel
theorem dX7_claim_62 : decode cX7_claim 62 = .ok (.istore 4, 2) := by decide +kernel
theorem dX7_claim_64 : decode cX7_claim 64 = .ok (.aload_n 0, 1) := by decide +kernel
theorem dX7_claim_65 : decode cX7_claim 65 = .ok (.getfield 25, 3) := by decide +kernel
theorem dX7_claim_68 : decode cX7_claim 68 = .ok (.iload_n 1, 1) := by decide +kernel
theorem dX7_claim_69 : decode cX7_claim 69 = .ok (.aaload, 1) := by decide +kernel
theorem dX7_claim_70 : decode cX7_claim 70 = .ok (.iload_n 2, 1) := by decide +kernel
theorem dX7_claim_71 : decode cX7_claim 71 = .ok (.iload_n 3, 1) := by decide +kernel
theorem dX7_claim_72 : decode cX7_claim 72 = .ok (.invokevirtual 202, 3) := by decide +kernel
theorem dX7_claim_75 : decode cX7_claim 75 = .ok (.iload 4, 2) := by decide +kernel
theorem dX7_claim_77 : decode cX7_claim 77 = .ok (.invokestatic 117, 3) := by decide +kernel
theorem dX7_claim_80 : decode cX7_claim 80 = .ok (.lreturn, 1) := by decide +kernel
theorem dX7_read_0 : decode cX7_read 0 = .ok (.iload_n 1, 1) := by decide +kernel
theorem dX7_read_1 : decode cX7_read 1 = .ok (.invokestatic 187, 3) := by decide +kernel
theorem dX7_read_4 : decode cX7_read 4 = .ok (.ifCond .ne 11, 3) := by decide +kernel
theorem dX7_read_7 : decode cX7_read 7 = .ok (.aload_n 0, 1) := by decide +kernel
theorem dX7_read_8 : decode cX7_read 8 = .ok (.ldc2_w 41, 3) := by decide +kernel
theorem dX7_read_11 : decode cX7_read 11 = .ok (.invokevirtual 43, 3) := by decide +kernel
theorem dX7_read_14 : decode cX7_read 14 = .ok (.lreturn, 1) := by decide +kernel
theorem dX7_read_15 : decode cX7_read 15 = .ok (.aload_n 0, 1) := by decide +kernel
theorem dX7_read_16 : decode cX7_read 16 = .ok (.getfield 25, 3) := by decide +kernel
theorem dX7_read_19 : decode cX7_read 19 = .ok (.iload_n 1, 1) := by decide +kernel
theorem dX7_read_20 : decode cX7_read 20 = .ok (.aaload, 1) := by decide +kernel
theorem dX7_read_21 : decode cX7_read 21 = .ok (.astore_n 3, 1) := by decide +kernel
theorem dX7_read_22 : decode cX7_read 22 = .ok (.iload_n 2, 1) := by decide +kernel
theorem dX7_read_23 : decode cX7_read 23 = .ok (.tableswitch 75 0 3 #[29, 35, 41, 58], 29) := by decide +kernel
theorem dX7_read_52 : decode cX7_read 52 = .ok (.aload_n 3, 1) := by decide +kernel
theorem dX7_read_53 : decode cX7_read 53 = .ok (.getfield 190, 3) := by decide +kernel
theorem dX7_read_56 : decode cX7_read 56 = .ok (.i2l, 1) := by decide +kernel
theorem dX7_read_57 : decode cX7_read 57 = .ok (.lreturn, 1) := by decide +kernel
theorem dX7_read_58 : decode cX7_read 58 = .ok (.aload_n 3, 1) := by decide +kernel
theorem dX7_read_59 : decode cX7_read 59 = .ok (.invokevirtual 206, 3) := by decide +kernel
theorem dX7_read_62 : decode cX7_read 62 = .ok (.i2l, 1) := by decide +kernel
theorem dX7_read_63 : decode cX7_read 63 = .ok (.lreturn, 1) := by decide +kernel
theorem dX7_read_64 : decode cX7_read 64 = .ok (.aload_n 3, 1) := by decide +kernel
theorem dX7_read_65 : decode cX7_read 65 = .ok (.aload_n 0, 1) := by decide +kernel
theorem dX7_read_66 : decode cX7_read 66 = .ok (.getfield 12, 3) := by decide +kernel
theorem dX7_read_69 : decode cX7_read 69 = .ok (.aload_n 3, 1) := by decide +kernel
theorem dX7_read_70 : decode cX7_read 70 = .ok (.getfield 190, 3) := by decide +kernel
theorem dX7_read_73 : decode cX7_read 73 = .ok (.invokevirtual 145, 3) := by decide +kernel
theorem dX7_read_76 : decode cX7_read 76 = .ok (.invokevirtual 209, 3) := by decide +kernel
theorem dX7_read_79 : decode cX7_read 79 = .ok (.i2l, 1) := by decide +kernel
theorem dX7_read_80 : decode cX7_read 80 = .ok (.lreturn, 1) := by decide +kernel
theorem dX7_read_81 : decode cX7_read 81 = .ok (.aload_n 3, 1) := by decide +kernel
theorem dX7_read_82 : decode cX7_read 82 = .ok (.aload_n 0, 1) := by decide +kernel
theorem dX7_read_83 : decode cX7_read 83 = .ok (.getfield 12, 3) := by decide +kernel
theorem dX7_read_86 : decode cX7_read 86 = .ok (.aload_n 3, 1) := by decide +kernel
theorem dX7_read_87 : decode cX7_read 87 = .ok (.getfield 190, 3) := by decide +kernel
theorem dX7_read_90 : decode cX7_read 90 = .ok (.invokevirtual 145, 3) := by decide +kernel
theorem dX7_read_93 : decode cX7_read 93 = .ok (.invokevirtual 213, 3) := by decide +kernel
theorem dX7_read_96 : decode cX7_read 96 = .ok (.i2l, 1) := by decide +kernel
theorem dX7_read_97 : decode cX7_read 97 = .ok (.lreturn, 1) := by decide +kernel
theorem dX7_read_98 : decode cX7_read 98 = .ok (.aload_n 0, 1) := by decide +kernel
theorem dX7_read_99 : decode cX7_read 99 = .ok (.ldc2_w 41, 3) := by decide +kernel
theorem dX7_read_102 : decode cX7_read 102 = .ok (.invokevirtual 43, 3) := by decide +kernel
theorem dX7_read_105 : decode cX7_read 105 = .ok (.lreturn, 1) := by decide +kernel
theorem dX7_best_0 : decode cX7_best 0 = .ok (.iload_n 1, 1) := by decide +kernel
theorem dX7_best_1 : decode cX7_best 1 = .ok (.invokestatic 187, 3) := by decide +kernel
theorem dX7_best_4 : decode cX7_best 4 = .ok (.ifCond .eq 22, 3) := by decide +kernel
theorem dX7_best_7 : decode cX7_best 7 = .ok (.iload_n 2, 1) := by decide +kernel
theorem dX7_best_8 : decode cX7_best 8 = .ok (.invokestatic 69, 3) := by decide +kernel
theorem dX7_best_11 : decode cX7_best 11 = .ok (.ifCond .eq 15, 3) := by decide +kernel
theorem dX7_best_14 : decode cX7_best 14 = .ok (.iload_n 3, 1) := by decide +kernel
theorem dX7_best_15 : decode cX7_best 15 = .ok (.invokestatic 69, 3) := by decide +kernel
theorem dX7_best_18 : decode cX7_best 18 = .ok (.ifCond .eq 8, 3) := by decide +kernel
theorem dX7_best_21 : decode cX7_best 21 = .ok (.iload_n 2, 1) := by decide +kernel
theorem dX7_best_22 : decode cX7_best 22 = .ok (.iload_n 3, 1) := by decide +kernel
theorem dX7_best_23 : decode cX7_best 23 = .ok (.if_icmp .le 11, 3) := by decide +kernel
theorem dX7_best_26 : decode cX7_best 26 = .ok (.aload_n 0, 1) := by decide +kernel
theorem dX7_best_27 : decode cX7_best 27 = .ok (.ldc2_w 41, 3) := by decide +kernel
theorem dX7_best_30 : decode cX7_best 30 = .ok (.invokevirtual 43, 3) := by decide +kernel
theorem dX7_best_33 : decode cX7_best 33 = .ok (.lreturn, 1) := by decide +kernel
theorem dX7_best_34 : decode cX7_best 34 = .ok (.aload_n 0, 1) := by decide +kernel
theorem dX7_best_35 : decode cX7_best 35 = .ok (.aload_n 0, 1) := by decide +kernel
theorem dX7_best_36 : decode cX7_best 36 = .ok (.getfield 25, 3) := by decide +kernel
theorem dX7_best_39 : decode cX7_best 39 = .ok (.iload_n 1, 1) := by decide +kernel
theorem dX7_best_40 : decode cX7_best 40 = .ok (.aaload, 1) := by decide +kernel
theorem dX7_best_41 : decode cX7_best 41 = .ok (.iload_n 2, 1) := by decide +kernel
theorem dX7_best_42 : decode cX7_best 42 = .ok (.iload_n 3, 1) := by decide +kernel
theorem dX7_best_43 : decode cX7_best 43 = .ok (.invokevirtual 216, 3) := by decide +kernel
theorem dX7_best_46 : decode cX7_best 46 = .ok (.i2l, 1) := by decide +kernel
theorem dX7_best_47 : decode cX7_best 47 = .ok (.lreturn, 1) := by decide +kernel
theorem dX7_quarrel_0 : decode cX7_quarrel 0 = .ok (.iload_n 1, 1) := by decide +kernel
theorem dX7_quarrel_1 : decode cX7_quarrel 1 = .ok (.invokestatic 187, 3) := by decide +kernel
theorem dX7_quarrel_4 : decode cX7_quarrel 4 = .ok (.ifCond .eq 10, 3) := by decide +kernel
theorem dX7_quarrel_7 : decode cX7_quarrel 7 = .ok (.iload_n 2, 1) := by decide +kernel
theorem dX7_quarrel_8 : decode cX7_quarrel 8 = .ok (.invokestatic 187, 3) := by decide +kernel
theorem dX7_quarrel_11 : decode cX7_quarrel 11 = .ok (.ifCond .ne 11, 3) := by decide +kernel
theorem dX7_quarrel_14 : decode cX7_quarrel 14 = .ok (.aload_n 0, 1) := by decide +kernel
theorem dX7_quarrel_15 : decode cX7_quarrel 15 = .ok (.ldc2_w 41, 3) := by decide +kernel
theorem dX7_quarrel_18 : decode cX7_quarrel 18 = .ok (.invokevirtual 43, 3) := by decide +kernel
theorem dX7_quarrel_21 : decode cX7_quarrel 21 = .ok (.lreturn, 1) := by decide +kernel
theorem dX7_quarrel_22 : decode cX7_quarrel 22 = .ok (.aload_n 0, 1) := by decide +kernel
theorem dX7_quarrel_23 : decode cX7_quarrel 23 = .ok (.getfield 25, 3) := by decide +kernel
theorem dX7_quarrel_26 : decode cX7_quarrel 26 = .ok (.iload_n 1, 1) := by decide +kernel
theorem dX7_quarrel_27 : decode cX7_quarrel 27 = .ok (.aaload, 1) := by decide +kernel
theorem dX7_quarrel_28 : decode cX7_quarrel 28 = .ok (.aload_n 0, 1) := by decide +kernel
theorem dX7_quarrel_29 : decode cX7_quarrel 29 = .ok (.getfield 25, 3) := by decide +kernel
theorem dX7_quarrel_32 : decode cX7_quarrel 32 = .ok (.iload_n 2, 1) := by decide +kernel
theorem dX7_quarrel_33 : decode cX7_quarrel 33 = .ok (.aaload, 1) := by decide +kernel
theorem dX7_quarrel_34 : decode cX7_quarrel 34 = .ok (.invokevirtual 220, 3) := by decide +kernel
theorem dX7_quarrel_37 : decode cX7_quarrel 37 = .ok (.istore_n 3, 1) := by decide +kernel
theorem dX7_quarrel_38 : decode cX7_quarrel 38 = .ok (.iload_n 3, 1) := by decide +kernel
theorem dX7_quarrel_39 : decode cX7_quarrel 39 = .ok (.bipush 36, 2) := by decide +kernel
theorem dX7_quarrel_41 : decode cX7_quarrel 41 = .ok (.if_icmp .ne 13, 3) := by decide +kernel
theorem dX7_quarrel_44 : decode cX7_quarrel 44 = .ok (.aload_n 0, 1) := by decide +kernel
theorem dX7_quarrel_45 : decode cX7_quarrel 45 = .ok (.ldc2_w 137, 3) := by decide +kernel
theorem dX7_quarrel_48 : decode cX7_quarrel 48 = .ok (.invokevirtual 43, 3) := by decide +kernel
theorem dX7_quarrel_51 : decode cX7_quarrel 51 = .ok (.goto 5, 3) := by decide +kernel
theorem dX7_quarrel_54 : decode cX7_quarrel 54 = .ok (.iload_n 3, 1) := by decide +kernel
theorem dX7_quarrel_55 : decode cX7_quarrel 55 = .ok (.i2l, 1) := by decide +kernel
theorem dX7_quarrel_56 : decode cX7_quarrel 56 = .ok (.lreturn, 1) := by decide +kernel
theorem dX7_count_0 : decode cX7_count 0 = .ok (.aload_n 0, 1) := by decide +kernel
theorem dX7_count_1 : decode cX7_count 1 = .ok (.getfield 12, 3) := by decide +kernel
theorem dX7_count_4 : decode cX7_count 4 = .ok (.iload_n 1, 1) := by decide +kernel
theorem dX7_count_5 : decode cX7_count 5 = .ok (.invokevirtual 57, 3) := by decide +kernel
theorem dX7_count_8 : decode cX7_count 8 = .ok (.ifCond .eq 20, 3) := by decide +kernel
theorem dX7_count_11 : decode cX7_count 11 = .ok (.iload_n 2, 1) := by decide +kernel
theorem dX7_count_12 : decode cX7_count 12 = .ok (.invokestatic 69, 3) := by decide +kernel
theorem dX7_count_15 : decode cX7_count 15 = .ok (.ifCond .eq 13, 3) := by decide +kernel
theorem dX7_count_18 : decode cX7_count 18 = .ok (.iload_n 3, 1) := by decide +kernel
theorem dX7_count_19 : decode cX7_count 19 = .ok (.ifCond .lt 9, 3) := by decide +kernel
theorem dX7_count_22 : decode cX7_count 22 = .ok (.iload_n 3, 1) := by decide +kernel
theorem dX7_count_23 : decode cX7_count 23 = .ok (.ldc 224, 2) := by decide +kernel
theorem dX7_count_25 : decode cX7_count 25 = .ok (.if_icmp .le 11, 3) := by decide +kernel
theorem dX7_count_28 : decode cX7_count 28 = .ok (.aload_n 0, 1) := by decide +kernel
theorem dX7_count_29 : decode cX7_count 29 = .ok (.ldc2_w 41, 3) := by decide +kernel
theorem dX7_count_32 : decode cX7_count 32 = .ok (.invokevirtual 43, 3) := by decide +kernel
theorem dX7_count_35 : decode cX7_count 35 = .ok (.lreturn, 1) := by decide +kernel
theorem dX7_count_36 : decode cX7_count 36 = .ok (.aload_n 0, 1) := by decide +kernel
theorem dX7_count_37 : decode cX7_count 37 = .ok (.getfield 12, 3) := by decide +kernel
theorem dX7_count_40 : decode cX7_count 40 = .ok (.iload_n 1, 1) := by decide +kernel
theorem dX7_count_41 : decode cX7_count 41 = .ok (.invokevirtual 78, 3) := by decide +kernel
theorem dX7_count_44 : decode cX7_count 44 = .ok (.ifCond .eq 11, 3) := by decide +kernel
theorem dX7_count_47 : decode cX7_count 47 = .ok (.aload_n 0, 1) := by decide +kernel
theorem dX7_count_48 : decode cX7_count 48 = .ok (.ldc2_w 67, 3) := by decide +kernel
theorem dX7_count_51 : decode cX7_count 51 = .ok (.invokevirtual 43, 3) := by decide +kernel
theorem dX7_count_54 : decode cX7_count 54 = .ok (.lreturn, 1) := by decide +kernel
theorem dX7_count_55 : decode cX7_count 55 = .ok (.aload_n 0, 1) := by decide +kernel
theorem dX7_count_56 : decode cX7_count 56 = .ok (.getfield 19, 3) := by decide +kernel
theorem dX7_count_59 : decode cX7_count 59 = .ok (.invokevirtual 225, 3) := by decide +kernel
theorem dX7_count_62 : decode cX7_count 62 = .ok (.ifCond .eq 11, 3) := by decide +kernel
theorem dX7_count_65 : decode cX7_count 65 = .ok (.aload_n 0, 1) := by decide +kernel
theorem dX7_count_66 : decode cX7_count 66 = .ok (.ldc2_w 51, 3) := by decide +kernel
theorem dX7_count_69 : decode cX7_count 69 = .ok (.invokevirtual 43, 3) := by decide +kernel
theorem dX7_count_72 : decode cX7_count 72 = .ok (.lreturn, 1) := by decide +kernel
theorem dX7_count_73 : decode cX7_count 73 = .ok (.aload_n 0, 1) := by decide +kernel
theorem dX7_count_74 : decode cX7_count 74 = .ok (.getfield 19, 3) := by decide +kernel
theorem dX7_count_77 : decode cX7_count 77 = .ok (.iload_n 1, 1) := by decide +kernel
theorem dX7_count_78 : decode cX7_count 78 = .ok (.iload_n 2, 1) := by decide +kernel
theorem dX7_count_79 : decode cX7_count 79 = .ok (.iload_n 3, 1) := by decide +kernel
theorem dX7_count_80 : decode cX7_count 80 = .ok (.invokevirtual 228, 3) := by decide +kernel
theorem dX7_count_83 : decode cX7_count 83 = .ok (.i2l, 1) := by decide +kernel
theorem dX7_count_84 : decode cX7_count 84 = .ok (.lreturn, 1) := by decide +kernel
theorem dX7_carried_0 : decode cX7_carried 0 = .ok (.aload_n 0, 1) := by decide +kernel
theorem dX7_carried_1 : decode cX7_carried 1 = .ok (.getfield 12, 3) := by decide +kernel
theorem dX7_carried_4 : decode cX7_carried 4 = .ok (.iload_n 2, 1) := by decide +kernel
theorem dX7_carried_5 : decode cX7_carried 5 = .ok (.invokevirtual 57, 3) := by decide +kernel
theorem dX7_carried_8 : decode cX7_carried 8 = .ok (.ifCond .eq 17, 3) := by decide +kernel
theorem dX7_carried_11 : decode cX7_carried 11 = .ok (.iload_n 1, 1) := by decide +kernel
theorem dX7_carried_12 : decode cX7_carried 12 = .ok (.invokestatic 69, 3) := by decide +kernel
theorem dX7_carried_15 : decode cX7_carried 15 = .ok (.ifCond .eq 10, 3) := by decide +kernel
theorem dX7_carried_18 : decode cX7_carried 18 = .ok (.iload_n 3, 1) := by decide +kernel
theorem dX7_carried_19 : decode cX7_carried 19 = .ok (.invokestatic 69, 3) := by decide +kernel
theorem dX7_carried_22 : decode cX7_carried 22 = .ok (.ifCond .ne 11, 3) := by decide +kernel
theorem dX7_carried_25 : decode cX7_carried 25 = .ok (.aload_n 0, 1) := by decide +kernel
theorem dX7_carried_26 : decode cX7_carried 26 = .ok (.ldc2_w 41, 3) := by decide +kernel
theorem dX7_carried_29 : decode cX7_carried 29 = .ok (.invokevirtual 43, 3) := by decide +kernel
theorem dX7_carried_32 : decode cX7_carried 32 = .ok (.lreturn, 1) := by decide +kernel
theorem dX7_carried_33 : decode cX7_carried 33 = .ok (.aload_n 0, 1) := by decide +kernel
theorem dX7_carried_34 : decode cX7_carried 34 = .ok (.getfield 19, 3) := by decide +kernel
theorem dX7_carried_37 : decode cX7_carried 37 = .ok (.iload_n 1, 1) := by decide +kernel
theorem dX7_carried_38 : decode cX7_carried 38 = .ok (.aload_n 0, 1) := by decide +kernel
theorem dX7_carried_39 : decode cX7_carried 39 = .ok (.getfield 12, 3) := by decide +kernel
theorem dX7_carried_42 : decode cX7_carried 42 = .ok (.iload_n 1, 1) := by decide +kernel
theorem dX7_carried_43 : decode cX7_carried 43 = .ok (.invokevirtual 145, 3) := by decide +kernel
theorem dX7_carried_46 : decode cX7_carried 46 = .ok (.aload_n 0, 1) := by decide +kernel
theorem dX7_carried_47 : decode cX7_carried 47 = .ok (.getfield 12, 3) := by decide +kernel
theorem dX7_carried_50 : decode cX7_carried 50 = .ok (.iload_n 2, 1) := by decide +kernel
theorem dX7_carried_51 : decode cX7_carried 51 = .ok (.iload_n 3, 1) := by decide +kernel
theorem dX7_carried_52 : decode cX7_carried 52 = .ok (.invokevirtual 157, 3) := by decide +kernel
theorem dX7_carried_55 : decode cX7_carried 55 = .ok (.iload 4, 2) := by decide +kernel
theorem dX7_carried_57 : decode cX7_carried 57 = .ok (.invokevirtual 231, 3) := by decide +kernel
theorem dX7_carried_60 : decode cX7_carried 60 = .ok (.lreturn, 1) := by decide +kernel
theorem dX7_people_0 : decode cX7_people 0 = .ok (.iload_n 1, 1) := by decide +kernel
theorem dX7_people_1 : decode cX7_people 1 = .ok (.invokestatic 69, 3) := by decide +kernel
theorem dX7_people_4 : decode cX7_people 4 = .ok (.ifCond .ne 11, 3) := by decide +kernel
theorem dX7_people_7 : decode cX7_people 7 = .ok (.aload_n 0, 1) := by decide +kernel
theorem dX7_people_8 : decode cX7_people 8 = .ok (.ldc2_w 41, 3) := by decide +kernel
theorem dX7_people_11 : decode cX7_people 11 = .ok (.invokevirtual 43, 3) := by decide +kernel
theorem dX7_people_14 : decode cX7_people 14 = .ok (.lreturn, 1) := by decide +kernel
theorem dX7_people_15 : decode cX7_people 15 = .ok (.aload_n 0, 1) := by decide +kernel
theorem dX7_people_16 : decode cX7_people 16 = .ok (.getfield 19, 3) := by decide +kernel
theorem dX7_people_19 : decode cX7_people 19 = .ok (.iload_n 1, 1) := by decide +kernel
theorem dX7_people_20 : decode cX7_people 20 = .ok (.invokevirtual 235, 3) := by decide +kernel
theorem dX7_people_23 : decode cX7_people 23 = .ok (.lreturn, 1) := by decide +kernel
theorem dX7_sheet_0 : decode cX7_sheet 0 = .ok (.iload_n 1, 1) := by decide +kernel
theorem dX7_sheet_1 : decode cX7_sheet 1 = .ok (.invokestatic 239, 3) := by decide +kernel
theorem dX7_sheet_4 : decode cX7_sheet 4 = .ok (.ifCond .eq 25, 3) := by decide +kernel
theorem dX7_sheet_7 : decode cX7_sheet 7 = .ok (.iload_n 2, 1) := by decide +kernel
theorem dX7_sheet_8 : decode cX7_sheet 8 = .ok (.ifCond .eq 29, 3) := by decide +kernel
theorem dX7_sheet_11 : decode cX7_sheet 11 = .ok (.iload_n 2, 1) := by decide +kernel
theorem dX7_sheet_12 : decode cX7_sheet 12 = .ok (.bipush 8, 2) := by decide +kernel
theorem dX7_sheet_14 : decode cX7_sheet 14 = .ok (.if_icmp .eq 23, 3) := by decide +kernel
theorem dX7_sheet_17 : decode cX7_sheet 17 = .ok (.iload_n 2, 1) := by decide +kernel
theorem dX7_sheet_18 : decode cX7_sheet 18 = .ok (.bipush 16, 2) := by decide +kernel
theorem dX7_sheet_20 : decode cX7_sheet 20 = .ok (.if_icmp .eq 17, 3) := by decide +kernel
theorem dX7_sheet_23 : decode cX7_sheet 23 = .ok (.iload_n 2, 1) := by decide +kernel
theorem dX7_sheet_24 : decode cX7_sheet 24 = .ok (.bipush 32, 2) := by decide +kernel
theorem dX7_sheet_26 : decode cX7_sheet 26 = .ok (.if_icmp .eq 11, 3) := by decide +kernel
theorem dX7_sheet_29 : decode cX7_sheet 29 = .ok (.aload_n 0, 1) := by decide +kernel
theorem dX7_sheet_30 : decode cX7_sheet 30 = .ok (.ldc2_w 41, 3) := by decide +kernel
theorem dX7_sheet_33 : decode cX7_sheet 33 = .ok (.invokevirtual 43, 3) := by decide +kernel
theorem dX7_sheet_36 : decode cX7_sheet 36 = .ok (.lreturn, 1) := by decide +kernel
theorem dX7_sheet_37 : decode cX7_sheet 37 = .ok (.iload_n 3, 1) := by decide +kernel
theorem dX7_sheet_38 : decode cX7_sheet 38 = .ok (.ifCond .ge 11, 3) := by decide +kernel
theorem dX7_sheet_41 : decode cX7_sheet 41 = .ok (.aload_n 0, 1) := by decide +kernel
theorem dX7_sheet_42 : decode cX7_sheet 42 = .ok (.ldc2_w 173, 3) := by decide +kernel
theorem dX7_sheet_45 : decode cX7_sheet 45 = .ok (.invokevirtual 43, 3) := by decide +kernel
theorem dX7_sheet_48 : decode cX7_sheet 48 = .ok (.lreturn, 1) := by decide +kernel
theorem dX7_sheet_49 : decode cX7_sheet 49 = .ok (.iload_n 3, 1) := by decide +kernel
theorem dX7_sheet_50 : decode cX7_sheet 50 = .ok (.bipush 36, 2) := by decide +kernel
theorem dX7_sheet_52 : decode cX7_sheet 52 = .ok (.if_icmp .le 11, 3) := by decide +kernel
theorem dX7_sheet_55 : decode cX7_sheet 55 = .ok (.aload_n 0, 1) := by decide +kernel
theorem dX7_sheet_56 : decode cX7_sheet 56 = .ok (.ldc2_w 41, 3) := by decide +kernel
theorem dX7_sheet_59 : decode cX7_sheet 59 = .ok (.invokevirtual 43, 3) := by decide +kernel
theorem dX7_sheet_62 : decode cX7_sheet 62 = .ok (.lreturn, 1) := by decide +kernel
theorem dX7_sheet_63 : decode cX7_sheet 63 = .ok (.aload_n 0, 1) := by decide +kernel
theorem dX7_sheet_64 : decode cX7_sheet 64 = .ok (.getfield 31, 3) := by decide +kernel
theorem dX7_sheet_67 : decode cX7_sheet 67 = .ok (.iload_n 1, 1) := by decide +kernel
theorem dX7_sheet_68 : decode cX7_sheet 68 = .ok (.aaload, 1) := by decide +kernel
theorem dX7_sheet_69 : decode cX7_sheet 69 = .ok (.iload_n 2, 1) := by decide +kernel
theorem dX7_sheet_70 : decode cX7_sheet 70 = .ok (.iload_n 3, 1) := by decide +kernel
theorem dX7_sheet_71 : decode cX7_sheet 71 = .ok (.invokevirtual 242, 3) := by decide +kernel
theorem dX7_sheet_74 : decode cX7_sheet 74 = .ok (.i2l, 1) := by decide +kernel
theorem dX7_sheet_75 : decode cX7_sheet 75 = .ok (.lreturn, 1) := by decide +kernel
theorem dX7_put_0 : decode cX7_put 0 = .ok (.iload_n 1, 1) := by decide +kernel
theorem dX7_put_1 : decode cX7_put 1 = .ok (.invokestatic 239, 3) := by decide +kernel
theorem dX7_put_4 : decode cX7_put 4 = .ok (.ifCond .ne 11, 3) := by decide +kernel
theorem dX7_put_7 : decode cX7_put 7 = .ok (.aload_n 0, 1) := by decide +kernel
theorem dX7_put_8 : decode cX7_put 8 = .ok (.ldc2_w 41, 3) := by decide +kernel
theorem dX7_put_11 : decode cX7_put 11 = .ok (.invokevirtual 43, 3) := by decide +kernel
theorem dX7_put_14 : decode cX7_put 14 = .ok (.lreturn, 1) := by decide +kernel
theorem dX7_put_15 : decode cX7_put 15 = .ok (.aload_n 0, 1) := by decide +kernel
theorem dX7_put_16 : decode cX7_put 16 = .ok (.getfield 31, 3) := by decide +kernel
theorem dX7_put_19 : decode cX7_put 19 = .ok (.iload_n 1, 1) := by decide +kernel
theorem dX7_put_20 : decode cX7_put 20 = .ok (.aaload, 1) := by decide +kernel
theorem dX7_put_21 : decode cX7_put 21 = .ok (.astore 4, 2) := by decide +kernel
theorem dX7_put_23 : decode cX7_put 23 = .ok (.aload 4, 2) := by decide +kernel
theorem dX7_put_25 : decode cX7_put 25 = .ok (.invokevirtual 245, 3) := by decide +kernel
theorem dX7_put_28 : decode cX7_put 28 = .ok (.ifCond .eq 11, 3) := by decide +kernel
theorem dX7_put_31 : decode cX7_put 31 = .ok (.aload_n 0, 1) := by decide +kernel
theorem dX7_put_32 : decode cX7_put 32 = .ok (.ldc2_w 248, 3) := by decide +kernel
theorem dX7_put_35 : decode cX7_put 35 = .ok (.invokevirtual 43, 3) := by decide +kernel
theorem dX7_put_38 : decode cX7_put 38 = .ok (.lreturn, 1) := by decide +kernel
theorem dX7_put_39 : decode cX7_put 39 = .ok (.aload 4, 2) := by decide +kernel
theorem dX7_put_41 : decode cX7_put 41 = .ok (.iload_n 2, 1) := by decide +kernel
theorem dX7_put_42 : decode cX7_put 42 = .ok (.iconst 1, 1) := by decide +kernel
theorem dX7_put_43 : decode cX7_put 43 = .ok (.invokevirtual 250, 3) := by decide +kernel
theorem dX7_put_46 : decode cX7_put 46 = .ok (.ifCond .ne 11, 3) := by decide +kernel
theorem dX7_put_49 : decode cX7_put 49 = .ok (.aload_n 0, 1) := by decide +kernel
theorem dX7_put_50 : decode cX7_put 50 = .ok (.ldc2_w 41, 3) := by decide +kernel
theorem dX7_put_53 : decode cX7_put 53 = .ok (.invokevirtual 43, 3) := by decide +kernel
theorem dX7_put_56 : decode cX7_put 56 = .ok (.lreturn, 1) := by decide +kernel
theorem dX7_put_57 : decode cX7_put 57 = .ok (.aload 4, 2) := by decide +kernel
theorem dX7_put_59 : decode cX7_put 59 = .ok (.getfield 253, 3) := by decide +kernel
theorem dX7_put_62 : decode cX7_put 62 = .ok (.iload_n 2, 1) := by decide +kernel
theorem dX7_put_63 : decode cX7_put 63 = .ok (.aload 4, 2) := by decide +kernel
theorem dX7_put_65 : decode cX7_put 65 = .ok (.iload_n 3, 1) := by decide +kernel
theorem dX7_put_66 : decode cX7_put 66 = .ok (.invokevirtual 257, 3) := by decide +kernel
theorem dX7_put_69 : decode cX7_put 69 = .ok (.iastore, 1) := by decide +kernel
theorem dX7_put_70 : decode cX7_put 70 = .ok (.lconst 0, 1) := by decide +kernel
theorem dX7_put_71 : decode cX7_put 71 = .ok (.lreturn, 1) := by decide +kernel
theorem dX7_copy_0 : decode cX7_copy 0 = .ok (.iload_n 1, 1) := by decide +kernel
theorem dX7_copy_1 : decode cX7_copy 1 = .ok (.invokestatic 239, 3) := by decide +kernel
theorem dX7_copy_4 : decode cX7_copy 4 = .ok (.ifCond .eq 10, 3) := by decide +kernel
theorem dX7_copy_7 : decode cX7_copy 7 = .ok (.iload_n 3, 1) := by decide +kernel
theorem dX7_copy_8 : decode cX7_copy 8 = .ok (.invokestatic 239, 3) := by decide +kernel
theorem dX7_copy_11 : decode cX7_copy 11 = .ok (.ifCond .ne 11, 3) := by decide +kernel
theorem dX7_copy_14 : decode cX7_copy 14 = .ok (.aload_n 0, 1) := by decide +kernel
theorem dX7_copy_15 : decode cX7_copy 15 = .ok (.ldc2_w 41, 3) := by decide +kernel
theorem dX7_copy_18 : decode cX7_copy 18 = .ok (.invokevirtual 43, 3) := by decide +kernel
theorem dX7_copy_21 : decode cX7_copy 21 = .ok (.lreturn, 1) := by decide +kernel
theorem dX7_copy_22 : decode cX7_copy 22 = .ok (.aload_n 0, 1) := by decide +kernel
theorem dX7_copy_23 : decode cX7_copy 23 = .ok (.getfield 31, 3) := by decide +kernel
theorem dX7_copy_26 : decode cX7_copy 26 = .ok (.iload_n 1, 1) := by decide +kernel
theorem dX7_copy_27 : decode cX7_copy 27 = .ok (.aaload, 1) := by decide +kernel
theorem dX7_copy_28 : decode cX7_copy 28 = .ok (.astore 6, 2) := by decide +kernel
theorem dX7_copy_30 : decode cX7_copy 30 = .ok (.aload_n 0, 1) := by decide +kernel
theorem dX7_copy_31 : decode cX7_copy 31 = .ok (.getfield 31, 3) := by decide +kernel
theorem dX7_copy_34 : decode cX7_copy 34 = .ok (.iload_n 3, 1) := by decide +kernel
theorem dX7_copy_35 : decode cX7_copy 35 = .ok (.aaload, 1) := by decide +kernel
theorem dX7_copy_36 : decode cX7_copy 36 = .ok (.astore 7, 2) := by decide +kernel
theorem dX7_copy_38 : decode cX7_copy 38 = .ok (.aload 6, 2) := by decide +kernel
theorem dX7_copy_40 : decode cX7_copy 40 = .ok (.invokevirtual 245, 3) := by decide +kernel
theorem dX7_copy_43 : decode cX7_copy 43 = .ok (.ifCond .ne 11, 3) := by decide +kernel
theorem dX7_copy_46 : decode cX7_copy 46 = .ok (.aload 7, 2) := by decide +kernel
theorem dX7_copy_48 : decode cX7_copy 48 = .ok (.invokevirtual 245, 3) := by decide +kernel
theorem dX7_copy_51 : decode cX7_copy 51 = .ok (.ifCond .eq 11, 3) := by decide +kernel
theorem dX7_copy_54 : decode cX7_copy 54 = .ok (.aload_n 0, 1) := by decide +kernel
theorem dX7_copy_55 : decode cX7_copy 55 = .ok (.ldc2_w 248, 3) := by decide +kernel
theorem dX7_copy_58 : decode cX7_copy 58 = .ok (.invokevirtual 43, 3) := by decide +kernel
theorem dX7_copy_61 : decode cX7_copy 61 = .ok (.lreturn, 1) := by decide +kernel
theorem dX7_copy_62 : decode cX7_copy 62 = .ok (.aload 6, 2) := by decide +kernel
theorem dX7_copy_64 : decode cX7_copy 64 = .ok (.getfield 260, 3) := by decide +kernel
theorem dX7_copy_67 : decode cX7_copy 67 = .ok (.aload 7, 2) := by decide +kernel
theorem dX7_copy_69 : decode cX7_copy 69 = .ok (.getfield 260, 3) := by decide +kernel
theorem dX7_copy_72 : decode cX7_copy 72 = .ok (.if_icmp .eq 11, 3) := by decide +kernel
theorem dX7_copy_75 : decode cX7_copy 75 = .ok (.aload_n 0, 1) := by decide +kernel
theorem dX7_copy_76 : decode cX7_copy 76 = .ok (.ldc2_w 67, 3) := by decide +kernel
theorem dX7_copy_79 : decode cX7_copy 79 = .ok (.invokevirtual 43, 3) := by decide +kernel
theorem dX7_copy_82 : decode cX7_copy 82 = .ok (.lreturn, 1) := by decide +kernel
theorem dX7_copy_83 : decode cX7_copy 83 = .ok (.aload 6, 2) := by decide +kernel
theorem dX7_copy_85 : decode cX7_copy 85 = .ok (.iload_n 2, 1) := by decide +kernel
theorem dX7_copy_86 : decode cX7_copy 86 = .ok (.iload 5, 2) := by decide +kernel
theorem dX7_copy_88 : decode cX7_copy 88 = .ok (.invokevirtual 250, 3) := by decide +kernel
theorem dX7_copy_91 : decode cX7_copy 91 = .ok (.ifCond .eq 15, 3) := by decide +kernel
theorem dX7_copy_94 : decode cX7_copy 94 = .ok (.aload 7, 2) := by decide +kernel
theorem dX7_copy_96 : decode cX7_copy 96 = .ok (.iload 4, 2) := by decide +kernel
theorem dX7_copy_98 : decode cX7_copy 98 = .ok (.iload 5, 2) := by decide +kernel
theorem dX7_copy_100 : decode cX7_copy 100 = .ok (.invokevirtual 250, 3) := by decide +kernel
theorem dX7_copy_103 : decode cX7_copy 103 = .ok (.ifCond .ne 11, 3) := by decide +kernel
theorem dX7_copy_106 : decode cX7_copy 106 = .ok (.aload_n 0, 1) := by decide +kernel
theorem dX7_copy_107 : decode cX7_copy 107 = .ok (.ldc2_w 41, 3) := by decide +kernel
theorem dX7_copy_110 : decode cX7_copy 110 = .ok (.invokevirtual 43, 3) := by decide +kernel
theorem dX7_copy_113 : decode cX7_copy 113 = .ok (.lreturn, 1) := by decide +kernel
theorem dX7_copy_114 : decode cX7_copy 114 = .ok (.aload 6, 2) := by decide +kernel
theorem dX7_copy_116 : decode cX7_copy 116 = .ok (.getfield 253, 3) := by decide +kernel
theorem dX7_copy_119 : decode cX7_copy 119 = .ok (.iload_n 2, 1) := by decide +kernel
theorem dX7_copy_120 : decode cX7_copy 120 = .ok (.aload 7, 2) := by decide +kernel
theorem dX7_copy_122 : decode cX7_copy 122 = .ok (.getfield 253, 3) := by decide +kernel
theorem dX7_copy_125 : decode cX7_copy 125 = .ok (.iload 4, 2) := by decide +kernel
theorem dX7_copy_127 : decode cX7_copy 127 = .ok (.iload 5, 2) := by decide +kernel
theorem dX7_copy_129 : decode cX7_copy 129 = .ok (.invokestatic 263, 3) := by decide +kernel
theorem dX7_copy_132 : decode cX7_copy 132 = .ok (.iload 5, 2) := by decide +kernel
theorem dX7_copy_134 : decode cX7_copy 134 = .ok (.i2l, 1) := by decide +kernel
theorem dX7_copy_135 : decode cX7_copy 135 = .ok (.lreturn, 1) := by decide +kernel
theorem dX7_lay_0 : decode cX7_lay 0 = .ok (.iload_n 1, 1) := by decide +kernel
theorem dX7_lay_1 : decode cX7_lay 1 = .ok (.invokestatic 187, 3) := by decide +kernel
theorem dX7_lay_4 : decode cX7_lay 4 = .ok (.ifCond .eq 10, 3) := by decide +kernel
theorem dX7_lay_7 : decode cX7_lay 7 = .ok (.iload_n 2, 1) := by decide +kernel
theorem dX7_lay_8 : decode cX7_lay 8 = .ok (.invokestatic 239, 3) := by decide +kernel
theorem dX7_lay_11 : decode cX7_lay 11 = .ok (.ifCond .ne 11, 3) := by decide +kernel
theorem dX7_lay_14 : decode cX7_lay 14 = .ok (.aload_n 0, 1) := by decide +kernel
theorem dX7_lay_15 : decode cX7_lay 15 = .ok (.ldc2_w 41, 3) := by decide +kernel
theorem dX7_lay_18 : decode cX7_lay 18 = .ok (.invokevirtual 43, 3) := by decide +kernel
theorem dX7_lay_21 : decode cX7_lay 21 = .ok (.lreturn, 1) := by decide +kernel
theorem dX7_lay_22 : decode cX7_lay 22 = .ok (.aload_n 0, 1) := by decide +kernel
theorem dX7_lay_23 : decode cX7_lay 23 = .ok (.getfield 31, 3) := by decide +kernel
theorem dX7_lay_26 : decode cX7_lay 26 = .ok (.iload_n 2, 1) := by decide +kernel
theorem dX7_lay_27 : decode cX7_lay 27 = .ok (.aaload, 1) := by decide +kernel
theorem dX7_lay_28 : decode cX7_lay 28 = .ok (.astore_n 3, 1) := by decide +kernel
theorem dX7_lay_29 : decode cX7_lay 29 = .ok (.aload_n 3, 1) := by decide +kernel
theorem dX7_lay_30 : decode cX7_lay 30 = .ok (.invokevirtual 245, 3) := by decide +kernel
theorem dX7_lay_33 : decode cX7_lay 33 = .ok (.ifCond .eq 11, 3) := by decide +kernel
theorem dX7_lay_36 : decode cX7_lay 36 = .ok (.aload_n 0, 1) := by decide +kernel
theorem dX7_lay_37 : decode cX7_lay 37 = .ok (.ldc2_w 248, 3) := by decide +kernel
theorem dX7_lay_40 : decode cX7_lay 40 = .ok (.invokevirtual 43, 3) := by decide +kernel
theorem dX7_lay_43 : decode cX7_lay 43 = .ok (.lreturn, 1) := by decide +kernel
theorem dX7_lay_44 : decode cX7_lay 44 = .ok (.iconst 0, 1) := by decide +kernel
theorem dX7_lay_45 : decode cX7_lay 45 = .ok (.istore 4, 2) := by decide +kernel
theorem dX7_lay_47 : decode cX7_lay 47 = .ok (.iload 4, 2) := by decide +kernel
theorem dX7_lay_49 : decode cX7_lay 49 = .ok (.bipush 36, 2) := by decide +kernel
theorem dX7_lay_51 : decode cX7_lay 51 = .ok (.if_icmp .ge 44, 3) := by decide +kernel
theorem dX7_lay_54 : decode cX7_lay 54 = .ok (.aload_n 0, 1) := by decide +kernel
theorem dX7_lay_55 : decode cX7_lay 55 = .ok (.getfield 25, 3) := by decide +kernel
theorem dX7_lay_58 : decode cX7_lay 58 = .ok (.iload_n 1, 1) := by decide +kernel
theorem dX7_lay_59 : decode cX7_lay 59 = .ok (.aaload, 1) := by decide +kernel
theorem dX7_lay_60 : decode cX7_lay 60 = .ok (.iload 4, 2) := by decide +kernel
theorem dX7_lay_62 : decode cX7_lay 62 = .ok (.iload 4, 2) := by decide +kernel
theorem dX7_lay_64 : decode cX7_lay 64 = .ok (.aload_n 3, 1) := by decide +kernel
theorem dX7_lay_65 : decode cX7_lay 65 = .ok (.getfield 269, 3) := by decide +kernel
theorem dX7_lay_68 : decode cX7_lay 68 = .ok (.if_icmp .ge 17, 3) := by decide +kernel
theorem dX7_lay_71 : decode cX7_lay 71 = .ok (.aload_n 0, 1) := by decide +kernel
theorem dX7_lay_72 : decode cX7_lay 72 = .ok (.aload_n 3, 1) := by decide +kernel
theorem dX7_lay_73 : decode cX7_lay 73 = .ok (.getfield 253, 3) := by decide +kernel
theorem dX7_lay_76 : decode cX7_lay 76 = .ok (.iload 4, 2) := by decide +kernel
theorem dX7_lay_78 : decode cX7_lay 78 = .ok (.iaload, 1) := by decide +kernel
theorem dX7_lay_79 : decode cX7_lay 79 = .ok (.invokevirtual 271, 3) := by decide +kernel
theorem dX7_lay_82 : decode cX7_lay 82 = .ok (.goto 4, 3) := by decide +kernel
theorem dX7_lay_85 : decode cX7_lay 85 = .ok (.iconst (-1), 1) := by decide +kernel
theorem dX7_lay_86 : decode cX7_lay 86 = .ok (.invokevirtual 202, 3) := by decide +kernel
theorem dX7_lay_89 : decode cX7_lay 89 = .ok (.iinc 4 1, 3) := by decide +kernel
theorem dX7_lay_92 : decode cX7_lay 92 = .ok (.goto (-45), 3) := by decide +kernel
theorem dX7_lay_95 : decode cX7_lay 95 = .ok (.aload_n 0, 1) := by decide +kernel
theorem dX7_lay_96 : decode cX7_lay 96 = .ok (.getfield 25, 3) := by decide +kernel
theorem dX7_lay_99 : decode cX7_lay 99 = .ok (.iload_n 1, 1) := by decide +kernel
theorem dX7_lay_100 : decode cX7_lay 100 = .ok (.aaload, 1) := by decide +kernel
theorem dX7_lay_101 : decode cX7_lay 101 = .ok (.invokevirtual 206, 3) := by decide +kernel
theorem dX7_lay_104 : decode cX7_lay 104 = .ok (.i2l, 1) := by decide +kernel
theorem dX7_lay_105 : decode cX7_lay 105 = .ok (.lreturn, 1) := by decide +kernel
theorem dX7_told_0 : decode cX7_told 0 = .ok (.iload_n 1, 1) := by decide +kernel
theorem dX7_told_1 : decode cX7_told 1 = .ok (.tableswitch 77 0 4 #[35, 44, 53, 62, 71], 35) := by decide +kernel
theorem dX7_told_36 : decode cX7_told 36 = .ok (.aload_n 0, 1) := by decide +kernel
theorem dX7_told_37 : decode cX7_told 37 = .ok (.getfield 12, 3) := by decide +kernel
theorem dX7_told_40 : decode cX7_told 40 = .ok (.getfield 274, 3) := by decide +kernel
theorem dX7_told_43 : decode cX7_told 43 = .ok (.i2l, 1) := by decide +kernel
theorem dX7_told_44 : decode cX7_told 44 = .ok (.lreturn, 1) := by decide +kernel
theorem dX7_told_45 : decode cX7_told 45 = .ok (.aload_n 0, 1) := by decide +kernel
theorem dX7_told_46 : decode cX7_told 46 = .ok (.getfield 12, 3) := by decide +kernel
theorem dX7_told_49 : decode cX7_told 49 = .ok (.getfield 134, 3) := by decide +kernel
theorem dX7_told_52 : decode cX7_told 52 = .ok (.i2l, 1) := by decide +kernel
theorem dX7_told_53 : decode cX7_told 53 = .ok (.lreturn, 1) := by decide +kernel
theorem dX7_told_54 : decode cX7_told 54 = .ok (.aload_n 0, 1) := by decide +kernel
theorem dX7_told_55 : decode cX7_told 55 = .ok (.getfield 12, 3) := by decide +kernel
theorem dX7_told_58 : decode cX7_told 58 = .ok (.invokevirtual 277, 3) := by decide +kernel
theorem dX7_told_61 : decode cX7_told 61 = .ok (.i2l, 1) := by decide +kernel
theorem dX7_told_62 : decode cX7_told 62 = .ok (.lreturn, 1) := by decide +kernel
theorem dX7_told_63 : decode cX7_told 63 = .ok (.aload_n 0, 1) := by decide +kernel
theorem dX7_told_64 : decode cX7_told 64 = .ok (.getfield 19, 3) := by decide +kernel
theorem dX7_told_67 : decode cX7_told 67 = .ok (.getfield 280, 3) := by decide +kernel
theorem dX7_told_70 : decode cX7_told 70 = .ok (.i2l, 1) := by decide +kernel
theorem dX7_told_71 : decode cX7_told 71 = .ok (.lreturn, 1) := by decide +kernel
theorem dX7_told_72 : decode cX7_told 72 = .ok (.aload_n 0, 1) := by decide +kernel
theorem dX7_told_73 : decode cX7_told 73 = .ok (.getfield 281, 3) := by decide +kernel
theorem dX7_told_76 : decode cX7_told 76 = .ok (.i2l, 1) := by decide +kernel
theorem dX7_told_77 : decode cX7_told 77 = .ok (.lreturn, 1) := by decide +kernel
theorem dX7_told_78 : decode cX7_told 78 = .ok (.aload_n 0, 1) := by decide +kernel
theorem dX7_told_79 : decode cX7_told 79 = .ok (.ldc2_w 41, 3) := by decide +kernel
theorem dX7_told_82 : decode cX7_told 82 = .ok (.invokevirtual 43, 3) := by decide +kernel
theorem dX7_told_85 : decode cX7_told 85 = .ok (.lreturn, 1) := by decide +kernel
theorem dX7_refuse_0 : decode cX7_refuse 0 = .ok (.aload_n 0, 1) := by decide +kernel
theorem dX7_refuse_1 : decode cX7_refuse 1 = .ok (.dup, 1) := by decide +kernel
theorem dX7_refuse_2 : decode cX7_refuse 2 = .ok (.getfield 281, 3) := by decide +kernel
theorem dX7_refuse_5 : decode cX7_refuse 5 = .ok (.iconst 1, 1) := by decide +kernel
theorem dX7_refuse_6 : decode cX7_refuse 6 = .ok (.iadd, 1) := by decide +kernel
theorem dX7_refuse_7 : decode cX7_refuse 7 = .ok (.putfield 281, 3) := by decide +kernel
theorem dX7_refuse_10 : decode cX7_refuse 10 = .ok (.lload_n 1, 1) := by decide +kernel
theorem dX7_refuse_11 : decode cX7_refuse 11 = .ok (.lreturn, 1) := by decide +kernel
theorem dX7_counted_0 : decode cX7_counted 0 = .ok (.lload_n 1, 1) := by decide +kernel
theorem dX7_counted_1 : decode cX7_counted 1 = .ok (.ldc2_w 92, 3) := by decide +kernel
theorem dX7_counted_4 : decode cX7_counted 4 = .ok (.lcmp, 1) := by decide +kernel
theorem dX7_counted_5 : decode cX7_counted 5 = .ok (.ifCond .ge 11, 3) := by decide +kernel
theorem dX7_counted_8 : decode cX7_counted 8 = .ok (.aload_n 0, 1) := by decide +kernel
theorem dX7_counted_9 : decode cX7_counted 9 = .ok (.lload_n 1, 1) := by decide +kernel
theorem dX7_counted_10 : decode cX7_counted 10 = .ok (.invokevirtual 43, 3) := by decide +kernel
theorem dX7_counted_13 : decode cX7_counted 13 = .ok (.goto 4, 3) := by decide +kernel
theorem dX7_counted_16 : decode cX7_counted 16 = .ok (.lload_n 1, 1) := by decide +kernel
theorem dX7_counted_17 : decode cX7_counted 17 = .ok (.lreturn, 1) := by decide +kernel
theorem dX7_pairFinding_0 : decode cX7_pairFinding 0 = .ok (.aload_n 0, 1) := by decide +kernel
theorem dX7_pairFinding_1 : decode cX7_pairFinding 1 = .ok (.getfield 12, 3) := by decide +kernel
theorem dX7_pairFinding_4 : decode cX7_pairFinding 4 = .ok (.iload_n 1, 1) := by decide +kernel
theorem dX7_pairFinding_5 : decode cX7_pairFinding 5 = .ok (.invokevirtual 57, 3) := by decide +kernel
theorem dX7_pairFinding_8 : decode cX7_pairFinding 8 = .ok (.ifCond .eq 21, 3) := by decide +kernel
theorem dX7_pairFinding_11 : decode cX7_pairFinding 11 = .ok (.aload_n 0, 1) := by decide +kernel
theorem dX7_pairFinding_12 : decode cX7_pairFinding 12 = .ok (.getfield 12, 3) := by decide +kernel
theorem dX7_pairFinding_15 : decode cX7_pairFinding 15 = .ok (.iload_n 2, 1) := by decide +kernel
theorem dX7_pairFinding_16 : decode cX7_pairFinding 16 = .ok (.invokevirtual 57, 3) := by decide +kernel
theorem dX7_pairFinding_19 : decode cX7_pairFinding 19 = .ok (.ifCond .eq 10, 3) := by decide +kernel
theorem dX7_pairFinding_22 : decode cX7_pairFinding 22 = .ok (.iload_n 3, 1) := by decide +kernel
theorem dX7_pairFinding_23 : decode cX7_pairFinding 23 = .ok (.invokestatic 69, 3) := by decide +kernel
theorem dX7_pairFinding_26 : decode cX7_pairFinding 26 = .ok (.ifCond .ne 7, 3) := by decide +kernel
theorem dX7_pairFinding_29 : decode cX7_pairFinding 29 = .ok (.ldc2_w 41, 3) := by decide +kernel
theorem dX7_pairFinding_32 : decode cX7_pairFinding 32 = .ok (.lreturn, 1) := by decide +kernel
theorem dX7_pairFinding_33 : decode cX7_pairFinding 33 = .ok (.aload_n 0, 1) := by decide +kernel
theorem dX7_pairFinding_34 : decode cX7_pairFinding 34 = .ok (.getfield 12, 3) := by decide +kernel
theorem dX7_pairFinding_37 : decode cX7_pairFinding 37 = .ok (.iload_n 1, 1) := by decide +kernel
theorem dX7_pairFinding_38 : decode cX7_pairFinding 38 = .ok (.invokevirtual 78, 3) := by decide +kernel
theorem dX7_pairFinding_41 : decode cX7_pairFinding 41 = .ok (.ifCond .ne 14, 3) := by decide +kernel
theorem dX7_pairFinding_44 : decode cX7_pairFinding 44 = .ok (.aload_n 0, 1) := by decide +kernel
theorem dX7_pairFinding_45 : decode cX7_pairFinding 45 = .ok (.getfield 12, 3) := by decide +kernel
theorem dX7_pairFinding_48 : decode cX7_pairFinding 48 = .ok (.iload_n 2, 1) := by decide +kernel
theorem dX7_pairFinding_49 : decode cX7_pairFinding 49 = .ok (.invokevirtual 78, 3) := by decide +kernel
theorem dX7_pairFinding_52 : decode cX7_pairFinding 52 = .ok (.ifCond .eq 7, 3) := by decide +kernel
theorem dX7_pairFinding_55 : decode cX7_pairFinding 55 = .ok (.ldc2_w 67, 3) := by decide +kernel
theorem dX7_pairFinding_58 : decode cX7_pairFinding 58 = .ok (.lreturn, 1) := by decide +kernel
theorem dX7_pairFinding_59 : decode cX7_pairFinding 59 = .ok (.iload_n 1, 1) := by decide +kernel
theorem dX7_pairFinding_60 : decode cX7_pairFinding 60 = .ok (.iload_n 2, 1) := by decide +kernel
theorem dX7_pairFinding_61 : decode cX7_pairFinding 61 = .ok (.if_icmp .ne 9, 3) := by decide +kernel
theorem dX7_pairFinding_64 : decode cX7_pairFinding 64 = .ok (.ldc2_w 173, 3) := by decide +kernel
theorem dX7_pairFinding_67 : decode cX7_pairFinding 67 = .ok (.goto 4, 3) := by decide +kernel
theorem dX7_pairFinding_70 : decode cX7_pairFinding 70 = .ok (.lconst 0, 1) := by decide +kernel
theorem dX7_pairFinding_71 : decode cX7_pairFinding 71 = .ok (.lreturn, 1) := by decide +kernel
theorem dX7_bestYear_0 : decode cX7_bestYear 0 = .ok (.iload_n 2, 1) := by decide +kernel
theorem dX7_bestYear_1 : decode cX7_bestYear 1 = .ok (.istore 4, 2) := by decide +kernel
theorem dX7_bestYear_3 : decode cX7_bestYear 3 = .ok (.aload_n 1, 1) := by decide +kernel
theorem dX7_bestYear_4 : decode cX7_bestYear 4 = .ok (.aload_n 0, 1) := by decide +kernel
theorem dX7_bestYear_5 : decode cX7_bestYear 5 = .ok (.getfield 12, 3) := by decide +kernel
theorem dX7_bestYear_8 : decode cX7_bestYear 8 = .ok (.iload_n 2, 1) := by decide +kernel
theorem dX7_bestYear_9 : decode cX7_bestYear 9 = .ok (.invokevirtual 145, 3) := by decide +kernel
theorem dX7_bestYear_12 : decode cX7_bestYear 12 = .ok (.invokevirtual 209, 3) := by decide +kernel
theorem dX7_bestYear_15 : decode cX7_bestYear 15 = .ok (.istore 5, 2) := by decide +kernel
theorem dX7_bestYear_17 : decode cX7_bestYear 17 = .ok (.iconst 0, 1) := by decide +kernel
theorem dX7_bestYear_18 : decode cX7_bestYear 18 = .ok (.istore 6, 2) := by decide +kernel
theorem dX7_bestYear_20 : decode cX7_bestYear 20 = .ok (.iload 6, 2) := by decide +kernel
theorem dX7_bestYear_22 : decode cX7_bestYear 22 = .ok (.aload_n 0, 1) := by decide +kernel
theorem dX7_bestYear_23 : decode cX7_bestYear 23 = .ok (.getfield 12, 3) := by decide +kernel
theorem dX7_bestYear_26 : decode cX7_bestYear 26 = .ok (.getfield 134, 3) := by decide +kernel
theorem dX7_bestYear_29 : decode cX7_bestYear 29 = .ok (.if_icmp .ge 65, 3) := by decide +kernel
theorem dX7_bestYear_32 : decode cX7_bestYear 32 = .ok (.aload_n 0, 1) := by decide +kernel
theorem dX7_bestYear_33 : decode cX7_bestYear 33 = .ok (.getfield 12, 3) := by decide +kernel
theorem dX7_bestYear_36 : decode cX7_bestYear 36 = .ok (.iload 6, 2) := by decide +kernel
theorem dX7_bestYear_38 : decode cX7_bestYear 38 = .ok (.invokevirtual 284, 3) := by decide +kernel
theorem dX7_bestYear_41 : decode cX7_bestYear 41 = .ok (.getfield 101, 3) := by decide +kernel
theorem dX7_bestYear_44 : decode cX7_bestYear 44 = .ok (.istore 7, 2) := by decide +kernel
theorem dX7_bestYear_46 : decode cX7_bestYear 46 = .ok (.iload 7, 2) := by decide +kernel
theorem dX7_bestYear_48 : decode cX7_bestYear 48 = .ok (.iload_n 2, 1) := by decide +kernel
theorem dX7_bestYear_49 : decode cX7_bestYear 49 = .ok (.if_icmp .le 39, 3) := by decide +kernel
theorem dX7_bestYear_52 : decode cX7_bestYear 52 = .ok (.iload 7, 2) := by decide +kernel
theorem dX7_bestYear_54 : decode cX7_bestYear 54 = .ok (.iload_n 3, 1) := by decide +kernel
theorem dX7_bestYear_55 : decode cX7_bestYear 55 = .ok (.if_icmp .gt 33, 3) := by decide +kernel
theorem dX7_bestYear_58 : decode cX7_bestYear 58 = .ok (.aload_n 1, 1) := by decide +kernel
theorem dX7_bestYear_59 : decode cX7_bestYear 59 = .ok (.aload_n 0, 1) := by decide +kernel
theorem dX7_bestYear_60 : decode cX7_bestYear 60 = .ok (.getfield 12, 3) := by decide +kernel
theorem dX7_bestYear_63 : decode cX7_bestYear 63 = .ok (.iload 7, 2) := by decide +kernel
theorem dX7_bestYear_65 : decode cX7_bestYear 65 = .ok (.invokevirtual 145, 3) := by decide +kernel
theorem dX7_bestYear_68 : decode cX7_bestYear 68 = .ok (.invokevirtual 209, 3) := by decide +kernel
theorem dX7_bestYear_71 : decode cX7_bestYear 71 = .ok (.istore 8, 2) := by decide +kernel
theorem dX7_bestYear_73 : decode cX7_bestYear 73 = .ok (.iload 8, 2) := by decide +kernel
theorem dX7_bestYear_75 : decode cX7_bestYear 75 = .ok (.iload 5, 2) := by decide +kernel
theorem dX7_bestYear_77 : decode cX7_bestYear 77 = .ok (.if_icmp .le 11, 3) := by decide +kernel
theorem dX7_bestYear_80 : decode cX7_bestYear 80 = .ok (.iload 7, 2) := by decide +kernel
theorem dX7_bestYear_82 : decode cX7_bestYear 82 = .ok (.istore 4, 2) := by decide +kernel
theorem dX7_bestYear_84 : decode cX7_bestYear 84 = .ok (.iload 8, 2) := by decide +kernel
theorem dX7_bestYear_86 : decode cX7_bestYear 86 = .ok (.istore 5, 2) := by decide +kernel
theorem dX7_bestYear_88 : decode cX7_bestYear 88 = .ok (.iinc 6 1, 3) := by decide +kernel
theorem dX7_bestYear_91 : decode cX7_bestYear 91 = .ok (.goto (-71), 3) := by decide +kernel
theorem dX7_bestYear_94 : decode cX7_bestYear 94 = .ok (.iload 4, 2) := by decide +kernel
theorem dX7_bestYear_96 : decode cX7_bestYear 96 = .ok (.ireturn, 1) := by decide +kernel
theorem dX7_isClaim_0 : decode cX7_isClaim 0 = .ok (.iload_n 1, 1) := by decide +kernel
theorem dX7_isClaim_1 : decode cX7_isClaim 1 = .ok (.iconst (-1), 1) := by decide +kernel
theorem dX7_isClaim_2 : decode cX7_isClaim 2 = .ok (.if_icmp .eq 20, 3) := by decide +kernel
theorem dX7_isClaim_5 : decode cX7_isClaim 5 = .ok (.iload_n 1, 1) := by decide +kernel
theorem dX7_isClaim_6 : decode cX7_isClaim 6 = .ok (.bipush 10, 2) := by decide +kernel
theorem dX7_isClaim_8 : decode cX7_isClaim 8 = .ok (.if_icmp .eq 14, 3) := by decide +kernel
theorem dX7_isClaim_11 : decode cX7_isClaim 11 = .ok (.aload_n 0, 1) := by decide +kernel
theorem dX7_isClaim_12 : decode cX7_isClaim 12 = .ok (.getfield 12, 3) := by decide +kernel
theorem dX7_isClaim_15 : decode cX7_isClaim 15 = .ok (.iload_n 1, 1) := by decide +kernel
theorem dX7_isClaim_16 : decode cX7_isClaim 16 = .ok (.invokevirtual 57, 3) := by decide +kernel
theorem dX7_isClaim_19 : decode cX7_isClaim 19 = .ok (.ifCond .eq 7, 3) := by decide +kernel
theorem dX7_isClaim_22 : decode cX7_isClaim 22 = .ok (.iconst 1, 1) := by decide +kernel
theorem dX7_isClaim_23 : decode cX7_isClaim 23 = .ok (.goto 4, 3) := by decide +kernel
theorem dX7_isClaim_26 : decode cX7_isClaim 26 = .ok (.iconst 0, 1) := by decide +kernel
theorem dX7_isClaim_27 : decode cX7_isClaim 27 = .ok (.ireturn, 1) := by decide +kernel
theorem dX7_claimOf_0 : decode cX7_claimOf 0 = .ok (.aload_n 0, 1) := by decide +kernel
theorem dX7_claimOf_1 : decode cX7_claimOf 1 = .ok (.iload_n 1, 1) := by decide +kernel
theorem dX7_claimOf_2 : decode cX7_claimOf 2 = .ok (.invokevirtual 191, 3) := by decide +kernel
theorem dX7_claimOf_5 : decode cX7_claimOf 5 = .ok (.ifCond .eq 18, 3) := by decide +kernel
theorem dX7_claimOf_8 : decode cX7_claimOf 8 = .ok (.aload_n 0, 1) := by decide +kernel
theorem dX7_claimOf_9 : decode cX7_claimOf 9 = .ok (.getfield 12, 3) := by decide +kernel
theorem dX7_claimOf_12 : decode cX7_claimOf 12 = .ok (.iload_n 1, 1) := by decide +kernel
theorem dX7_claimOf_13 : decode cX7_claimOf 13 = .ok (.invokevirtual 78, 3) := by decide +kernel
theorem dX7_claimOf_16 : decode cX7_claimOf 16 = .ok (.ifCond .ne 7, 3) := by decide +kernel
theorem dX7_claimOf_19 : decode cX7_claimOf 19 = .ok (.iload_n 1, 1) := by decide +kernel
theorem dX7_claimOf_20 : decode cX7_claimOf 20 = .ok (.goto 4, 3) := by decide +kernel
theorem dX7_claimOf_23 : decode cX7_claimOf 23 = .ok (.iconst (-1), 1) := by decide +kernel
theorem dX7_claimOf_24 : decode cX7_claimOf 24 = .ok (.ireturn, 1) := by decide +kernel
theorem dX7_isOrUnder_0 : decode cX7_isOrUnder 0 = .ok (.iload_n 0, 1) := by decide +kernel
theorem dX7_isOrUnder_1 : decode cX7_isOrUnder 1 = .ok (.istore_n 2, 1) := by decide +kernel
theorem dX7_isOrUnder_2 : decode cX7_isOrUnder 2 = .ok (.iconst 0, 1) := by decide +kernel
theorem dX7_isOrUnder_3 : decode cX7_isOrUnder 3 = .ok (.istore_n 3, 1) := by decide +kernel
theorem dX7_isOrUnder_4 : decode cX7_isOrUnder 4 = .ok (.iload_n 3, 1) := by decide +kernel
theorem dX7_isOrUnder_5 : decode cX7_isOrUnder 5 = .ok (.iconst 4, 1) := by decide +kernel
theorem dX7_isOrUnder_6 : decode cX7_isOrUnder 6 = .ok (.if_icmp .ge 31, 3) := by decide +kernel
theorem dX7_isOrUnder_9 : decode cX7_isOrUnder 9 = .ok (.iload_n 2, 1) := by decide +kernel
theorem dX7_isOrUnder_10 : decode cX7_isOrUnder 10 = .ok (.iload_n 1, 1) := by decide +kernel
theorem dX7_isOrUnder_11 : decode cX7_isOrUnder 11 = .ok (.if_icmp .ne 5, 3) := by decide +kernel
theorem dX7_isOrUnder_14 : decode cX7_isOrUnder 14 = .ok (.iconst 1, 1) := by decide +kernel
theorem dX7_isOrUnder_15 : decode cX7_isOrUnder 15 = .ok (.ireturn, 1) := by decide +kernel
theorem dX7_isOrUnder_16 : decode cX7_isOrUnder 16 = .ok (.iload_n 2, 1) := by decide +kernel
theorem dX7_isOrUnder_17 : decode cX7_isOrUnder 17 = .ok (.invokestatic 37, 3) := by decide +kernel
theorem dX7_isOrUnder_20 : decode cX7_isOrUnder 20 = .ok (.ifCond .ne 5, 3) := by decide +kernel
theorem dX7_isOrUnder_23 : decode cX7_isOrUnder 23 = .ok (.iconst 0, 1) := by decide +kernel
theorem dX7_isOrUnder_24 : decode cX7_isOrUnder 24 = .ok (.ireturn, 1) := by decide +kernel
theorem dX7_isOrUnder_25 : decode cX7_isOrUnder 25 = .ok (.getstatic 288, 3) := by decide +kernel
theorem dX7_isOrUnder_28 : decode cX7_isOrUnder 28 = .ok (.iload_n 2, 1) := by decide +kernel
theorem dX7_isOrUnder_29 : decode cX7_isOrUnder 29 = .ok (.iaload, 1) := by decide +kernel
theorem dX7_isOrUnder_30 : decode cX7_isOrUnder 30 = .ok (.istore_n 2, 1) := by decide +kernel
theorem dX7_isOrUnder_31 : decode cX7_isOrUnder 31 = .ok (.iinc 3 1, 3) := by decide +kernel
theorem dX7_isOrUnder_34 : decode cX7_isOrUnder 34 = .ok (.goto (-30), 3) := by decide +kernel
theorem dX7_isOrUnder_37 : decode cX7_isOrUnder 37 = .ok (.iconst 0, 1) := by decide +kernel
theorem dX7_isOrUnder_38 : decode cX7_isOrUnder 38 = .ok (.ireturn, 1) := by decide +kernel
theorem dX7_isKind_0 : decode cX7_isKind 0 = .ok (.iload_n 0, 1) := by decide +kernel
theorem dX7_isKind_1 : decode cX7_isKind 1 = .ok (.ifCond .lt 12, 3) := by decide +kernel
theorem dX7_isKind_4 : decode cX7_isKind 4 = .ok (.iload_n 0, 1) := by decide +kernel
theorem dX7_isKind_5 : decode cX7_isKind 5 = .ok (.iconst 4, 1) := by decide +kernel
theorem dX7_isKind_6 : decode cX7_isKind 6 = .ok (.if_icmp .ge 7, 3) := by decide +kernel
theorem dX7_isKind_9 : decode cX7_isKind 9 = .ok (.iconst 1, 1) := by decide +kernel
theorem dX7_isKind_10 : decode cX7_isKind 10 = .ok (.goto 4, 3) := by decide +kernel
theorem dX7_isKind_13 : decode cX7_isKind 13 = .ok (.iconst 0, 1) := by decide +kernel
theorem dX7_isKind_14 : decode cX7_isKind 14 = .ok (.ireturn, 1) := by decide +kernel
theorem dX7_isYear_0 : decode cX7_isYear 0 = .ok (.iload_n 0, 1) := by decide +kernel
theorem dX7_isYear_1 : decode cX7_isYear 1 = .ok (.sipush 1000, 3) := by decide +kernel
theorem dX7_isYear_4 : decode cX7_isYear 4 = .ok (.if_icmp .lt 14, 3) := by decide +kernel
theorem dX7_isYear_7 : decode cX7_isYear 7 = .ok (.iload_n 0, 1) := by decide +kernel
theorem dX7_isYear_8 : decode cX7_isYear 8 = .ok (.sipush 1999, 3) := by decide +kernel
theorem dX7_isYear_11 : decode cX7_isYear 11 = .ok (.if_icmp .gt 7, 3) := by decide +kernel
theorem dX7_isYear_14 : decode cX7_isYear 14 = .ok (.iconst 1, 1) := by decide +kernel
theorem dX7_isYear_15 : decode cX7_isYear 15 = .ok (.goto 4, 3) := by decide +kernel
theorem dX7_isYear_18 : decode cX7_isYear 18 = .ok (.iconst 0, 1) := by decide +kernel
theorem dX7_isYear_19 : decode cX7_isYear 19 = .ok (.ireturn, 1) := by decide +kernel
theorem dX7_isMap_0 : decode cX7_isMap 0 = .ok (.iload_n 0, 1) := by decide +kernel
theorem dX7_isMap_1 : decode cX7_isMap 1 = .ok (.ifCond .lt 12, 3) := by decide +kernel
theorem dX7_isMap_4 : decode cX7_isMap 4 = .ok (.iload_n 0, 1) := by decide +kernel
theorem dX7_isMap_5 : decode cX7_isMap 5 = .ok (.iconst 4, 1) := by decide +kernel
theorem dX7_isMap_6 : decode cX7_isMap 6 = .ok (.if_icmp .ge 7, 3) := by decide +kernel
theorem dX7_isMap_9 : decode cX7_isMap 9 = .ok (.iconst 1, 1) := by decide +kernel
theorem dX7_isMap_10 : decode cX7_isMap 10 = .ok (.goto 4, 3) := by decide +kernel
theorem dX7_isMap_13 : decode cX7_isMap 13 = .ok (.iconst 0, 1) := by decide +kernel
theorem dX7_isMap_14 : decode cX7_isMap 14 = .ok (.ireturn, 1) := by decide +kernel
theorem dX7_isSheet_0 : decode cX7_isSheet 0 = .ok (.iload_n 0, 1) := by decide +kernel
theorem dX7_isSheet_1 : decode cX7_isSheet 1 = .ok (.ifCond .lt 12, 3) := by decide +kernel
theorem dX7_isSheet_4 : decode cX7_isSheet 4 = .ok (.iload_n 0, 1) := by decide +kernel
theorem dX7_isSheet_5 : decode cX7_isSheet 5 = .ok (.iconst 4, 1) := by decide +kernel
