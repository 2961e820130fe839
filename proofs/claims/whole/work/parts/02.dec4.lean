theorem dX8_does_282 : decode cX8_does 282 = .ok (.ifCond .ne 5, 3) := by decide +kernel
theorem dX8_does_285 : decode cX8_does 285 = .ok (.iconst 0, 1) := by decide +kernel
theorem dX8_does_286 : decode cX8_does 286 = .ok (.ireturn, 1) := by decide +kernel
theorem dX8_does_287 : decode cX8_does 287 = .ok (.aload_n 0, 1) := by decide +kernel
theorem dX8_does_288 : decode cX8_does 288 = .ok (.getfield 62, 3) := by decide +kernel
theorem dX8_does_291 : decode cX8_does 291 = .ok (.bipush 10, 2) := by decide +kernel
theorem dX8_does_293 : decode cX8_does 293 = .ok (.iload_n 2, 1) := by decide +kernel
theorem dX8_does_294 : decode cX8_does 294 = .ok (.imul, 1) := by decide +kernel
theorem dX8_does_295 : decode cX8_does 295 = .ok (.iload_n 3, 1) := by decide +kernel
theorem dX8_does_296 : decode cX8_does 296 = .ok (.iadd, 1) := by decide +kernel
theorem dX8_does_297 : decode cX8_does 297 = .ok (.iload 4, 2) := by decide +kernel
theorem dX8_does_299 : decode cX8_does 299 = .ok (.iastore, 1) := by decide +kernel
theorem dX8_does_300 : decode cX8_does 300 = .ok (.iconst 1, 1) := by decide +kernel
theorem dX8_does_301 : decode cX8_does 301 = .ok (.ireturn, 1) := by decide +kernel
theorem dX8_gives_0 : decode cX8_gives 0 = .ok (.iconst 0, 1) := by decide +kernel
theorem dX8_gives_1 : decode cX8_gives 1 = .ok (.istore 6, 2) := by decide +kernel
theorem dX8_gives_3 : decode cX8_gives 3 = .ok (.iconst 0, 1) := by decide +kernel
theorem dX8_gives_4 : decode cX8_gives 4 = .ok (.istore 7, 2) := by decide +kernel
theorem dX8_gives_6 : decode cX8_gives 6 = .ok (.iload 7, 2) := by decide +kernel
theorem dX8_gives_8 : decode cX8_gives 8 = .ok (.bipush 36, 2) := by decide +kernel
theorem dX8_gives_10 : decode cX8_gives 10 = .ok (.if_icmp .ge 56, 3) := by decide +kernel
theorem dX8_gives_13 : decode cX8_gives 13 = .ok (.aload_n 0, 1) := by decide +kernel
theorem dX8_gives_14 : decode cX8_gives 14 = .ok (.getfield 59, 3) := by decide +kernel
theorem dX8_gives_17 : decode cX8_gives 17 = .ok (.bipush 36, 2) := by decide +kernel
theorem dX8_gives_19 : decode cX8_gives 19 = .ok (.iload_n 1, 1) := by decide +kernel
theorem dX8_gives_20 : decode cX8_gives 20 = .ok (.imul, 1) := by decide +kernel
theorem dX8_gives_21 : decode cX8_gives 21 = .ok (.iload 7, 2) := by decide +kernel
theorem dX8_gives_23 : decode cX8_gives 23 = .ok (.iadd, 1) := by decide +kernel
theorem dX8_gives_24 : decode cX8_gives 24 = .ok (.iaload, 1) := by decide +kernel
theorem dX8_gives_25 : decode cX8_gives 25 = .ok (.iload_n 2, 1) := by decide +kernel
theorem dX8_gives_26 : decode cX8_gives 26 = .ok (.if_icmp .ne 34, 3) := by decide +kernel
theorem dX8_gives_29 : decode cX8_gives 29 = .ok (.lload 4, 2) := by decide +kernel
theorem dX8_gives_31 : decode cX8_gives 31 = .ok (.iload 7, 2) := by decide +kernel
theorem dX8_gives_33 : decode cX8_gives 33 = .ok (.lshr, 1) := by decide +kernel
theorem dX8_gives_34 : decode cX8_gives 34 = .ok (.lconst 1, 1) := by decide +kernel
theorem dX8_gives_35 : decode cX8_gives 35 = .ok (.land, 1) := by decide +kernel
theorem dX8_gives_36 : decode cX8_gives 36 = .ok (.lconst 0, 1) := by decide +kernel
theorem dX8_gives_37 : decode cX8_gives 37 = .ok (.lcmp, 1) := by decide +kernel
theorem dX8_gives_38 : decode cX8_gives 38 = .ok (.ifCond .ne 6, 3) := by decide +kernel
theorem dX8_gives_41 : decode cX8_gives 41 = .ok (.goto 19, 3) := by decide +kernel
theorem dX8_gives_44 : decode cX8_gives 44 = .ok (.aload_n 0, 1) := by decide +kernel
theorem dX8_gives_45 : decode cX8_gives 45 = .ok (.getfield 59, 3) := by decide +kernel
theorem dX8_gives_48 : decode cX8_gives 48 = .ok (.bipush 36, 2) := by decide +kernel
theorem dX8_gives_50 : decode cX8_gives 50 = .ok (.iload_n 1, 1) := by decide +kernel
theorem dX8_gives_51 : decode cX8_gives 51 = .ok (.imul, 1) := by decide +kernel
theorem dX8_gives_52 : decode cX8_gives 52 = .ok (.iload 7, 2) := by decide +kernel
theorem dX8_gives_54 : decode cX8_gives 54 = .ok (.iadd, 1) := by decide +kernel
theorem dX8_gives_55 : decode cX8_gives 55 = .ok (.iload_n 3, 1) := by decide +kernel
theorem dX8_gives_56 : decode cX8_gives 56 = .ok (.iastore, 1) := by decide +kernel
theorem dX8_gives_57 : decode cX8_gives 57 = .ok (.iinc 6 1, 3) := by decide +kernel
theorem dX8_gives_60 : decode cX8_gives 60 = .ok (.iinc 7 1, 3) := by decide +kernel
theorem dX8_gives_63 : decode cX8_gives 63 = .ok (.goto (-57), 3) := by decide +kernel
theorem dX8_gives_66 : decode cX8_gives 66 = .ok (.iload 6, 2) := by decide +kernel
theorem dX8_gives_68 : decode cX8_gives 68 = .ok (.ireturn, 1) := by decide +kernel
theorem dX8_turnsBack_0 : decode cX8_turnsBack 0 = .ok (.iconst 0, 1) := by decide +kernel
theorem dX8_turnsBack_1 : decode cX8_turnsBack 1 = .ok (.istore_n 3, 1) := by decide +kernel
theorem dX8_turnsBack_2 : decode cX8_turnsBack 2 = .ok (.iconst 0, 1) := by decide +kernel
theorem dX8_turnsBack_3 : decode cX8_turnsBack 3 = .ok (.istore 4, 2) := by decide +kernel
theorem dX8_turnsBack_5 : decode cX8_turnsBack 5 = .ok (.iload 4, 2) := by decide +kernel
theorem dX8_turnsBack_7 : decode cX8_turnsBack 7 = .ok (.bipush 36, 2) := by decide +kernel
theorem dX8_turnsBack_9 : decode cX8_turnsBack 9 = .ok (.if_icmp .ge 104, 3) := by decide +kernel
theorem dX8_turnsBack_12 : decode cX8_turnsBack 12 = .ok (.aload_n 0, 1) := by decide +kernel
theorem dX8_turnsBack_13 : decode cX8_turnsBack 13 = .ok (.getfield 59, 3) := by decide +kernel
theorem dX8_turnsBack_16 : decode cX8_turnsBack 16 = .ok (.bipush 36, 2) := by decide +kernel
theorem dX8_turnsBack_18 : decode cX8_turnsBack 18 = .ok (.iload_n 1, 1) := by decide +kernel
theorem dX8_turnsBack_19 : decode cX8_turnsBack 19 = .ok (.imul, 1) := by decide +kernel
theorem dX8_turnsBack_20 : decode cX8_turnsBack 20 = .ok (.iload 4, 2) := by decide +kernel
theorem dX8_turnsBack_22 : decode cX8_turnsBack 22 = .ok (.iadd, 1) := by decide +kernel
theorem dX8_turnsBack_23 : decode cX8_turnsBack 23 = .ok (.iaload, 1) := by decide +kernel
theorem dX8_turnsBack_24 : decode cX8_turnsBack 24 = .ok (.istore 5, 2) := by decide +kernel
theorem dX8_turnsBack_26 : decode cX8_turnsBack 26 = .ok (.aload_n 0, 1) := by decide +kernel
theorem dX8_turnsBack_27 : decode cX8_turnsBack 27 = .ok (.getfield 59, 3) := by decide +kernel
theorem dX8_turnsBack_30 : decode cX8_turnsBack 30 = .ok (.bipush 36, 2) := by decide +kernel
theorem dX8_turnsBack_32 : decode cX8_turnsBack 32 = .ok (.iload_n 1, 1) := by decide +kernel
theorem dX8_turnsBack_33 : decode cX8_turnsBack 33 = .ok (.iconst 1, 1) := by decide +kernel
theorem dX8_turnsBack_34 : decode cX8_turnsBack 34 = .ok (.iadd, 1) := by decide +kernel
theorem dX8_turnsBack_35 : decode cX8_turnsBack 35 = .ok (.imul, 1) := by decide +kernel
theorem dX8_turnsBack_36 : decode cX8_turnsBack 36 = .ok (.iload 4, 2) := by decide +kernel
theorem dX8_turnsBack_38 : decode cX8_turnsBack 38 = .ok (.iadd, 1) := by decide +kernel
theorem dX8_turnsBack_39 : decode cX8_turnsBack 39 = .ok (.iaload, 1) := by decide +kernel
theorem dX8_turnsBack_40 : decode cX8_turnsBack 40 = .ok (.istore 6, 2) := by decide +kernel
theorem dX8_turnsBack_42 : decode cX8_turnsBack 42 = .ok (.iload 5, 2) := by decide +kernel
theorem dX8_turnsBack_44 : decode cX8_turnsBack 44 = .ok (.iload 6, 2) := by decide +kernel
theorem dX8_turnsBack_46 : decode cX8_turnsBack 46 = .ok (.if_icmp .eq 61, 3) := by decide +kernel
theorem dX8_turnsBack_49 : decode cX8_turnsBack 49 = .ok (.aload_n 0, 1) := by decide +kernel
theorem dX8_turnsBack_50 : decode cX8_turnsBack 50 = .ok (.getfield 59, 3) := by decide +kernel
theorem dX8_turnsBack_53 : decode cX8_turnsBack 53 = .ok (.bipush 36, 2) := by decide +kernel
theorem dX8_turnsBack_55 : decode cX8_turnsBack 55 = .ok (.iload_n 2, 1) := by decide +kernel
theorem dX8_turnsBack_56 : decode cX8_turnsBack 56 = .ok (.imul, 1) := by decide +kernel
theorem dX8_turnsBack_57 : decode cX8_turnsBack 57 = .ok (.iload 4, 2) := by decide +kernel
theorem dX8_turnsBack_59 : decode cX8_turnsBack 59 = .ok (.iadd, 1) := by decide +kernel
theorem dX8_turnsBack_60 : decode cX8_turnsBack 60 = .ok (.iaload, 1) := by decide +kernel
theorem dX8_turnsBack_61 : decode cX8_turnsBack 61 = .ok (.iload 6, 2) := by decide +kernel
theorem dX8_turnsBack_63 : decode cX8_turnsBack 63 = .ok (.if_icmp .ne 44, 3) := by decide +kernel
theorem dX8_turnsBack_66 : decode cX8_turnsBack 66 = .ok (.iload 5, 2) := by decide +kernel
theorem dX8_turnsBack_68 : decode cX8_turnsBack 68 = .ok (.bipush 10, 2) := by decide +kernel
theorem dX8_turnsBack_70 : decode cX8_turnsBack 70 = .ok (.if_icmp .eq 21, 3) := by decide +kernel
theorem dX8_turnsBack_73 : decode cX8_turnsBack 73 = .ok (.aload_n 0, 1) := by decide +kernel
theorem dX8_turnsBack_74 : decode cX8_turnsBack 74 = .ok (.getfield 68, 3) := by decide +kernel
theorem dX8_turnsBack_77 : decode cX8_turnsBack 77 = .ok (.bipush 10, 2) := by decide +kernel
theorem dX8_turnsBack_79 : decode cX8_turnsBack 79 = .ok (.iload_n 2, 1) := by decide +kernel
theorem dX8_turnsBack_80 : decode cX8_turnsBack 80 = .ok (.imul, 1) := by decide +kernel
theorem dX8_turnsBack_81 : decode cX8_turnsBack 81 = .ok (.iload 5, 2) := by decide +kernel
theorem dX8_turnsBack_83 : decode cX8_turnsBack 83 = .ok (.iadd, 1) := by decide +kernel
theorem dX8_turnsBack_84 : decode cX8_turnsBack 84 = .ok (.baload, 1) := by decide +kernel
theorem dX8_turnsBack_85 : decode cX8_turnsBack 85 = .ok (.ifCond .ne 6, 3) := by decide +kernel
theorem dX8_turnsBack_88 : decode cX8_turnsBack 88 = .ok (.goto 19, 3) := by decide +kernel
theorem dX8_turnsBack_91 : decode cX8_turnsBack 91 = .ok (.aload_n 0, 1) := by decide +kernel
theorem dX8_turnsBack_92 : decode cX8_turnsBack 92 = .ok (.getfield 59, 3) := by decide +kernel
theorem dX8_turnsBack_95 : decode cX8_turnsBack 95 = .ok (.bipush 36, 2) := by decide +kernel
theorem dX8_turnsBack_97 : decode cX8_turnsBack 97 = .ok (.iload_n 2, 1) := by decide +kernel
theorem dX8_turnsBack_98 : decode cX8_turnsBack 98 = .ok (.imul, 1) := by decide +kernel
theorem dX8_turnsBack_99 : decode cX8_turnsBack 99 = .ok (.iload 4, 2) := by decide +kernel
theorem dX8_turnsBack_101 : decode cX8_turnsBack 101 = .ok (.iadd, 1) := by decide +kernel
theorem dX8_turnsBack_102 : decode cX8_turnsBack 102 = .ok (.iload 5, 2) := by decide +kernel
theorem dX8_turnsBack_104 : decode cX8_turnsBack 104 = .ok (.iastore, 1) := by decide +kernel
theorem dX8_turnsBack_105 : decode cX8_turnsBack 105 = .ok (.iconst 1, 1) := by decide +kernel
theorem dX8_turnsBack_106 : decode cX8_turnsBack 106 = .ok (.istore_n 3, 1) := by decide +kernel
theorem dX8_turnsBack_107 : decode cX8_turnsBack 107 = .ok (.iinc 4 1, 3) := by decide +kernel
theorem dX8_turnsBack_110 : decode cX8_turnsBack 110 = .ok (.goto (-105), 3) := by decide +kernel
theorem dX8_turnsBack_113 : decode cX8_turnsBack 113 = .ok (.iload_n 3, 1) := by decide +kernel
theorem dX8_turnsBack_114 : decode cX8_turnsBack 114 = .ok (.ireturn, 1) := by decide +kernel
theorem dX8_until_0 : decode cX8_until 0 = .ok (.iconst 0, 1) := by decide +kernel
theorem dX8_until_1 : decode cX8_until 1 = .ok (.istore_n 2, 1) := by decide +kernel
theorem dX8_until_2 : decode cX8_until 2 = .ok (.iconst 0, 1) := by decide +kernel
theorem dX8_until_3 : decode cX8_until 3 = .ok (.istore_n 3, 1) := by decide +kernel
theorem dX8_until_4 : decode cX8_until 4 = .ok (.iload_n 3, 1) := by decide +kernel
theorem dX8_until_5 : decode cX8_until 5 = .ok (.aload_n 0, 1) := by decide +kernel
theorem dX8_until_6 : decode cX8_until 6 = .ok (.getfield 112, 3) := by decide +kernel
theorem dX8_until_9 : decode cX8_until 9 = .ok (.if_icmp .ge 27, 3) := by decide +kernel
theorem dX8_until_12 : decode cX8_until 12 = .ok (.iload_n 2, 1) := by decide +kernel
theorem dX8_until_13 : decode cX8_until 13 = .ok (.aload_n 0, 1) := by decide +kernel
theorem dX8_until_14 : decode cX8_until 14 = .ok (.getfield 16, 3) := by decide +kernel
theorem dX8_until_17 : decode cX8_until 17 = .ok (.iload_n 3, 1) := by decide +kernel
theorem dX8_until_18 : decode cX8_until 18 = .ok (.iaload, 1) := by decide +kernel
theorem dX8_until_19 : decode cX8_until 19 = .ok (.iload_n 1, 1) := by decide +kernel
theorem dX8_until_20 : decode cX8_until 20 = .ok (.if_icmp .gt 7, 3) := by decide +kernel
theorem dX8_until_23 : decode cX8_until 23 = .ok (.iconst 1, 1) := by decide +kernel
theorem dX8_until_24 : decode cX8_until 24 = .ok (.goto 4, 3) := by decide +kernel
theorem dX8_until_27 : decode cX8_until 27 = .ok (.iconst 0, 1) := by decide +kernel
theorem dX8_until_28 : decode cX8_until 28 = .ok (.iadd, 1) := by decide +kernel
theorem dX8_until_29 : decode cX8_until 29 = .ok (.istore_n 2, 1) := by decide +kernel
theorem dX8_until_30 : decode cX8_until 30 = .ok (.iinc 3 1, 3) := by decide +kernel
theorem dX8_until_33 : decode cX8_until 33 = .ok (.goto (-29), 3) := by decide +kernel
theorem dX8_until_36 : decode cX8_until 36 = .ok (.iload_n 2, 1) := by decide +kernel
theorem dX8_until_37 : decode cX8_until 37 = .ok (.ireturn, 1) := by decide +kernel
theorem dX8_held_0 : decode cX8_held 0 = .ok (.lconst 0, 1) := by decide +kernel
theorem dX8_held_1 : decode cX8_held 1 = .ok (.lstore_n 3, 1) := by decide +kernel
theorem dX8_held_2 : decode cX8_held 2 = .ok (.iconst 0, 1) := by decide +kernel
theorem dX8_held_3 : decode cX8_held 3 = .ok (.istore 5, 2) := by decide +kernel
theorem dX8_held_5 : decode cX8_held 5 = .ok (.iload 5, 2) := by decide +kernel
theorem dX8_held_7 : decode cX8_held 7 = .ok (.bipush 36, 2) := by decide +kernel
theorem dX8_held_9 : decode cX8_held 9 = .ok (.if_icmp .ge 83, 3) := by decide +kernel
theorem dX8_held_12 : decode cX8_held 12 = .ok (.aload_n 0, 1) := by decide +kernel
theorem dX8_held_13 : decode cX8_held 13 = .ok (.getfield 59, 3) := by decide +kernel
theorem dX8_held_16 : decode cX8_held 16 = .ok (.bipush 36, 2) := by decide +kernel
theorem dX8_held_18 : decode cX8_held 18 = .ok (.iload_n 2, 1) := by decide +kernel
theorem dX8_held_19 : decode cX8_held 19 = .ok (.imul, 1) := by decide +kernel
theorem dX8_held_20 : decode cX8_held 20 = .ok (.iload 5, 2) := by decide +kernel
theorem dX8_held_22 : decode cX8_held 22 = .ok (.iadd, 1) := by decide +kernel
theorem dX8_held_23 : decode cX8_held 23 = .ok (.iaload, 1) := by decide +kernel
theorem dX8_held_24 : decode cX8_held 24 = .ok (.istore 6, 2) := by decide +kernel
theorem dX8_held_26 : decode cX8_held 26 = .ok (.iload 6, 2) := by decide +kernel
theorem dX8_held_28 : decode cX8_held 28 = .ok (.iload_n 1, 1) := by decide +kernel
theorem dX8_held_29 : decode cX8_held 29 = .ok (.if_icmp .eq 34, 3) := by decide +kernel
theorem dX8_held_32 : decode cX8_held 32 = .ok (.iload 6, 2) := by decide +kernel
theorem dX8_held_34 : decode cX8_held 34 = .ok (.bipush 10, 2) := by decide +kernel
theorem dX8_held_36 : decode cX8_held 36 = .ok (.if_icmp .eq 31, 3) := by decide +kernel
theorem dX8_held_39 : decode cX8_held 39 = .ok (.aload_n 0, 1) := by decide +kernel
theorem dX8_held_40 : decode cX8_held 40 = .ok (.iload_n 1, 1) := by decide +kernel
theorem dX8_held_41 : decode cX8_held 41 = .ok (.invokevirtual 118, 3) := by decide +kernel
theorem dX8_held_44 : decode cX8_held 44 = .ok (.ifCond .eq 23, 3) := by decide +kernel
theorem dX8_held_47 : decode cX8_held 47 = .ok (.aload_n 0, 1) := by decide +kernel
theorem dX8_held_48 : decode cX8_held 48 = .ok (.getfield 62, 3) := by decide +kernel
theorem dX8_held_51 : decode cX8_held 51 = .ok (.bipush 10, 2) := by decide +kernel
theorem dX8_held_53 : decode cX8_held 53 = .ok (.iload_n 2, 1) := by decide +kernel
theorem dX8_held_54 : decode cX8_held 54 = .ok (.imul, 1) := by decide +kernel
theorem dX8_held_55 : decode cX8_held 55 = .ok (.iload 6, 2) := by decide +kernel
theorem dX8_held_57 : decode cX8_held 57 = .ok (.iadd, 1) := by decide +kernel
theorem dX8_held_58 : decode cX8_held 58 = .ok (.iaload, 1) := by decide +kernel
theorem dX8_held_59 : decode cX8_held 59 = .ok (.iload_n 1, 1) := by decide +kernel
theorem dX8_held_60 : decode cX8_held 60 = .ok (.if_icmp .ne 7, 3) := by decide +kernel
theorem dX8_held_63 : decode cX8_held 63 = .ok (.iconst 1, 1) := by decide +kernel
theorem dX8_held_64 : decode cX8_held 64 = .ok (.goto 4, 3) := by decide +kernel
theorem dX8_held_67 : decode cX8_held 67 = .ok (.iconst 0, 1) := by decide +kernel
theorem dX8_held_68 : decode cX8_held 68 = .ok (.istore 7, 2) := by decide +kernel
theorem dX8_held_70 : decode cX8_held 70 = .ok (.lload_n 3, 1) := by decide +kernel
theorem dX8_held_71 : decode cX8_held 71 = .ok (.iload 7, 2) := by decide +kernel
theorem dX8_held_73 : decode cX8_held 73 = .ok (.ifCond .eq 10, 3) := by decide +kernel
theorem dX8_held_76 : decode cX8_held 76 = .ok (.lconst 1, 1) := by decide +kernel
theorem dX8_held_77 : decode cX8_held 77 = .ok (.iload 5, 2) := by decide +kernel
theorem dX8_held_79 : decode cX8_held 79 = .ok (.lshl, 1) := by decide +kernel
theorem dX8_held_80 : decode cX8_held 80 = .ok (.goto 4, 3) := by decide +kernel
theorem dX8_held_83 : decode cX8_held 83 = .ok (.lconst 0, 1) := by decide +kernel
theorem dX8_held_84 : decode cX8_held 84 = .ok (.lor, 1) := by decide +kernel
theorem dX8_held_85 : decode cX8_held 85 = .ok (.lstore_n 3, 1) := by decide +kernel
theorem dX8_held_86 : decode cX8_held 86 = .ok (.iinc 5 1, 3) := by decide +kernel
theorem dX8_held_89 : decode cX8_held 89 = .ok (.goto (-84), 3) := by decide +kernel
theorem dX8_held_92 : decode cX8_held 92 = .ok (.lload_n 3, 1) := by decide +kernel
theorem dX8_held_93 : decode cX8_held 93 = .ok (.lreturn, 1) := by decide +kernel
theorem dX8_act_0 : decode cX8_act 0 = .ok (.iload_n 1, 1) := by decide +kernel
theorem dX8_act_1 : decode cX8_act 1 = .ok (.i2l, 1) := by decide +kernel
theorem dX8_act_2 : decode cX8_act 2 = .ok (.lconst 0, 1) := by decide +kernel
theorem dX8_act_3 : decode cX8_act 3 = .ok (.aload_n 0, 1) := by decide +kernel
theorem dX8_act_4 : decode cX8_act 4 = .ok (.getfield 112, 3) := by decide +kernel
theorem dX8_act_7 : decode cX8_act 7 = .ok (.iconst 1, 1) := by decide +kernel
theorem dX8_act_8 : decode cX8_act 8 = .ok (.isub, 1) := by decide +kernel
theorem dX8_act_9 : decode cX8_act 9 = .ok (.i2l, 1) := by decide +kernel
theorem dX8_act_10 : decode cX8_act 10 = .ok (.invokestatic 86, 3) := by decide +kernel
theorem dX8_act_13 : decode cX8_act 13 = .ok (.ifCond .eq 15, 3) := by decide +kernel
theorem dX8_act_16 : decode cX8_act 16 = .ok (.iload_n 2, 1) := by decide +kernel
theorem dX8_act_17 : decode cX8_act 17 = .ok (.i2l, 1) := by decide +kernel
theorem dX8_act_18 : decode cX8_act 18 = .ok (.lconst 0, 1) := by decide +kernel
theorem dX8_act_19 : decode cX8_act 19 = .ok (.ldc2_w 140, 3) := by decide +kernel
theorem dX8_act_22 : decode cX8_act 22 = .ok (.invokestatic 86, 3) := by decide +kernel
theorem dX8_act_25 : decode cX8_act 25 = .ok (.ifCond .ne 11, 3) := by decide +kernel
theorem dX8_act_28 : decode cX8_act 28 = .ok (.aload_n 0, 1) := by decide +kernel
theorem dX8_act_29 : decode cX8_act 29 = .ok (.ldc2_w 98, 3) := by decide +kernel
theorem dX8_act_32 : decode cX8_act 32 = .ok (.invokevirtual 100, 3) := by decide +kernel
theorem dX8_act_35 : decode cX8_act 35 = .ok (.lreturn, 1) := by decide +kernel
theorem dX8_act_36 : decode cX8_act 36 = .ok (.aload_n 0, 1) := by decide +kernel
theorem dX8_act_37 : decode cX8_act 37 = .ok (.invokevirtual 142, 3) := by decide +kernel
theorem dX8_act_40 : decode cX8_act 40 = .ok (.iload_n 2, 1) := by decide +kernel
theorem dX8_act_41 : decode cX8_act 41 = .ok (.tableswitch 70 0 3 #[31, 39, 47, 62], 31) := by decide +kernel
theorem dX8_act_72 : decode cX8_act 72 = .ok (.aload_n 0, 1) := by decide +kernel
theorem dX8_act_73 : decode cX8_act 73 = .ok (.getfield 13, 3) := by decide +kernel
theorem dX8_act_76 : decode cX8_act 76 = .ok (.iload_n 1, 1) := by decide +kernel
theorem dX8_act_77 : decode cX8_act 77 = .ok (.iaload, 1) := by decide +kernel
theorem dX8_act_78 : decode cX8_act 78 = .ok (.i2l, 1) := by decide +kernel
theorem dX8_act_79 : decode cX8_act 79 = .ok (.lreturn, 1) := by decide +kernel
theorem dX8_act_80 : decode cX8_act 80 = .ok (.aload_n 0, 1) := by decide +kernel
theorem dX8_act_81 : decode cX8_act 81 = .ok (.getfield 16, 3) := by decide +kernel
theorem dX8_act_84 : decode cX8_act 84 = .ok (.iload_n 1, 1) := by decide +kernel
theorem dX8_act_85 : decode cX8_act 85 = .ok (.iaload, 1) := by decide +kernel
theorem dX8_act_86 : decode cX8_act 86 = .ok (.i2l, 1) := by decide +kernel
theorem dX8_act_87 : decode cX8_act 87 = .ok (.lreturn, 1) := by decide +kernel
theorem dX8_act_88 : decode cX8_act 88 = .ok (.aload_n 0, 1) := by decide +kernel
theorem dX8_act_89 : decode cX8_act 89 = .ok (.getfield 72, 3) := by decide +kernel
theorem dX8_act_92 : decode cX8_act 92 = .ok (.iload_n 1, 1) := by decide +kernel
theorem dX8_act_93 : decode cX8_act 93 = .ok (.baload, 1) := by decide +kernel
theorem dX8_act_94 : decode cX8_act 94 = .ok (.ifCond .eq 7, 3) := by decide +kernel
theorem dX8_act_97 : decode cX8_act 97 = .ok (.lconst 1, 1) := by decide +kernel
theorem dX8_act_98 : decode cX8_act 98 = .ok (.goto 4, 3) := by decide +kernel
theorem dX8_act_101 : decode cX8_act 101 = .ok (.lconst 0, 1) := by decide +kernel
theorem dX8_act_102 : decode cX8_act 102 = .ok (.lreturn, 1) := by decide +kernel
theorem dX8_act_103 : decode cX8_act 103 = .ok (.aload_n 0, 1) := by decide +kernel
theorem dX8_act_104 : decode cX8_act 104 = .ok (.getfield 65, 3) := by decide +kernel
theorem dX8_act_107 : decode cX8_act 107 = .ok (.iload_n 1, 1) := by decide +kernel
theorem dX8_act_108 : decode cX8_act 108 = .ok (.iaload, 1) := by decide +kernel
theorem dX8_act_109 : decode cX8_act 109 = .ok (.i2l, 1) := by decide +kernel
theorem dX8_act_110 : decode cX8_act 110 = .ok (.lreturn, 1) := by decide +kernel
theorem dX8_act_111 : decode cX8_act 111 = .ok (.aload_n 0, 1) := by decide +kernel
theorem dX8_act_112 : decode cX8_act 112 = .ok (.getfield 56, 3) := by decide +kernel
theorem dX8_act_115 : decode cX8_act 115 = .ok (.iload_n 1, 1) := by decide +kernel
theorem dX8_act_116 : decode cX8_act 116 = .ok (.iaload, 1) := by decide +kernel
theorem dX8_act_117 : decode cX8_act 117 = .ok (.i2l, 1) := by decide +kernel
theorem dX8_act_118 : decode cX8_act 118 = .ok (.lreturn, 1) := by decide +kernel
theorem dX8_untell_0 : decode cX8_untell 0 = .ok (.aload_n 0, 1) := by decide +kernel
theorem dX8_untell_1 : decode cX8_untell 1 = .ok (.getfield 112, 3) := by decide +kernel
theorem dX8_untell_4 : decode cX8_untell 4 = .ok (.ifCond .ne 11, 3) := by decide +kernel
theorem dX8_untell_7 : decode cX8_untell 7 = .ok (.aload_n 0, 1) := by decide +kernel
theorem dX8_untell_8 : decode cX8_untell 8 = .ok (.ldc2_w 145, 3) := by decide +kernel
theorem dX8_untell_11 : decode cX8_untell 11 = .ok (.invokevirtual 100, 3) := by decide +kernel
theorem dX8_untell_14 : decode cX8_untell 14 = .ok (.lreturn, 1) := by decide +kernel
theorem dX8_untell_15 : decode cX8_untell 15 = .ok (.aload_n 0, 1) := by decide +kernel
theorem dX8_untell_16 : decode cX8_untell 16 = .ok (.dup, 1) := by decide +kernel
theorem dX8_untell_17 : decode cX8_untell 17 = .ok (.getfield 112, 3) := by decide +kernel
theorem dX8_untell_20 : decode cX8_untell 20 = .ok (.iconst 1, 1) := by decide +kernel
theorem dX8_untell_21 : decode cX8_untell 21 = .ok (.isub, 1) := by decide +kernel
theorem dX8_untell_22 : decode cX8_untell 22 = .ok (.putfield 112, 3) := by decide +kernel
theorem dX8_untell_25 : decode cX8_untell 25 = .ok (.aload_n 0, 1) := by decide +kernel
theorem dX8_untell_26 : decode cX8_untell 26 = .ok (.getfield 112, 3) := by decide +kernel
theorem dX8_untell_29 : decode cX8_untell 29 = .ok (.i2l, 1) := by decide +kernel
theorem dX8_untell_30 : decode cX8_untell 30 = .ok (.lreturn, 1) := by decide +kernel
theorem dX8_who_0 : decode cX8_who 0 = .ok (.iload_n 1, 1) := by decide +kernel
theorem dX8_who_1 : decode cX8_who 1 = .ok (.invokestatic 147, 3) := by decide +kernel
theorem dX8_who_4 : decode cX8_who 4 = .ok (.ifCond .eq 10, 3) := by decide +kernel
theorem dX8_who_7 : decode cX8_who 7 = .ok (.iload_n 2, 1) := by decide +kernel
theorem dX8_who_8 : decode cX8_who 8 = .ok (.invokestatic 115, 3) := by decide +kernel
theorem dX8_who_11 : decode cX8_who 11 = .ok (.ifCond .ne 11, 3) := by decide +kernel
theorem dX8_who_14 : decode cX8_who 14 = .ok (.aload_n 0, 1) := by decide +kernel
theorem dX8_who_15 : decode cX8_who 15 = .ok (.ldc2_w 98, 3) := by decide +kernel
theorem dX8_who_18 : decode cX8_who 18 = .ok (.invokevirtual 100, 3) := by decide +kernel
theorem dX8_who_21 : decode cX8_who 21 = .ok (.lreturn, 1) := by decide +kernel
theorem dX8_who_22 : decode cX8_who 22 = .ok (.aload_n 0, 1) := by decide +kernel
theorem dX8_who_23 : decode cX8_who 23 = .ok (.invokevirtual 142, 3) := by decide +kernel
theorem dX8_who_26 : decode cX8_who 26 = .ok (.aload_n 0, 1) := by decide +kernel
theorem dX8_who_27 : decode cX8_who 27 = .ok (.getfield 59, 3) := by decide +kernel
theorem dX8_who_30 : decode cX8_who 30 = .ok (.bipush 36, 2) := by decide +kernel
theorem dX8_who_32 : decode cX8_who 32 = .ok (.aload_n 0, 1) := by decide +kernel
theorem dX8_who_33 : decode cX8_who 33 = .ok (.iload_n 2, 1) := by decide +kernel
theorem dX8_who_34 : decode cX8_who 34 = .ok (.invokevirtual 150, 3) := by decide +kernel
theorem dX8_who_37 : decode cX8_who 37 = .ok (.imul, 1) := by decide +kernel
theorem dX8_who_38 : decode cX8_who 38 = .ok (.iload_n 1, 1) := by decide +kernel
theorem dX8_who_39 : decode cX8_who 39 = .ok (.iadd, 1) := by decide +kernel
theorem dX8_who_40 : decode cX8_who 40 = .ok (.iaload, 1) := by decide +kernel
theorem dX8_who_41 : decode cX8_who 41 = .ok (.i2l, 1) := by decide +kernel
theorem dX8_who_42 : decode cX8_who 42 = .ok (.lreturn, 1) := by decide +kernel
theorem dX8_there_0 : decode cX8_there 0 = .ok (.aload_n 0, 1) := by decide +kernel
theorem dX8_there_1 : decode cX8_there 1 = .ok (.iload_n 1, 1) := by decide +kernel
theorem dX8_there_2 : decode cX8_there 2 = .ok (.invokevirtual 106, 3) := by decide +kernel
theorem dX8_there_5 : decode cX8_there 5 = .ok (.ifCond .eq 10, 3) := by decide +kernel
theorem dX8_there_8 : decode cX8_there 8 = .ok (.iload_n 2, 1) := by decide +kernel
theorem dX8_there_9 : decode cX8_there 9 = .ok (.invokestatic 115, 3) := by decide +kernel
theorem dX8_there_12 : decode cX8_there 12 = .ok (.ifCond .ne 11, 3) := by decide +kernel
theorem dX8_there_15 : decode cX8_there 15 = .ok (.aload_n 0, 1) := by decide +kernel
theorem dX8_there_16 : decode cX8_there 16 = .ok (.ldc2_w 98, 3) := by decide +kernel
theorem dX8_there_19 : decode cX8_there 19 = .ok (.invokevirtual 100, 3) := by decide +kernel
theorem dX8_there_22 : decode cX8_there 22 = .ok (.lreturn, 1) := by decide +kernel
theorem dX8_there_23 : decode cX8_there 23 = .ok (.aload_n 0, 1) := by decide +kernel
theorem dX8_there_24 : decode cX8_there 24 = .ok (.invokevirtual 142, 3) := by decide +kernel
theorem dX8_there_27 : decode cX8_there 27 = .ok (.aload_n 0, 1) := by decide +kernel
theorem dX8_there_28 : decode cX8_there 28 = .ok (.iload_n 1, 1) := by decide +kernel
theorem dX8_there_29 : decode cX8_there 29 = .ok (.invokevirtual 118, 3) := by decide +kernel
theorem dX8_there_32 : decode cX8_there 32 = .ok (.ifCond .ne 21, 3) := by decide +kernel
theorem dX8_there_35 : decode cX8_there 35 = .ok (.aload_n 0, 1) := by decide +kernel
theorem dX8_there_36 : decode cX8_there 36 = .ok (.getfield 68, 3) := by decide +kernel
theorem dX8_there_39 : decode cX8_there 39 = .ok (.bipush 10, 2) := by decide +kernel
theorem dX8_there_41 : decode cX8_there 41 = .ok (.aload_n 0, 1) := by decide +kernel
theorem dX8_there_42 : decode cX8_there 42 = .ok (.iload_n 2, 1) := by decide +kernel
theorem dX8_there_43 : decode cX8_there 43 = .ok (.invokevirtual 150, 3) := by decide +kernel
theorem dX8_there_46 : decode cX8_there 46 = .ok (.imul, 1) := by decide +kernel
theorem dX8_there_47 : decode cX8_there 47 = .ok (.iload_n 1, 1) := by decide +kernel
theorem dX8_there_48 : decode cX8_there 48 = .ok (.iadd, 1) := by decide +kernel
theorem dX8_there_49 : decode cX8_there 49 = .ok (.baload, 1) := by decide +kernel
theorem dX8_there_50 : decode cX8_there 50 = .ok (.ifCond .eq 7, 3) := by decide +kernel
theorem dX8_there_53 : decode cX8_there 53 = .ok (.lconst 1, 1) := by decide +kernel
theorem dX8_there_54 : decode cX8_there 54 = .ok (.goto 4, 3) := by decide +kernel
theorem dX8_there_57 : decode cX8_there 57 = .ok (.lconst 0, 1) := by decide +kernel
theorem dX8_there_58 : decode cX8_there 58 = .ok (.lreturn, 1) := by decide +kernel
theorem dX8_cells_0 : decode cX8_cells 0 = .ok (.aload_n 0, 1) := by decide +kernel
theorem dX8_cells_1 : decode cX8_cells 1 = .ok (.iload_n 1, 1) := by decide +kernel
theorem dX8_cells_2 : decode cX8_cells 2 = .ok (.invokevirtual 106, 3) := by decide +kernel
theorem dX8_cells_5 : decode cX8_cells 5 = .ok (.ifCond .eq 10, 3) := by decide +kernel
theorem dX8_cells_8 : decode cX8_cells 8 = .ok (.iload_n 2, 1) := by decide +kernel
theorem dX8_cells_9 : decode cX8_cells 9 = .ok (.invokestatic 115, 3) := by decide +kernel
theorem dX8_cells_12 : decode cX8_cells 12 = .ok (.ifCond .ne 11, 3) := by decide +kernel
theorem dX8_cells_15 : decode cX8_cells 15 = .ok (.aload_n 0, 1) := by decide +kernel
theorem dX8_cells_16 : decode cX8_cells 16 = .ok (.ldc2_w 98, 3) := by decide +kernel
theorem dX8_cells_19 : decode cX8_cells 19 = .ok (.invokevirtual 100, 3) := by decide +kernel
theorem dX8_cells_22 : decode cX8_cells 22 = .ok (.lreturn, 1) := by decide +kernel
theorem dX8_cells_23 : decode cX8_cells 23 = .ok (.aload_n 0, 1) := by decide +kernel
theorem dX8_cells_24 : decode cX8_cells 24 = .ok (.invokevirtual 142, 3) := by decide +kernel
theorem dX8_cells_27 : decode cX8_cells 27 = .ok (.aload_n 0, 1) := by decide +kernel
theorem dX8_cells_28 : decode cX8_cells 28 = .ok (.iload_n 1, 1) := by decide +kernel
theorem dX8_cells_29 : decode cX8_cells 29 = .ok (.aload_n 0, 1) := by decide +kernel
theorem dX8_cells_30 : decode cX8_cells 30 = .ok (.iload_n 2, 1) := by decide +kernel
theorem dX8_cells_31 : decode cX8_cells 31 = .ok (.invokevirtual 150, 3) := by decide +kernel
theorem dX8_cells_34 : decode cX8_cells 34 = .ok (.invokevirtual 154, 3) := by decide +kernel
theorem dX8_cells_37 : decode cX8_cells 37 = .ok (.lreturn, 1) := by decide +kernel
theorem dX8_cellsIn_0 : decode cX8_cellsIn 0 = .ok (.iconst 0, 1) := by decide +kernel
theorem dX8_cellsIn_1 : decode cX8_cellsIn 1 = .ok (.istore_n 2, 1) := by decide +kernel
theorem dX8_cellsIn_2 : decode cX8_cellsIn 2 = .ok (.iconst 0, 1) := by decide +kernel
theorem dX8_cellsIn_3 : decode cX8_cellsIn 3 = .ok (.istore_n 3, 1) := by decide +kernel
theorem dX8_cellsIn_4 : decode cX8_cellsIn 4 = .ok (.iload_n 3, 1) := by decide +kernel
theorem dX8_cellsIn_5 : decode cX8_cellsIn 5 = .ok (.bipush 36, 2) := by decide +kernel
theorem dX8_cellsIn_7 : decode cX8_cellsIn 7 = .ok (.if_icmp .ge 18, 3) := by decide +kernel
theorem dX8_cellsIn_10 : decode cX8_cellsIn 10 = .ok (.iload_n 2, 1) := by decide +kernel
theorem dX8_cellsIn_11 : decode cX8_cellsIn 11 = .ok (.lload_n 0, 1) := by decide +kernel
theorem dX8_cellsIn_12 : decode cX8_cellsIn 12 = .ok (.iload_n 3, 1) := by decide +kernel
theorem dX8_cellsIn_13 : decode cX8_cellsIn 13 = .ok (.lshr, 1) := by decide +kernel
theorem dX8_cellsIn_14 : decode cX8_cellsIn 14 = .ok (.lconst 1, 1) := by decide +kernel
theorem dX8_cellsIn_15 : decode cX8_cellsIn 15 = .ok (.land, 1) := by decide +kernel
theorem dX8_cellsIn_16 : decode cX8_cellsIn 16 = .ok (.l2i, 1) := by decide +kernel
theorem dX8_cellsIn_17 : decode cX8_cellsIn 17 = .ok (.iadd, 1) := by decide +kernel
theorem dX8_cellsIn_18 : decode cX8_cellsIn 18 = .ok (.istore_n 2, 1) := by decide +kernel
theorem dX8_cellsIn_19 : decode cX8_cellsIn 19 = .ok (.iinc 3 1, 3) := by decide +kernel
theorem dX8_cellsIn_22 : decode cX8_cellsIn 22 = .ok (.goto (-18), 3) := by decide +kernel
theorem dX8_cellsIn_25 : decode cX8_cellsIn 25 = .ok (.iload_n 2, 1) := by decide +kernel
theorem dX8_cellsIn_26 : decode cX8_cellsIn 26 = .ok (.ireturn, 1) := by decide +kernel
theorem dX8_beside_0 : decode cX8_beside 0 = .ok (.iload_n 0, 1) := by decide +kernel
theorem dX8_beside_1 : decode cX8_beside 1 = .ok (.bipush 6, 2) := by decide +kernel
theorem dX8_beside_3 : decode cX8_beside 3 = .ok (.idiv, 1) := by decide +kernel
theorem dX8_beside_4 : decode cX8_beside 4 = .ok (.iload_n 1, 1) := by decide +kernel
theorem dX8_beside_5 : decode cX8_beside 5 = .ok (.ifCond .ne 7, 3) := by decide +kernel
theorem dX8_beside_8 : decode cX8_beside 8 = .ok (.iconst (-1), 1) := by decide +kernel
theorem dX8_beside_9 : decode cX8_beside 9 = .ok (.goto 13, 3) := by decide +kernel
theorem dX8_beside_12 : decode cX8_beside 12 = .ok (.iload_n 1, 1) := by decide +kernel
theorem dX8_beside_13 : decode cX8_beside 13 = .ok (.iconst 1, 1) := by decide +kernel
theorem dX8_beside_14 : decode cX8_beside 14 = .ok (.if_icmp .ne 7, 3) := by decide +kernel
theorem dX8_beside_17 : decode cX8_beside 17 = .ok (.iconst 1, 1) := by decide +kernel
theorem dX8_beside_18 : decode cX8_beside 18 = .ok (.goto 4, 3) := by decide +kernel
theorem dX8_beside_21 : decode cX8_beside 21 = .ok (.iconst 0, 1) := by decide +kernel
theorem dX8_beside_22 : decode cX8_beside 22 = .ok (.iadd, 1) := by decide +kernel
theorem dX8_beside_23 : decode cX8_beside 23 = .ok (.istore_n 2, 1) := by decide +kernel
theorem dX8_beside_24 : decode cX8_beside 24 = .ok (.iload_n 0, 1) := by decide +kernel
theorem dX8_beside_25 : decode cX8_beside 25 = .ok (.bipush 6, 2) := by decide +kernel
theorem dX8_beside_27 : decode cX8_beside 27 = .ok (.irem, 1) := by decide +kernel
theorem dX8_beside_28 : decode cX8_beside 28 = .ok (.iload_n 1, 1) := by decide +kernel
theorem dX8_beside_29 : decode cX8_beside 29 = .ok (.iconst 2, 1) := by decide +kernel
theorem dX8_beside_30 : decode cX8_beside 30 = .ok (.if_icmp .ne 7, 3) := by decide +kernel
theorem dX8_beside_33 : decode cX8_beside 33 = .ok (.iconst (-1), 1) := by decide +kernel
theorem dX8_beside_34 : decode cX8_beside 34 = .ok (.goto 13, 3) := by decide +kernel
theorem dX8_beside_37 : decode cX8_beside 37 = .ok (.iload_n 1, 1) := by decide +kernel
theorem dX8_beside_38 : decode cX8_beside 38 = .ok (.iconst 3, 1) := by decide +kernel
theorem dX8_beside_39 : decode cX8_beside 39 = .ok (.if_icmp .ne 7, 3) := by decide +kernel
theorem dX8_beside_42 : decode cX8_beside 42 = .ok (.iconst 1, 1) := by decide +kernel
theorem dX8_beside_43 : decode cX8_beside 43 = .ok (.goto 4, 3) := by decide +kernel
theorem dX8_beside_46 : decode cX8_beside 46 = .ok (.iconst 0, 1) := by decide +kernel
theorem dX8_beside_47 : decode cX8_beside 47 = .ok (.iadd, 1) := by decide +kernel
theorem dX8_beside_48 : decode cX8_beside 48 = .ok (.istore_n 3, 1) := by decide +kernel
theorem dX8_beside_49 : decode cX8_beside 49 = .ok (.iload_n 2, 1) := by decide +kernel
theorem dX8_beside_50 : decode cX8_beside 50 = .ok (.i2l, 1) := by decide +kernel
theorem dX8_beside_51 : decode cX8_beside 51 = .ok (.lconst 0, 1) := by decide +kernel
theorem dX8_beside_52 : decode cX8_beside 52 = .ok (.ldc2_w 158, 3) := by decide +kernel
theorem dX8_beside_55 : decode cX8_beside 55 = .ok (.invokestatic 86, 3) := by decide +kernel
theorem dX8_beside_58 : decode cX8_beside 58 = .ok (.ifCond .eq 24, 3) := by decide +kernel
theorem dX8_beside_61 : decode cX8_beside 61 = .ok (.iload_n 3, 1) := by decide +kernel
theorem dX8_beside_62 : decode cX8_beside 62 = .ok (.i2l, 1) := by decide +kernel
theorem dX8_beside_63 : decode cX8_beside 63 = .ok (.lconst 0, 1) := by decide +kernel
theorem dX8_beside_64 : decode cX8_beside 64 = .ok (.ldc2_w 158, 3) := by decide +kernel
theorem dX8_beside_67 : decode cX8_beside 67 = .ok (.invokestatic 86, 3) := by decide +kernel
theorem dX8_beside_70 : decode cX8_beside 70 = .ok (.ifCond .eq 12, 3) := by decide +kernel
theorem dX8_beside_73 : decode cX8_beside 73 = .ok (.bipush 6, 2) := by decide +kernel
theorem dX8_beside_75 : decode cX8_beside 75 = .ok (.iload_n 2, 1) := by decide +kernel
theorem dX8_beside_76 : decode cX8_beside 76 = .ok (.imul, 1) := by decide +kernel
theorem dX8_beside_77 : decode cX8_beside 77 = .ok (.iload_n 3, 1) := by decide +kernel
theorem dX8_beside_78 : decode cX8_beside 78 = .ok (.iadd, 1) := by decide +kernel
theorem dX8_beside_79 : decode cX8_beside 79 = .ok (.goto 4, 3) := by decide +kernel
theorem dX8_beside_82 : decode cX8_beside 82 = .ok (.iconst (-1), 1) := by decide +kernel
theorem dX8_beside_83 : decode cX8_beside 83 = .ok (.ireturn, 1) := by decide +kernel
theorem dX8_has_0 : decode cX8_has 0 = .ok (.iload_n 2, 1) := by decide +kernel
theorem dX8_has_1 : decode cX8_has 1 = .ok (.ifCond .lt 17, 3) := by decide +kernel
theorem dX8_has_4 : decode cX8_has 4 = .ok (.lload_n 0, 1) := by decide +kernel
theorem dX8_has_5 : decode cX8_has 5 = .ok (.iload_n 2, 1) := by decide +kernel
theorem dX8_has_6 : decode cX8_has 6 = .ok (.lshr, 1) := by decide +kernel
theorem dX8_has_7 : decode cX8_has 7 = .ok (.lconst 1, 1) := by decide +kernel
theorem dX8_has_8 : decode cX8_has 8 = .ok (.land, 1) := by decide +kernel
theorem dX8_has_9 : decode cX8_has 9 = .ok (.lconst 1, 1) := by decide +kernel
theorem dX8_has_10 : decode cX8_has 10 = .ok (.lcmp, 1) := by decide +kernel
theorem dX8_has_11 : decode cX8_has 11 = .ok (.ifCond .ne 7, 3) := by decide +kernel
theorem dX8_has_14 : decode cX8_has 14 = .ok (.iconst 1, 1) := by decide +kernel
theorem dX8_has_15 : decode cX8_has 15 = .ok (.goto 4, 3) := by decide +kernel
theorem dX8_has_18 : decode cX8_has 18 = .ok (.iconst 0, 1) := by decide +kernel
theorem dX8_has_19 : decode cX8_has 19 = .ok (.ireturn, 1) := by decide +kernel
theorem dX8_pieces_0 : decode cX8_pieces 0 = .ok (.lload_n 0, 1) := by decide +kernel
theorem dX8_pieces_1 : decode cX8_pieces 1 = .ok (.lstore_n 2, 1) := by decide +kernel
theorem dX8_pieces_2 : decode cX8_pieces 2 = .ok (.iconst 0, 1) := by decide +kernel
theorem dX8_pieces_3 : decode cX8_pieces 3 = .ok (.istore 4, 2) := by decide +kernel
theorem dX8_pieces_5 : decode cX8_pieces 5 = .ok (.lload_n 2, 1) := by decide +kernel
theorem dX8_pieces_6 : decode cX8_pieces 6 = .ok (.lconst 0, 1) := by decide +kernel
theorem dX8_pieces_7 : decode cX8_pieces 7 = .ok (.lcmp, 1) := by decide +kernel
theorem dX8_pieces_8 : decode cX8_pieces 8 = .ok (.ifCond .eq 143, 3) := by decide +kernel
theorem dX8_pieces_11 : decode cX8_pieces 11 = .ok (.iconst 0, 1) := by decide +kernel
theorem dX8_pieces_12 : decode cX8_pieces 12 = .ok (.istore 5, 2) := by decide +kernel
theorem dX8_pieces_14 : decode cX8_pieces 14 = .ok (.lload_n 2, 1) := by decide +kernel
theorem dX8_pieces_15 : decode cX8_pieces 15 = .ok (.iload 5, 2) := by decide +kernel
theorem dX8_pieces_17 : decode cX8_pieces 17 = .ok (.invokestatic 160, 3) := by decide +kernel
theorem dX8_pieces_20 : decode cX8_pieces 20 = .ok (.ifCond .ne 9, 3) := by decide +kernel
theorem dX8_pieces_23 : decode cX8_pieces 23 = .ok (.iinc 5 1, 3) := by decide +kernel
theorem dX8_pieces_26 : decode cX8_pieces 26 = .ok (.goto (-12), 3) := by decide +kernel
theorem dX8_pieces_29 : decode cX8_pieces 29 = .ok (.lconst 1, 1) := by decide +kernel
theorem dX8_pieces_30 : decode cX8_pieces 30 = .ok (.iload 5, 2) := by decide +kernel
theorem dX8_pieces_32 : decode cX8_pieces 32 = .ok (.lshl, 1) := by decide +kernel
theorem dX8_pieces_33 : decode cX8_pieces 33 = .ok (.lstore 6, 2) := by decide +kernel
theorem dX8_pieces_35 : decode cX8_pieces 35 = .ok (.iconst 1, 1) := by decide +kernel
theorem dX8_pieces_36 : decode cX8_pieces 36 = .ok (.istore 8, 2) := by decide +kernel
theorem dX8_pieces_38 : decode cX8_pieces 38 = .ok (.iload 8, 2) := by decide +kernel
theorem dX8_pieces_40 : decode cX8_pieces 40 = .ok (.ifCond .eq 96, 3) := by decide +kernel
theorem dX8_pieces_43 : decode cX8_pieces 43 = .ok (.iconst 0, 1) := by decide +kernel
theorem dX8_pieces_44 : decode cX8_pieces 44 = .ok (.istore 8, 2) := by decide +kernel
theorem dX8_pieces_46 : decode cX8_pieces 46 = .ok (.iconst 0, 1) := by decide +kernel
theorem dX8_pieces_47 : decode cX8_pieces 47 = .ok (.istore 9, 2) := by decide +kernel
theorem dX8_pieces_49 : decode cX8_pieces 49 = .ok (.iload 9, 2) := by decide +kernel
theorem dX8_pieces_51 : decode cX8_pieces 51 = .ok (.bipush 36, 2) := by decide +kernel
theorem dX8_pieces_53 : decode cX8_pieces 53 = .ok (.if_icmp .ge 80, 3) := by decide +kernel
theorem dX8_pieces_56 : decode cX8_pieces 56 = .ok (.lload 6, 2) := by decide +kernel
theorem dX8_pieces_58 : decode cX8_pieces 58 = .ok (.iload 9, 2) := by decide +kernel
theorem dX8_pieces_60 : decode cX8_pieces 60 = .ok (.invokestatic 160, 3) := by decide +kernel
theorem dX8_pieces_63 : decode cX8_pieces 63 = .ok (.ifCond .ne 6, 3) := by decide +kernel
theorem dX8_pieces_66 : decode cX8_pieces 66 = .ok (.goto 61, 3) := by decide +kernel
theorem dX8_pieces_69 : decode cX8_pieces 69 = .ok (.iconst 0, 1) := by decide +kernel
theorem dX8_pieces_70 : decode cX8_pieces 70 = .ok (.istore 10, 2) := by decide +kernel
theorem dX8_pieces_72 : decode cX8_pieces 72 = .ok (.iload 10, 2) := by decide +kernel
theorem dX8_pieces_74 : decode cX8_pieces 74 = .ok (.iconst 4, 1) := by decide +kernel
theorem dX8_pieces_75 : decode cX8_pieces 75 = .ok (.if_icmp .ge 52, 3) := by decide +kernel
theorem dX8_pieces_78 : decode cX8_pieces 78 = .ok (.iload 9, 2) := by decide +kernel
theorem dX8_pieces_80 : decode cX8_pieces 80 = .ok (.iload 10, 2) := by decide +kernel
theorem dX8_pieces_82 : decode cX8_pieces 82 = .ok (.invokestatic 164, 3) := by decide +kernel
theorem dX8_pieces_85 : decode cX8_pieces 85 = .ok (.istore 11, 2) := by decide +kernel
theorem dX8_pieces_87 : decode cX8_pieces 87 = .ok (.lload_n 0, 1) := by decide +kernel
theorem dX8_pieces_88 : decode cX8_pieces 88 = .ok (.iload 11, 2) := by decide +kernel
theorem dX8_pieces_90 : decode cX8_pieces 90 = .ok (.invokestatic 160, 3) := by decide +kernel
theorem dX8_pieces_93 : decode cX8_pieces 93 = .ok (.ifCond .eq 28, 3) := by decide +kernel
theorem dX8_pieces_96 : decode cX8_pieces 96 = .ok (.lload 6, 2) := by decide +kernel
theorem dX8_pieces_98 : decode cX8_pieces 98 = .ok (.iload 11, 2) := by decide +kernel
theorem dX8_pieces_100 : decode cX8_pieces 100 = .ok (.invokestatic 160, 3) := by decide +kernel
theorem dX8_pieces_103 : decode cX8_pieces 103 = .ok (.ifCond .eq 6, 3) := by decide +kernel
theorem dX8_pieces_106 : decode cX8_pieces 106 = .ok (.goto 15, 3) := by decide +kernel
theorem dX8_pieces_109 : decode cX8_pieces 109 = .ok (.lload 6, 2) := by decide +kernel
theorem dX8_pieces_111 : decode cX8_pieces 111 = .ok (.lconst 1, 1) := by decide +kernel
theorem dX8_pieces_112 : decode cX8_pieces 112 = .ok (.iload 11, 2) := by decide +kernel
theorem dX8_pieces_114 : decode cX8_pieces 114 = .ok (.lshl, 1) := by decide +kernel
theorem dX8_pieces_115 : decode cX8_pieces 115 = .ok (.lor, 1) := by decide +kernel
theorem dX8_pieces_116 : decode cX8_pieces 116 = .ok (.lstore 6, 2) := by decide +kernel
theorem dX8_pieces_118 : decode cX8_pieces 118 = .ok (.iconst 1, 1) := by decide +kernel
theorem dX8_pieces_119 : decode cX8_pieces 119 = .ok (.istore 8, 2) := by decide +kernel
theorem dX8_pieces_121 : decode cX8_pieces 121 = .ok (.iinc 10 1, 3) := by decide +kernel
theorem dX8_pieces_124 : decode cX8_pieces 124 = .ok (.goto (-52), 3) := by decide +kernel
theorem dX8_pieces_127 : decode cX8_pieces 127 = .ok (.iinc 9 1, 3) := by decide +kernel
theorem dX8_pieces_130 : decode cX8_pieces 130 = .ok (.goto (-81), 3) := by decide +kernel
theorem dX8_pieces_133 : decode cX8_pieces 133 = .ok (.goto (-95), 3) := by decide +kernel
theorem dX8_pieces_136 : decode cX8_pieces 136 = .ok (.lload_n 2, 1) := by decide +kernel
theorem dX8_pieces_137 : decode cX8_pieces 137 = .ok (.lload 6, 2) := by decide +kernel
theorem dX8_pieces_139 : decode cX8_pieces 139 = .ok (.ldc2_w 135, 3) := by decide +kernel
theorem dX8_pieces_142 : decode cX8_pieces 142 = .ok (.lxor, 1) := by decide +kernel
theorem dX8_pieces_143 : decode cX8_pieces 143 = .ok (.land, 1) := by decide +kernel
theorem dX8_pieces_144 : decode cX8_pieces 144 = .ok (.lstore_n 2, 1) := by decide +kernel
theorem dX8_pieces_145 : decode cX8_pieces 145 = .ok (.iinc 4 1, 3) := by decide +kernel
theorem dX8_pieces_148 : decode cX8_pieces 148 = .ok (.goto (-143), 3) := by decide +kernel
theorem dX8_pieces_151 : decode cX8_pieces 151 = .ok (.iload 4, 2) := by decide +kernel
theorem dX8_pieces_153 : decode cX8_pieces 153 = .ok (.ireturn, 1) := by decide +kernel
theorem dX8_sides_0 : decode cX8_sides 0 = .ok (.iconst 0, 1) := by decide +kernel
theorem dX8_sides_1 : decode cX8_sides 1 = .ok (.istore_n 2, 1) := by decide +kernel
theorem dX8_sides_2 : decode cX8_sides 2 = .ok (.iconst 0, 1) := by decide +kernel
theorem dX8_sides_3 : decode cX8_sides 3 = .ok (.istore_n 3, 1) := by decide +kernel
theorem dX8_sides_4 : decode cX8_sides 4 = .ok (.iload_n 3, 1) := by decide +kernel
theorem dX8_sides_5 : decode cX8_sides 5 = .ok (.bipush 36, 2) := by decide +kernel
theorem dX8_sides_7 : decode cX8_sides 7 = .ok (.if_icmp .ge 53, 3) := by decide +kernel
theorem dX8_sides_10 : decode cX8_sides 10 = .ok (.iconst 0, 1) := by decide +kernel
theorem dX8_sides_11 : decode cX8_sides 11 = .ok (.istore 4, 2) := by decide +kernel
theorem dX8_sides_13 : decode cX8_sides 13 = .ok (.iload 4, 2) := by decide +kernel
theorem dX8_sides_15 : decode cX8_sides 15 = .ok (.iconst 4, 1) := by decide +kernel
theorem dX8_sides_16 : decode cX8_sides 16 = .ok (.if_icmp .ge 38, 3) := by decide +kernel
theorem dX8_sides_19 : decode cX8_sides 19 = .ok (.lload_n 0, 1) := by decide +kernel
theorem dX8_sides_20 : decode cX8_sides 20 = .ok (.iload_n 3, 1) := by decide +kernel
theorem dX8_sides_21 : decode cX8_sides 21 = .ok (.invokestatic 160, 3) := by decide +kernel
theorem dX8_sides_24 : decode cX8_sides 24 = .ok (.ifCond .eq 30, 3) := by decide +kernel
theorem dX8_sides_27 : decode cX8_sides 27 = .ok (.iload_n 2, 1) := by decide +kernel
theorem dX8_sides_28 : decode cX8_sides 28 = .ok (.lload_n 0, 1) := by decide +kernel
theorem dX8_sides_29 : decode cX8_sides 29 = .ok (.iload_n 3, 1) := by decide +kernel
theorem dX8_sides_30 : decode cX8_sides 30 = .ok (.iload 4, 2) := by decide +kernel
theorem dX8_sides_32 : decode cX8_sides 32 = .ok (.invokestatic 164, 3) := by decide +kernel
theorem dX8_sides_35 : decode cX8_sides 35 = .ok (.invokestatic 160, 3) := by decide +kernel
theorem dX8_sides_38 : decode cX8_sides 38 = .ok (.ifCond .eq 7, 3) := by decide +kernel
theorem dX8_sides_41 : decode cX8_sides 41 = .ok (.iconst 0, 1) := by decide +kernel
theorem dX8_sides_42 : decode cX8_sides 42 = .ok (.goto 4, 3) := by decide +kernel
theorem dX8_sides_45 : decode cX8_sides 45 = .ok (.iconst 1, 1) := by decide +kernel
theorem dX8_sides_46 : decode cX8_sides 46 = .ok (.iadd, 1) := by decide +kernel
theorem dX8_sides_47 : decode cX8_sides 47 = .ok (.istore_n 2, 1) := by decide +kernel
theorem dX8_sides_48 : decode cX8_sides 48 = .ok (.iinc 4 1, 3) := by decide +kernel
theorem dX8_sides_51 : decode cX8_sides 51 = .ok (.goto (-38), 3) := by decide +kernel
theorem dX8_sides_54 : decode cX8_sides 54 = .ok (.iinc 3 1, 3) := by decide +kernel
theorem dX8_sides_57 : decode cX8_sides 57 = .ok (.goto (-53), 3) := by decide +kernel
theorem dX8_sides_60 : decode cX8_sides 60 = .ok (.iload_n 2, 1) := by decide +kernel
theorem dX8_sides_61 : decode cX8_sides 61 = .ok (.ireturn, 1) := by decide +kernel
theorem dX8_shape_0 : decode cX8_shape 0 = .ok (.aload_n 0, 1) := by decide +kernel
theorem dX8_shape_1 : decode cX8_shape 1 = .ok (.iload_n 1, 1) := by decide +kernel
theorem dX8_shape_2 : decode cX8_shape 2 = .ok (.invokevirtual 106, 3) := by decide +kernel
theorem dX8_shape_5 : decode cX8_shape 5 = .ok (.ifCond .eq 22, 3) := by decide +kernel
theorem dX8_shape_8 : decode cX8_shape 8 = .ok (.iload_n 2, 1) := by decide +kernel
theorem dX8_shape_9 : decode cX8_shape 9 = .ok (.invokestatic 115, 3) := by decide +kernel
theorem dX8_shape_12 : decode cX8_shape 12 = .ok (.ifCond .eq 15, 3) := by decide +kernel
theorem dX8_shape_15 : decode cX8_shape 15 = .ok (.iload_n 3, 1) := by decide +kernel
theorem dX8_shape_16 : decode cX8_shape 16 = .ok (.i2l, 1) := by decide +kernel
theorem dX8_shape_17 : decode cX8_shape 17 = .ok (.lconst 0, 1) := by decide +kernel
theorem dX8_shape_18 : decode cX8_shape 18 = .ok (.ldc2_w 168, 3) := by decide +kernel
theorem dX8_shape_21 : decode cX8_shape 21 = .ok (.invokestatic 86, 3) := by decide +kernel
theorem dX8_shape_24 : decode cX8_shape 24 = .ok (.ifCond .ne 11, 3) := by decide +kernel
theorem dX8_shape_27 : decode cX8_shape 27 = .ok (.aload_n 0, 1) := by decide +kernel
theorem dX8_shape_28 : decode cX8_shape 28 = .ok (.ldc2_w 98, 3) := by decide +kernel
theorem dX8_shape_31 : decode cX8_shape 31 = .ok (.invokevirtual 100, 3) := by decide +kernel
theorem dX8_shape_34 : decode cX8_shape 34 = .ok (.lreturn, 1) := by decide +kernel
theorem dX8_shape_35 : decode cX8_shape 35 = .ok (.aload_n 0, 1) := by decide +kernel
theorem dX8_shape_36 : decode cX8_shape 36 = .ok (.invokevirtual 142, 3) := by decide +kernel
theorem dX8_shape_39 : decode cX8_shape 39 = .ok (.aload_n 0, 1) := by decide +kernel
theorem dX8_shape_40 : decode cX8_shape 40 = .ok (.iload_n 1, 1) := by decide +kernel
theorem dX8_shape_41 : decode cX8_shape 41 = .ok (.aload_n 0, 1) := by decide +kernel
theorem dX8_shape_42 : decode cX8_shape 42 = .ok (.iload_n 2, 1) := by decide +kernel
theorem dX8_shape_43 : decode cX8_shape 43 = .ok (.invokevirtual 150, 3) := by decide +kernel
theorem dX8_shape_46 : decode cX8_shape 46 = .ok (.invokevirtual 154, 3) := by decide +kernel
theorem dX8_shape_49 : decode cX8_shape 49 = .ok (.lstore 4, 2) := by decide +kernel
theorem dX8_shape_51 : decode cX8_shape 51 = .ok (.iload_n 3, 1) := by decide +kernel
theorem dX8_shape_52 : decode cX8_shape 52 = .ok (.ifCond .ne 12, 3) := by decide +kernel
theorem dX8_shape_55 : decode cX8_shape 55 = .ok (.lload 4, 2) := by decide +kernel
theorem dX8_shape_57 : decode cX8_shape 57 = .ok (.invokestatic 170, 3) := by decide +kernel
theorem dX8_shape_60 : decode cX8_shape 60 = .ok (.i2l, 1) := by decide +kernel
theorem dX8_shape_61 : decode cX8_shape 61 = .ok (.goto 23, 3) := by decide +kernel
theorem dX8_shape_64 : decode cX8_shape 64 = .ok (.iload_n 3, 1) := by decide +kernel
theorem dX8_shape_65 : decode cX8_shape 65 = .ok (.iconst 1, 1) := by decide +kernel
theorem dX8_shape_66 : decode cX8_shape 66 = .ok (.if_icmp .ne 12, 3) := by decide +kernel
theorem dX8_shape_69 : decode cX8_shape 69 = .ok (.lload 4, 2) := by decide +kernel
theorem dX8_shape_71 : decode cX8_shape 71 = .ok (.invokestatic 174, 3) := by decide +kernel
theorem dX8_shape_74 : decode cX8_shape 74 = .ok (.i2l, 1) := by decide +kernel
theorem dX8_shape_75 : decode cX8_shape 75 = .ok (.goto 9, 3) := by decide +kernel
theorem dX8_shape_78 : decode cX8_shape 78 = .ok (.lload 4, 2) := by decide +kernel
theorem dX8_shape_80 : decode cX8_shape 80 = .ok (.invokestatic 177, 3) := by decide +kernel
theorem dX8_shape_83 : decode cX8_shape 83 = .ok (.i2l, 1) := by decide +kernel
theorem dX8_shape_84 : decode cX8_shape 84 = .ok (.lreturn, 1) := by decide +kernel
theorem dX8_under_0 : decode cX8_under 0 = .ok (.aload_n 0, 1) := by decide +kernel
theorem dX8_under_1 : decode cX8_under 1 = .ok (.iload_n 1, 1) := by decide +kernel
theorem dX8_under_2 : decode cX8_under 2 = .ok (.invokevirtual 106, 3) := by decide +kernel
theorem dX8_under_5 : decode cX8_under 5 = .ok (.ifCond .eq 10, 3) := by decide +kernel
theorem dX8_under_8 : decode cX8_under 8 = .ok (.iload_n 2, 1) := by decide +kernel
theorem dX8_under_9 : decode cX8_under 9 = .ok (.invokestatic 115, 3) := by decide +kernel
theorem dX8_under_12 : decode cX8_under 12 = .ok (.ifCond .ne 11, 3) := by decide +kernel
theorem dX8_under_15 : decode cX8_under 15 = .ok (.aload_n 0, 1) := by decide +kernel
theorem dX8_under_16 : decode cX8_under 16 = .ok (.ldc2_w 98, 3) := by decide +kernel
theorem dX8_under_19 : decode cX8_under 19 = .ok (.invokevirtual 100, 3) := by decide +kernel
theorem dX8_under_22 : decode cX8_under 22 = .ok (.lreturn, 1) := by decide +kernel
theorem dX8_under_23 : decode cX8_under 23 = .ok (.aload_n 0, 1) := by decide +kernel
theorem dX8_under_24 : decode cX8_under 24 = .ok (.iload_n 1, 1) := by decide +kernel
theorem dX8_under_25 : decode cX8_under 25 = .ok (.invokevirtual 118, 3) := by decide +kernel
theorem dX8_under_28 : decode cX8_under 28 = .ok (.ifCond .eq 11, 3) := by decide +kernel
theorem dX8_under_31 : decode cX8_under 31 = .ok (.aload_n 0, 1) := by decide +kernel
theorem dX8_under_32 : decode cX8_under 32 = .ok (.ldc2_w 110, 3) := by decide +kernel
theorem dX8_under_35 : decode cX8_under 35 = .ok (.invokevirtual 100, 3) := by decide +kernel
theorem dX8_under_38 : decode cX8_under 38 = .ok (.lreturn, 1) := by decide +kernel
theorem dX8_under_39 : decode cX8_under 39 = .ok (.aload_n 0, 1) := by decide +kernel
theorem dX8_under_40 : decode cX8_under 40 = .ok (.invokevirtual 142, 3) := by decide +kernel
theorem dX8_under_43 : decode cX8_under 43 = .ok (.aload_n 0, 1) := by decide +kernel
theorem dX8_under_44 : decode cX8_under 44 = .ok (.getfield 62, 3) := by decide +kernel
theorem dX8_under_47 : decode cX8_under 47 = .ok (.bipush 10, 2) := by decide +kernel
theorem dX8_under_49 : decode cX8_under 49 = .ok (.aload_n 0, 1) := by decide +kernel
theorem dX8_under_50 : decode cX8_under 50 = .ok (.iload_n 2, 1) := by decide +kernel
theorem dX8_under_51 : decode cX8_under 51 = .ok (.invokevirtual 150, 3) := by decide +kernel
theorem dX8_under_54 : decode cX8_under 54 = .ok (.imul, 1) := by decide +kernel
theorem dX8_under_55 : decode cX8_under 55 = .ok (.iload_n 1, 1) := by decide +kernel
theorem dX8_under_56 : decode cX8_under 56 = .ok (.iadd, 1) := by decide +kernel
theorem dX8_under_57 : decode cX8_under 57 = .ok (.iaload, 1) := by decide +kernel
theorem dX8_under_58 : decode cX8_under 58 = .ok (.istore_n 3, 1) := by decide +kernel
theorem dX8_under_59 : decode cX8_under 59 = .ok (.iload_n 3, 1) := by decide +kernel
theorem dX8_under_60 : decode cX8_under 60 = .ok (.ifCond .ge 13, 3) := by decide +kernel
theorem dX8_under_63 : decode cX8_under 63 = .ok (.aload_n 0, 1) := by decide +kernel
theorem dX8_under_64 : decode cX8_under 64 = .ok (.ldc2_w 145, 3) := by decide +kernel
theorem dX8_under_67 : decode cX8_under 67 = .ok (.invokevirtual 100, 3) := by decide +kernel
theorem dX8_under_70 : decode cX8_under 70 = .ok (.goto 5, 3) := by decide +kernel
theorem dX8_under_73 : decode cX8_under 73 = .ok (.iload_n 3, 1) := by decide +kernel
theorem dX8_under_74 : decode cX8_under 74 = .ok (.i2l, 1) := by decide +kernel
theorem dX8_under_75 : decode cX8_under 75 = .ok (.lreturn, 1) := by decide +kernel
theorem dX8_areUnlike_0 : decode cX8_areUnlike 0 = .ok (.aload_n 0, 1) := by decide +kernel
theorem dX8_areUnlike_1 : decode cX8_areUnlike 1 = .ok (.getfield 59, 3) := by decide +kernel
theorem dX8_areUnlike_4 : decode cX8_areUnlike 4 = .ok (.bipush 36, 2) := by decide +kernel
theorem dX8_areUnlike_6 : decode cX8_areUnlike 6 = .ok (.iload_n 1, 1) := by decide +kernel
theorem dX8_areUnlike_7 : decode cX8_areUnlike 7 = .ok (.imul, 1) := by decide +kernel
theorem dX8_areUnlike_8 : decode cX8_areUnlike 8 = .ok (.iload_n 2, 1) := by decide +kernel
theorem dX8_areUnlike_9 : decode cX8_areUnlike 9 = .ok (.iadd, 1) := by decide +kernel
theorem dX8_areUnlike_10 : decode cX8_areUnlike 10 = .ok (.iaload, 1) := by decide +kernel
theorem dX8_areUnlike_11 : decode cX8_areUnlike 11 = .ok (.aload_n 0, 1) := by decide +kernel
theorem dX8_areUnlike_12 : decode cX8_areUnlike 12 = .ok (.getfield 59, 3) := by decide +kernel
theorem dX8_areUnlike_15 : decode cX8_areUnlike 15 = .ok (.bipush 36, 2) := by decide +kernel
theorem dX8_areUnlike_17 : decode cX8_areUnlike 17 = .ok (.iload_n 1, 1) := by decide +kernel
theorem dX8_areUnlike_18 : decode cX8_areUnlike 18 = .ok (.imul, 1) := by decide +kernel
theorem dX8_areUnlike_19 : decode cX8_areUnlike 19 = .ok (.iload_n 3, 1) := by decide +kernel
theorem dX8_areUnlike_20 : decode cX8_areUnlike 20 = .ok (.iadd, 1) := by decide +kernel
theorem dX8_areUnlike_21 : decode cX8_areUnlike 21 = .ok (.iaload, 1) := by decide +kernel
theorem dX8_areUnlike_22 : decode cX8_areUnlike 22 = .ok (.if_icmp .eq 7, 3) := by decide +kernel
theorem dX8_areUnlike_25 : decode cX8_areUnlike 25 = .ok (.iconst 1, 1) := by decide +kernel
theorem dX8_areUnlike_26 : decode cX8_areUnlike 26 = .ok (.goto 4, 3) := by decide +kernel
theorem dX8_areUnlike_29 : decode cX8_areUnlike 29 = .ok (.iconst 0, 1) := by decide +kernel
theorem dX8_areUnlike_30 : decode cX8_areUnlike 30 = .ok (.ireturn, 1) := by decide +kernel
theorem dX8_areBeside_0 : decode cX8_areBeside 0 = .ok (.iconst 0, 1) := by decide +kernel
theorem dX8_areBeside_1 : decode cX8_areBeside 1 = .ok (.istore_n 2, 1) := by decide +kernel
theorem dX8_areBeside_2 : decode cX8_areBeside 2 = .ok (.iload_n 2, 1) := by decide +kernel
theorem dX8_areBeside_3 : decode cX8_areBeside 3 = .ok (.iconst 4, 1) := by decide +kernel
theorem dX8_areBeside_4 : decode cX8_areBeside 4 = .ok (.if_icmp .ge 20, 3) := by decide +kernel
theorem dX8_areBeside_7 : decode cX8_areBeside 7 = .ok (.iload_n 0, 1) := by decide +kernel
theorem dX8_areBeside_8 : decode cX8_areBeside 8 = .ok (.iload_n 2, 1) := by decide +kernel
theorem dX8_areBeside_9 : decode cX8_areBeside 9 = .ok (.invokestatic 164, 3) := by decide +kernel
theorem dX8_areBeside_12 : decode cX8_areBeside 12 = .ok (.iload_n 1, 1) := by decide +kernel
theorem dX8_areBeside_13 : decode cX8_areBeside 13 = .ok (.if_icmp .ne 5, 3) := by decide +kernel
theorem dX8_areBeside_16 : decode cX8_areBeside 16 = .ok (.iconst 1, 1) := by decide +kernel
theorem dX8_areBeside_17 : decode cX8_areBeside 17 = .ok (.ireturn, 1) := by decide +kernel
theorem dX8_areBeside_18 : decode cX8_areBeside 18 = .ok (.iinc 2 1, 3) := by decide +kernel
theorem dX8_areBeside_21 : decode cX8_areBeside 21 = .ok (.goto (-19), 3) := by decide +kernel
theorem dX8_areBeside_24 : decode cX8_areBeside 24 = .ok (.iconst 0, 1) := by decide +kernel
theorem dX8_areBeside_25 : decode cX8_areBeside 25 = .ok (.ireturn, 1) := by decide +kernel
theorem dX8_led_0 : decode cX8_led 0 = .ok (.iload_n 1, 1) := by decide +kernel
theorem dX8_led_1 : decode cX8_led 1 = .ok (.invokestatic 147, 3) := by decide +kernel
theorem dX8_led_4 : decode cX8_led 4 = .ok (.ifCond .eq 17, 3) := by decide +kernel
theorem dX8_led_7 : decode cX8_led 7 = .ok (.iload_n 2, 1) := by decide +kernel
theorem dX8_led_8 : decode cX8_led 8 = .ok (.invokestatic 147, 3) := by decide +kernel
theorem dX8_led_11 : decode cX8_led 11 = .ok (.ifCond .eq 10, 3) := by decide +kernel
theorem dX8_led_14 : decode cX8_led 14 = .ok (.iload_n 3, 1) := by decide +kernel
theorem dX8_led_15 : decode cX8_led 15 = .ok (.invokestatic 115, 3) := by decide +kernel
theorem dX8_led_18 : decode cX8_led 18 = .ok (.ifCond .ne 11, 3) := by decide +kernel
theorem dX8_led_21 : decode cX8_led 21 = .ok (.aload_n 0, 1) := by decide +kernel
theorem dX8_led_22 : decode cX8_led 22 = .ok (.ldc2_w 98, 3) := by decide +kernel
theorem dX8_led_25 : decode cX8_led 25 = .ok (.invokevirtual 100, 3) := by decide +kernel
theorem dX8_led_28 : decode cX8_led 28 = .ok (.lreturn, 1) := by decide +kernel
theorem dX8_led_29 : decode cX8_led 29 = .ok (.iload_n 1, 1) := by decide +kernel
theorem dX8_led_30 : decode cX8_led 30 = .ok (.iload_n 2, 1) := by decide +kernel
theorem dX8_led_31 : decode cX8_led 31 = .ok (.invokestatic 180, 3) := by decide +kernel
theorem dX8_led_34 : decode cX8_led 34 = .ok (.ifCond .ne 11, 3) := by decide +kernel
theorem dX8_led_37 : decode cX8_led 37 = .ok (.aload_n 0, 1) := by decide +kernel
theorem dX8_led_38 : decode cX8_led 38 = .ok (.ldc2_w 125, 3) := by decide +kernel
theorem dX8_led_41 : decode cX8_led 41 = .ok (.invokevirtual 100, 3) := by decide +kernel
theorem dX8_led_44 : decode cX8_led 44 = .ok (.lreturn, 1) := by decide +kernel
theorem dX8_led_45 : decode cX8_led 45 = .ok (.aload_n 0, 1) := by decide +kernel
theorem dX8_led_46 : decode cX8_led 46 = .ok (.invokevirtual 142, 3) := by decide +kernel
theorem dX8_led_49 : decode cX8_led 49 = .ok (.aload_n 0, 1) := by decide +kernel
theorem dX8_led_50 : decode cX8_led 50 = .ok (.iload_n 3, 1) := by decide +kernel
theorem dX8_led_51 : decode cX8_led 51 = .ok (.invokevirtual 150, 3) := by decide +kernel
theorem dX8_led_54 : decode cX8_led 54 = .ok (.istore 4, 2) := by decide +kernel
theorem dX8_led_56 : decode cX8_led 56 = .ok (.aload_n 0, 1) := by decide +kernel
theorem dX8_led_57 : decode cX8_led 57 = .ok (.iload 4, 2) := by decide +kernel
theorem dX8_led_59 : decode cX8_led 59 = .ok (.iload_n 1, 1) := by decide +kernel
theorem dX8_led_60 : decode cX8_led 60 = .ok (.iload_n 2, 1) := by decide +kernel
theorem dX8_led_61 : decode cX8_led 61 = .ok (.invokevirtual 183, 3) := by decide +kernel
theorem dX8_led_64 : decode cX8_led 64 = .ok (.ifCond .ne 11, 3) := by decide +kernel
theorem dX8_led_67 : decode cX8_led 67 = .ok (.aload_n 0, 1) := by decide +kernel
theorem dX8_led_68 : decode cX8_led 68 = .ok (.ldc2_w 145, 3) := by decide +kernel
theorem dX8_led_71 : decode cX8_led 71 = .ok (.invokevirtual 100, 3) := by decide +kernel
theorem dX8_led_74 : decode cX8_led 74 = .ok (.lreturn, 1) := by decide +kernel
theorem dX8_led_75 : decode cX8_led 75 = .ok (.aload_n 0, 1) := by decide +kernel
theorem dX8_led_76 : decode cX8_led 76 = .ok (.iload 4, 2) := by decide +kernel
theorem dX8_led_78 : decode cX8_led 78 = .ok (.iconst 1, 1) := by decide +kernel
theorem dX8_led_79 : decode cX8_led 79 = .ok (.isub, 1) := by decide +kernel
theorem dX8_led_80 : decode cX8_led 80 = .ok (.iload_n 1, 1) := by decide +kernel
theorem dX8_led_81 : decode cX8_led 81 = .ok (.iload_n 2, 1) := by decide +kernel
theorem dX8_led_82 : decode cX8_led 82 = .ok (.invokevirtual 183, 3) := by decide +kernel
theorem dX8_led_85 : decode cX8_led 85 = .ok (.ifCond .eq 9, 3) := by decide +kernel
theorem dX8_led_88 : decode cX8_led 88 = .ok (.iinc 4 (-1), 3) := by decide +kernel
theorem dX8_led_91 : decode cX8_led 91 = .ok (.goto (-16), 3) := by decide +kernel
theorem dX8_led_94 : decode cX8_led 94 = .ok (.aload_n 0, 1) := by decide +kernel
theorem dX8_led_95 : decode cX8_led 95 = .ok (.getfield 53, 3) := by decide +kernel
theorem dX8_led_98 : decode cX8_led 98 = .ok (.iload 4, 2) := by decide +kernel
theorem dX8_led_100 : decode cX8_led 100 = .ok (.iconst 1, 1) := by decide +kernel
theorem dX8_led_101 : decode cX8_led 101 = .ok (.isub, 1) := by decide +kernel
theorem dX8_led_102 : decode cX8_led 102 = .ok (.iaload, 1) := by decide +kernel
theorem dX8_led_103 : decode cX8_led 103 = .ok (.i2l, 1) := by decide +kernel
theorem dX8_led_104 : decode cX8_led 104 = .ok (.lreturn, 1) := by decide +kernel
theorem dX8_borders_0 : decode cX8_borders 0 = .ok (.iload_n 1, 1) := by decide +kernel
theorem dX8_borders_1 : decode cX8_borders 1 = .ok (.invokestatic 115, 3) := by decide +kernel
theorem dX8_borders_4 : decode cX8_borders 4 = .ok (.ifCond .ne 11, 3) := by decide +kernel
theorem dX8_borders_7 : decode cX8_borders 7 = .ok (.aload_n 0, 1) := by decide +kernel
theorem dX8_borders_8 : decode cX8_borders 8 = .ok (.ldc2_w 98, 3) := by decide +kernel
theorem dX8_borders_11 : decode cX8_borders 11 = .ok (.invokevirtual 100, 3) := by decide +kernel
theorem dX8_borders_14 : decode cX8_borders 14 = .ok (.lreturn, 1) := by decide +kernel
theorem dX8_borders_15 : decode cX8_borders 15 = .ok (.aload_n 0, 1) := by decide +kernel
theorem dX8_borders_16 : decode cX8_borders 16 = .ok (.invokevirtual 142, 3) := by decide +kernel
theorem dX8_borders_19 : decode cX8_borders 19 = .ok (.aload_n 0, 1) := by decide +kernel
theorem dX8_borders_20 : decode cX8_borders 20 = .ok (.iload_n 1, 1) := by decide +kernel
theorem dX8_borders_21 : decode cX8_borders 21 = .ok (.invokevirtual 150, 3) := by decide +kernel
theorem dX8_borders_24 : decode cX8_borders 24 = .ok (.istore_n 2, 1) := by decide +kernel
theorem dX8_borders_25 : decode cX8_borders 25 = .ok (.iconst 0, 1) := by decide +kernel
theorem dX8_borders_26 : decode cX8_borders 26 = .ok (.istore_n 3, 1) := by decide +kernel
theorem dX8_borders_27 : decode cX8_borders 27 = .ok (.iconst 0, 1) := by decide +kernel
theorem dX8_borders_28 : decode cX8_borders 28 = .ok (.istore 4, 2) := by decide +kernel
theorem dX8_borders_30 : decode cX8_borders 30 = .ok (.iload 4, 2) := by decide +kernel
theorem dX8_borders_32 : decode cX8_borders 32 = .ok (.bipush 36, 2) := by decide +kernel
theorem dX8_borders_34 : decode cX8_borders 34 = .ok (.if_icmp .ge 58, 3) := by decide +kernel
theorem dX8_borders_37 : decode cX8_borders 37 = .ok (.iconst 1, 1) := by decide +kernel
theorem dX8_borders_38 : decode cX8_borders 38 = .ok (.istore 5, 2) := by decide +kernel
theorem dX8_borders_40 : decode cX8_borders 40 = .ok (.iload 5, 2) := by decide +kernel
theorem dX8_borders_42 : decode cX8_borders 42 = .ok (.iconst 4, 1) := by decide +kernel
theorem dX8_borders_43 : decode cX8_borders 43 = .ok (.if_icmp .ge 43, 3) := by decide +kernel
theorem dX8_borders_46 : decode cX8_borders 46 = .ok (.iload 4, 2) := by decide +kernel
theorem dX8_borders_48 : decode cX8_borders 48 = .ok (.iload 5, 2) := by decide +kernel
theorem dX8_borders_50 : decode cX8_borders 50 = .ok (.invokestatic 164, 3) := by decide +kernel
theorem dX8_borders_53 : decode cX8_borders 53 = .ok (.istore 6, 2) := by decide +kernel
theorem dX8_borders_55 : decode cX8_borders 55 = .ok (.iload_n 3, 1) := by decide +kernel
theorem dX8_borders_56 : decode cX8_borders 56 = .ok (.iload 6, 2) := by decide +kernel
theorem dX8_borders_58 : decode cX8_borders 58 = .ok (.ifCond .lt 19, 3) := by decide +kernel
theorem dX8_borders_61 : decode cX8_borders 61 = .ok (.aload_n 0, 1) := by decide +kernel
theorem dX8_borders_62 : decode cX8_borders 62 = .ok (.iload_n 2, 1) := by decide +kernel
theorem dX8_borders_63 : decode cX8_borders 63 = .ok (.iload 4, 2) := by decide +kernel
theorem dX8_borders_65 : decode cX8_borders 65 = .ok (.iload 6, 2) := by decide +kernel
theorem dX8_borders_67 : decode cX8_borders 67 = .ok (.invokevirtual 183, 3) := by decide +kernel
theorem dX8_borders_70 : decode cX8_borders 70 = .ok (.ifCond .eq 7, 3) := by decide +kernel
theorem dX8_borders_73 : decode cX8_borders 73 = .ok (.iconst 1, 1) := by decide +kernel
theorem dX8_borders_74 : decode cX8_borders 74 = .ok (.goto 4, 3) := by decide +kernel
theorem dX8_borders_77 : decode cX8_borders 77 = .ok (.iconst 0, 1) := by decide +kernel
theorem dX8_borders_78 : decode cX8_borders 78 = .ok (.iadd, 1) := by decide +kernel
theorem dX8_borders_79 : decode cX8_borders 79 = .ok (.istore_n 3, 1) := by decide +kernel
theorem dX8_borders_80 : decode cX8_borders 80 = .ok (.iinc 5 2, 3) := by decide +kernel
theorem dX8_borders_83 : decode cX8_borders 83 = .ok (.goto (-43), 3) := by decide +kernel
theorem dX8_borders_86 : decode cX8_borders 86 = .ok (.iinc 4 1, 3) := by decide +kernel
theorem dX8_borders_89 : decode cX8_borders 89 = .ok (.goto (-59), 3) := by decide +kernel
theorem dX8_borders_92 : decode cX8_borders 92 = .ok (.iload_n 3, 1) := by decide +kernel
theorem dX8_borders_93 : decode cX8_borders 93 = .ok (.i2l, 1) := by decide +kernel
theorem dX8_borders_94 : decode cX8_borders 94 = .ok (.lreturn, 1) := by decide +kernel
theorem dX8_changes_0 : decode cX8_changes 0 = .ok (.aload_n 0, 1) := by decide +kernel
theorem dX8_changes_1 : decode cX8_changes 1 = .ok (.iload_n 1, 1) := by decide +kernel
theorem dX8_changes_2 : decode cX8_changes 2 = .ok (.invokevirtual 106, 3) := by decide +kernel
theorem dX8_changes_5 : decode cX8_changes 5 = .ok (.ifCond .eq 10, 3) := by decide +kernel
theorem dX8_changes_8 : decode cX8_changes 8 = .ok (.iload_n 2, 1) := by decide +kernel
theorem dX8_changes_9 : decode cX8_changes 9 = .ok (.invokestatic 115, 3) := by decide +kernel
theorem dX8_changes_12 : decode cX8_changes 12 = .ok (.ifCond .ne 11, 3) := by decide +kernel
theorem dX8_changes_15 : decode cX8_changes 15 = .ok (.aload_n 0, 1) := by decide +kernel
theorem dX8_changes_16 : decode cX8_changes 16 = .ok (.ldc2_w 98, 3) := by decide +kernel
theorem dX8_changes_19 : decode cX8_changes 19 = .ok (.invokevirtual 100, 3) := by decide +kernel
theorem dX8_changes_22 : decode cX8_changes 22 = .ok (.lreturn, 1) := by decide +kernel
theorem dX8_changes_23 : decode cX8_changes 23 = .ok (.aload_n 0, 1) := by decide +kernel
theorem dX8_changes_24 : decode cX8_changes 24 = .ok (.invokevirtual 142, 3) := by decide +kernel
theorem dX8_changes_27 : decode cX8_changes 27 = .ok (.iload_n 2, 1) := by decide +kernel
theorem dX8_changes_28 : decode cX8_changes 28 = .ok (.sipush 1000, 3) := by decide +kernel
theorem dX8_changes_31 : decode cX8_changes 31 = .ok (.if_icmp .ne 7, 3) := by decide +kernel
theorem dX8_changes_34 : decode cX8_changes 34 = .ok (.lconst 0, 1) := by decide +kernel
theorem dX8_changes_35 : decode cX8_changes 35 = .ok (.goto 15, 3) := by decide +kernel
theorem dX8_changes_38 : decode cX8_changes 38 = .ok (.aload_n 0, 1) := by decide +kernel
theorem dX8_changes_39 : decode cX8_changes 39 = .ok (.iload_n 1, 1) := by decide +kernel
theorem dX8_changes_40 : decode cX8_changes 40 = .ok (.aload_n 0, 1) := by decide +kernel
theorem dX8_changes_41 : decode cX8_changes 41 = .ok (.iload_n 2, 1) := by decide +kernel
theorem dX8_changes_42 : decode cX8_changes 42 = .ok (.iconst 1, 1) := by decide +kernel
theorem dX8_changes_43 : decode cX8_changes 43 = .ok (.isub, 1) := by decide +kernel
theorem dX8_changes_44 : decode cX8_changes 44 = .ok (.invokevirtual 150, 3) := by decide +kernel
theorem dX8_changes_47 : decode cX8_changes 47 = .ok (.invokevirtual 154, 3) := by decide +kernel
theorem dX8_changes_50 : decode cX8_changes 50 = .ok (.lstore_n 3, 1) := by decide +kernel
theorem dX8_changes_51 : decode cX8_changes 51 = .ok (.iload_n 2, 1) := by decide +kernel
theorem dX8_changes_52 : decode cX8_changes 52 = .ok (.istore 5, 2) := by decide +kernel
theorem dX8_changes_54 : decode cX8_changes 54 = .ok (.iload 5, 2) := by decide +kernel
theorem dX8_changes_56 : decode cX8_changes 56 = .ok (.sipush 2000, 3) := by decide +kernel
theorem dX8_changes_59 : decode cX8_changes 59 = .ok (.if_icmp .ge 33, 3) := by decide +kernel
theorem dX8_changes_62 : decode cX8_changes 62 = .ok (.aload_n 0, 1) := by decide +kernel
theorem dX8_changes_63 : decode cX8_changes 63 = .ok (.iload_n 1, 1) := by decide +kernel
theorem dX8_changes_64 : decode cX8_changes 64 = .ok (.aload_n 0, 1) := by decide +kernel
theorem dX8_changes_65 : decode cX8_changes 65 = .ok (.iload 5, 2) := by decide +kernel
theorem dX8_changes_67 : decode cX8_changes 67 = .ok (.invokevirtual 150, 3) := by decide +kernel
theorem dX8_changes_70 : decode cX8_changes 70 = .ok (.invokevirtual 154, 3) := by decide +kernel
theorem dX8_changes_73 : decode cX8_changes 73 = .ok (.lstore 6, 2) := by decide +kernel
theorem dX8_changes_75 : decode cX8_changes 75 = .ok (.lload 6, 2) := by decide +kernel
theorem dX8_changes_77 : decode cX8_changes 77 = .ok (.lload_n 3, 1) := by decide +kernel
theorem dX8_changes_78 : decode cX8_changes 78 = .ok (.lcmp, 1) := by decide +kernel
theorem dX8_changes_79 : decode cX8_changes 79 = .ok (.ifCond .eq 7, 3) := by decide +kernel
theorem dX8_changes_82 : decode cX8_changes 82 = .ok (.iload 5, 2) := by decide +kernel
theorem dX8_changes_84 : decode cX8_changes 84 = .ok (.i2l, 1) := by decide +kernel
theorem dX8_changes_85 : decode cX8_changes 85 = .ok (.lreturn, 1) := by decide +kernel
theorem dX8_changes_86 : decode cX8_changes 86 = .ok (.iinc 5 1, 3) := by decide +kernel
theorem dX8_changes_89 : decode cX8_changes 89 = .ok (.goto (-35), 3) := by decide +kernel
theorem dX8_changes_92 : decode cX8_changes 92 = .ok (.aload_n 0, 1) := by decide +kernel
theorem dX8_changes_93 : decode cX8_changes 93 = .ok (.ldc2_w 145, 3) := by decide +kernel
theorem dX8_changes_96 : decode cX8_changes 96 = .ok (.invokevirtual 100, 3) := by decide +kernel
theorem dX8_changes_99 : decode cX8_changes 99 = .ok (.lreturn, 1) := by decide +kernel
theorem dX8_isMap_0 : decode cX8_isMap 0 = .ok (.iload_n 0, 1) := by decide +kernel
theorem dX8_isMap_1 : decode cX8_isMap 1 = .ok (.i2l, 1) := by decide +kernel
theorem dX8_isMap_2 : decode cX8_isMap 2 = .ok (.lconst 0, 1) := by decide +kernel
theorem dX8_isMap_3 : decode cX8_isMap 3 = .ok (.ldc2_w 96, 3) := by decide +kernel
theorem dX8_isMap_6 : decode cX8_isMap 6 = .ok (.invokestatic 86, 3) := by decide +kernel
theorem dX8_isMap_9 : decode cX8_isMap 9 = .ok (.ireturn, 1) := by decide +kernel
theorem dX8_map_0 : decode cX8_map 0 = .ok (.iload_n 1, 1) := by decide +kernel
theorem dX8_map_1 : decode cX8_map 1 = .ok (.invokestatic 187, 3) := by decide +kernel
theorem dX8_map_4 : decode cX8_map 4 = .ok (.ifCond .eq 10, 3) := by decide +kernel
theorem dX8_map_7 : decode cX8_map 7 = .ok (.iload_n 2, 1) := by decide +kernel
theorem dX8_map_8 : decode cX8_map 8 = .ok (.invokestatic 115, 3) := by decide +kernel
theorem dX8_map_11 : decode cX8_map 11 = .ok (.ifCond .ne 11, 3) := by decide +kernel
theorem dX8_map_14 : decode cX8_map 14 = .ok (.aload_n 0, 1) := by decide +kernel
theorem dX8_map_15 : decode cX8_map 15 = .ok (.ldc2_w 98, 3) := by decide +kernel
theorem dX8_map_18 : decode cX8_map 18 = .ok (.invokevirtual 100, 3) := by decide +kernel
theorem dX8_map_21 : decode cX8_map 21 = .ok (.lreturn, 1) := by decide +kernel
theorem dX8_map_22 : decode cX8_map 22 = .ok (.aload_n 0, 1) := by decide +kernel
theorem dX8_map_23 : decode cX8_map 23 = .ok (.getfield 29, 3) := by decide +kernel
theorem dX8_map_26 : decode cX8_map 26 = .ok (.iload_n 1, 1) := by decide +kernel
theorem dX8_map_27 : decode cX8_map 27 = .ok (.iaload, 1) := by decide +kernel
theorem dX8_map_28 : decode cX8_map 28 = .ok (.istore_n 3, 1) := by decide +kernel
theorem dX8_map_29 : decode cX8_map 29 = .ok (.aload_n 0, 1) := by decide +kernel
theorem dX8_map_30 : decode cX8_map 30 = .ok (.getfield 29, 3) := by decide +kernel
theorem dX8_map_33 : decode cX8_map 33 = .ok (.iload_n 1, 1) := by decide +kernel
theorem dX8_map_34 : decode cX8_map 34 = .ok (.iload_n 2, 1) := by decide +kernel
theorem dX8_map_35 : decode cX8_map 35 = .ok (.iastore, 1) := by decide +kernel
theorem dX8_map_36 : decode cX8_map 36 = .ok (.iload_n 3, 1) := by decide +kernel
theorem dX8_map_37 : decode cX8_map 37 = .ok (.i2l, 1) := by decide +kernel
theorem dX8_map_38 : decode cX8_map 38 = .ok (.lreturn, 1) := by decide +kernel
theorem dX8_claim_0 : decode cX8_claim 0 = .ok (.iload_n 1, 1) := by decide +kernel
theorem dX8_claim_1 : decode cX8_claim 1 = .ok (.invokestatic 187, 3) := by decide +kernel
theorem dX8_claim_4 : decode cX8_claim 4 = .ok (.ifCond .eq 29, 3) := by decide +kernel
theorem dX8_claim_7 : decode cX8_claim 7 = .ok (.iload_n 2, 1) := by decide +kernel
theorem dX8_claim_8 : decode cX8_claim 8 = .ok (.invokestatic 147, 3) := by decide +kernel
theorem dX8_claim_11 : decode cX8_claim 11 = .ok (.ifCond .eq 22, 3) := by decide +kernel
theorem dX8_claim_14 : decode cX8_claim 14 = .ok (.iload_n 3, 1) := by decide +kernel
theorem dX8_claim_15 : decode cX8_claim 15 = .ok (.iconst (-1), 1) := by decide +kernel
theorem dX8_claim_16 : decode cX8_claim 16 = .ok (.if_icmp .eq 25, 3) := by decide +kernel
theorem dX8_claim_19 : decode cX8_claim 19 = .ok (.iload_n 3, 1) := by decide +kernel
theorem dX8_claim_20 : decode cX8_claim 20 = .ok (.bipush 10, 2) := by decide +kernel
theorem dX8_claim_22 : decode cX8_claim 22 = .ok (.if_icmp .eq 19, 3) := by decide +kernel
theorem dX8_claim_25 : decode cX8_claim 25 = .ok (.aload_n 0, 1) := by decide +kernel
theorem dX8_claim_26 : decode cX8_claim 26 = .ok (.iload_n 3, 1) := by decide +kernel
theorem dX8_claim_27 : decode cX8_claim 27 = .ok (.invokevirtual 106, 3) := by decide +kernel
theorem dX8_claim_30 : decode cX8_claim 30 = .ok (.ifCond .ne 11, 3) := by decide +kernel
theorem dX8_claim_33 : decode cX8_claim 33 = .ok (.aload_n 0, 1) := by decide +kernel
theorem dX8_claim_34 : decode cX8_claim 34 = .ok (.ldc2_w 98, 3) := by decide +kernel
theorem dX8_claim_37 : decode cX8_claim 37 = .ok (.invokevirtual 100, 3) := by decide +kernel
theorem dX8_claim_40 : decode cX8_claim 40 = .ok (.lreturn, 1) := by decide +kernel
theorem dX8_claim_41 : decode cX8_claim 41 = .ok (.aload_n 0, 1) := by decide +kernel
theorem dX8_claim_42 : decode cX8_claim 42 = .ok (.iload_n 3, 1) := by decide +kernel
theorem dX8_claim_43 : decode cX8_claim 43 = .ok (.invokevirtual 106, 3) := by decide +kernel
theorem dX8_claim_46 : decode cX8_claim 46 = .ok (.ifCond .eq 19, 3) := by decide +kernel
theorem dX8_claim_49 : decode cX8_claim 49 = .ok (.aload_n 0, 1) := by decide +kernel
theorem dX8_claim_50 : decode cX8_claim 50 = .ok (.iload_n 3, 1) := by decide +kernel
theorem dX8_claim_51 : decode cX8_claim 51 = .ok (.invokevirtual 118, 3) := by decide +kernel
theorem dX8_claim_54 : decode cX8_claim 54 = .ok (.ifCond .eq 11, 3) := by decide +kernel
theorem dX8_claim_57 : decode cX8_claim 57 = .ok (.aload_n 0, 1) := by decide +kernel
theorem dX8_claim_58 : decode cX8_claim 58 = .ok (.ldc2_w 110, 3) := by decide +kernel
theorem dX8_claim_61 : decode cX8_claim 61 = .ok (.invokevirtual 100, 3) := by decide +kernel
theorem dX8_claim_64 : decode cX8_claim 64 = .ok (.lreturn, 1) := by decide +kernel
theorem dX8_claim_65 : decode cX8_claim 65 = .ok (.aload_n 0, 1) := by decide +kernel
theorem dX8_claim_66 : decode cX8_claim 66 = .ok (.getfield 32, 3) := by decide +kernel
theorem dX8_claim_69 : decode cX8_claim 69 = .ok (.bipush 36, 2) := by decide +kernel
theorem dX8_claim_71 : decode cX8_claim 71 = .ok (.iload_n 1, 1) := by decide +kernel
theorem dX8_claim_72 : decode cX8_claim 72 = .ok (.imul, 1) := by decide +kernel
theorem dX8_claim_73 : decode cX8_claim 73 = .ok (.iload_n 2, 1) := by decide +kernel
theorem dX8_claim_74 : decode cX8_claim 74 = .ok (.iadd, 1) := by decide +kernel
theorem dX8_claim_75 : decode cX8_claim 75 = .ok (.iaload, 1) := by decide +kernel
theorem dX8_claim_76 : decode cX8_claim 76 = .ok (.istore 4, 2) := by decide +kernel
theorem dX8_claim_78 : decode cX8_claim 78 = .ok (.aload_n 0, 1) := by decide +kernel
theorem dX8_claim_79 : decode cX8_claim 79 = .ok (.getfield 32, 3) := by decide +kernel
theorem dX8_claim_82 : decode cX8_claim 82 = .ok (.bipush 36, 2) := by decide +kernel
theorem dX8_claim_84 : decode cX8_claim 84 = .ok (.iload_n 1, 1) := by decide +kernel
theorem dX8_claim_85 : decode cX8_claim 85 = .ok (.imul, 1) := by decide +kernel
theorem dX8_claim_86 : decode cX8_claim 86 = .ok (.iload_n 2, 1) := by decide +kernel
