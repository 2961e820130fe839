theorem dX8_claim_87 : decode cX8_claim 87 = .ok (.iadd, 1) := by decide +kernel
theorem dX8_claim_88 : decode cX8_claim 88 = .ok (.iload_n 3, 1) := by decide +kernel
theorem dX8_claim_89 : decode cX8_claim 89 = .ok (.iastore, 1) := by decide +kernel
theorem dX8_claim_90 : decode cX8_claim 90 = .ok (.iload 4, 2) := by decide +kernel
theorem dX8_claim_92 : decode cX8_claim 92 = .ok (.ifCond .ge 7, 3) := by decide +kernel
theorem dX8_claim_95 : decode cX8_claim 95 = .ok (.lconst 0, 1) := by decide +kernel
theorem dX8_claim_96 : decode cX8_claim 96 = .ok (.goto 4, 3) := by decide +kernel
theorem dX8_claim_99 : decode cX8_claim 99 = .ok (.lconst 1, 1) := by decide +kernel
theorem dX8_claim_100 : decode cX8_claim 100 = .ok (.lreturn, 1) := by decide +kernel
theorem dX8_agrees_0 : decode cX8_agrees 0 = .ok (.iconst 0, 1) := by decide +kernel
theorem dX8_agrees_1 : decode cX8_agrees 1 = .ok (.istore_n 3, 1) := by decide +kernel
theorem dX8_agrees_2 : decode cX8_agrees 2 = .ok (.iconst 0, 1) := by decide +kernel
theorem dX8_agrees_3 : decode cX8_agrees 3 = .ok (.istore 4, 2) := by decide +kernel
theorem dX8_agrees_5 : decode cX8_agrees 5 = .ok (.iload 4, 2) := by decide +kernel
theorem dX8_agrees_7 : decode cX8_agrees 7 = .ok (.bipush 36, 2) := by decide +kernel
theorem dX8_agrees_9 : decode cX8_agrees 9 = .ok (.if_icmp .ge 44, 3) := by decide +kernel
theorem dX8_agrees_12 : decode cX8_agrees 12 = .ok (.iload_n 3, 1) := by decide +kernel
theorem dX8_agrees_13 : decode cX8_agrees 13 = .ok (.aload_n 0, 1) := by decide +kernel
theorem dX8_agrees_14 : decode cX8_agrees 14 = .ok (.getfield 32, 3) := by decide +kernel
theorem dX8_agrees_17 : decode cX8_agrees 17 = .ok (.bipush 36, 2) := by decide +kernel
theorem dX8_agrees_19 : decode cX8_agrees 19 = .ok (.iload_n 1, 1) := by decide +kernel
theorem dX8_agrees_20 : decode cX8_agrees 20 = .ok (.imul, 1) := by decide +kernel
theorem dX8_agrees_21 : decode cX8_agrees 21 = .ok (.iload 4, 2) := by decide +kernel
theorem dX8_agrees_23 : decode cX8_agrees 23 = .ok (.iadd, 1) := by decide +kernel
theorem dX8_agrees_24 : decode cX8_agrees 24 = .ok (.iaload, 1) := by decide +kernel
theorem dX8_agrees_25 : decode cX8_agrees 25 = .ok (.aload_n 0, 1) := by decide +kernel
theorem dX8_agrees_26 : decode cX8_agrees 26 = .ok (.getfield 59, 3) := by decide +kernel
theorem dX8_agrees_29 : decode cX8_agrees 29 = .ok (.bipush 36, 2) := by decide +kernel
theorem dX8_agrees_31 : decode cX8_agrees 31 = .ok (.iload_n 2, 1) := by decide +kernel
theorem dX8_agrees_32 : decode cX8_agrees 32 = .ok (.imul, 1) := by decide +kernel
theorem dX8_agrees_33 : decode cX8_agrees 33 = .ok (.iload 4, 2) := by decide +kernel
theorem dX8_agrees_35 : decode cX8_agrees 35 = .ok (.iadd, 1) := by decide +kernel
theorem dX8_agrees_36 : decode cX8_agrees 36 = .ok (.iaload, 1) := by decide +kernel
theorem dX8_agrees_37 : decode cX8_agrees 37 = .ok (.if_icmp .ne 7, 3) := by decide +kernel
theorem dX8_agrees_40 : decode cX8_agrees 40 = .ok (.iconst 1, 1) := by decide +kernel
theorem dX8_agrees_41 : decode cX8_agrees 41 = .ok (.goto 4, 3) := by decide +kernel
theorem dX8_agrees_44 : decode cX8_agrees 44 = .ok (.iconst 0, 1) := by decide +kernel
theorem dX8_agrees_45 : decode cX8_agrees 45 = .ok (.iadd, 1) := by decide +kernel
theorem dX8_agrees_46 : decode cX8_agrees 46 = .ok (.istore_n 3, 1) := by decide +kernel
theorem dX8_agrees_47 : decode cX8_agrees 47 = .ok (.iinc 4 1, 3) := by decide +kernel
theorem dX8_agrees_50 : decode cX8_agrees 50 = .ok (.goto (-45), 3) := by decide +kernel
theorem dX8_agrees_53 : decode cX8_agrees 53 = .ok (.iload_n 3, 1) := by decide +kernel
theorem dX8_agrees_54 : decode cX8_agrees 54 = .ok (.ireturn, 1) := by decide +kernel
theorem dX8_claimsOf_0 : decode cX8_claimsOf 0 = .ok (.iconst 0, 1) := by decide +kernel
theorem dX8_claimsOf_1 : decode cX8_claimsOf 1 = .ok (.istore_n 2, 1) := by decide +kernel
theorem dX8_claimsOf_2 : decode cX8_claimsOf 2 = .ok (.iconst 0, 1) := by decide +kernel
theorem dX8_claimsOf_3 : decode cX8_claimsOf 3 = .ok (.istore_n 3, 1) := by decide +kernel
theorem dX8_claimsOf_4 : decode cX8_claimsOf 4 = .ok (.iload_n 3, 1) := by decide +kernel
theorem dX8_claimsOf_5 : decode cX8_claimsOf 5 = .ok (.bipush 36, 2) := by decide +kernel
theorem dX8_claimsOf_7 : decode cX8_claimsOf 7 = .ok (.if_icmp .ge 31, 3) := by decide +kernel
theorem dX8_claimsOf_10 : decode cX8_claimsOf 10 = .ok (.iload_n 2, 1) := by decide +kernel
theorem dX8_claimsOf_11 : decode cX8_claimsOf 11 = .ok (.aload_n 0, 1) := by decide +kernel
theorem dX8_claimsOf_12 : decode cX8_claimsOf 12 = .ok (.getfield 32, 3) := by decide +kernel
theorem dX8_claimsOf_15 : decode cX8_claimsOf 15 = .ok (.bipush 36, 2) := by decide +kernel
theorem dX8_claimsOf_17 : decode cX8_claimsOf 17 = .ok (.iload_n 1, 1) := by decide +kernel
theorem dX8_claimsOf_18 : decode cX8_claimsOf 18 = .ok (.imul, 1) := by decide +kernel
theorem dX8_claimsOf_19 : decode cX8_claimsOf 19 = .ok (.iload_n 3, 1) := by decide +kernel
theorem dX8_claimsOf_20 : decode cX8_claimsOf 20 = .ok (.iadd, 1) := by decide +kernel
theorem dX8_claimsOf_21 : decode cX8_claimsOf 21 = .ok (.iaload, 1) := by decide +kernel
theorem dX8_claimsOf_22 : decode cX8_claimsOf 22 = .ok (.ifCond .lt 7, 3) := by decide +kernel
theorem dX8_claimsOf_25 : decode cX8_claimsOf 25 = .ok (.iconst 1, 1) := by decide +kernel
theorem dX8_claimsOf_26 : decode cX8_claimsOf 26 = .ok (.goto 4, 3) := by decide +kernel
theorem dX8_claimsOf_29 : decode cX8_claimsOf 29 = .ok (.iconst 0, 1) := by decide +kernel
theorem dX8_claimsOf_30 : decode cX8_claimsOf 30 = .ok (.iadd, 1) := by decide +kernel
theorem dX8_claimsOf_31 : decode cX8_claimsOf 31 = .ok (.istore_n 2, 1) := by decide +kernel
theorem dX8_claimsOf_32 : decode cX8_claimsOf 32 = .ok (.iinc 3 1, 3) := by decide +kernel
theorem dX8_claimsOf_35 : decode cX8_claimsOf 35 = .ok (.goto (-31), 3) := by decide +kernel
theorem dX8_claimsOf_38 : decode cX8_claimsOf 38 = .ok (.iload_n 2, 1) := by decide +kernel
theorem dX8_claimsOf_39 : decode cX8_claimsOf 39 = .ok (.ireturn, 1) := by decide +kernel
theorem dX8_read_0 : decode cX8_read 0 = .ok (.iload_n 1, 1) := by decide +kernel
theorem dX8_read_1 : decode cX8_read 1 = .ok (.invokestatic 187, 3) := by decide +kernel
theorem dX8_read_4 : decode cX8_read 4 = .ok (.ifCond .eq 15, 3) := by decide +kernel
theorem dX8_read_7 : decode cX8_read 7 = .ok (.iload_n 2, 1) := by decide +kernel
theorem dX8_read_8 : decode cX8_read 8 = .ok (.i2l, 1) := by decide +kernel
theorem dX8_read_9 : decode cX8_read 9 = .ok (.lconst 0, 1) := by decide +kernel
theorem dX8_read_10 : decode cX8_read 10 = .ok (.ldc2_w 96, 3) := by decide +kernel
theorem dX8_read_13 : decode cX8_read 13 = .ok (.invokestatic 86, 3) := by decide +kernel
theorem dX8_read_16 : decode cX8_read 16 = .ok (.ifCond .ne 11, 3) := by decide +kernel
theorem dX8_read_19 : decode cX8_read 19 = .ok (.aload_n 0, 1) := by decide +kernel
theorem dX8_read_20 : decode cX8_read 20 = .ok (.ldc2_w 98, 3) := by decide +kernel
theorem dX8_read_23 : decode cX8_read 23 = .ok (.invokevirtual 100, 3) := by decide +kernel
theorem dX8_read_26 : decode cX8_read 26 = .ok (.lreturn, 1) := by decide +kernel
theorem dX8_read_27 : decode cX8_read 27 = .ok (.aload_n 0, 1) := by decide +kernel
theorem dX8_read_28 : decode cX8_read 28 = .ok (.invokevirtual 142, 3) := by decide +kernel
theorem dX8_read_31 : decode cX8_read 31 = .ok (.aload_n 0, 1) := by decide +kernel
theorem dX8_read_32 : decode cX8_read 32 = .ok (.aload_n 0, 1) := by decide +kernel
theorem dX8_read_33 : decode cX8_read 33 = .ok (.getfield 29, 3) := by decide +kernel
theorem dX8_read_36 : decode cX8_read 36 = .ok (.iload_n 1, 1) := by decide +kernel
theorem dX8_read_37 : decode cX8_read 37 = .ok (.iaload, 1) := by decide +kernel
theorem dX8_read_38 : decode cX8_read 38 = .ok (.invokevirtual 150, 3) := by decide +kernel
theorem dX8_read_41 : decode cX8_read 41 = .ok (.istore_n 3, 1) := by decide +kernel
theorem dX8_read_42 : decode cX8_read 42 = .ok (.iload_n 2, 1) := by decide +kernel
theorem dX8_read_43 : decode cX8_read 43 = .ok (.iconst 3, 1) := by decide +kernel
theorem dX8_read_44 : decode cX8_read 44 = .ok (.if_icmp .ge 39, 3) := by decide +kernel
theorem dX8_read_47 : decode cX8_read 47 = .ok (.iload_n 2, 1) := by decide +kernel
theorem dX8_read_48 : decode cX8_read 48 = .ok (.ifCond .ne 13, 3) := by decide +kernel
theorem dX8_read_51 : decode cX8_read 51 = .ok (.aload_n 0, 1) := by decide +kernel
theorem dX8_read_52 : decode cX8_read 52 = .ok (.getfield 29, 3) := by decide +kernel
theorem dX8_read_55 : decode cX8_read 55 = .ok (.iload_n 1, 1) := by decide +kernel
theorem dX8_read_56 : decode cX8_read 56 = .ok (.iaload, 1) := by decide +kernel
theorem dX8_read_57 : decode cX8_read 57 = .ok (.i2l, 1) := by decide +kernel
theorem dX8_read_58 : decode cX8_read 58 = .ok (.goto 24, 3) := by decide +kernel
theorem dX8_read_61 : decode cX8_read 61 = .ok (.iload_n 2, 1) := by decide +kernel
theorem dX8_read_62 : decode cX8_read 62 = .ok (.iconst 1, 1) := by decide +kernel
theorem dX8_read_63 : decode cX8_read 63 = .ok (.if_icmp .ne 12, 3) := by decide +kernel
theorem dX8_read_66 : decode cX8_read 66 = .ok (.aload_n 0, 1) := by decide +kernel
theorem dX8_read_67 : decode cX8_read 67 = .ok (.iload_n 1, 1) := by decide +kernel
theorem dX8_read_68 : decode cX8_read 68 = .ok (.invokevirtual 190, 3) := by decide +kernel
theorem dX8_read_71 : decode cX8_read 71 = .ok (.i2l, 1) := by decide +kernel
theorem dX8_read_72 : decode cX8_read 72 = .ok (.goto 10, 3) := by decide +kernel
theorem dX8_read_75 : decode cX8_read 75 = .ok (.aload_n 0, 1) := by decide +kernel
theorem dX8_read_76 : decode cX8_read 76 = .ok (.iload_n 1, 1) := by decide +kernel
theorem dX8_read_77 : decode cX8_read 77 = .ok (.iload_n 3, 1) := by decide +kernel
theorem dX8_read_78 : decode cX8_read 78 = .ok (.invokevirtual 193, 3) := by decide +kernel
theorem dX8_read_81 : decode cX8_read 81 = .ok (.i2l, 1) := by decide +kernel
theorem dX8_read_82 : decode cX8_read 82 = .ok (.lreturn, 1) := by decide +kernel
theorem dX8_read_83 : decode cX8_read 83 = .ok (.iconst 0, 1) := by decide +kernel
theorem dX8_read_84 : decode cX8_read 84 = .ok (.istore 4, 2) := by decide +kernel
theorem dX8_read_86 : decode cX8_read 86 = .ok (.iload 4, 2) := by decide +kernel
theorem dX8_read_88 : decode cX8_read 88 = .ok (.bipush 36, 2) := by decide +kernel
theorem dX8_read_90 : decode cX8_read 90 = .ok (.if_icmp .ge 51, 3) := by decide +kernel
theorem dX8_read_93 : decode cX8_read 93 = .ok (.aload_n 0, 1) := by decide +kernel
theorem dX8_read_94 : decode cX8_read 94 = .ok (.getfield 32, 3) := by decide +kernel
theorem dX8_read_97 : decode cX8_read 97 = .ok (.bipush 36, 2) := by decide +kernel
theorem dX8_read_99 : decode cX8_read 99 = .ok (.iload_n 1, 1) := by decide +kernel
theorem dX8_read_100 : decode cX8_read 100 = .ok (.imul, 1) := by decide +kernel
theorem dX8_read_101 : decode cX8_read 101 = .ok (.iload 4, 2) := by decide +kernel
theorem dX8_read_103 : decode cX8_read 103 = .ok (.iadd, 1) := by decide +kernel
theorem dX8_read_104 : decode cX8_read 104 = .ok (.iaload, 1) := by decide +kernel
theorem dX8_read_105 : decode cX8_read 105 = .ok (.ifCond .lt 30, 3) := by decide +kernel
theorem dX8_read_108 : decode cX8_read 108 = .ok (.aload_n 0, 1) := by decide +kernel
theorem dX8_read_109 : decode cX8_read 109 = .ok (.getfield 32, 3) := by decide +kernel
theorem dX8_read_112 : decode cX8_read 112 = .ok (.bipush 36, 2) := by decide +kernel
theorem dX8_read_114 : decode cX8_read 114 = .ok (.iload_n 1, 1) := by decide +kernel
theorem dX8_read_115 : decode cX8_read 115 = .ok (.imul, 1) := by decide +kernel
theorem dX8_read_116 : decode cX8_read 116 = .ok (.iload 4, 2) := by decide +kernel
theorem dX8_read_118 : decode cX8_read 118 = .ok (.iadd, 1) := by decide +kernel
theorem dX8_read_119 : decode cX8_read 119 = .ok (.iaload, 1) := by decide +kernel
theorem dX8_read_120 : decode cX8_read 120 = .ok (.aload_n 0, 1) := by decide +kernel
theorem dX8_read_121 : decode cX8_read 121 = .ok (.getfield 59, 3) := by decide +kernel
theorem dX8_read_124 : decode cX8_read 124 = .ok (.bipush 36, 2) := by decide +kernel
theorem dX8_read_126 : decode cX8_read 126 = .ok (.iload_n 3, 1) := by decide +kernel
theorem dX8_read_127 : decode cX8_read 127 = .ok (.imul, 1) := by decide +kernel
theorem dX8_read_128 : decode cX8_read 128 = .ok (.iload 4, 2) := by decide +kernel
theorem dX8_read_130 : decode cX8_read 130 = .ok (.iadd, 1) := by decide +kernel
theorem dX8_read_131 : decode cX8_read 131 = .ok (.iaload, 1) := by decide +kernel
theorem dX8_read_132 : decode cX8_read 132 = .ok (.if_icmp .ne 9, 3) := by decide +kernel
theorem dX8_read_135 : decode cX8_read 135 = .ok (.iinc 4 1, 3) := by decide +kernel
theorem dX8_read_138 : decode cX8_read 138 = .ok (.goto (-52), 3) := by decide +kernel
theorem dX8_read_141 : decode cX8_read 141 = .ok (.iload 4, 2) := by decide +kernel
theorem dX8_read_143 : decode cX8_read 143 = .ok (.i2l, 1) := by decide +kernel
theorem dX8_read_144 : decode cX8_read 144 = .ok (.lreturn, 1) := by decide +kernel
theorem dX8_best_0 : decode cX8_best 0 = .ok (.iload_n 1, 1) := by decide +kernel
theorem dX8_best_1 : decode cX8_best 1 = .ok (.invokestatic 187, 3) := by decide +kernel
theorem dX8_best_4 : decode cX8_best 4 = .ok (.ifCond .eq 22, 3) := by decide +kernel
theorem dX8_best_7 : decode cX8_best 7 = .ok (.iload_n 2, 1) := by decide +kernel
theorem dX8_best_8 : decode cX8_best 8 = .ok (.invokestatic 115, 3) := by decide +kernel
theorem dX8_best_11 : decode cX8_best 11 = .ok (.ifCond .eq 15, 3) := by decide +kernel
theorem dX8_best_14 : decode cX8_best 14 = .ok (.iload_n 3, 1) := by decide +kernel
theorem dX8_best_15 : decode cX8_best 15 = .ok (.invokestatic 115, 3) := by decide +kernel
theorem dX8_best_18 : decode cX8_best 18 = .ok (.ifCond .eq 8, 3) := by decide +kernel
theorem dX8_best_21 : decode cX8_best 21 = .ok (.iload_n 2, 1) := by decide +kernel
theorem dX8_best_22 : decode cX8_best 22 = .ok (.iload_n 3, 1) := by decide +kernel
theorem dX8_best_23 : decode cX8_best 23 = .ok (.if_icmp .le 11, 3) := by decide +kernel
theorem dX8_best_26 : decode cX8_best 26 = .ok (.aload_n 0, 1) := by decide +kernel
theorem dX8_best_27 : decode cX8_best 27 = .ok (.ldc2_w 98, 3) := by decide +kernel
theorem dX8_best_30 : decode cX8_best 30 = .ok (.invokevirtual 100, 3) := by decide +kernel
theorem dX8_best_33 : decode cX8_best 33 = .ok (.lreturn, 1) := by decide +kernel
theorem dX8_best_34 : decode cX8_best 34 = .ok (.aload_n 0, 1) := by decide +kernel
theorem dX8_best_35 : decode cX8_best 35 = .ok (.invokevirtual 142, 3) := by decide +kernel
theorem dX8_best_38 : decode cX8_best 38 = .ok (.iload_n 2, 1) := by decide +kernel
theorem dX8_best_39 : decode cX8_best 39 = .ok (.istore 4, 2) := by decide +kernel
theorem dX8_best_41 : decode cX8_best 41 = .ok (.aload_n 0, 1) := by decide +kernel
theorem dX8_best_42 : decode cX8_best 42 = .ok (.iload_n 1, 1) := by decide +kernel
theorem dX8_best_43 : decode cX8_best 43 = .ok (.aload_n 0, 1) := by decide +kernel
theorem dX8_best_44 : decode cX8_best 44 = .ok (.iload_n 2, 1) := by decide +kernel
theorem dX8_best_45 : decode cX8_best 45 = .ok (.invokevirtual 150, 3) := by decide +kernel
theorem dX8_best_48 : decode cX8_best 48 = .ok (.invokevirtual 193, 3) := by decide +kernel
theorem dX8_best_51 : decode cX8_best 51 = .ok (.istore 5, 2) := by decide +kernel
theorem dX8_best_53 : decode cX8_best 53 = .ok (.iload_n 2, 1) := by decide +kernel
theorem dX8_best_54 : decode cX8_best 54 = .ok (.istore 6, 2) := by decide +kernel
theorem dX8_best_56 : decode cX8_best 56 = .ok (.iload 6, 2) := by decide +kernel
theorem dX8_best_58 : decode cX8_best 58 = .ok (.iload_n 3, 1) := by decide +kernel
theorem dX8_best_59 : decode cX8_best 59 = .ok (.if_icmp .gt 40, 3) := by decide +kernel
theorem dX8_best_62 : decode cX8_best 62 = .ok (.aload_n 0, 1) := by decide +kernel
theorem dX8_best_63 : decode cX8_best 63 = .ok (.iload_n 1, 1) := by decide +kernel
theorem dX8_best_64 : decode cX8_best 64 = .ok (.aload_n 0, 1) := by decide +kernel
theorem dX8_best_65 : decode cX8_best 65 = .ok (.iload 6, 2) := by decide +kernel
theorem dX8_best_67 : decode cX8_best 67 = .ok (.invokevirtual 150, 3) := by decide +kernel
theorem dX8_best_70 : decode cX8_best 70 = .ok (.invokevirtual 193, 3) := by decide +kernel
theorem dX8_best_73 : decode cX8_best 73 = .ok (.istore 7, 2) := by decide +kernel
theorem dX8_best_75 : decode cX8_best 75 = .ok (.iload 7, 2) := by decide +kernel
theorem dX8_best_77 : decode cX8_best 77 = .ok (.iload 5, 2) := by decide +kernel
theorem dX8_best_79 : decode cX8_best 79 = .ok (.if_icmp .gt 6, 3) := by decide +kernel
theorem dX8_best_82 : decode cX8_best 82 = .ok (.goto 11, 3) := by decide +kernel
theorem dX8_best_85 : decode cX8_best 85 = .ok (.iload 7, 2) := by decide +kernel
theorem dX8_best_87 : decode cX8_best 87 = .ok (.istore 5, 2) := by decide +kernel
theorem dX8_best_89 : decode cX8_best 89 = .ok (.iload 6, 2) := by decide +kernel
theorem dX8_best_91 : decode cX8_best 91 = .ok (.istore 4, 2) := by decide +kernel
theorem dX8_best_93 : decode cX8_best 93 = .ok (.iinc 6 1, 3) := by decide +kernel
theorem dX8_best_96 : decode cX8_best 96 = .ok (.goto (-40), 3) := by decide +kernel
theorem dX8_best_99 : decode cX8_best 99 = .ok (.iload 4, 2) := by decide +kernel
theorem dX8_best_101 : decode cX8_best 101 = .ok (.i2l, 1) := by decide +kernel
theorem dX8_best_102 : decode cX8_best 102 = .ok (.lreturn, 1) := by decide +kernel
theorem dX8_quarrel_0 : decode cX8_quarrel 0 = .ok (.iload_n 1, 1) := by decide +kernel
theorem dX8_quarrel_1 : decode cX8_quarrel 1 = .ok (.invokestatic 187, 3) := by decide +kernel
theorem dX8_quarrel_4 : decode cX8_quarrel 4 = .ok (.ifCond .eq 10, 3) := by decide +kernel
theorem dX8_quarrel_7 : decode cX8_quarrel 7 = .ok (.iload_n 2, 1) := by decide +kernel
theorem dX8_quarrel_8 : decode cX8_quarrel 8 = .ok (.invokestatic 187, 3) := by decide +kernel
theorem dX8_quarrel_11 : decode cX8_quarrel 11 = .ok (.ifCond .ne 11, 3) := by decide +kernel
theorem dX8_quarrel_14 : decode cX8_quarrel 14 = .ok (.aload_n 0, 1) := by decide +kernel
theorem dX8_quarrel_15 : decode cX8_quarrel 15 = .ok (.ldc2_w 98, 3) := by decide +kernel
theorem dX8_quarrel_18 : decode cX8_quarrel 18 = .ok (.invokevirtual 100, 3) := by decide +kernel
theorem dX8_quarrel_21 : decode cX8_quarrel 21 = .ok (.lreturn, 1) := by decide +kernel
theorem dX8_quarrel_22 : decode cX8_quarrel 22 = .ok (.iconst 0, 1) := by decide +kernel
theorem dX8_quarrel_23 : decode cX8_quarrel 23 = .ok (.istore_n 3, 1) := by decide +kernel
theorem dX8_quarrel_24 : decode cX8_quarrel 24 = .ok (.iload_n 3, 1) := by decide +kernel
theorem dX8_quarrel_25 : decode cX8_quarrel 25 = .ok (.bipush 36, 2) := by decide +kernel
theorem dX8_quarrel_27 : decode cX8_quarrel 27 = .ok (.if_icmp .ge 55, 3) := by decide +kernel
theorem dX8_quarrel_30 : decode cX8_quarrel 30 = .ok (.aload_n 0, 1) := by decide +kernel
theorem dX8_quarrel_31 : decode cX8_quarrel 31 = .ok (.getfield 32, 3) := by decide +kernel
theorem dX8_quarrel_34 : decode cX8_quarrel 34 = .ok (.bipush 36, 2) := by decide +kernel
theorem dX8_quarrel_36 : decode cX8_quarrel 36 = .ok (.iload_n 1, 1) := by decide +kernel
theorem dX8_quarrel_37 : decode cX8_quarrel 37 = .ok (.imul, 1) := by decide +kernel
theorem dX8_quarrel_38 : decode cX8_quarrel 38 = .ok (.iload_n 3, 1) := by decide +kernel
theorem dX8_quarrel_39 : decode cX8_quarrel 39 = .ok (.iadd, 1) := by decide +kernel
theorem dX8_quarrel_40 : decode cX8_quarrel 40 = .ok (.iaload, 1) := by decide +kernel
theorem dX8_quarrel_41 : decode cX8_quarrel 41 = .ok (.istore 4, 2) := by decide +kernel
theorem dX8_quarrel_43 : decode cX8_quarrel 43 = .ok (.aload_n 0, 1) := by decide +kernel
theorem dX8_quarrel_44 : decode cX8_quarrel 44 = .ok (.getfield 32, 3) := by decide +kernel
theorem dX8_quarrel_47 : decode cX8_quarrel 47 = .ok (.bipush 36, 2) := by decide +kernel
theorem dX8_quarrel_49 : decode cX8_quarrel 49 = .ok (.iload_n 2, 1) := by decide +kernel
theorem dX8_quarrel_50 : decode cX8_quarrel 50 = .ok (.imul, 1) := by decide +kernel
theorem dX8_quarrel_51 : decode cX8_quarrel 51 = .ok (.iload_n 3, 1) := by decide +kernel
theorem dX8_quarrel_52 : decode cX8_quarrel 52 = .ok (.iadd, 1) := by decide +kernel
theorem dX8_quarrel_53 : decode cX8_quarrel 53 = .ok (.iaload, 1) := by decide +kernel
theorem dX8_quarrel_54 : decode cX8_quarrel 54 = .ok (.istore 5, 2) := by decide +kernel
theorem dX8_quarrel_56 : decode cX8_quarrel 56 = .ok (.iload 4, 2) := by decide +kernel
theorem dX8_quarrel_58 : decode cX8_quarrel 58 = .ok (.ifCond .lt 18, 3) := by decide +kernel
theorem dX8_quarrel_61 : decode cX8_quarrel 61 = .ok (.iload 5, 2) := by decide +kernel
theorem dX8_quarrel_63 : decode cX8_quarrel 63 = .ok (.ifCond .lt 13, 3) := by decide +kernel
theorem dX8_quarrel_66 : decode cX8_quarrel 66 = .ok (.iload 4, 2) := by decide +kernel
theorem dX8_quarrel_68 : decode cX8_quarrel 68 = .ok (.iload 5, 2) := by decide +kernel
theorem dX8_quarrel_70 : decode cX8_quarrel 70 = .ok (.if_icmp .eq 6, 3) := by decide +kernel
theorem dX8_quarrel_73 : decode cX8_quarrel 73 = .ok (.iload_n 3, 1) := by decide +kernel
theorem dX8_quarrel_74 : decode cX8_quarrel 74 = .ok (.i2l, 1) := by decide +kernel
theorem dX8_quarrel_75 : decode cX8_quarrel 75 = .ok (.lreturn, 1) := by decide +kernel
theorem dX8_quarrel_76 : decode cX8_quarrel 76 = .ok (.iinc 3 1, 3) := by decide +kernel
theorem dX8_quarrel_79 : decode cX8_quarrel 79 = .ok (.goto (-55), 3) := by decide +kernel
theorem dX8_quarrel_82 : decode cX8_quarrel 82 = .ok (.aload_n 0, 1) := by decide +kernel
theorem dX8_quarrel_83 : decode cX8_quarrel 83 = .ok (.ldc2_w 145, 3) := by decide +kernel
theorem dX8_quarrel_86 : decode cX8_quarrel 86 = .ok (.invokevirtual 100, 3) := by decide +kernel
theorem dX8_quarrel_89 : decode cX8_quarrel 89 = .ok (.lreturn, 1) := by decide +kernel
theorem dX8_count_0 : decode cX8_count 0 = .ok (.aload_n 0, 1) := by decide +kernel
theorem dX8_count_1 : decode cX8_count 1 = .ok (.iload_n 1, 1) := by decide +kernel
theorem dX8_count_2 : decode cX8_count 2 = .ok (.invokevirtual 106, 3) := by decide +kernel
theorem dX8_count_5 : decode cX8_count 5 = .ok (.ifCond .eq 22, 3) := by decide +kernel
theorem dX8_count_8 : decode cX8_count 8 = .ok (.iload_n 2, 1) := by decide +kernel
theorem dX8_count_9 : decode cX8_count 9 = .ok (.invokestatic 115, 3) := by decide +kernel
theorem dX8_count_12 : decode cX8_count 12 = .ok (.ifCond .eq 15, 3) := by decide +kernel
theorem dX8_count_15 : decode cX8_count 15 = .ok (.iload_n 3, 1) := by decide +kernel
theorem dX8_count_16 : decode cX8_count 16 = .ok (.i2l, 1) := by decide +kernel
theorem dX8_count_17 : decode cX8_count 17 = .ok (.lconst 0, 1) := by decide +kernel
theorem dX8_count_18 : decode cX8_count 18 = .ok (.ldc2_w 196, 3) := by decide +kernel
theorem dX8_count_21 : decode cX8_count 21 = .ok (.invokestatic 86, 3) := by decide +kernel
theorem dX8_count_24 : decode cX8_count 24 = .ok (.ifCond .ne 11, 3) := by decide +kernel
theorem dX8_count_27 : decode cX8_count 27 = .ok (.aload_n 0, 1) := by decide +kernel
theorem dX8_count_28 : decode cX8_count 28 = .ok (.ldc2_w 98, 3) := by decide +kernel
theorem dX8_count_31 : decode cX8_count 31 = .ok (.invokevirtual 100, 3) := by decide +kernel
theorem dX8_count_34 : decode cX8_count 34 = .ok (.lreturn, 1) := by decide +kernel
theorem dX8_count_35 : decode cX8_count 35 = .ok (.aload_n 0, 1) := by decide +kernel
theorem dX8_count_36 : decode cX8_count 36 = .ok (.iload_n 1, 1) := by decide +kernel
theorem dX8_count_37 : decode cX8_count 37 = .ok (.invokevirtual 118, 3) := by decide +kernel
theorem dX8_count_40 : decode cX8_count 40 = .ok (.ifCond .eq 11, 3) := by decide +kernel
theorem dX8_count_43 : decode cX8_count 43 = .ok (.aload_n 0, 1) := by decide +kernel
theorem dX8_count_44 : decode cX8_count 44 = .ok (.ldc2_w 110, 3) := by decide +kernel
theorem dX8_count_47 : decode cX8_count 47 = .ok (.invokevirtual 100, 3) := by decide +kernel
theorem dX8_count_50 : decode cX8_count 50 = .ok (.lreturn, 1) := by decide +kernel
theorem dX8_count_51 : decode cX8_count 51 = .ok (.aload_n 0, 1) := by decide +kernel
theorem dX8_count_52 : decode cX8_count 52 = .ok (.getfield 198, 3) := by decide +kernel
theorem dX8_count_55 : decode cX8_count 55 = .ok (.bipush 20, 2) := by decide +kernel
theorem dX8_count_57 : decode cX8_count 57 = .ok (.if_icmp .ne 11, 3) := by decide +kernel
theorem dX8_count_60 : decode cX8_count 60 = .ok (.aload_n 0, 1) := by decide +kernel
theorem dX8_count_61 : decode cX8_count 61 = .ok (.ldc2_w 104, 3) := by decide +kernel
theorem dX8_count_64 : decode cX8_count 64 = .ok (.invokevirtual 100, 3) := by decide +kernel
theorem dX8_count_67 : decode cX8_count 67 = .ok (.lreturn, 1) := by decide +kernel
theorem dX8_count_68 : decode cX8_count 68 = .ok (.aload_n 0, 1) := by decide +kernel
theorem dX8_count_69 : decode cX8_count 69 = .ok (.getfield 35, 3) := by decide +kernel
theorem dX8_count_72 : decode cX8_count 72 = .ok (.aload_n 0, 1) := by decide +kernel
theorem dX8_count_73 : decode cX8_count 73 = .ok (.getfield 198, 3) := by decide +kernel
theorem dX8_count_76 : decode cX8_count 76 = .ok (.iload_n 1, 1) := by decide +kernel
theorem dX8_count_77 : decode cX8_count 77 = .ok (.iastore, 1) := by decide +kernel
theorem dX8_count_78 : decode cX8_count 78 = .ok (.aload_n 0, 1) := by decide +kernel
theorem dX8_count_79 : decode cX8_count 79 = .ok (.getfield 38, 3) := by decide +kernel
theorem dX8_count_82 : decode cX8_count 82 = .ok (.aload_n 0, 1) := by decide +kernel
theorem dX8_count_83 : decode cX8_count 83 = .ok (.getfield 198, 3) := by decide +kernel
theorem dX8_count_86 : decode cX8_count 86 = .ok (.iload_n 2, 1) := by decide +kernel
theorem dX8_count_87 : decode cX8_count 87 = .ok (.iastore, 1) := by decide +kernel
theorem dX8_count_88 : decode cX8_count 88 = .ok (.aload_n 0, 1) := by decide +kernel
theorem dX8_count_89 : decode cX8_count 89 = .ok (.getfield 41, 3) := by decide +kernel
theorem dX8_count_92 : decode cX8_count 92 = .ok (.aload_n 0, 1) := by decide +kernel
theorem dX8_count_93 : decode cX8_count 93 = .ok (.getfield 198, 3) := by decide +kernel
theorem dX8_count_96 : decode cX8_count 96 = .ok (.iload_n 3, 1) := by decide +kernel
theorem dX8_count_97 : decode cX8_count 97 = .ok (.iastore, 1) := by decide +kernel
theorem dX8_count_98 : decode cX8_count 98 = .ok (.aload_n 0, 1) := by decide +kernel
theorem dX8_count_99 : decode cX8_count 99 = .ok (.dup, 1) := by decide +kernel
theorem dX8_count_100 : decode cX8_count 100 = .ok (.getfield 198, 3) := by decide +kernel
theorem dX8_count_103 : decode cX8_count 103 = .ok (.iconst 1, 1) := by decide +kernel
theorem dX8_count_104 : decode cX8_count 104 = .ok (.iadd, 1) := by decide +kernel
theorem dX8_count_105 : decode cX8_count 105 = .ok (.putfield 198, 3) := by decide +kernel
theorem dX8_count_108 : decode cX8_count 108 = .ok (.aload_n 0, 1) := by decide +kernel
theorem dX8_count_109 : decode cX8_count 109 = .ok (.getfield 198, 3) := by decide +kernel
theorem dX8_count_112 : decode cX8_count 112 = .ok (.i2l, 1) := by decide +kernel
theorem dX8_count_113 : decode cX8_count 113 = .ok (.lreturn, 1) := by decide +kernel
theorem dX8_latest_0 : decode cX8_latest 0 = .ok (.aload_n 0, 1) := by decide +kernel
theorem dX8_latest_1 : decode cX8_latest 1 = .ok (.getfield 198, 3) := by decide +kernel
theorem dX8_latest_4 : decode cX8_latest 4 = .ok (.iconst 1, 1) := by decide +kernel
theorem dX8_latest_5 : decode cX8_latest 5 = .ok (.isub, 1) := by decide +kernel
theorem dX8_latest_6 : decode cX8_latest 6 = .ok (.istore_n 3, 1) := by decide +kernel
theorem dX8_latest_7 : decode cX8_latest 7 = .ok (.iload_n 3, 1) := by decide +kernel
theorem dX8_latest_8 : decode cX8_latest 8 = .ok (.ifCond .lt 36, 3) := by decide +kernel
theorem dX8_latest_11 : decode cX8_latest 11 = .ok (.aload_n 0, 1) := by decide +kernel
theorem dX8_latest_12 : decode cX8_latest 12 = .ok (.getfield 35, 3) := by decide +kernel
theorem dX8_latest_15 : decode cX8_latest 15 = .ok (.iload_n 3, 1) := by decide +kernel
theorem dX8_latest_16 : decode cX8_latest 16 = .ok (.iaload, 1) := by decide +kernel
theorem dX8_latest_17 : decode cX8_latest 17 = .ok (.iload_n 1, 1) := by decide +kernel
theorem dX8_latest_18 : decode cX8_latest 18 = .ok (.if_icmp .ne 20, 3) := by decide +kernel
theorem dX8_latest_21 : decode cX8_latest 21 = .ok (.aload_n 0, 1) := by decide +kernel
theorem dX8_latest_22 : decode cX8_latest 22 = .ok (.getfield 38, 3) := by decide +kernel
theorem dX8_latest_25 : decode cX8_latest 25 = .ok (.iload_n 3, 1) := by decide +kernel
theorem dX8_latest_26 : decode cX8_latest 26 = .ok (.iaload, 1) := by decide +kernel
theorem dX8_latest_27 : decode cX8_latest 27 = .ok (.iload_n 2, 1) := by decide +kernel
theorem dX8_latest_28 : decode cX8_latest 28 = .ok (.if_icmp .ne 10, 3) := by decide +kernel
theorem dX8_latest_31 : decode cX8_latest 31 = .ok (.aload_n 0, 1) := by decide +kernel
theorem dX8_latest_32 : decode cX8_latest 32 = .ok (.getfield 41, 3) := by decide +kernel
theorem dX8_latest_35 : decode cX8_latest 35 = .ok (.iload_n 3, 1) := by decide +kernel
theorem dX8_latest_36 : decode cX8_latest 36 = .ok (.iaload, 1) := by decide +kernel
theorem dX8_latest_37 : decode cX8_latest 37 = .ok (.ireturn, 1) := by decide +kernel
theorem dX8_latest_38 : decode cX8_latest 38 = .ok (.iinc 3 (-1), 3) := by decide +kernel
theorem dX8_latest_41 : decode cX8_latest 41 = .ok (.goto (-34), 3) := by decide +kernel
theorem dX8_latest_44 : decode cX8_latest 44 = .ok (.iconst (-1), 1) := by decide +kernel
theorem dX8_latest_45 : decode cX8_latest 45 = .ok (.ireturn, 1) := by decide +kernel
theorem dX8_common_0 : decode cX8_common 0 = .ok (.lload_n 0, 1) := by decide +kernel
theorem dX8_common_1 : decode cX8_common 1 = .ok (.lstore 4, 2) := by decide +kernel
theorem dX8_common_3 : decode cX8_common 3 = .ok (.lload_n 2, 1) := by decide +kernel
theorem dX8_common_4 : decode cX8_common 4 = .ok (.lstore 6, 2) := by decide +kernel
theorem dX8_common_6 : decode cX8_common 6 = .ok (.lload 6, 2) := by decide +kernel
theorem dX8_common_8 : decode cX8_common 8 = .ok (.lconst 0, 1) := by decide +kernel
theorem dX8_common_9 : decode cX8_common 9 = .ok (.lcmp, 1) := by decide +kernel
theorem dX8_common_10 : decode cX8_common 10 = .ok (.ifCond .eq 21, 3) := by decide +kernel
theorem dX8_common_13 : decode cX8_common 13 = .ok (.lload 4, 2) := by decide +kernel
theorem dX8_common_15 : decode cX8_common 15 = .ok (.lload 6, 2) := by decide +kernel
theorem dX8_common_17 : decode cX8_common 17 = .ok (.lrem, 1) := by decide +kernel
theorem dX8_common_18 : decode cX8_common 18 = .ok (.lstore 8, 2) := by decide +kernel
theorem dX8_common_20 : decode cX8_common 20 = .ok (.lload 6, 2) := by decide +kernel
theorem dX8_common_22 : decode cX8_common 22 = .ok (.lstore 4, 2) := by decide +kernel
theorem dX8_common_24 : decode cX8_common 24 = .ok (.lload 8, 2) := by decide +kernel
theorem dX8_common_26 : decode cX8_common 26 = .ok (.lstore 6, 2) := by decide +kernel
theorem dX8_common_28 : decode cX8_common 28 = .ok (.goto (-22), 3) := by decide +kernel
theorem dX8_common_31 : decode cX8_common 31 = .ok (.lload 4, 2) := by decide +kernel
theorem dX8_common_33 : decode cX8_common 33 = .ok (.lreturn, 1) := by decide +kernel
theorem dX8_carried_0 : decode cX8_carried 0 = .ok (.iload_n 1, 1) := by decide +kernel
theorem dX8_carried_1 : decode cX8_carried 1 = .ok (.invokestatic 115, 3) := by decide +kernel
theorem dX8_carried_4 : decode cX8_carried 4 = .ok (.ifCond .eq 18, 3) := by decide +kernel
theorem dX8_carried_7 : decode cX8_carried 7 = .ok (.aload_n 0, 1) := by decide +kernel
theorem dX8_carried_8 : decode cX8_carried 8 = .ok (.iload_n 2, 1) := by decide +kernel
theorem dX8_carried_9 : decode cX8_carried 9 = .ok (.invokevirtual 106, 3) := by decide +kernel
theorem dX8_carried_12 : decode cX8_carried 12 = .ok (.ifCond .eq 10, 3) := by decide +kernel
theorem dX8_carried_15 : decode cX8_carried 15 = .ok (.iload_n 3, 1) := by decide +kernel
theorem dX8_carried_16 : decode cX8_carried 16 = .ok (.invokestatic 115, 3) := by decide +kernel
theorem dX8_carried_19 : decode cX8_carried 19 = .ok (.ifCond .ne 11, 3) := by decide +kernel
theorem dX8_carried_22 : decode cX8_carried 22 = .ok (.aload_n 0, 1) := by decide +kernel
theorem dX8_carried_23 : decode cX8_carried 23 = .ok (.ldc2_w 98, 3) := by decide +kernel
theorem dX8_carried_26 : decode cX8_carried 26 = .ok (.invokevirtual 100, 3) := by decide +kernel
theorem dX8_carried_29 : decode cX8_carried 29 = .ok (.lreturn, 1) := by decide +kernel
theorem dX8_carried_30 : decode cX8_carried 30 = .ok (.aload_n 0, 1) := by decide +kernel
theorem dX8_carried_31 : decode cX8_carried 31 = .ok (.invokevirtual 142, 3) := by decide +kernel
theorem dX8_carried_34 : decode cX8_carried 34 = .ok (.aload_n 0, 1) := by decide +kernel
theorem dX8_carried_35 : decode cX8_carried 35 = .ok (.iload_n 2, 1) := by decide +kernel
theorem dX8_carried_36 : decode cX8_carried 36 = .ok (.aload_n 0, 1) := by decide +kernel
theorem dX8_carried_37 : decode cX8_carried 37 = .ok (.iload_n 3, 1) := by decide +kernel
theorem dX8_carried_38 : decode cX8_carried 38 = .ok (.invokevirtual 150, 3) := by decide +kernel
theorem dX8_carried_41 : decode cX8_carried 41 = .ok (.invokevirtual 154, 3) := by decide +kernel
theorem dX8_carried_44 : decode cX8_carried 44 = .ok (.lstore 5, 2) := by decide +kernel
theorem dX8_carried_46 : decode cX8_carried 46 = .ok (.lconst 0, 1) := by decide +kernel
theorem dX8_carried_47 : decode cX8_carried 47 = .ok (.lstore 7, 2) := by decide +kernel
theorem dX8_carried_49 : decode cX8_carried 49 = .ok (.lconst 1, 1) := by decide +kernel
theorem dX8_carried_50 : decode cX8_carried 50 = .ok (.lstore 9, 2) := by decide +kernel
theorem dX8_carried_52 : decode cX8_carried 52 = .ok (.iconst 0, 1) := by decide +kernel
theorem dX8_carried_53 : decode cX8_carried 53 = .ok (.istore 11, 2) := by decide +kernel
theorem dX8_carried_55 : decode cX8_carried 55 = .ok (.iload 11, 2) := by decide +kernel
theorem dX8_carried_57 : decode cX8_carried 57 = .ok (.aload_n 0, 1) := by decide +kernel
theorem dX8_carried_58 : decode cX8_carried 58 = .ok (.getfield 82, 3) := by decide +kernel
theorem dX8_carried_61 : decode cX8_carried 61 = .ok (.if_icmp .ge 121, 3) := by decide +kernel
theorem dX8_carried_64 : decode cX8_carried 64 = .ok (.aload_n 0, 1) := by decide +kernel
theorem dX8_carried_65 : decode cX8_carried 65 = .ok (.iload 11, 2) := by decide +kernel
theorem dX8_carried_67 : decode cX8_carried 67 = .ok (.iload_n 1, 1) := by decide +kernel
theorem dX8_carried_68 : decode cX8_carried 68 = .ok (.invokevirtual 201, 3) := by decide +kernel
theorem dX8_carried_71 : decode cX8_carried 71 = .ok (.istore 12, 2) := by decide +kernel
theorem dX8_carried_73 : decode cX8_carried 73 = .ok (.aload_n 0, 1) := by decide +kernel
theorem dX8_carried_74 : decode cX8_carried 74 = .ok (.iload 11, 2) := by decide +kernel
theorem dX8_carried_76 : decode cX8_carried 76 = .ok (.aload_n 0, 1) := by decide +kernel
theorem dX8_carried_77 : decode cX8_carried 77 = .ok (.iload_n 1, 1) := by decide +kernel
theorem dX8_carried_78 : decode cX8_carried 78 = .ok (.invokevirtual 150, 3) := by decide +kernel
theorem dX8_carried_81 : decode cX8_carried 81 = .ok (.invokevirtual 154, 3) := by decide +kernel
theorem dX8_carried_84 : decode cX8_carried 84 = .ok (.lstore 13, 2) := by decide +kernel
theorem dX8_carried_86 : decode cX8_carried 86 = .ok (.iload 12, 2) := by decide +kernel
theorem dX8_carried_88 : decode cX8_carried 88 = .ok (.ifCond .lt 88, 3) := by decide +kernel
theorem dX8_carried_91 : decode cX8_carried 91 = .ok (.aload_n 0, 1) := by decide +kernel
theorem dX8_carried_92 : decode cX8_carried 92 = .ok (.iload 11, 2) := by decide +kernel
theorem dX8_carried_94 : decode cX8_carried 94 = .ok (.invokevirtual 118, 3) := by decide +kernel
theorem dX8_carried_97 : decode cX8_carried 97 = .ok (.ifCond .ne 79, 3) := by decide +kernel
theorem dX8_carried_100 : decode cX8_carried 100 = .ok (.lload 13, 2) := by decide +kernel
theorem dX8_carried_102 : decode cX8_carried 102 = .ok (.lconst 0, 1) := by decide +kernel
theorem dX8_carried_103 : decode cX8_carried 103 = .ok (.lcmp, 1) := by decide +kernel
theorem dX8_carried_104 : decode cX8_carried 104 = .ok (.ifCond .ne 6, 3) := by decide +kernel
theorem dX8_carried_107 : decode cX8_carried 107 = .ok (.goto 69, 3) := by decide +kernel
theorem dX8_carried_110 : decode cX8_carried 110 = .ok (.iload 12, 2) := by decide +kernel
theorem dX8_carried_112 : decode cX8_carried 112 = .ok (.i2l, 1) := by decide +kernel
theorem dX8_carried_113 : decode cX8_carried 113 = .ok (.lload 13, 2) := by decide +kernel
theorem dX8_carried_115 : decode cX8_carried 115 = .ok (.lload 5, 2) := by decide +kernel
theorem dX8_carried_117 : decode cX8_carried 117 = .ok (.land, 1) := by decide +kernel
theorem dX8_carried_118 : decode cX8_carried 118 = .ok (.invokestatic 170, 3) := by decide +kernel
theorem dX8_carried_121 : decode cX8_carried 121 = .ok (.i2l, 1) := by decide +kernel
theorem dX8_carried_122 : decode cX8_carried 122 = .ok (.lmul, 1) := by decide +kernel
theorem dX8_carried_123 : decode cX8_carried 123 = .ok (.lstore 15, 2) := by decide +kernel
theorem dX8_carried_125 : decode cX8_carried 125 = .ok (.lload 13, 2) := by decide +kernel
theorem dX8_carried_127 : decode cX8_carried 127 = .ok (.invokestatic 170, 3) := by decide +kernel
theorem dX8_carried_130 : decode cX8_carried 130 = .ok (.i2l, 1) := by decide +kernel
theorem dX8_carried_131 : decode cX8_carried 131 = .ok (.lstore 17, 2) := by decide +kernel
theorem dX8_carried_133 : decode cX8_carried 133 = .ok (.lload 7, 2) := by decide +kernel
theorem dX8_carried_135 : decode cX8_carried 135 = .ok (.lload 17, 2) := by decide +kernel
theorem dX8_carried_137 : decode cX8_carried 137 = .ok (.lmul, 1) := by decide +kernel
theorem dX8_carried_138 : decode cX8_carried 138 = .ok (.lload 15, 2) := by decide +kernel
theorem dX8_carried_140 : decode cX8_carried 140 = .ok (.lload 9, 2) := by decide +kernel
theorem dX8_carried_142 : decode cX8_carried 142 = .ok (.lmul, 1) := by decide +kernel
theorem dX8_carried_143 : decode cX8_carried 143 = .ok (.ladd, 1) := by decide +kernel
theorem dX8_carried_144 : decode cX8_carried 144 = .ok (.lstore 7, 2) := by decide +kernel
theorem dX8_carried_146 : decode cX8_carried 146 = .ok (.lload 9, 2) := by decide +kernel
theorem dX8_carried_148 : decode cX8_carried 148 = .ok (.lload 17, 2) := by decide +kernel
theorem dX8_carried_150 : decode cX8_carried 150 = .ok (.lmul, 1) := by decide +kernel
theorem dX8_carried_151 : decode cX8_carried 151 = .ok (.lstore 9, 2) := by decide +kernel
theorem dX8_carried_153 : decode cX8_carried 153 = .ok (.lload 7, 2) := by decide +kernel
theorem dX8_carried_155 : decode cX8_carried 155 = .ok (.lload 9, 2) := by decide +kernel
theorem dX8_carried_157 : decode cX8_carried 157 = .ok (.invokestatic 204, 3) := by decide +kernel
theorem dX8_carried_160 : decode cX8_carried 160 = .ok (.lstore 19, 2) := by decide +kernel
theorem dX8_carried_162 : decode cX8_carried 162 = .ok (.lload 7, 2) := by decide +kernel
theorem dX8_carried_164 : decode cX8_carried 164 = .ok (.lload 19, 2) := by decide +kernel
theorem dX8_carried_166 : decode cX8_carried 166 = .ok (.ldiv, 1) := by decide +kernel
theorem dX8_carried_167 : decode cX8_carried 167 = .ok (.lstore 7, 2) := by decide +kernel
theorem dX8_carried_169 : decode cX8_carried 169 = .ok (.lload 9, 2) := by decide +kernel
theorem dX8_carried_171 : decode cX8_carried 171 = .ok (.lload 19, 2) := by decide +kernel
theorem dX8_carried_173 : decode cX8_carried 173 = .ok (.ldiv, 1) := by decide +kernel
theorem dX8_carried_174 : decode cX8_carried 174 = .ok (.lstore 9, 2) := by decide +kernel
theorem dX8_carried_176 : decode cX8_carried 176 = .ok (.iinc 11 1, 3) := by decide +kernel
theorem dX8_carried_179 : decode cX8_carried 179 = .ok (.goto (-124), 3) := by decide +kernel
theorem dX8_carried_182 : decode cX8_carried 182 = .ok (.iload 4, 2) := by decide +kernel
theorem dX8_carried_184 : decode cX8_carried 184 = .ok (.ifCond .eq 8, 3) := by decide +kernel
theorem dX8_carried_187 : decode cX8_carried 187 = .ok (.lload 9, 2) := by decide +kernel
theorem dX8_carried_189 : decode cX8_carried 189 = .ok (.goto 5, 3) := by decide +kernel
theorem dX8_carried_192 : decode cX8_carried 192 = .ok (.lload 7, 2) := by decide +kernel
theorem dX8_carried_194 : decode cX8_carried 194 = .ok (.lreturn, 1) := by decide +kernel
theorem dX8_people_0 : decode cX8_people 0 = .ok (.iload_n 1, 1) := by decide +kernel
theorem dX8_people_1 : decode cX8_people 1 = .ok (.invokestatic 115, 3) := by decide +kernel
theorem dX8_people_4 : decode cX8_people 4 = .ok (.ifCond .ne 11, 3) := by decide +kernel
theorem dX8_people_7 : decode cX8_people 7 = .ok (.aload_n 0, 1) := by decide +kernel
theorem dX8_people_8 : decode cX8_people 8 = .ok (.ldc2_w 98, 3) := by decide +kernel
theorem dX8_people_11 : decode cX8_people 11 = .ok (.invokevirtual 100, 3) := by decide +kernel
theorem dX8_people_14 : decode cX8_people 14 = .ok (.lreturn, 1) := by decide +kernel
theorem dX8_people_15 : decode cX8_people 15 = .ok (.lconst 0, 1) := by decide +kernel
theorem dX8_people_16 : decode cX8_people 16 = .ok (.lstore_n 2, 1) := by decide +kernel
theorem dX8_people_17 : decode cX8_people 17 = .ok (.iconst 0, 1) := by decide +kernel
theorem dX8_people_18 : decode cX8_people 18 = .ok (.istore 4, 2) := by decide +kernel
theorem dX8_people_20 : decode cX8_people 20 = .ok (.iload 4, 2) := by decide +kernel
theorem dX8_people_22 : decode cX8_people 22 = .ok (.aload_n 0, 1) := by decide +kernel
theorem dX8_people_23 : decode cX8_people 23 = .ok (.getfield 82, 3) := by decide +kernel
theorem dX8_people_26 : decode cX8_people 26 = .ok (.if_icmp .ge 34, 3) := by decide +kernel
theorem dX8_people_29 : decode cX8_people 29 = .ok (.lload_n 2, 1) := by decide +kernel
theorem dX8_people_30 : decode cX8_people 30 = .ok (.aload_n 0, 1) := by decide +kernel
theorem dX8_people_31 : decode cX8_people 31 = .ok (.iload 4, 2) := by decide +kernel
theorem dX8_people_33 : decode cX8_people 33 = .ok (.iload_n 1, 1) := by decide +kernel
theorem dX8_people_34 : decode cX8_people 34 = .ok (.invokevirtual 201, 3) := by decide +kernel
theorem dX8_people_37 : decode cX8_people 37 = .ok (.ifCond .ge 7, 3) := by decide +kernel
theorem dX8_people_40 : decode cX8_people 40 = .ok (.lconst 0, 1) := by decide +kernel
theorem dX8_people_41 : decode cX8_people 41 = .ok (.goto 11, 3) := by decide +kernel
theorem dX8_people_44 : decode cX8_people 44 = .ok (.aload_n 0, 1) := by decide +kernel
theorem dX8_people_45 : decode cX8_people 45 = .ok (.iload 4, 2) := by decide +kernel
theorem dX8_people_47 : decode cX8_people 47 = .ok (.iload_n 1, 1) := by decide +kernel
theorem dX8_people_48 : decode cX8_people 48 = .ok (.invokevirtual 201, 3) := by decide +kernel
theorem dX8_people_51 : decode cX8_people 51 = .ok (.i2l, 1) := by decide +kernel
theorem dX8_people_52 : decode cX8_people 52 = .ok (.ladd, 1) := by decide +kernel
theorem dX8_people_53 : decode cX8_people 53 = .ok (.lstore_n 2, 1) := by decide +kernel
theorem dX8_people_54 : decode cX8_people 54 = .ok (.iinc 4 1, 3) := by decide +kernel
theorem dX8_people_57 : decode cX8_people 57 = .ok (.goto (-37), 3) := by decide +kernel
theorem dX8_people_60 : decode cX8_people 60 = .ok (.lload_n 2, 1) := by decide +kernel
theorem dX8_people_61 : decode cX8_people 61 = .ok (.lreturn, 1) := by decide +kernel
theorem dX8_isSheet_0 : decode cX8_isSheet 0 = .ok (.iload_n 0, 1) := by decide +kernel
theorem dX8_isSheet_1 : decode cX8_isSheet 1 = .ok (.i2l, 1) := by decide +kernel
theorem dX8_isSheet_2 : decode cX8_isSheet 2 = .ok (.lconst 0, 1) := by decide +kernel
theorem dX8_isSheet_3 : decode cX8_isSheet 3 = .ok (.ldc2_w 96, 3) := by decide +kernel
theorem dX8_isSheet_6 : decode cX8_isSheet 6 = .ok (.invokestatic 86, 3) := by decide +kernel
theorem dX8_isSheet_9 : decode cX8_isSheet 9 = .ok (.ireturn, 1) := by decide +kernel
theorem dX8_sheet_0 : decode cX8_sheet 0 = .ok (.iload_n 1, 1) := by decide +kernel
theorem dX8_sheet_1 : decode cX8_sheet 1 = .ok (.invokestatic 208, 3) := by decide +kernel
theorem dX8_sheet_4 : decode cX8_sheet 4 = .ok (.ifCond .eq 25, 3) := by decide +kernel
theorem dX8_sheet_7 : decode cX8_sheet 7 = .ok (.iload_n 2, 1) := by decide +kernel
theorem dX8_sheet_8 : decode cX8_sheet 8 = .ok (.ifCond .eq 29, 3) := by decide +kernel
theorem dX8_sheet_11 : decode cX8_sheet 11 = .ok (.iload_n 2, 1) := by decide +kernel
theorem dX8_sheet_12 : decode cX8_sheet 12 = .ok (.bipush 8, 2) := by decide +kernel
theorem dX8_sheet_14 : decode cX8_sheet 14 = .ok (.if_icmp .eq 23, 3) := by decide +kernel
theorem dX8_sheet_17 : decode cX8_sheet 17 = .ok (.iload_n 2, 1) := by decide +kernel
theorem dX8_sheet_18 : decode cX8_sheet 18 = .ok (.bipush 16, 2) := by decide +kernel
theorem dX8_sheet_20 : decode cX8_sheet 20 = .ok (.if_icmp .eq 17, 3) := by decide +kernel
theorem dX8_sheet_23 : decode cX8_sheet 23 = .ok (.iload_n 2, 1) := by decide +kernel
theorem dX8_sheet_24 : decode cX8_sheet 24 = .ok (.bipush 32, 2) := by decide +kernel
theorem dX8_sheet_26 : decode cX8_sheet 26 = .ok (.if_icmp .eq 11, 3) := by decide +kernel
theorem dX8_sheet_29 : decode cX8_sheet 29 = .ok (.aload_n 0, 1) := by decide +kernel
theorem dX8_sheet_30 : decode cX8_sheet 30 = .ok (.ldc2_w 98, 3) := by decide +kernel
theorem dX8_sheet_33 : decode cX8_sheet 33 = .ok (.invokevirtual 100, 3) := by decide +kernel
theorem dX8_sheet_36 : decode cX8_sheet 36 = .ok (.lreturn, 1) := by decide +kernel
theorem dX8_sheet_37 : decode cX8_sheet 37 = .ok (.iload_n 3, 1) := by decide +kernel
theorem dX8_sheet_38 : decode cX8_sheet 38 = .ok (.ifCond .ge 11, 3) := by decide +kernel
theorem dX8_sheet_41 : decode cX8_sheet 41 = .ok (.aload_n 0, 1) := by decide +kernel
theorem dX8_sheet_42 : decode cX8_sheet 42 = .ok (.ldc2_w 125, 3) := by decide +kernel
theorem dX8_sheet_45 : decode cX8_sheet 45 = .ok (.invokevirtual 100, 3) := by decide +kernel
theorem dX8_sheet_48 : decode cX8_sheet 48 = .ok (.lreturn, 1) := by decide +kernel
theorem dX8_sheet_49 : decode cX8_sheet 49 = .ok (.iload_n 3, 1) := by decide +kernel
theorem dX8_sheet_50 : decode cX8_sheet 50 = .ok (.bipush 36, 2) := by decide +kernel
theorem dX8_sheet_52 : decode cX8_sheet 52 = .ok (.if_icmp .le 11, 3) := by decide +kernel
theorem dX8_sheet_55 : decode cX8_sheet 55 = .ok (.aload_n 0, 1) := by decide +kernel
theorem dX8_sheet_56 : decode cX8_sheet 56 = .ok (.ldc2_w 98, 3) := by decide +kernel
theorem dX8_sheet_59 : decode cX8_sheet 59 = .ok (.invokevirtual 100, 3) := by decide +kernel
theorem dX8_sheet_62 : decode cX8_sheet 62 = .ok (.lreturn, 1) := by decide +kernel
theorem dX8_sheet_63 : decode cX8_sheet 63 = .ok (.aload_n 0, 1) := by decide +kernel
theorem dX8_sheet_64 : decode cX8_sheet 64 = .ok (.getfield 44, 3) := by decide +kernel
theorem dX8_sheet_67 : decode cX8_sheet 67 = .ok (.iload_n 1, 1) := by decide +kernel
theorem dX8_sheet_68 : decode cX8_sheet 68 = .ok (.iload_n 2, 1) := by decide +kernel
theorem dX8_sheet_69 : decode cX8_sheet 69 = .ok (.iastore, 1) := by decide +kernel
theorem dX8_sheet_70 : decode cX8_sheet 70 = .ok (.aload_n 0, 1) := by decide +kernel
theorem dX8_sheet_71 : decode cX8_sheet 71 = .ok (.getfield 47, 3) := by decide +kernel
theorem dX8_sheet_74 : decode cX8_sheet 74 = .ok (.iload_n 1, 1) := by decide +kernel
theorem dX8_sheet_75 : decode cX8_sheet 75 = .ok (.iload_n 2, 1) := by decide +kernel
theorem dX8_sheet_76 : decode cX8_sheet 76 = .ok (.ifCond .ne 7, 3) := by decide +kernel
theorem dX8_sheet_79 : decode cX8_sheet 79 = .ok (.iconst 0, 1) := by decide +kernel
theorem dX8_sheet_80 : decode cX8_sheet 80 = .ok (.goto 4, 3) := by decide +kernel
theorem dX8_sheet_83 : decode cX8_sheet 83 = .ok (.iload_n 3, 1) := by decide +kernel
theorem dX8_sheet_84 : decode cX8_sheet 84 = .ok (.iastore, 1) := by decide +kernel
theorem dX8_sheet_85 : decode cX8_sheet 85 = .ok (.iconst 0, 1) := by decide +kernel
theorem dX8_sheet_86 : decode cX8_sheet 86 = .ok (.istore 4, 2) := by decide +kernel
theorem dX8_sheet_88 : decode cX8_sheet 88 = .ok (.iload 4, 2) := by decide +kernel
theorem dX8_sheet_90 : decode cX8_sheet 90 = .ok (.bipush 36, 2) := by decide +kernel
theorem dX8_sheet_92 : decode cX8_sheet 92 = .ok (.if_icmp .ge 22, 3) := by decide +kernel
theorem dX8_sheet_95 : decode cX8_sheet 95 = .ok (.aload_n 0, 1) := by decide +kernel
theorem dX8_sheet_96 : decode cX8_sheet 96 = .ok (.getfield 50, 3) := by decide +kernel
theorem dX8_sheet_99 : decode cX8_sheet 99 = .ok (.bipush 36, 2) := by decide +kernel
theorem dX8_sheet_101 : decode cX8_sheet 101 = .ok (.iload_n 1, 1) := by decide +kernel
theorem dX8_sheet_102 : decode cX8_sheet 102 = .ok (.imul, 1) := by decide +kernel
theorem dX8_sheet_103 : decode cX8_sheet 103 = .ok (.iload 4, 2) := by decide +kernel
theorem dX8_sheet_105 : decode cX8_sheet 105 = .ok (.iadd, 1) := by decide +kernel
theorem dX8_sheet_106 : decode cX8_sheet 106 = .ok (.iconst 0, 1) := by decide +kernel
theorem dX8_sheet_107 : decode cX8_sheet 107 = .ok (.iastore, 1) := by decide +kernel
theorem dX8_sheet_108 : decode cX8_sheet 108 = .ok (.iinc 4 1, 3) := by decide +kernel
theorem dX8_sheet_111 : decode cX8_sheet 111 = .ok (.goto (-23), 3) := by decide +kernel
theorem dX8_sheet_114 : decode cX8_sheet 114 = .ok (.aload_n 0, 1) := by decide +kernel
theorem dX8_sheet_115 : decode cX8_sheet 115 = .ok (.getfield 47, 3) := by decide +kernel
theorem dX8_sheet_118 : decode cX8_sheet 118 = .ok (.iload_n 1, 1) := by decide +kernel
theorem dX8_sheet_119 : decode cX8_sheet 119 = .ok (.iaload, 1) := by decide +kernel
theorem dX8_sheet_120 : decode cX8_sheet 120 = .ok (.i2l, 1) := by decide +kernel
theorem dX8_sheet_121 : decode cX8_sheet 121 = .ok (.lreturn, 1) := by decide +kernel
theorem dX8_put_0 : decode cX8_put 0 = .ok (.iload_n 1, 1) := by decide +kernel
theorem dX8_put_1 : decode cX8_put 1 = .ok (.invokestatic 208, 3) := by decide +kernel
theorem dX8_put_4 : decode cX8_put 4 = .ok (.ifCond .ne 11, 3) := by decide +kernel
theorem dX8_put_7 : decode cX8_put 7 = .ok (.aload_n 0, 1) := by decide +kernel
theorem dX8_put_8 : decode cX8_put 8 = .ok (.ldc2_w 98, 3) := by decide +kernel
theorem dX8_put_11 : decode cX8_put 11 = .ok (.invokevirtual 100, 3) := by decide +kernel
theorem dX8_put_14 : decode cX8_put 14 = .ok (.lreturn, 1) := by decide +kernel
theorem dX8_put_15 : decode cX8_put 15 = .ok (.aload_n 0, 1) := by decide +kernel
theorem dX8_put_16 : decode cX8_put 16 = .ok (.getfield 44, 3) := by decide +kernel
theorem dX8_put_19 : decode cX8_put 19 = .ok (.iload_n 1, 1) := by decide +kernel
theorem dX8_put_20 : decode cX8_put 20 = .ok (.iaload, 1) := by decide +kernel
theorem dX8_put_21 : decode cX8_put 21 = .ok (.ifCond .ne 11, 3) := by decide +kernel
theorem dX8_put_24 : decode cX8_put 24 = .ok (.aload_n 0, 1) := by decide +kernel
theorem dX8_put_25 : decode cX8_put 25 = .ok (.ldc2_w 211, 3) := by decide +kernel
theorem dX8_put_28 : decode cX8_put 28 = .ok (.invokevirtual 100, 3) := by decide +kernel
theorem dX8_put_31 : decode cX8_put 31 = .ok (.lreturn, 1) := by decide +kernel
theorem dX8_put_32 : decode cX8_put 32 = .ok (.iload_n 2, 1) := by decide +kernel
theorem dX8_put_33 : decode cX8_put 33 = .ok (.i2l, 1) := by decide +kernel
theorem dX8_put_34 : decode cX8_put 34 = .ok (.lconst 0, 1) := by decide +kernel
theorem dX8_put_35 : decode cX8_put 35 = .ok (.aload_n 0, 1) := by decide +kernel
theorem dX8_put_36 : decode cX8_put 36 = .ok (.getfield 47, 3) := by decide +kernel
theorem dX8_put_39 : decode cX8_put 39 = .ok (.iload_n 1, 1) := by decide +kernel
theorem dX8_put_40 : decode cX8_put 40 = .ok (.iaload, 1) := by decide +kernel
theorem dX8_put_41 : decode cX8_put 41 = .ok (.iconst 1, 1) := by decide +kernel
theorem dX8_put_42 : decode cX8_put 42 = .ok (.isub, 1) := by decide +kernel
theorem dX8_put_43 : decode cX8_put 43 = .ok (.i2l, 1) := by decide +kernel
theorem dX8_put_44 : decode cX8_put 44 = .ok (.invokestatic 86, 3) := by decide +kernel
theorem dX8_put_47 : decode cX8_put 47 = .ok (.ifCond .ne 11, 3) := by decide +kernel
theorem dX8_put_50 : decode cX8_put 50 = .ok (.aload_n 0, 1) := by decide +kernel
theorem dX8_put_51 : decode cX8_put 51 = .ok (.ldc2_w 98, 3) := by decide +kernel
theorem dX8_put_54 : decode cX8_put 54 = .ok (.invokevirtual 100, 3) := by decide +kernel
theorem dX8_put_57 : decode cX8_put 57 = .ok (.lreturn, 1) := by decide +kernel
theorem dX8_put_58 : decode cX8_put 58 = .ok (.aload_n 0, 1) := by decide +kernel
theorem dX8_put_59 : decode cX8_put 59 = .ok (.getfield 50, 3) := by decide +kernel
theorem dX8_put_62 : decode cX8_put 62 = .ok (.bipush 36, 2) := by decide +kernel
theorem dX8_put_64 : decode cX8_put 64 = .ok (.iload_n 1, 1) := by decide +kernel
theorem dX8_put_65 : decode cX8_put 65 = .ok (.imul, 1) := by decide +kernel
theorem dX8_put_66 : decode cX8_put 66 = .ok (.iload_n 2, 1) := by decide +kernel
theorem dX8_put_67 : decode cX8_put 67 = .ok (.iadd, 1) := by decide +kernel
theorem dX8_put_68 : decode cX8_put 68 = .ok (.aload_n 0, 1) := by decide +kernel
theorem dX8_put_69 : decode cX8_put 69 = .ok (.getfield 44, 3) := by decide +kernel
theorem dX8_put_72 : decode cX8_put 72 = .ok (.iload_n 1, 1) := by decide +kernel
theorem dX8_put_73 : decode cX8_put 73 = .ok (.iaload, 1) := by decide +kernel
theorem dX8_put_74 : decode cX8_put 74 = .ok (.bipush 8, 2) := by decide +kernel
theorem dX8_put_76 : decode cX8_put 76 = .ok (.if_icmp .ne 8, 3) := by decide +kernel
theorem dX8_put_79 : decode cX8_put 79 = .ok (.iload_n 3, 1) := by decide +kernel
theorem dX8_put_80 : decode cX8_put 80 = .ok (.i2b, 1) := by decide +kernel
theorem dX8_put_81 : decode cX8_put 81 = .ok (.goto 20, 3) := by decide +kernel
theorem dX8_put_84 : decode cX8_put 84 = .ok (.aload_n 0, 1) := by decide +kernel
theorem dX8_put_85 : decode cX8_put 85 = .ok (.getfield 44, 3) := by decide +kernel
theorem dX8_put_88 : decode cX8_put 88 = .ok (.iload_n 1, 1) := by decide +kernel
theorem dX8_put_89 : decode cX8_put 89 = .ok (.iaload, 1) := by decide +kernel
theorem dX8_put_90 : decode cX8_put 90 = .ok (.bipush 16, 2) := by decide +kernel
theorem dX8_put_92 : decode cX8_put 92 = .ok (.if_icmp .ne 8, 3) := by decide +kernel
theorem dX8_put_95 : decode cX8_put 95 = .ok (.iload_n 3, 1) := by decide +kernel
theorem dX8_put_96 : decode cX8_put 96 = .ok (.i2s, 1) := by decide +kernel
theorem dX8_put_97 : decode cX8_put 97 = .ok (.goto 4, 3) := by decide +kernel
theorem dX8_put_100 : decode cX8_put 100 = .ok (.iload_n 3, 1) := by decide +kernel
theorem dX8_put_101 : decode cX8_put 101 = .ok (.iastore, 1) := by decide +kernel
theorem dX8_put_102 : decode cX8_put 102 = .ok (.lconst 0, 1) := by decide +kernel
theorem dX8_put_103 : decode cX8_put 103 = .ok (.lreturn, 1) := by decide +kernel
theorem dX8_copy_0 : decode cX8_copy 0 = .ok (.iload_n 1, 1) := by decide +kernel
theorem dX8_copy_1 : decode cX8_copy 1 = .ok (.invokestatic 208, 3) := by decide +kernel
theorem dX8_copy_4 : decode cX8_copy 4 = .ok (.ifCond .eq 10, 3) := by decide +kernel
theorem dX8_copy_7 : decode cX8_copy 7 = .ok (.iload_n 3, 1) := by decide +kernel
theorem dX8_copy_8 : decode cX8_copy 8 = .ok (.invokestatic 208, 3) := by decide +kernel
theorem dX8_copy_11 : decode cX8_copy 11 = .ok (.ifCond .ne 11, 3) := by decide +kernel
theorem dX8_copy_14 : decode cX8_copy 14 = .ok (.aload_n 0, 1) := by decide +kernel
theorem dX8_copy_15 : decode cX8_copy 15 = .ok (.ldc2_w 98, 3) := by decide +kernel
theorem dX8_copy_18 : decode cX8_copy 18 = .ok (.invokevirtual 100, 3) := by decide +kernel
theorem dX8_copy_21 : decode cX8_copy 21 = .ok (.lreturn, 1) := by decide +kernel
theorem dX8_copy_22 : decode cX8_copy 22 = .ok (.aload_n 0, 1) := by decide +kernel
theorem dX8_copy_23 : decode cX8_copy 23 = .ok (.getfield 44, 3) := by decide +kernel
theorem dX8_copy_26 : decode cX8_copy 26 = .ok (.iload_n 1, 1) := by decide +kernel
theorem dX8_copy_27 : decode cX8_copy 27 = .ok (.iaload, 1) := by decide +kernel
theorem dX8_copy_28 : decode cX8_copy 28 = .ok (.ifCond .eq 12, 3) := by decide +kernel
theorem dX8_copy_31 : decode cX8_copy 31 = .ok (.aload_n 0, 1) := by decide +kernel
theorem dX8_copy_32 : decode cX8_copy 32 = .ok (.getfield 44, 3) := by decide +kernel
theorem dX8_copy_35 : decode cX8_copy 35 = .ok (.iload_n 3, 1) := by decide +kernel
theorem dX8_copy_36 : decode cX8_copy 36 = .ok (.iaload, 1) := by decide +kernel
theorem dX8_copy_37 : decode cX8_copy 37 = .ok (.ifCond .ne 11, 3) := by decide +kernel
theorem dX8_copy_40 : decode cX8_copy 40 = .ok (.aload_n 0, 1) := by decide +kernel
theorem dX8_copy_41 : decode cX8_copy 41 = .ok (.ldc2_w 211, 3) := by decide +kernel
theorem dX8_copy_44 : decode cX8_copy 44 = .ok (.invokevirtual 100, 3) := by decide +kernel
theorem dX8_copy_47 : decode cX8_copy 47 = .ok (.lreturn, 1) := by decide +kernel
theorem dX8_copy_48 : decode cX8_copy 48 = .ok (.aload_n 0, 1) := by decide +kernel
theorem dX8_copy_49 : decode cX8_copy 49 = .ok (.getfield 44, 3) := by decide +kernel
theorem dX8_copy_52 : decode cX8_copy 52 = .ok (.iload_n 1, 1) := by decide +kernel
theorem dX8_copy_53 : decode cX8_copy 53 = .ok (.iaload, 1) := by decide +kernel
theorem dX8_copy_54 : decode cX8_copy 54 = .ok (.aload_n 0, 1) := by decide +kernel
theorem dX8_copy_55 : decode cX8_copy 55 = .ok (.getfield 44, 3) := by decide +kernel
theorem dX8_copy_58 : decode cX8_copy 58 = .ok (.iload_n 3, 1) := by decide +kernel
theorem dX8_copy_59 : decode cX8_copy 59 = .ok (.iaload, 1) := by decide +kernel
theorem dX8_copy_60 : decode cX8_copy 60 = .ok (.if_icmp .eq 11, 3) := by decide +kernel
theorem dX8_copy_63 : decode cX8_copy 63 = .ok (.aload_n 0, 1) := by decide +kernel
theorem dX8_copy_64 : decode cX8_copy 64 = .ok (.ldc2_w 110, 3) := by decide +kernel
theorem dX8_copy_67 : decode cX8_copy 67 = .ok (.invokevirtual 100, 3) := by decide +kernel
theorem dX8_copy_70 : decode cX8_copy 70 = .ok (.lreturn, 1) := by decide +kernel
theorem dX8_copy_71 : decode cX8_copy 71 = .ok (.iload_n 2, 1) := by decide +kernel
theorem dX8_copy_72 : decode cX8_copy 72 = .ok (.ifCond .lt 48, 3) := by decide +kernel
theorem dX8_copy_75 : decode cX8_copy 75 = .ok (.iload 4, 2) := by decide +kernel
theorem dX8_copy_77 : decode cX8_copy 77 = .ok (.ifCond .lt 43, 3) := by decide +kernel
theorem dX8_copy_80 : decode cX8_copy 80 = .ok (.iload 5, 2) := by decide +kernel
theorem dX8_copy_82 : decode cX8_copy 82 = .ok (.ifCond .lt 38, 3) := by decide +kernel
theorem dX8_copy_85 : decode cX8_copy 85 = .ok (.iload_n 2, 1) := by decide +kernel
theorem dX8_copy_86 : decode cX8_copy 86 = .ok (.i2l, 1) := by decide +kernel
theorem dX8_copy_87 : decode cX8_copy 87 = .ok (.iload 5, 2) := by decide +kernel
theorem dX8_copy_89 : decode cX8_copy 89 = .ok (.i2l, 1) := by decide +kernel
theorem dX8_copy_90 : decode cX8_copy 90 = .ok (.ladd, 1) := by decide +kernel
theorem dX8_copy_91 : decode cX8_copy 91 = .ok (.aload_n 0, 1) := by decide +kernel
theorem dX8_copy_92 : decode cX8_copy 92 = .ok (.getfield 47, 3) := by decide +kernel
theorem dX8_copy_95 : decode cX8_copy 95 = .ok (.iload_n 1, 1) := by decide +kernel
theorem dX8_copy_96 : decode cX8_copy 96 = .ok (.iaload, 1) := by decide +kernel
theorem dX8_copy_97 : decode cX8_copy 97 = .ok (.i2l, 1) := by decide +kernel
theorem dX8_copy_98 : decode cX8_copy 98 = .ok (.lcmp, 1) := by decide +kernel
theorem dX8_copy_99 : decode cX8_copy 99 = .ok (.ifCond .gt 21, 3) := by decide +kernel
theorem dX8_copy_102 : decode cX8_copy 102 = .ok (.iload 4, 2) := by decide +kernel
theorem dX8_copy_104 : decode cX8_copy 104 = .ok (.i2l, 1) := by decide +kernel
theorem dX8_copy_105 : decode cX8_copy 105 = .ok (.iload 5, 2) := by decide +kernel
theorem dX8_copy_107 : decode cX8_copy 107 = .ok (.i2l, 1) := by decide +kernel
theorem dX8_copy_108 : decode cX8_copy 108 = .ok (.ladd, 1) := by decide +kernel
theorem dX8_copy_109 : decode cX8_copy 109 = .ok (.aload_n 0, 1) := by decide +kernel
theorem dX8_copy_110 : decode cX8_copy 110 = .ok (.getfield 47, 3) := by decide +kernel
theorem dX8_copy_113 : decode cX8_copy 113 = .ok (.iload_n 3, 1) := by decide +kernel
theorem dX8_copy_114 : decode cX8_copy 114 = .ok (.iaload, 1) := by decide +kernel
theorem dX8_copy_115 : decode cX8_copy 115 = .ok (.i2l, 1) := by decide +kernel
theorem dX8_copy_116 : decode cX8_copy 116 = .ok (.lcmp, 1) := by decide +kernel
theorem dX8_copy_117 : decode cX8_copy 117 = .ok (.ifCond .le 11, 3) := by decide +kernel
theorem dX8_copy_120 : decode cX8_copy 120 = .ok (.aload_n 0, 1) := by decide +kernel
theorem dX8_copy_121 : decode cX8_copy 121 = .ok (.ldc2_w 98, 3) := by decide +kernel
theorem dX8_copy_124 : decode cX8_copy 124 = .ok (.invokevirtual 100, 3) := by decide +kernel
theorem dX8_copy_127 : decode cX8_copy 127 = .ok (.lreturn, 1) := by decide +kernel
theorem dX8_copy_128 : decode cX8_copy 128 = .ok (.iconst 0, 1) := by decide +kernel
theorem dX8_copy_129 : decode cX8_copy 129 = .ok (.istore 6, 2) := by decide +kernel
theorem dX8_copy_131 : decode cX8_copy 131 = .ok (.iload 6, 2) := by decide +kernel
theorem dX8_copy_133 : decode cX8_copy 133 = .ok (.iload 5, 2) := by decide +kernel
theorem dX8_copy_135 : decode cX8_copy 135 = .ok (.if_icmp .ge 30, 3) := by decide +kernel
theorem dX8_copy_138 : decode cX8_copy 138 = .ok (.aload_n 0, 1) := by decide +kernel
theorem dX8_copy_139 : decode cX8_copy 139 = .ok (.getfield 75, 3) := by decide +kernel
theorem dX8_copy_142 : decode cX8_copy 142 = .ok (.iload 6, 2) := by decide +kernel
theorem dX8_copy_144 : decode cX8_copy 144 = .ok (.aload_n 0, 1) := by decide +kernel
theorem dX8_copy_145 : decode cX8_copy 145 = .ok (.getfield 50, 3) := by decide +kernel
theorem dX8_copy_148 : decode cX8_copy 148 = .ok (.bipush 36, 2) := by decide +kernel
theorem dX8_copy_150 : decode cX8_copy 150 = .ok (.iload_n 1, 1) := by decide +kernel
theorem dX8_copy_151 : decode cX8_copy 151 = .ok (.imul, 1) := by decide +kernel
theorem dX8_copy_152 : decode cX8_copy 152 = .ok (.iload_n 2, 1) := by decide +kernel
theorem dX8_copy_153 : decode cX8_copy 153 = .ok (.iadd, 1) := by decide +kernel
theorem dX8_copy_154 : decode cX8_copy 154 = .ok (.iload 6, 2) := by decide +kernel
theorem dX8_copy_156 : decode cX8_copy 156 = .ok (.iadd, 1) := by decide +kernel
theorem dX8_copy_157 : decode cX8_copy 157 = .ok (.iaload, 1) := by decide +kernel
theorem dX8_copy_158 : decode cX8_copy 158 = .ok (.iastore, 1) := by decide +kernel
theorem dX8_copy_159 : decode cX8_copy 159 = .ok (.iinc 6 1, 3) := by decide +kernel
theorem dX8_copy_162 : decode cX8_copy 162 = .ok (.goto (-31), 3) := by decide +kernel
theorem dX8_copy_165 : decode cX8_copy 165 = .ok (.iconst 0, 1) := by decide +kernel
theorem dX8_copy_166 : decode cX8_copy 166 = .ok (.istore 6, 2) := by decide +kernel
theorem dX8_copy_168 : decode cX8_copy 168 = .ok (.iload 6, 2) := by decide +kernel
theorem dX8_copy_170 : decode cX8_copy 170 = .ok (.iload 5, 2) := by decide +kernel
theorem dX8_copy_172 : decode cX8_copy 172 = .ok (.if_icmp .ge 31, 3) := by decide +kernel
theorem dX8_copy_175 : decode cX8_copy 175 = .ok (.aload_n 0, 1) := by decide +kernel
theorem dX8_copy_176 : decode cX8_copy 176 = .ok (.getfield 50, 3) := by decide +kernel
theorem dX8_copy_179 : decode cX8_copy 179 = .ok (.bipush 36, 2) := by decide +kernel
theorem dX8_copy_181 : decode cX8_copy 181 = .ok (.iload_n 3, 1) := by decide +kernel
theorem dX8_copy_182 : decode cX8_copy 182 = .ok (.imul, 1) := by decide +kernel
theorem dX8_copy_183 : decode cX8_copy 183 = .ok (.iload 4, 2) := by decide +kernel
theorem dX8_copy_185 : decode cX8_copy 185 = .ok (.iadd, 1) := by decide +kernel
theorem dX8_copy_186 : decode cX8_copy 186 = .ok (.iload 6, 2) := by decide +kernel
theorem dX8_copy_188 : decode cX8_copy 188 = .ok (.iadd, 1) := by decide +kernel
theorem dX8_copy_189 : decode cX8_copy 189 = .ok (.aload_n 0, 1) := by decide +kernel
theorem dX8_copy_190 : decode cX8_copy 190 = .ok (.getfield 75, 3) := by decide +kernel
theorem dX8_copy_193 : decode cX8_copy 193 = .ok (.iload 6, 2) := by decide +kernel
theorem dX8_copy_195 : decode cX8_copy 195 = .ok (.iaload, 1) := by decide +kernel
theorem dX8_copy_196 : decode cX8_copy 196 = .ok (.iastore, 1) := by decide +kernel
theorem dX8_copy_197 : decode cX8_copy 197 = .ok (.iinc 6 1, 3) := by decide +kernel
theorem dX8_copy_200 : decode cX8_copy 200 = .ok (.goto (-32), 3) := by decide +kernel
theorem dX8_copy_203 : decode cX8_copy 203 = .ok (.iload 5, 2) := by decide +kernel
theorem dX8_copy_205 : decode cX8_copy 205 = .ok (.i2l, 1) := by decide +kernel
theorem dX8_copy_206 : decode cX8_copy 206 = .ok (.lreturn, 1) := by decide +kernel
theorem dX8_lay_0 : decode cX8_lay 0 = .ok (.iload_n 1, 1) := by decide +kernel
theorem dX8_lay_1 : decode cX8_lay 1 = .ok (.invokestatic 187, 3) := by decide +kernel
theorem dX8_lay_4 : decode cX8_lay 4 = .ok (.ifCond .eq 10, 3) := by decide +kernel
theorem dX8_lay_7 : decode cX8_lay 7 = .ok (.iload_n 2, 1) := by decide +kernel
theorem dX8_lay_8 : decode cX8_lay 8 = .ok (.invokestatic 208, 3) := by decide +kernel
theorem dX8_lay_11 : decode cX8_lay 11 = .ok (.ifCond .ne 11, 3) := by decide +kernel
theorem dX8_lay_14 : decode cX8_lay 14 = .ok (.aload_n 0, 1) := by decide +kernel
theorem dX8_lay_15 : decode cX8_lay 15 = .ok (.ldc2_w 98, 3) := by decide +kernel
theorem dX8_lay_18 : decode cX8_lay 18 = .ok (.invokevirtual 100, 3) := by decide +kernel
theorem dX8_lay_21 : decode cX8_lay 21 = .ok (.lreturn, 1) := by decide +kernel
theorem dX8_lay_22 : decode cX8_lay 22 = .ok (.aload_n 0, 1) := by decide +kernel
theorem dX8_lay_23 : decode cX8_lay 23 = .ok (.getfield 44, 3) := by decide +kernel
theorem dX8_lay_26 : decode cX8_lay 26 = .ok (.iload_n 2, 1) := by decide +kernel
theorem dX8_lay_27 : decode cX8_lay 27 = .ok (.iaload, 1) := by decide +kernel
theorem dX8_lay_28 : decode cX8_lay 28 = .ok (.ifCond .ne 11, 3) := by decide +kernel
theorem dX8_lay_31 : decode cX8_lay 31 = .ok (.aload_n 0, 1) := by decide +kernel
theorem dX8_lay_32 : decode cX8_lay 32 = .ok (.ldc2_w 211, 3) := by decide +kernel
theorem dX8_lay_35 : decode cX8_lay 35 = .ok (.invokevirtual 100, 3) := by decide +kernel
theorem dX8_lay_38 : decode cX8_lay 38 = .ok (.lreturn, 1) := by decide +kernel
theorem dX8_lay_39 : decode cX8_lay 39 = .ok (.iconst 0, 1) := by decide +kernel
theorem dX8_lay_40 : decode cX8_lay 40 = .ok (.istore_n 3, 1) := by decide +kernel
theorem dX8_lay_41 : decode cX8_lay 41 = .ok (.iload_n 3, 1) := by decide +kernel
theorem dX8_lay_42 : decode cX8_lay 42 = .ok (.bipush 36, 2) := by decide +kernel
theorem dX8_lay_44 : decode cX8_lay 44 = .ok (.if_icmp .ge 90, 3) := by decide +kernel
theorem dX8_lay_47 : decode cX8_lay 47 = .ok (.iload_n 3, 1) := by decide +kernel
theorem dX8_lay_48 : decode cX8_lay 48 = .ok (.aload_n 0, 1) := by decide +kernel
theorem dX8_lay_49 : decode cX8_lay 49 = .ok (.getfield 47, 3) := by decide +kernel
theorem dX8_lay_52 : decode cX8_lay 52 = .ok (.iload_n 2, 1) := by decide +kernel
theorem dX8_lay_53 : decode cX8_lay 53 = .ok (.iaload, 1) := by decide +kernel
theorem dX8_lay_54 : decode cX8_lay 54 = .ok (.if_icmp .ge 17, 3) := by decide +kernel
theorem dX8_lay_57 : decode cX8_lay 57 = .ok (.aload_n 0, 1) := by decide +kernel
theorem dX8_lay_58 : decode cX8_lay 58 = .ok (.getfield 50, 3) := by decide +kernel
theorem dX8_lay_61 : decode cX8_lay 61 = .ok (.bipush 36, 2) := by decide +kernel
theorem dX8_lay_63 : decode cX8_lay 63 = .ok (.iload_n 2, 1) := by decide +kernel
theorem dX8_lay_64 : decode cX8_lay 64 = .ok (.imul, 1) := by decide +kernel
theorem dX8_lay_65 : decode cX8_lay 65 = .ok (.iload_n 3, 1) := by decide +kernel
theorem dX8_lay_66 : decode cX8_lay 66 = .ok (.iadd, 1) := by decide +kernel
theorem dX8_lay_67 : decode cX8_lay 67 = .ok (.iaload, 1) := by decide +kernel
theorem dX8_lay_68 : decode cX8_lay 68 = .ok (.goto 4, 3) := by decide +kernel
theorem dX8_lay_71 : decode cX8_lay 71 = .ok (.iconst (-1), 1) := by decide +kernel
theorem dX8_lay_72 : decode cX8_lay 72 = .ok (.istore 4, 2) := by decide +kernel
theorem dX8_lay_74 : decode cX8_lay 74 = .ok (.iload 4, 2) := by decide +kernel
theorem dX8_lay_76 : decode cX8_lay 76 = .ok (.bipush 10, 2) := by decide +kernel
theorem dX8_lay_78 : decode cX8_lay 78 = .ok (.if_icmp .eq 21, 3) := by decide +kernel
theorem dX8_lay_81 : decode cX8_lay 81 = .ok (.aload_n 0, 1) := by decide +kernel
theorem dX8_lay_82 : decode cX8_lay 82 = .ok (.iload 4, 2) := by decide +kernel
theorem dX8_lay_84 : decode cX8_lay 84 = .ok (.invokevirtual 106, 3) := by decide +kernel
theorem dX8_lay_87 : decode cX8_lay 87 = .ok (.ifCond .eq 16, 3) := by decide +kernel
theorem dX8_lay_90 : decode cX8_lay 90 = .ok (.aload_n 0, 1) := by decide +kernel
theorem dX8_lay_91 : decode cX8_lay 91 = .ok (.iload 4, 2) := by decide +kernel
theorem dX8_lay_93 : decode cX8_lay 93 = .ok (.invokevirtual 118, 3) := by decide +kernel
theorem dX8_lay_96 : decode cX8_lay 96 = .ok (.ifCond .ne 7, 3) := by decide +kernel
theorem dX8_lay_99 : decode cX8_lay 99 = .ok (.iconst 1, 1) := by decide +kernel
theorem dX8_lay_100 : decode cX8_lay 100 = .ok (.goto 4, 3) := by decide +kernel
theorem dX8_lay_103 : decode cX8_lay 103 = .ok (.iconst 0, 1) := by decide +kernel
theorem dX8_lay_104 : decode cX8_lay 104 = .ok (.istore 5, 2) := by decide +kernel
theorem dX8_lay_106 : decode cX8_lay 106 = .ok (.aload_n 0, 1) := by decide +kernel
theorem dX8_lay_107 : decode cX8_lay 107 = .ok (.getfield 32, 3) := by decide +kernel
theorem dX8_lay_110 : decode cX8_lay 110 = .ok (.bipush 36, 2) := by decide +kernel
theorem dX8_lay_112 : decode cX8_lay 112 = .ok (.iload_n 1, 1) := by decide +kernel
theorem dX8_lay_113 : decode cX8_lay 113 = .ok (.imul, 1) := by decide +kernel
theorem dX8_lay_114 : decode cX8_lay 114 = .ok (.iload_n 3, 1) := by decide +kernel
theorem dX8_lay_115 : decode cX8_lay 115 = .ok (.iadd, 1) := by decide +kernel
theorem dX8_lay_116 : decode cX8_lay 116 = .ok (.iload 5, 2) := by decide +kernel
theorem dX8_lay_118 : decode cX8_lay 118 = .ok (.ifCond .eq 8, 3) := by decide +kernel
theorem dX8_lay_121 : decode cX8_lay 121 = .ok (.iload 4, 2) := by decide +kernel
theorem dX8_lay_123 : decode cX8_lay 123 = .ok (.goto 4, 3) := by decide +kernel
theorem dX8_lay_126 : decode cX8_lay 126 = .ok (.iconst (-1), 1) := by decide +kernel
theorem dX8_lay_127 : decode cX8_lay 127 = .ok (.iastore, 1) := by decide +kernel
theorem dX8_lay_128 : decode cX8_lay 128 = .ok (.iinc 3 1, 3) := by decide +kernel
theorem dX8_lay_131 : decode cX8_lay 131 = .ok (.goto (-90), 3) := by decide +kernel
theorem dX8_lay_134 : decode cX8_lay 134 = .ok (.aload_n 0, 1) := by decide +kernel
theorem dX8_lay_135 : decode cX8_lay 135 = .ok (.iload_n 1, 1) := by decide +kernel
theorem dX8_lay_136 : decode cX8_lay 136 = .ok (.invokevirtual 190, 3) := by decide +kernel
theorem dX8_lay_139 : decode cX8_lay 139 = .ok (.i2l, 1) := by decide +kernel
theorem dX8_lay_140 : decode cX8_lay 140 = .ok (.lreturn, 1) := by decide +kernel
theorem dX8_told_0 : decode cX8_told 0 = .ok (.iconst 0, 1) := by decide +kernel
theorem dX8_told_1 : decode cX8_told 1 = .ok (.istore_n 2, 1) := by decide +kernel
theorem dX8_told_2 : decode cX8_told 2 = .ok (.iload_n 1, 1) := by decide +kernel
theorem dX8_told_3 : decode cX8_told 3 = .ok (.tableswitch 96 0 4 #[33, 39, 45, 85, 91], 33) := by decide +kernel
theorem dX8_told_36 : decode cX8_told 36 = .ok (.aload_n 0, 1) := by decide +kernel
theorem dX8_told_37 : decode cX8_told 37 = .ok (.getfield 82, 3) := by decide +kernel
theorem dX8_told_40 : decode cX8_told 40 = .ok (.i2l, 1) := by decide +kernel
theorem dX8_told_41 : decode cX8_told 41 = .ok (.lreturn, 1) := by decide +kernel
theorem dX8_told_42 : decode cX8_told 42 = .ok (.aload_n 0, 1) := by decide +kernel
theorem dX8_told_43 : decode cX8_told 43 = .ok (.getfield 112, 3) := by decide +kernel
theorem dX8_told_46 : decode cX8_told 46 = .ok (.i2l, 1) := by decide +kernel
theorem dX8_told_47 : decode cX8_told 47 = .ok (.lreturn, 1) := by decide +kernel
theorem dX8_told_48 : decode cX8_told 48 = .ok (.aload_n 0, 1) := by decide +kernel
theorem dX8_told_49 : decode cX8_told 49 = .ok (.invokevirtual 142, 3) := by decide +kernel
theorem dX8_told_52 : decode cX8_told 52 = .ok (.iconst 0, 1) := by decide +kernel
theorem dX8_told_53 : decode cX8_told 53 = .ok (.istore_n 3, 1) := by decide +kernel
theorem dX8_told_54 : decode cX8_told 54 = .ok (.iload_n 3, 1) := by decide +kernel
theorem dX8_told_55 : decode cX8_told 55 = .ok (.aload_n 0, 1) := by decide +kernel
theorem dX8_told_56 : decode cX8_told 56 = .ok (.getfield 112, 3) := by decide +kernel
theorem dX8_told_59 : decode cX8_told 59 = .ok (.if_icmp .ge 26, 3) := by decide +kernel
theorem dX8_told_62 : decode cX8_told 62 = .ok (.iload_n 2, 1) := by decide +kernel
theorem dX8_told_63 : decode cX8_told 63 = .ok (.aload_n 0, 1) := by decide +kernel
theorem dX8_told_64 : decode cX8_told 64 = .ok (.getfield 72, 3) := by decide +kernel
theorem dX8_told_67 : decode cX8_told 67 = .ok (.iload_n 3, 1) := by decide +kernel
theorem dX8_told_68 : decode cX8_told 68 = .ok (.baload, 1) := by decide +kernel
theorem dX8_told_69 : decode cX8_told 69 = .ok (.ifCond .eq 7, 3) := by decide +kernel
theorem dX8_told_72 : decode cX8_told 72 = .ok (.iconst 1, 1) := by decide +kernel
theorem dX8_told_73 : decode cX8_told 73 = .ok (.goto 4, 3) := by decide +kernel
theorem dX8_told_76 : decode cX8_told 76 = .ok (.iconst 0, 1) := by decide +kernel
theorem dX8_told_77 : decode cX8_told 77 = .ok (.iadd, 1) := by decide +kernel
theorem dX8_told_78 : decode cX8_told 78 = .ok (.istore_n 2, 1) := by decide +kernel
theorem dX8_told_79 : decode cX8_told 79 = .ok (.iinc 3 1, 3) := by decide +kernel
theorem dX8_told_82 : decode cX8_told 82 = .ok (.goto (-28), 3) := by decide +kernel
theorem dX8_told_85 : decode cX8_told 85 = .ok (.iload_n 2, 1) := by decide +kernel
theorem dX8_told_86 : decode cX8_told 86 = .ok (.i2l, 1) := by decide +kernel
theorem dX8_told_87 : decode cX8_told 87 = .ok (.lreturn, 1) := by decide +kernel
theorem dX8_told_88 : decode cX8_told 88 = .ok (.aload_n 0, 1) := by decide +kernel
theorem dX8_told_89 : decode cX8_told 89 = .ok (.getfield 198, 3) := by decide +kernel
theorem dX8_told_92 : decode cX8_told 92 = .ok (.i2l, 1) := by decide +kernel
theorem dX8_told_93 : decode cX8_told 93 = .ok (.lreturn, 1) := by decide +kernel
theorem dX8_told_94 : decode cX8_told 94 = .ok (.aload_n 0, 1) := by decide +kernel
theorem dX8_told_95 : decode cX8_told 95 = .ok (.getfield 78, 3) := by decide +kernel
theorem dX8_told_98 : decode cX8_told 98 = .ok (.lreturn, 1) := by decide +kernel
theorem dX8_told_99 : decode cX8_told 99 = .ok (.aload_n 0, 1) := by decide +kernel
theorem dX8_told_100 : decode cX8_told 100 = .ok (.ldc2_w 98, 3) := by decide +kernel
theorem dX8_told_103 : decode cX8_told 103 = .ok (.invokevirtual 100, 3) := by decide +kernel
theorem dX8_told_106 : decode cX8_told 106 = .ok (.lreturn, 1) := by decide +kernel
theorem dJ13_bitCount_95d88_0 : decode cJ13_bitCount_95d88 0 = .ok (.lload_n 0, 1) := by decide +kernel
theorem dJ13_bitCount_95d88_1 : decode cJ13_bitCount_95d88 1 = .ok (.lload_n 0, 1) := by decide +kernel
theorem dJ13_bitCount_95d88_2 : decode cJ13_bitCount_95d88 2 = .ok (.iconst 1, 1) := by decide +kernel
theorem dJ13_bitCount_95d88_3 : decode cJ13_bitCount_95d88 3 = .ok (.lushr, 1) := by decide +kernel
theorem dJ13_bitCount_95d88_4 : decode cJ13_bitCount_95d88 4 = .ok (.ldc2_w 314, 3) := by decide +kernel
theorem dJ13_bitCount_95d88_7 : decode cJ13_bitCount_95d88 7 = .ok (.land, 1) := by decide +kernel
theorem dJ13_bitCount_95d88_8 : decode cJ13_bitCount_95d88 8 = .ok (.lsub, 1) := by decide +kernel
theorem dJ13_bitCount_95d88_9 : decode cJ13_bitCount_95d88 9 = .ok (.lstore_n 0, 1) := by decide +kernel
theorem dJ13_bitCount_95d88_10 : decode cJ13_bitCount_95d88 10 = .ok (.lload_n 0, 1) := by decide +kernel
theorem dJ13_bitCount_95d88_11 : decode cJ13_bitCount_95d88 11 = .ok (.ldc2_w 316, 3) := by decide +kernel
theorem dJ13_bitCount_95d88_14 : decode cJ13_bitCount_95d88 14 = .ok (.land, 1) := by decide +kernel
theorem dJ13_bitCount_95d88_15 : decode cJ13_bitCount_95d88 15 = .ok (.lload_n 0, 1) := by decide +kernel
theorem dJ13_bitCount_95d88_16 : decode cJ13_bitCount_95d88 16 = .ok (.iconst 2, 1) := by decide +kernel
theorem dJ13_bitCount_95d88_17 : decode cJ13_bitCount_95d88 17 = .ok (.lushr, 1) := by decide +kernel
theorem dJ13_bitCount_95d88_18 : decode cJ13_bitCount_95d88 18 = .ok (.ldc2_w 316, 3) := by decide +kernel
theorem dJ13_bitCount_95d88_21 : decode cJ13_bitCount_95d88 21 = .ok (.land, 1) := by decide +kernel
theorem dJ13_bitCount_95d88_22 : decode cJ13_bitCount_95d88 22 = .ok (.ladd, 1) := by decide +kernel
theorem dJ13_bitCount_95d88_23 : decode cJ13_bitCount_95d88 23 = .ok (.lstore_n 0, 1) := by decide +kernel
theorem dJ13_bitCount_95d88_24 : decode cJ13_bitCount_95d88 24 = .ok (.lload_n 0, 1) := by decide +kernel
theorem dJ13_bitCount_95d88_25 : decode cJ13_bitCount_95d88 25 = .ok (.lload_n 0, 1) := by decide +kernel
theorem dJ13_bitCount_95d88_26 : decode cJ13_bitCount_95d88 26 = .ok (.iconst 4, 1) := by decide +kernel
theorem dJ13_bitCount_95d88_27 : decode cJ13_bitCount_95d88 27 = .ok (.lushr, 1) := by decide +kernel
theorem dJ13_bitCount_95d88_28 : decode cJ13_bitCount_95d88 28 = .ok (.ladd, 1) := by decide +kernel
theorem dJ13_bitCount_95d88_29 : decode cJ13_bitCount_95d88 29 = .ok (.ldc2_w 318, 3) := by decide +kernel
theorem dJ13_bitCount_95d88_32 : decode cJ13_bitCount_95d88 32 = .ok (.land, 1) := by decide +kernel
theorem dJ13_bitCount_95d88_33 : decode cJ13_bitCount_95d88 33 = .ok (.lstore_n 0, 1) := by decide +kernel
theorem dJ13_bitCount_95d88_34 : decode cJ13_bitCount_95d88 34 = .ok (.lload_n 0, 1) := by decide +kernel
theorem dJ13_bitCount_95d88_35 : decode cJ13_bitCount_95d88 35 = .ok (.lload_n 0, 1) := by decide +kernel
theorem dJ13_bitCount_95d88_36 : decode cJ13_bitCount_95d88 36 = .ok (.bipush 8, 2) := by decide +kernel
theorem dJ13_bitCount_95d88_38 : decode cJ13_bitCount_95d88 38 = .ok (.lushr, 1) := by decide +kernel
theorem dJ13_bitCount_95d88_39 : decode cJ13_bitCount_95d88 39 = .ok (.ladd, 1) := by decide +kernel
