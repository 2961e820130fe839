theorem dX0_init_0 : decode cX0_init 0 = .ok (.aload_n 0, 1) := by decide +kernel
theorem dX0_init_1 : decode cX0_init 1 = .ok (.invokespecial 3, 3) := by decide +kernel
theorem dX0_init_4 : decode cX0_init 4 = .ok (.return_, 1) := by decide +kernel
theorem dX0_canBeTurnedBack_0 : decode cX0_canBeTurnedBack 0 = .ok (.aload_n 0, 1) := by decide +kernel
theorem dX0_canBeTurnedBack_1 : decode cX0_canBeTurnedBack 1 = .ok (.getfield 9, 3) := by decide +kernel
theorem dX0_canBeTurnedBack_4 : decode cX0_canBeTurnedBack 4 = .ok (.ifCond .eq 19, 3) := by decide +kernel
theorem dX0_canBeTurnedBack_7 : decode cX0_canBeTurnedBack 7 = .ok (.aload_n 0, 1) := by decide +kernel
theorem dX0_canBeTurnedBack_8 : decode cX0_canBeTurnedBack 8 = .ok (.getfield 9, 3) := by decide +kernel
theorem dX0_canBeTurnedBack_11 : decode cX0_canBeTurnedBack 11 = .ok (.iconst 1, 1) := by decide +kernel
theorem dX0_canBeTurnedBack_12 : decode cX0_canBeTurnedBack 12 = .ok (.if_icmp .eq 11, 3) := by decide +kernel
theorem dX0_canBeTurnedBack_15 : decode cX0_canBeTurnedBack 15 = .ok (.aload_n 0, 1) := by decide +kernel
theorem dX0_canBeTurnedBack_16 : decode cX0_canBeTurnedBack 16 = .ok (.getfield 9, 3) := by decide +kernel
theorem dX0_canBeTurnedBack_19 : decode cX0_canBeTurnedBack 19 = .ok (.iconst 2, 1) := by decide +kernel
theorem dX0_canBeTurnedBack_20 : decode cX0_canBeTurnedBack 20 = .ok (.if_icmp .ne 7, 3) := by decide +kernel
theorem dX0_canBeTurnedBack_23 : decode cX0_canBeTurnedBack 23 = .ok (.iconst 1, 1) := by decide +kernel
theorem dX0_canBeTurnedBack_24 : decode cX0_canBeTurnedBack 24 = .ok (.goto 4, 3) := by decide +kernel
theorem dX0_canBeTurnedBack_27 : decode cX0_canBeTurnedBack 27 = .ok (.iconst 0, 1) := by decide +kernel
theorem dX0_canBeTurnedBack_28 : decode cX0_canBeTurnedBack 28 = .ok (.ireturn, 1) := by decide +kernel
theorem dX0_receiver_0 : decode cX0_receiver 0 = .ok (.aload_n 0, 1) := by decide +kernel
theorem dX0_receiver_1 : decode cX0_receiver 1 = .ok (.getfield 9, 3) := by decide +kernel
theorem dX0_receiver_4 : decode cX0_receiver 4 = .ok (.ifCond .ne 10, 3) := by decide +kernel
theorem dX0_receiver_7 : decode cX0_receiver 7 = .ok (.aload_n 0, 1) := by decide +kernel
theorem dX0_receiver_8 : decode cX0_receiver 8 = .ok (.getfield 15, 3) := by decide +kernel
theorem dX0_receiver_11 : decode cX0_receiver 11 = .ok (.goto 7, 3) := by decide +kernel
theorem dX0_receiver_14 : decode cX0_receiver 14 = .ok (.aload_n 0, 1) := by decide +kernel
theorem dX0_receiver_15 : decode cX0_receiver 15 = .ok (.getfield 18, 3) := by decide +kernel
theorem dX0_receiver_18 : decode cX0_receiver 18 = .ok (.ireturn, 1) := by decide +kernel
theorem dX1_init_0 : decode cX1_init 0 = .ok (.aload_n 0, 1) := by decide +kernel
theorem dX1_init_1 : decode cX1_init 1 = .ok (.invokespecial 3, 3) := by decide +kernel
theorem dX1_init_4 : decode cX1_init 4 = .ok (.aload_n 0, 1) := by decide +kernel
theorem dX1_init_5 : decode cX1_init 5 = .ok (.bipush 11, 2) := by decide +kernel
theorem dX1_init_7 : decode cX1_init 7 = .ok (.newarray .long, 2) := by decide +kernel
theorem dX1_init_9 : decode cX1_init 9 = .ok (.putfield 9, 3) := by decide +kernel
theorem dX1_init_12 : decode cX1_init 12 = .ok (.aload_n 0, 1) := by decide +kernel
theorem dX1_init_13 : decode cX1_init 13 = .ok (.sipush 1000, 3) := by decide +kernel
theorem dX1_init_16 : decode cX1_init 16 = .ok (.putfield 15, 3) := by decide +kernel
theorem dX1_init_19 : decode cX1_init 19 = .ok (.return_, 1) := by decide +kernel
theorem dX1_setClaim_0 : decode cX1_setClaim 0 = .ok (.lconst 1, 1) := by decide +kernel
theorem dX1_setClaim_1 : decode cX1_setClaim 1 = .ok (.iload_n 1, 1) := by decide +kernel
theorem dX1_setClaim_2 : decode cX1_setClaim 2 = .ok (.lshl, 1) := by decide +kernel
theorem dX1_setClaim_3 : decode cX1_setClaim 3 = .ok (.lstore_n 3, 1) := by decide +kernel
theorem dX1_setClaim_4 : decode cX1_setClaim 4 = .ok (.iconst 0, 1) := by decide +kernel
theorem dX1_setClaim_5 : decode cX1_setClaim 5 = .ok (.istore 5, 2) := by decide +kernel
theorem dX1_setClaim_7 : decode cX1_setClaim 7 = .ok (.iload 5, 2) := by decide +kernel
theorem dX1_setClaim_9 : decode cX1_setClaim 9 = .ok (.bipush 11, 2) := by decide +kernel
theorem dX1_setClaim_11 : decode cX1_setClaim 11 = .ok (.if_icmp .ge 24, 3) := by decide +kernel
theorem dX1_setClaim_14 : decode cX1_setClaim 14 = .ok (.aload_n 0, 1) := by decide +kernel
theorem dX1_setClaim_15 : decode cX1_setClaim 15 = .ok (.getfield 9, 3) := by decide +kernel
theorem dX1_setClaim_18 : decode cX1_setClaim 18 = .ok (.iload 5, 2) := by decide +kernel
theorem dX1_setClaim_20 : decode cX1_setClaim 20 = .ok (.dup2, 1) := by decide +kernel
theorem dX1_setClaim_21 : decode cX1_setClaim 21 = .ok (.laload, 1) := by decide +kernel
theorem dX1_setClaim_22 : decode cX1_setClaim 22 = .ok (.lload_n 3, 1) := by decide +kernel
theorem dX1_setClaim_23 : decode cX1_setClaim 23 = .ok (.ldc2_w 19, 3) := by decide +kernel
theorem dX1_setClaim_26 : decode cX1_setClaim 26 = .ok (.lxor, 1) := by decide +kernel
theorem dX1_setClaim_27 : decode cX1_setClaim 27 = .ok (.land, 1) := by decide +kernel
theorem dX1_setClaim_28 : decode cX1_setClaim 28 = .ok (.lastore, 1) := by decide +kernel
theorem dX1_setClaim_29 : decode cX1_setClaim 29 = .ok (.iinc 5 1, 3) := by decide +kernel
theorem dX1_setClaim_32 : decode cX1_setClaim 32 = .ok (.goto (-25), 3) := by decide +kernel
theorem dX1_setClaim_35 : decode cX1_setClaim 35 = .ok (.iload_n 2, 1) := by decide +kernel
theorem dX1_setClaim_36 : decode cX1_setClaim 36 = .ok (.ifCond .lt 19, 3) := by decide +kernel
theorem dX1_setClaim_39 : decode cX1_setClaim 39 = .ok (.iload_n 2, 1) := by decide +kernel
theorem dX1_setClaim_40 : decode cX1_setClaim 40 = .ok (.bipush 11, 2) := by decide +kernel
theorem dX1_setClaim_42 : decode cX1_setClaim 42 = .ok (.if_icmp .ge 13, 3) := by decide +kernel
theorem dX1_setClaim_45 : decode cX1_setClaim 45 = .ok (.aload_n 0, 1) := by decide +kernel
theorem dX1_setClaim_46 : decode cX1_setClaim 46 = .ok (.getfield 9, 3) := by decide +kernel
theorem dX1_setClaim_49 : decode cX1_setClaim 49 = .ok (.iload_n 2, 1) := by decide +kernel
theorem dX1_setClaim_50 : decode cX1_setClaim 50 = .ok (.dup2, 1) := by decide +kernel
theorem dX1_setClaim_51 : decode cX1_setClaim 51 = .ok (.laload, 1) := by decide +kernel
theorem dX1_setClaim_52 : decode cX1_setClaim 52 = .ok (.lload_n 3, 1) := by decide +kernel
theorem dX1_setClaim_53 : decode cX1_setClaim 53 = .ok (.lor, 1) := by decide +kernel
theorem dX1_setClaim_54 : decode cX1_setClaim 54 = .ok (.lastore, 1) := by decide +kernel
theorem dX1_setClaim_55 : decode cX1_setClaim 55 = .ok (.return_, 1) := by decide +kernel
theorem dX1_claimedCells_0 : decode cX1_claimedCells 0 = .ok (.lconst 0, 1) := by decide +kernel
theorem dX1_claimedCells_1 : decode cX1_claimedCells 1 = .ok (.lstore_n 1, 1) := by decide +kernel
theorem dX1_claimedCells_2 : decode cX1_claimedCells 2 = .ok (.iconst 0, 1) := by decide +kernel
theorem dX1_claimedCells_3 : decode cX1_claimedCells 3 = .ok (.istore_n 3, 1) := by decide +kernel
theorem dX1_claimedCells_4 : decode cX1_claimedCells 4 = .ok (.iload_n 3, 1) := by decide +kernel
theorem dX1_claimedCells_5 : decode cX1_claimedCells 5 = .ok (.bipush 11, 2) := by decide +kernel
theorem dX1_claimedCells_7 : decode cX1_claimedCells 7 = .ok (.if_icmp .ge 18, 3) := by decide +kernel
theorem dX1_claimedCells_10 : decode cX1_claimedCells 10 = .ok (.lload_n 1, 1) := by decide +kernel
theorem dX1_claimedCells_11 : decode cX1_claimedCells 11 = .ok (.aload_n 0, 1) := by decide +kernel
theorem dX1_claimedCells_12 : decode cX1_claimedCells 12 = .ok (.getfield 9, 3) := by decide +kernel
theorem dX1_claimedCells_15 : decode cX1_claimedCells 15 = .ok (.iload_n 3, 1) := by decide +kernel
theorem dX1_claimedCells_16 : decode cX1_claimedCells 16 = .ok (.laload, 1) := by decide +kernel
theorem dX1_claimedCells_17 : decode cX1_claimedCells 17 = .ok (.lor, 1) := by decide +kernel
theorem dX1_claimedCells_18 : decode cX1_claimedCells 18 = .ok (.lstore_n 1, 1) := by decide +kernel
theorem dX1_claimedCells_19 : decode cX1_claimedCells 19 = .ok (.iinc 3 1, 3) := by decide +kernel
theorem dX1_claimedCells_22 : decode cX1_claimedCells 22 = .ok (.goto (-18), 3) := by decide +kernel
theorem dX1_claimedCells_25 : decode cX1_claimedCells 25 = .ok (.lload_n 1, 1) := by decide +kernel
theorem dX1_claimedCells_26 : decode cX1_claimedCells 26 = .ok (.lreturn, 1) := by decide +kernel
theorem dX1_size_0 : decode cX1_size 0 = .ok (.aload_n 0, 1) := by decide +kernel
theorem dX1_size_1 : decode cX1_size 1 = .ok (.invokevirtual 21, 3) := by decide +kernel
theorem dX1_size_4 : decode cX1_size 4 = .ok (.invokestatic 25, 3) := by decide +kernel
theorem dX1_size_7 : decode cX1_size 7 = .ok (.ireturn, 1) := by decide +kernel
theorem dX1_rightCells_0 : decode cX1_rightCells 0 = .ok (.lconst 0, 1) := by decide +kernel
theorem dX1_rightCells_1 : decode cX1_rightCells 1 = .ok (.lstore_n 2, 1) := by decide +kernel
theorem dX1_rightCells_2 : decode cX1_rightCells 2 = .ok (.iconst 0, 1) := by decide +kernel
theorem dX1_rightCells_3 : decode cX1_rightCells 3 = .ok (.istore 4, 2) := by decide +kernel
theorem dX1_rightCells_5 : decode cX1_rightCells 5 = .ok (.iload 4, 2) := by decide +kernel
theorem dX1_rightCells_7 : decode cX1_rightCells 7 = .ok (.bipush 11, 2) := by decide +kernel
theorem dX1_rightCells_9 : decode cX1_rightCells 9 = .ok (.if_icmp .ge 26, 3) := by decide +kernel
theorem dX1_rightCells_12 : decode cX1_rightCells 12 = .ok (.lload_n 2, 1) := by decide +kernel
theorem dX1_rightCells_13 : decode cX1_rightCells 13 = .ok (.aload_n 0, 1) := by decide +kernel
theorem dX1_rightCells_14 : decode cX1_rightCells 14 = .ok (.getfield 9, 3) := by decide +kernel
theorem dX1_rightCells_17 : decode cX1_rightCells 17 = .ok (.iload 4, 2) := by decide +kernel
theorem dX1_rightCells_19 : decode cX1_rightCells 19 = .ok (.laload, 1) := by decide +kernel
theorem dX1_rightCells_20 : decode cX1_rightCells 20 = .ok (.aload_n 1, 1) := by decide +kernel
theorem dX1_rightCells_21 : decode cX1_rightCells 21 = .ok (.iload 4, 2) := by decide +kernel
theorem dX1_rightCells_23 : decode cX1_rightCells 23 = .ok (.invokevirtual 31, 3) := by decide +kernel
theorem dX1_rightCells_26 : decode cX1_rightCells 26 = .ok (.land, 1) := by decide +kernel
theorem dX1_rightCells_27 : decode cX1_rightCells 27 = .ok (.lor, 1) := by decide +kernel
theorem dX1_rightCells_28 : decode cX1_rightCells 28 = .ok (.lstore_n 2, 1) := by decide +kernel
theorem dX1_rightCells_29 : decode cX1_rightCells 29 = .ok (.iinc 4 1, 3) := by decide +kernel
theorem dX1_rightCells_32 : decode cX1_rightCells 32 = .ok (.goto (-27), 3) := by decide +kernel
theorem dX1_rightCells_35 : decode cX1_rightCells 35 = .ok (.lload_n 2, 1) := by decide +kernel
theorem dX1_rightCells_36 : decode cX1_rightCells 36 = .ok (.lreturn, 1) := by decide +kernel
theorem dX1_agreement_0 : decode cX1_agreement 0 = .ok (.aload_n 0, 1) := by decide +kernel
theorem dX1_agreement_1 : decode cX1_agreement 1 = .ok (.aload_n 1, 1) := by decide +kernel
theorem dX1_agreement_2 : decode cX1_agreement 2 = .ok (.invokevirtual 37, 3) := by decide +kernel
theorem dX1_agreement_5 : decode cX1_agreement 5 = .ok (.invokestatic 25, 3) := by decide +kernel
theorem dX1_agreement_8 : decode cX1_agreement 8 = .ok (.ireturn, 1) := by decide +kernel
theorem dX1_firstWrong_0 : decode cX1_firstWrong 0 = .ok (.aload_n 0, 1) := by decide +kernel
theorem dX1_firstWrong_1 : decode cX1_firstWrong 1 = .ok (.invokevirtual 21, 3) := by decide +kernel
theorem dX1_firstWrong_4 : decode cX1_firstWrong 4 = .ok (.aload_n 0, 1) := by decide +kernel
theorem dX1_firstWrong_5 : decode cX1_firstWrong 5 = .ok (.aload_n 1, 1) := by decide +kernel
theorem dX1_firstWrong_6 : decode cX1_firstWrong 6 = .ok (.invokevirtual 37, 3) := by decide +kernel
theorem dX1_firstWrong_9 : decode cX1_firstWrong 9 = .ok (.ldc2_w 19, 3) := by decide +kernel
theorem dX1_firstWrong_12 : decode cX1_firstWrong 12 = .ok (.lxor, 1) := by decide +kernel
theorem dX1_firstWrong_13 : decode cX1_firstWrong 13 = .ok (.land, 1) := by decide +kernel
theorem dX1_firstWrong_14 : decode cX1_firstWrong 14 = .ok (.invokestatic 41, 3) := by decide +kernel
theorem dX1_firstWrong_17 : decode cX1_firstWrong 17 = .ok (.ireturn, 1) := by decide +kernel
theorem dX1_firstQuarrel_0 : decode cX1_firstQuarrel 0 = .ok (.lconst 0, 1) := by decide +kernel
theorem dX1_firstQuarrel_1 : decode cX1_firstQuarrel 1 = .ok (.lstore_n 2, 1) := by decide +kernel
theorem dX1_firstQuarrel_2 : decode cX1_firstQuarrel 2 = .ok (.iconst 0, 1) := by decide +kernel
theorem dX1_firstQuarrel_3 : decode cX1_firstQuarrel 3 = .ok (.istore 4, 2) := by decide +kernel
theorem dX1_firstQuarrel_5 : decode cX1_firstQuarrel 5 = .ok (.iload 4, 2) := by decide +kernel
theorem dX1_firstQuarrel_7 : decode cX1_firstQuarrel 7 = .ok (.bipush 11, 2) := by decide +kernel
theorem dX1_firstQuarrel_9 : decode cX1_firstQuarrel 9 = .ok (.if_icmp .ge 27, 3) := by decide +kernel
theorem dX1_firstQuarrel_12 : decode cX1_firstQuarrel 12 = .ok (.lload_n 2, 1) := by decide +kernel
theorem dX1_firstQuarrel_13 : decode cX1_firstQuarrel 13 = .ok (.aload_n 0, 1) := by decide +kernel
theorem dX1_firstQuarrel_14 : decode cX1_firstQuarrel 14 = .ok (.getfield 9, 3) := by decide +kernel
theorem dX1_firstQuarrel_17 : decode cX1_firstQuarrel 17 = .ok (.iload 4, 2) := by decide +kernel
theorem dX1_firstQuarrel_19 : decode cX1_firstQuarrel 19 = .ok (.laload, 1) := by decide +kernel
theorem dX1_firstQuarrel_20 : decode cX1_firstQuarrel 20 = .ok (.aload_n 1, 1) := by decide +kernel
theorem dX1_firstQuarrel_21 : decode cX1_firstQuarrel 21 = .ok (.getfield 9, 3) := by decide +kernel
theorem dX1_firstQuarrel_24 : decode cX1_firstQuarrel 24 = .ok (.iload 4, 2) := by decide +kernel
theorem dX1_firstQuarrel_26 : decode cX1_firstQuarrel 26 = .ok (.laload, 1) := by decide +kernel
theorem dX1_firstQuarrel_27 : decode cX1_firstQuarrel 27 = .ok (.land, 1) := by decide +kernel
theorem dX1_firstQuarrel_28 : decode cX1_firstQuarrel 28 = .ok (.lor, 1) := by decide +kernel
theorem dX1_firstQuarrel_29 : decode cX1_firstQuarrel 29 = .ok (.lstore_n 2, 1) := by decide +kernel
theorem dX1_firstQuarrel_30 : decode cX1_firstQuarrel 30 = .ok (.iinc 4 1, 3) := by decide +kernel
theorem dX1_firstQuarrel_33 : decode cX1_firstQuarrel 33 = .ok (.goto (-28), 3) := by decide +kernel
theorem dX1_firstQuarrel_36 : decode cX1_firstQuarrel 36 = .ok (.aload_n 0, 1) := by decide +kernel
theorem dX1_firstQuarrel_37 : decode cX1_firstQuarrel 37 = .ok (.invokevirtual 21, 3) := by decide +kernel
theorem dX1_firstQuarrel_40 : decode cX1_firstQuarrel 40 = .ok (.aload_n 1, 1) := by decide +kernel
theorem dX1_firstQuarrel_41 : decode cX1_firstQuarrel 41 = .ok (.invokevirtual 21, 3) := by decide +kernel
theorem dX1_firstQuarrel_44 : decode cX1_firstQuarrel 44 = .ok (.land, 1) := by decide +kernel
theorem dX1_firstQuarrel_45 : decode cX1_firstQuarrel 45 = .ok (.lload_n 2, 1) := by decide +kernel
theorem dX1_firstQuarrel_46 : decode cX1_firstQuarrel 46 = .ok (.ldc2_w 19, 3) := by decide +kernel
theorem dX1_firstQuarrel_49 : decode cX1_firstQuarrel 49 = .ok (.lxor, 1) := by decide +kernel
theorem dX1_firstQuarrel_50 : decode cX1_firstQuarrel 50 = .ok (.land, 1) := by decide +kernel
theorem dX1_firstQuarrel_51 : decode cX1_firstQuarrel 51 = .ok (.invokestatic 41, 3) := by decide +kernel
theorem dX1_firstQuarrel_54 : decode cX1_firstQuarrel 54 = .ok (.ireturn, 1) := by decide +kernel
theorem dX2_init_0 : decode cX2_init 0 = .ok (.aload_n 0, 1) := by decide +kernel
theorem dX2_init_1 : decode cX2_init 1 = .ok (.invokespecial 3, 3) := by decide +kernel
theorem dX2_init_4 : decode cX2_init 4 = .ok (.aload_n 0, 1) := by decide +kernel
theorem dX2_init_5 : decode cX2_init 5 = .ok (.bipush 10, 2) := by decide +kernel
theorem dX2_init_7 : decode cX2_init 7 = .ok (.newarray .int, 2) := by decide +kernel
theorem dX2_init_9 : decode cX2_init 9 = .ok (.putfield 9, 3) := by decide +kernel
theorem dX2_init_12 : decode cX2_init 12 = .ok (.aload_n 0, 1) := by decide +kernel
theorem dX2_init_13 : decode cX2_init 13 = .ok (.bipush 30, 2) := by decide +kernel
theorem dX2_init_15 : decode cX2_init 15 = .ok (.anewarray 15, 3) := by decide +kernel
theorem dX2_init_18 : decode cX2_init 18 = .ok (.putfield 17, 3) := by decide +kernel
theorem dX2_init_21 : decode cX2_init 21 = .ok (.aload_n 0, 1) := by decide +kernel
theorem dX2_init_22 : decode cX2_init 22 = .ok (.bipush 30, 2) := by decide +kernel
theorem dX2_init_24 : decode cX2_init 24 = .ok (.newarray .int, 2) := by decide +kernel
theorem dX2_init_26 : decode cX2_init 26 = .ok (.putfield 21, 3) := by decide +kernel
theorem dX2_init_29 : decode cX2_init 29 = .ok (.aload_n 0, 1) := by decide +kernel
theorem dX2_init_30 : decode cX2_init 30 = .ok (.bipush 31, 2) := by decide +kernel
theorem dX2_init_32 : decode cX2_init 32 = .ok (.anewarray 24, 3) := by decide +kernel
theorem dX2_init_35 : decode cX2_init 35 = .ok (.putfield 26, 3) := by decide +kernel
theorem dX2_init_38 : decode cX2_init 38 = .ok (.iconst 0, 1) := by decide +kernel
theorem dX2_init_39 : decode cX2_init 39 = .ok (.istore_n 1, 1) := by decide +kernel
theorem dX2_init_40 : decode cX2_init 40 = .ok (.iload_n 1, 1) := by decide +kernel
theorem dX2_init_41 : decode cX2_init 41 = .ok (.bipush 30, 2) := by decide +kernel
theorem dX2_init_43 : decode cX2_init 43 = .ok (.if_icmp .ge 22, 3) := by decide +kernel
theorem dX2_init_46 : decode cX2_init 46 = .ok (.aload_n 0, 1) := by decide +kernel
theorem dX2_init_47 : decode cX2_init 47 = .ok (.getfield 17, 3) := by decide +kernel
theorem dX2_init_50 : decode cX2_init 50 = .ok (.iload_n 1, 1) := by decide +kernel
theorem dX2_init_51 : decode cX2_init 51 = .ok (.new 15, 3) := by decide +kernel
theorem dX2_init_54 : decode cX2_init 54 = .ok (.dup, 1) := by decide +kernel
theorem dX2_init_55 : decode cX2_init 55 = .ok (.invokespecial 30, 3) := by decide +kernel
theorem dX2_init_58 : decode cX2_init 58 = .ok (.aastore, 1) := by decide +kernel
theorem dX2_init_59 : decode cX2_init 59 = .ok (.iinc 1 1, 3) := by decide +kernel
theorem dX2_init_62 : decode cX2_init 62 = .ok (.goto (-22), 3) := by decide +kernel
theorem dX2_init_65 : decode cX2_init 65 = .ok (.iconst 0, 1) := by decide +kernel
theorem dX2_init_66 : decode cX2_init 66 = .ok (.istore_n 1, 1) := by decide +kernel
theorem dX2_init_67 : decode cX2_init 67 = .ok (.iload_n 1, 1) := by decide +kernel
theorem dX2_init_68 : decode cX2_init 68 = .ok (.bipush 30, 2) := by decide +kernel
theorem dX2_init_70 : decode cX2_init 70 = .ok (.if_icmp .gt 22, 3) := by decide +kernel
theorem dX2_init_73 : decode cX2_init 73 = .ok (.aload_n 0, 1) := by decide +kernel
theorem dX2_init_74 : decode cX2_init 74 = .ok (.getfield 26, 3) := by decide +kernel
theorem dX2_init_77 : decode cX2_init 77 = .ok (.iload_n 1, 1) := by decide +kernel
theorem dX2_init_78 : decode cX2_init 78 = .ok (.new 24, 3) := by decide +kernel
theorem dX2_init_81 : decode cX2_init 81 = .ok (.dup, 1) := by decide +kernel
theorem dX2_init_82 : decode cX2_init 82 = .ok (.invokespecial 31, 3) := by decide +kernel
theorem dX2_init_85 : decode cX2_init 85 = .ok (.aastore, 1) := by decide +kernel
theorem dX2_init_86 : decode cX2_init 86 = .ok (.iinc 1 1, 3) := by decide +kernel
theorem dX2_init_89 : decode cX2_init 89 = .ok (.goto (-22), 3) := by decide +kernel
theorem dX2_init_92 : decode cX2_init 92 = .ok (.return_, 1) := by decide +kernel
theorem dX2_hasUnit_0 : decode cX2_hasUnit 0 = .ok (.iload_n 1, 1) := by decide +kernel
theorem dX2_hasUnit_1 : decode cX2_hasUnit 1 = .ok (.ifCond .lt 15, 3) := by decide +kernel
theorem dX2_hasUnit_4 : decode cX2_hasUnit 4 = .ok (.iload_n 1, 1) := by decide +kernel
theorem dX2_hasUnit_5 : decode cX2_hasUnit 5 = .ok (.aload_n 0, 1) := by decide +kernel
theorem dX2_hasUnit_6 : decode cX2_hasUnit 6 = .ok (.getfield 32, 3) := by decide +kernel
theorem dX2_hasUnit_9 : decode cX2_hasUnit 9 = .ok (.if_icmp .ge 7, 3) := by decide +kernel
theorem dX2_hasUnit_12 : decode cX2_hasUnit 12 = .ok (.iconst 1, 1) := by decide +kernel
theorem dX2_hasUnit_13 : decode cX2_hasUnit 13 = .ok (.goto 4, 3) := by decide +kernel
theorem dX2_hasUnit_16 : decode cX2_hasUnit 16 = .ok (.iconst 0, 1) := by decide +kernel
theorem dX2_hasUnit_17 : decode cX2_hasUnit 17 = .ok (.ireturn, 1) := by decide +kernel
theorem dX2_hasAllUnits_0 : decode cX2_hasAllUnits 0 = .ok (.aload_n 0, 1) := by decide +kernel
theorem dX2_hasAllUnits_1 : decode cX2_hasAllUnits 1 = .ok (.getfield 32, 3) := by decide +kernel
theorem dX2_hasAllUnits_4 : decode cX2_hasAllUnits 4 = .ok (.bipush 10, 2) := by decide +kernel
theorem dX2_hasAllUnits_6 : decode cX2_hasAllUnits 6 = .ok (.if_icmp .lt 7, 3) := by decide +kernel
theorem dX2_hasAllUnits_9 : decode cX2_hasAllUnits 9 = .ok (.iconst 1, 1) := by decide +kernel
theorem dX2_hasAllUnits_10 : decode cX2_hasAllUnits 10 = .ok (.goto 4, 3) := by decide +kernel
theorem dX2_hasAllUnits_13 : decode cX2_hasAllUnits 13 = .ok (.iconst 0, 1) := by decide +kernel
theorem dX2_hasAllUnits_14 : decode cX2_hasAllUnits 14 = .ok (.ireturn, 1) := by decide +kernel
theorem dX2_addUnit_0 : decode cX2_addUnit 0 = .ok (.aload_n 0, 1) := by decide +kernel
theorem dX2_addUnit_1 : decode cX2_addUnit 1 = .ok (.invokevirtual 36, 3) := by decide +kernel
theorem dX2_addUnit_4 : decode cX2_addUnit 4 = .ok (.ifCond .ne 23, 3) := by decide +kernel
theorem dX2_addUnit_7 : decode cX2_addUnit 7 = .ok (.aload_n 0, 1) := by decide +kernel
theorem dX2_addUnit_8 : decode cX2_addUnit 8 = .ok (.getfield 9, 3) := by decide +kernel
theorem dX2_addUnit_11 : decode cX2_addUnit 11 = .ok (.aload_n 0, 1) := by decide +kernel
theorem dX2_addUnit_12 : decode cX2_addUnit 12 = .ok (.getfield 32, 3) := by decide +kernel
theorem dX2_addUnit_15 : decode cX2_addUnit 15 = .ok (.iload_n 1, 1) := by decide +kernel
theorem dX2_addUnit_16 : decode cX2_addUnit 16 = .ok (.iastore, 1) := by decide +kernel
theorem dX2_addUnit_17 : decode cX2_addUnit 17 = .ok (.aload_n 0, 1) := by decide +kernel
theorem dX2_addUnit_18 : decode cX2_addUnit 18 = .ok (.dup, 1) := by decide +kernel
theorem dX2_addUnit_19 : decode cX2_addUnit 19 = .ok (.getfield 32, 3) := by decide +kernel
theorem dX2_addUnit_22 : decode cX2_addUnit 22 = .ok (.iconst 1, 1) := by decide +kernel
theorem dX2_addUnit_23 : decode cX2_addUnit 23 = .ok (.iadd, 1) := by decide +kernel
theorem dX2_addUnit_24 : decode cX2_addUnit 24 = .ok (.putfield 32, 3) := by decide +kernel
theorem dX2_addUnit_27 : decode cX2_addUnit 27 = .ok (.aload_n 0, 1) := by decide +kernel
theorem dX2_addUnit_28 : decode cX2_addUnit 28 = .ok (.getfield 32, 3) := by decide +kernel
theorem dX2_addUnit_31 : decode cX2_addUnit 31 = .ok (.iconst 1, 1) := by decide +kernel
theorem dX2_addUnit_32 : decode cX2_addUnit 32 = .ok (.isub, 1) := by decide +kernel
theorem dX2_addUnit_33 : decode cX2_addUnit 33 = .ok (.ireturn, 1) := by decide +kernel
theorem dX2_kindOf_0 : decode cX2_kindOf 0 = .ok (.aload_n 0, 1) := by decide +kernel
theorem dX2_kindOf_1 : decode cX2_kindOf 1 = .ok (.iload_n 1, 1) := by decide +kernel
theorem dX2_kindOf_2 : decode cX2_kindOf 2 = .ok (.invokevirtual 40, 3) := by decide +kernel
theorem dX2_kindOf_5 : decode cX2_kindOf 5 = .ok (.ifCond .eq 12, 3) := by decide +kernel
theorem dX2_kindOf_8 : decode cX2_kindOf 8 = .ok (.aload_n 0, 1) := by decide +kernel
theorem dX2_kindOf_9 : decode cX2_kindOf 9 = .ok (.getfield 9, 3) := by decide +kernel
theorem dX2_kindOf_12 : decode cX2_kindOf 12 = .ok (.iload_n 1, 1) := by decide +kernel
theorem dX2_kindOf_13 : decode cX2_kindOf 13 = .ok (.iaload, 1) := by decide +kernel
theorem dX2_kindOf_14 : decode cX2_kindOf 14 = .ok (.goto 4, 3) := by decide +kernel
theorem dX2_kindOf_17 : decode cX2_kindOf 17 = .ok (.iconst (-1), 1) := by decide +kernel
theorem dX2_kindOf_18 : decode cX2_kindOf 18 = .ok (.ireturn, 1) := by decide +kernel
theorem dX2_isHundred_0 : decode cX2_isHundred 0 = .ok (.aload_n 0, 1) := by decide +kernel
theorem dX2_isHundred_1 : decode cX2_isHundred 1 = .ok (.iload_n 1, 1) := by decide +kernel
theorem dX2_isHundred_2 : decode cX2_isHundred 2 = .ok (.invokevirtual 44, 3) := by decide +kernel
theorem dX2_isHundred_5 : decode cX2_isHundred 5 = .ok (.iconst 3, 1) := by decide +kernel
theorem dX2_isHundred_6 : decode cX2_isHundred 6 = .ok (.if_icmp .ne 7, 3) := by decide +kernel
theorem dX2_isHundred_9 : decode cX2_isHundred 9 = .ok (.iconst 1, 1) := by decide +kernel
theorem dX2_isHundred_10 : decode cX2_isHundred 10 = .ok (.goto 4, 3) := by decide +kernel
theorem dX2_isHundred_13 : decode cX2_isHundred 13 = .ok (.iconst 0, 1) := by decide +kernel
theorem dX2_isHundred_14 : decode cX2_isHundred 14 = .ok (.ireturn, 1) := by decide +kernel
theorem dX2_hasAct_0 : decode cX2_hasAct 0 = .ok (.iload_n 1, 1) := by decide +kernel
theorem dX2_hasAct_1 : decode cX2_hasAct 1 = .ok (.ifCond .lt 15, 3) := by decide +kernel
theorem dX2_hasAct_4 : decode cX2_hasAct 4 = .ok (.iload_n 1, 1) := by decide +kernel
theorem dX2_hasAct_5 : decode cX2_hasAct 5 = .ok (.aload_n 0, 1) := by decide +kernel
theorem dX2_hasAct_6 : decode cX2_hasAct 6 = .ok (.getfield 48, 3) := by decide +kernel
theorem dX2_hasAct_9 : decode cX2_hasAct 9 = .ok (.if_icmp .ge 7, 3) := by decide +kernel
theorem dX2_hasAct_12 : decode cX2_hasAct 12 = .ok (.iconst 1, 1) := by decide +kernel
theorem dX2_hasAct_13 : decode cX2_hasAct 13 = .ok (.goto 4, 3) := by decide +kernel
theorem dX2_hasAct_16 : decode cX2_hasAct 16 = .ok (.iconst 0, 1) := by decide +kernel
theorem dX2_hasAct_17 : decode cX2_hasAct 17 = .ok (.ireturn, 1) := by decide +kernel
theorem dX2_hasAllActs_0 : decode cX2_hasAllActs 0 = .ok (.aload_n 0, 1) := by decide +kernel
theorem dX2_hasAllActs_1 : decode cX2_hasAllActs 1 = .ok (.getfield 48, 3) := by decide +kernel
theorem dX2_hasAllActs_4 : decode cX2_hasAllActs 4 = .ok (.bipush 30, 2) := by decide +kernel
theorem dX2_hasAllActs_6 : decode cX2_hasAllActs 6 = .ok (.if_icmp .lt 7, 3) := by decide +kernel
theorem dX2_hasAllActs_9 : decode cX2_hasAllActs 9 = .ok (.iconst 1, 1) := by decide +kernel
theorem dX2_hasAllActs_10 : decode cX2_hasAllActs 10 = .ok (.goto 4, 3) := by decide +kernel
theorem dX2_hasAllActs_13 : decode cX2_hasAllActs 13 = .ok (.iconst 0, 1) := by decide +kernel
theorem dX2_hasAllActs_14 : decode cX2_hasAllActs 14 = .ok (.ireturn, 1) := by decide +kernel
theorem dX2_tell_0 : decode cX2_tell 0 = .ok (.aload_n 0, 1) := by decide +kernel
theorem dX2_tell_1 : decode cX2_tell 1 = .ok (.invokevirtual 51, 3) := by decide +kernel
theorem dX2_tell_4 : decode cX2_tell 4 = .ok (.ifCond .eq 7, 3) := by decide +kernel
theorem dX2_tell_7 : decode cX2_tell 7 = .ok (.ldc2_w 54, 3) := by decide +kernel
theorem dX2_tell_10 : decode cX2_tell 10 = .ok (.lreturn, 1) := by decide +kernel
theorem dX2_tell_11 : decode cX2_tell 11 = .ok (.aload_n 0, 1) := by decide +kernel
theorem dX2_tell_12 : decode cX2_tell 12 = .ok (.getfield 48, 3) := by decide +kernel
theorem dX2_tell_15 : decode cX2_tell 15 = .ok (.istore 7, 2) := by decide +kernel
theorem dX2_tell_17 : decode cX2_tell 17 = .ok (.aload_n 0, 1) := by decide +kernel
theorem dX2_tell_18 : decode cX2_tell 18 = .ok (.getfield 17, 3) := by decide +kernel
theorem dX2_tell_21 : decode cX2_tell 21 = .ok (.iload 7, 2) := by decide +kernel
theorem dX2_tell_23 : decode cX2_tell 23 = .ok (.aaload, 1) := by decide +kernel
theorem dX2_tell_24 : decode cX2_tell 24 = .ok (.astore 8, 2) := by decide +kernel
theorem dX2_tell_26 : decode cX2_tell 26 = .ok (.aload 8, 2) := by decide +kernel
theorem dX2_tell_28 : decode cX2_tell 28 = .ok (.iload_n 1, 1) := by decide +kernel
theorem dX2_tell_29 : decode cX2_tell 29 = .ok (.putfield 56, 3) := by decide +kernel
theorem dX2_tell_32 : decode cX2_tell 32 = .ok (.aload 8, 2) := by decide +kernel
theorem dX2_tell_34 : decode cX2_tell 34 = .ok (.iload_n 2, 1) := by decide +kernel
theorem dX2_tell_35 : decode cX2_tell 35 = .ok (.putfield 59, 3) := by decide +kernel
theorem dX2_tell_38 : decode cX2_tell 38 = .ok (.aload 8, 2) := by decide +kernel
theorem dX2_tell_40 : decode cX2_tell 40 = .ok (.iload_n 3, 1) := by decide +kernel
theorem dX2_tell_41 : decode cX2_tell 41 = .ok (.putfield 62, 3) := by decide +kernel
theorem dX2_tell_44 : decode cX2_tell 44 = .ok (.aload 8, 2) := by decide +kernel
theorem dX2_tell_46 : decode cX2_tell 46 = .ok (.iload 4, 2) := by decide +kernel
theorem dX2_tell_48 : decode cX2_tell 48 = .ok (.putfield 65, 3) := by decide +kernel
theorem dX2_tell_51 : decode cX2_tell 51 = .ok (.aload 8, 2) := by decide +kernel
theorem dX2_tell_53 : decode cX2_tell 53 = .ok (.lload 5, 2) := by decide +kernel
theorem dX2_tell_55 : decode cX2_tell 55 = .ok (.putfield 68, 3) := by decide +kernel
theorem dX2_tell_58 : decode cX2_tell 58 = .ok (.aload_n 0, 1) := by decide +kernel
theorem dX2_tell_59 : decode cX2_tell 59 = .ok (.iload 4, 2) := by decide +kernel
theorem dX2_tell_61 : decode cX2_tell 61 = .ok (.invokevirtual 72, 3) := by decide +kernel
theorem dX2_tell_64 : decode cX2_tell 64 = .ok (.istore 9, 2) := by decide +kernel
theorem dX2_tell_66 : decode cX2_tell 66 = .ok (.aload_n 0, 1) := by decide +kernel
theorem dX2_tell_67 : decode cX2_tell 67 = .ok (.getfield 21, 3) := by decide +kernel
theorem dX2_tell_70 : decode cX2_tell 70 = .ok (.iload 9, 2) := by decide +kernel
theorem dX2_tell_72 : decode cX2_tell 72 = .ok (.aload_n 0, 1) := by decide +kernel
theorem dX2_tell_73 : decode cX2_tell 73 = .ok (.getfield 21, 3) := by decide +kernel
theorem dX2_tell_76 : decode cX2_tell 76 = .ok (.iload 9, 2) := by decide +kernel
theorem dX2_tell_78 : decode cX2_tell 78 = .ok (.iconst 1, 1) := by decide +kernel
theorem dX2_tell_79 : decode cX2_tell 79 = .ok (.iadd, 1) := by decide +kernel
theorem dX2_tell_80 : decode cX2_tell 80 = .ok (.aload_n 0, 1) := by decide +kernel
theorem dX2_tell_81 : decode cX2_tell 81 = .ok (.getfield 48, 3) := by decide +kernel
theorem dX2_tell_84 : decode cX2_tell 84 = .ok (.iload 9, 2) := by decide +kernel
theorem dX2_tell_86 : decode cX2_tell 86 = .ok (.isub, 1) := by decide +kernel
theorem dX2_tell_87 : decode cX2_tell 87 = .ok (.invokestatic 75, 3) := by decide +kernel
theorem dX2_tell_90 : decode cX2_tell 90 = .ok (.aload_n 0, 1) := by decide +kernel
theorem dX2_tell_91 : decode cX2_tell 91 = .ok (.getfield 21, 3) := by decide +kernel
theorem dX2_tell_94 : decode cX2_tell 94 = .ok (.iload 9, 2) := by decide +kernel
theorem dX2_tell_96 : decode cX2_tell 96 = .ok (.iload 7, 2) := by decide +kernel
theorem dX2_tell_98 : decode cX2_tell 98 = .ok (.iastore, 1) := by decide +kernel
theorem dX2_tell_99 : decode cX2_tell 99 = .ok (.aload_n 0, 1) := by decide +kernel
theorem dX2_tell_100 : decode cX2_tell 100 = .ok (.dup, 1) := by decide +kernel
theorem dX2_tell_101 : decode cX2_tell 101 = .ok (.getfield 48, 3) := by decide +kernel
theorem dX2_tell_104 : decode cX2_tell 104 = .ok (.iconst 1, 1) := by decide +kernel
theorem dX2_tell_105 : decode cX2_tell 105 = .ok (.iadd, 1) := by decide +kernel
theorem dX2_tell_106 : decode cX2_tell 106 = .ok (.putfield 48, 3) := by decide +kernel
theorem dX2_tell_109 : decode cX2_tell 109 = .ok (.aload_n 0, 1) := by decide +kernel
theorem dX2_tell_110 : decode cX2_tell 110 = .ok (.iload 9, 2) := by decide +kernel
theorem dX2_tell_112 : decode cX2_tell 112 = .ok (.invokevirtual 81, 3) := by decide +kernel
theorem dX2_tell_115 : decode cX2_tell 115 = .ok (.iload 7, 2) := by decide +kernel
theorem dX2_tell_117 : decode cX2_tell 117 = .ok (.i2l, 1) := by decide +kernel
theorem dX2_tell_118 : decode cX2_tell 118 = .ok (.lreturn, 1) := by decide +kernel
theorem dX2_dropLatest_0 : decode cX2_dropLatest 0 = .ok (.aload_n 0, 1) := by decide +kernel
theorem dX2_dropLatest_1 : decode cX2_dropLatest 1 = .ok (.getfield 48, 3) := by decide +kernel
theorem dX2_dropLatest_4 : decode cX2_dropLatest 4 = .ok (.ifCond .le 56, 3) := by decide +kernel
theorem dX2_dropLatest_7 : decode cX2_dropLatest 7 = .ok (.aload_n 0, 1) := by decide +kernel
theorem dX2_dropLatest_8 : decode cX2_dropLatest 8 = .ok (.dup, 1) := by decide +kernel
theorem dX2_dropLatest_9 : decode cX2_dropLatest 9 = .ok (.getfield 48, 3) := by decide +kernel
theorem dX2_dropLatest_12 : decode cX2_dropLatest 12 = .ok (.iconst 1, 1) := by decide +kernel
theorem dX2_dropLatest_13 : decode cX2_dropLatest 13 = .ok (.isub, 1) := by decide +kernel
theorem dX2_dropLatest_14 : decode cX2_dropLatest 14 = .ok (.putfield 48, 3) := by decide +kernel
theorem dX2_dropLatest_17 : decode cX2_dropLatest 17 = .ok (.aload_n 0, 1) := by decide +kernel
theorem dX2_dropLatest_18 : decode cX2_dropLatest 18 = .ok (.aload_n 0, 1) := by decide +kernel
theorem dX2_dropLatest_19 : decode cX2_dropLatest 19 = .ok (.getfield 17, 3) := by decide +kernel
theorem dX2_dropLatest_22 : decode cX2_dropLatest 22 = .ok (.aload_n 0, 1) := by decide +kernel
theorem dX2_dropLatest_23 : decode cX2_dropLatest 23 = .ok (.getfield 48, 3) := by decide +kernel
theorem dX2_dropLatest_26 : decode cX2_dropLatest 26 = .ok (.aaload, 1) := by decide +kernel
theorem dX2_dropLatest_27 : decode cX2_dropLatest 27 = .ok (.getfield 65, 3) := by decide +kernel
theorem dX2_dropLatest_30 : decode cX2_dropLatest 30 = .ok (.invokevirtual 72, 3) := by decide +kernel
theorem dX2_dropLatest_33 : decode cX2_dropLatest 33 = .ok (.istore_n 1, 1) := by decide +kernel
theorem dX2_dropLatest_34 : decode cX2_dropLatest 34 = .ok (.aload_n 0, 1) := by decide +kernel
theorem dX2_dropLatest_35 : decode cX2_dropLatest 35 = .ok (.getfield 21, 3) := by decide +kernel
theorem dX2_dropLatest_38 : decode cX2_dropLatest 38 = .ok (.iload_n 1, 1) := by decide +kernel
theorem dX2_dropLatest_39 : decode cX2_dropLatest 39 = .ok (.iconst 1, 1) := by decide +kernel
theorem dX2_dropLatest_40 : decode cX2_dropLatest 40 = .ok (.iadd, 1) := by decide +kernel
theorem dX2_dropLatest_41 : decode cX2_dropLatest 41 = .ok (.aload_n 0, 1) := by decide +kernel
theorem dX2_dropLatest_42 : decode cX2_dropLatest 42 = .ok (.getfield 21, 3) := by decide +kernel
theorem dX2_dropLatest_45 : decode cX2_dropLatest 45 = .ok (.iload_n 1, 1) := by decide +kernel
theorem dX2_dropLatest_46 : decode cX2_dropLatest 46 = .ok (.aload_n 0, 1) := by decide +kernel
theorem dX2_dropLatest_47 : decode cX2_dropLatest 47 = .ok (.getfield 48, 3) := by decide +kernel
theorem dX2_dropLatest_50 : decode cX2_dropLatest 50 = .ok (.iload_n 1, 1) := by decide +kernel
theorem dX2_dropLatest_51 : decode cX2_dropLatest 51 = .ok (.isub, 1) := by decide +kernel
theorem dX2_dropLatest_52 : decode cX2_dropLatest 52 = .ok (.invokestatic 75, 3) := by decide +kernel
theorem dX2_dropLatest_55 : decode cX2_dropLatest 55 = .ok (.aload_n 0, 1) := by decide +kernel
theorem dX2_dropLatest_56 : decode cX2_dropLatest 56 = .ok (.iload_n 1, 1) := by decide +kernel
theorem dX2_dropLatest_57 : decode cX2_dropLatest 57 = .ok (.invokevirtual 81, 3) := by decide +kernel
theorem dX2_dropLatest_60 : decode cX2_dropLatest 60 = .ok (.return_, 1) := by decide +kernel
theorem dX2_redoFrom_0 : decode cX2_redoFrom 0 = .ok (.iload_n 1, 1) := by decide +kernel
theorem dX2_redoFrom_1 : decode cX2_redoFrom 1 = .ok (.istore_n 2, 1) := by decide +kernel
theorem dX2_redoFrom_2 : decode cX2_redoFrom 2 = .ok (.iload_n 2, 1) := by decide +kernel
theorem dX2_redoFrom_3 : decode cX2_redoFrom 3 = .ok (.aload_n 0, 1) := by decide +kernel
theorem dX2_redoFrom_4 : decode cX2_redoFrom 4 = .ok (.getfield 48, 3) := by decide +kernel
theorem dX2_redoFrom_7 : decode cX2_redoFrom 7 = .ok (.if_icmp .ge 63, 3) := by decide +kernel
theorem dX2_redoFrom_10 : decode cX2_redoFrom 10 = .ok (.aload_n 0, 1) := by decide +kernel
theorem dX2_redoFrom_11 : decode cX2_redoFrom 11 = .ok (.iload_n 2, 1) := by decide +kernel
theorem dX2_redoFrom_12 : decode cX2_redoFrom 12 = .ok (.invokevirtual 85, 3) := by decide +kernel
theorem dX2_redoFrom_15 : decode cX2_redoFrom 15 = .ok (.astore_n 3, 1) := by decide +kernel
theorem dX2_redoFrom_16 : decode cX2_redoFrom 16 = .ok (.aload_n 0, 1) := by decide +kernel
theorem dX2_redoFrom_17 : decode cX2_redoFrom 17 = .ok (.iload_n 2, 1) := by decide +kernel
theorem dX2_redoFrom_18 : decode cX2_redoFrom 18 = .ok (.iconst 1, 1) := by decide +kernel
theorem dX2_redoFrom_19 : decode cX2_redoFrom 19 = .ok (.iadd, 1) := by decide +kernel
theorem dX2_redoFrom_20 : decode cX2_redoFrom 20 = .ok (.invokevirtual 89, 3) := by decide +kernel
theorem dX2_redoFrom_23 : decode cX2_redoFrom 23 = .ok (.astore 4, 2) := by decide +kernel
theorem dX2_redoFrom_25 : decode cX2_redoFrom 25 = .ok (.aload 4, 2) := by decide +kernel
theorem dX2_redoFrom_27 : decode cX2_redoFrom 27 = .ok (.aload_n 0, 1) := by decide +kernel
theorem dX2_redoFrom_28 : decode cX2_redoFrom 28 = .ok (.iload_n 2, 1) := by decide +kernel
theorem dX2_redoFrom_29 : decode cX2_redoFrom 29 = .ok (.invokevirtual 89, 3) := by decide +kernel
theorem dX2_redoFrom_32 : decode cX2_redoFrom 32 = .ok (.invokevirtual 93, 3) := by decide +kernel
theorem dX2_redoFrom_35 : decode cX2_redoFrom 35 = .ok (.aload_n 3, 1) := by decide +kernel
theorem dX2_redoFrom_36 : decode cX2_redoFrom 36 = .ok (.iload_n 2, 1) := by decide +kernel
theorem dX2_redoFrom_37 : decode cX2_redoFrom 37 = .ok (.putfield 97, 3) := by decide +kernel
theorem dX2_redoFrom_40 : decode cX2_redoFrom 40 = .ok (.aload_n 3, 1) := by decide +kernel
theorem dX2_redoFrom_41 : decode cX2_redoFrom 41 = .ok (.lconst 0, 1) := by decide +kernel
theorem dX2_redoFrom_42 : decode cX2_redoFrom 42 = .ok (.putfield 100, 3) := by decide +kernel
theorem dX2_redoFrom_45 : decode cX2_redoFrom 45 = .ok (.aload_n 3, 1) := by decide +kernel
theorem dX2_redoFrom_46 : decode cX2_redoFrom 46 = .ok (.aload_n 0, 1) := by decide +kernel
theorem dX2_redoFrom_47 : decode cX2_redoFrom 47 = .ok (.aload_n 3, 1) := by decide +kernel
theorem dX2_redoFrom_48 : decode cX2_redoFrom 48 = .ok (.aload 4, 2) := by decide +kernel
theorem dX2_redoFrom_50 : decode cX2_redoFrom 50 = .ok (.invokevirtual 103, 3) := by decide +kernel
theorem dX2_redoFrom_53 : decode cX2_redoFrom 53 = .ok (.ifCond .ne 7, 3) := by decide +kernel
theorem dX2_redoFrom_56 : decode cX2_redoFrom 56 = .ok (.iconst 1, 1) := by decide +kernel
theorem dX2_redoFrom_57 : decode cX2_redoFrom 57 = .ok (.goto 4, 3) := by decide +kernel
theorem dX2_redoFrom_60 : decode cX2_redoFrom 60 = .ok (.iconst 0, 1) := by decide +kernel
theorem dX2_redoFrom_61 : decode cX2_redoFrom 61 = .ok (.putfield 107, 3) := by decide +kernel
theorem dX2_redoFrom_64 : decode cX2_redoFrom 64 = .ok (.iinc 2 1, 3) := by decide +kernel
theorem dX2_redoFrom_67 : decode cX2_redoFrom 67 = .ok (.goto (-65), 3) := by decide +kernel
theorem dX2_redoFrom_70 : decode cX2_redoFrom 70 = .ok (.return_, 1) := by decide +kernel
theorem dX2_perform_0 : decode cX2_perform 0 = .ok (.aload_n 1, 1) := by decide +kernel
theorem dX2_perform_1 : decode cX2_perform 1 = .ok (.getfield 56, 3) := by decide +kernel
theorem dX2_perform_4 : decode cX2_perform 4 = .ok (.tableswitch 58 0 3 #[32, 38, 44, 51], 32) := by decide +kernel
theorem dX2_perform_36 : decode cX2_perform 36 = .ok (.aload_n 1, 1) := by decide +kernel
theorem dX2_perform_37 : decode cX2_perform 37 = .ok (.aload_n 2, 1) := by decide +kernel
theorem dX2_perform_38 : decode cX2_perform 38 = .ok (.invokestatic 111, 3) := by decide +kernel
theorem dX2_perform_41 : decode cX2_perform 41 = .ok (.ireturn, 1) := by decide +kernel
theorem dX2_perform_42 : decode cX2_perform 42 = .ok (.aload_n 1, 1) := by decide +kernel
theorem dX2_perform_43 : decode cX2_perform 43 = .ok (.aload_n 2, 1) := by decide +kernel
theorem dX2_perform_44 : decode cX2_perform 44 = .ok (.invokestatic 114, 3) := by decide +kernel
theorem dX2_perform_47 : decode cX2_perform 47 = .ok (.ireturn, 1) := by decide +kernel
theorem dX2_perform_48 : decode cX2_perform 48 = .ok (.aload_n 0, 1) := by decide +kernel
theorem dX2_perform_49 : decode cX2_perform 49 = .ok (.aload_n 1, 1) := by decide +kernel
theorem dX2_perform_50 : decode cX2_perform 50 = .ok (.aload_n 2, 1) := by decide +kernel
theorem dX2_perform_51 : decode cX2_perform 51 = .ok (.invokevirtual 117, 3) := by decide +kernel
theorem dX2_perform_54 : decode cX2_perform 54 = .ok (.ireturn, 1) := by decide +kernel
theorem dX2_perform_55 : decode cX2_perform 55 = .ok (.aload_n 0, 1) := by decide +kernel
theorem dX2_perform_56 : decode cX2_perform 56 = .ok (.aload_n 1, 1) := by decide +kernel
theorem dX2_perform_57 : decode cX2_perform 57 = .ok (.aload_n 2, 1) := by decide +kernel
theorem dX2_perform_58 : decode cX2_perform 58 = .ok (.invokevirtual 120, 3) := by decide +kernel
theorem dX2_perform_61 : decode cX2_perform 61 = .ok (.ireturn, 1) := by decide +kernel
theorem dX2_perform_62 : decode cX2_perform 62 = .ok (.aload_n 1, 1) := by decide +kernel
theorem dX2_perform_63 : decode cX2_perform 63 = .ok (.aload_n 2, 1) := by decide +kernel
theorem dX2_perform_64 : decode cX2_perform 64 = .ok (.invokestatic 123, 3) := by decide +kernel
theorem dX2_perform_67 : decode cX2_perform 67 = .ok (.ireturn, 1) := by decide +kernel
theorem dX2_performFound_0 : decode cX2_performFound 0 = .ok (.aload_n 1, 1) := by decide +kernel
theorem dX2_performFound_1 : decode cX2_performFound 1 = .ok (.aload_n 0, 1) := by decide +kernel
theorem dX2_performFound_2 : decode cX2_performFound 2 = .ok (.getfield 59, 3) := by decide +kernel
theorem dX2_performFound_5 : decode cX2_performFound 5 = .ok (.invokevirtual 126, 3) := by decide +kernel
theorem dX2_performFound_8 : decode cX2_performFound 8 = .ok (.ifCond .eq 5, 3) := by decide +kernel
theorem dX2_performFound_11 : decode cX2_performFound 11 = .ok (.iconst 0, 1) := by decide +kernel
theorem dX2_performFound_12 : decode cX2_performFound 12 = .ok (.ireturn, 1) := by decide +kernel
theorem dX2_performFound_13 : decode cX2_performFound 13 = .ok (.aload_n 1, 1) := by decide +kernel
theorem dX2_performFound_14 : decode cX2_performFound 14 = .ok (.aload_n 0, 1) := by decide +kernel
theorem dX2_performFound_15 : decode cX2_performFound 15 = .ok (.getfield 59, 3) := by decide +kernel
theorem dX2_performFound_18 : decode cX2_performFound 18 = .ok (.invokevirtual 129, 3) := by decide +kernel
theorem dX2_performFound_21 : decode cX2_performFound 21 = .ok (.aload_n 0, 1) := by decide +kernel
theorem dX2_performFound_22 : decode cX2_performFound 22 = .ok (.aload_n 0, 1) := by decide +kernel
theorem dX2_performFound_23 : decode cX2_performFound 23 = .ok (.getfield 68, 3) := by decide +kernel
theorem dX2_performFound_26 : decode cX2_performFound 26 = .ok (.aload_n 1, 1) := by decide +kernel
theorem dX2_performFound_27 : decode cX2_performFound 27 = .ok (.aload_n 0, 1) := by decide +kernel
theorem dX2_performFound_28 : decode cX2_performFound 28 = .ok (.getfield 59, 3) := by decide +kernel
theorem dX2_performFound_31 : decode cX2_performFound 31 = .ok (.invokevirtual 132, 3) := by decide +kernel
theorem dX2_performFound_34 : decode cX2_performFound 34 = .ok (.ldc2_w 136, 3) := by decide +kernel
theorem dX2_performFound_37 : decode cX2_performFound 37 = .ok (.lxor, 1) := by decide +kernel
theorem dX2_performFound_38 : decode cX2_performFound 38 = .ok (.land, 1) := by decide +kernel
theorem dX2_performFound_39 : decode cX2_performFound 39 = .ok (.putfield 100, 3) := by decide +kernel
theorem dX2_performFound_42 : decode cX2_performFound 42 = .ok (.aload_n 1, 1) := by decide +kernel
theorem dX2_performFound_43 : decode cX2_performFound 43 = .ok (.aload_n 0, 1) := by decide +kernel
theorem dX2_performFound_44 : decode cX2_performFound 44 = .ok (.getfield 100, 3) := by decide +kernel
theorem dX2_performFound_47 : decode cX2_performFound 47 = .ok (.aload_n 0, 1) := by decide +kernel
theorem dX2_performFound_48 : decode cX2_performFound 48 = .ok (.getfield 59, 3) := by decide +kernel
theorem dX2_performFound_51 : decode cX2_performFound 51 = .ok (.invokevirtual 138, 3) := by decide +kernel
theorem dX2_performFound_54 : decode cX2_performFound 54 = .ok (.iconst 1, 1) := by decide +kernel
theorem dX2_performFound_55 : decode cX2_performFound 55 = .ok (.ireturn, 1) := by decide +kernel
theorem dX2_performMove_0 : decode cX2_performMove 0 = .ok (.aload_n 0, 1) := by decide +kernel
theorem dX2_performMove_1 : decode cX2_performMove 1 = .ok (.getfield 68, 3) := by decide +kernel
theorem dX2_performMove_4 : decode cX2_performMove 4 = .ok (.aload_n 1, 1) := by decide +kernel
theorem dX2_performMove_5 : decode cX2_performMove 5 = .ok (.aload_n 0, 1) := by decide +kernel
theorem dX2_performMove_6 : decode cX2_performMove 6 = .ok (.getfield 59, 3) := by decide +kernel
theorem dX2_performMove_9 : decode cX2_performMove 9 = .ok (.invokevirtual 132, 3) := by decide +kernel
theorem dX2_performMove_12 : decode cX2_performMove 12 = .ok (.land, 1) := by decide +kernel
theorem dX2_performMove_13 : decode cX2_performMove 13 = .ok (.lstore_n 2, 1) := by decide +kernel
theorem dX2_performMove_14 : decode cX2_performMove 14 = .ok (.aload_n 1, 1) := by decide +kernel
theorem dX2_performMove_15 : decode cX2_performMove 15 = .ok (.aload_n 0, 1) := by decide +kernel
theorem dX2_performMove_16 : decode cX2_performMove 16 = .ok (.getfield 59, 3) := by decide +kernel
theorem dX2_performMove_19 : decode cX2_performMove 19 = .ok (.invokevirtual 126, 3) := by decide +kernel
theorem dX2_performMove_22 : decode cX2_performMove 22 = .ok (.ifCond .eq 20, 3) := by decide +kernel
theorem dX2_performMove_25 : decode cX2_performMove 25 = .ok (.aload_n 1, 1) := by decide +kernel
theorem dX2_performMove_26 : decode cX2_performMove 26 = .ok (.aload_n 0, 1) := by decide +kernel
theorem dX2_performMove_27 : decode cX2_performMove 27 = .ok (.getfield 62, 3) := by decide +kernel
theorem dX2_performMove_30 : decode cX2_performMove 30 = .ok (.invokevirtual 126, 3) := by decide +kernel
theorem dX2_performMove_33 : decode cX2_performMove 33 = .ok (.ifCond .eq 9, 3) := by decide +kernel
theorem dX2_performMove_36 : decode cX2_performMove 36 = .ok (.lload_n 2, 1) := by decide +kernel
theorem dX2_performMove_37 : decode cX2_performMove 37 = .ok (.lconst 0, 1) := by decide +kernel
theorem dX2_performMove_38 : decode cX2_performMove 38 = .ok (.lcmp, 1) := by decide +kernel
theorem dX2_performMove_39 : decode cX2_performMove 39 = .ok (.ifCond .ne 5, 3) := by decide +kernel
theorem dX2_performMove_42 : decode cX2_performMove 42 = .ok (.iconst 0, 1) := by decide +kernel
theorem dX2_performMove_43 : decode cX2_performMove 43 = .ok (.ireturn, 1) := by decide +kernel
theorem dX2_performMove_44 : decode cX2_performMove 44 = .ok (.aload_n 0, 1) := by decide +kernel
theorem dX2_performMove_45 : decode cX2_performMove 45 = .ok (.lload_n 2, 1) := by decide +kernel
theorem dX2_performMove_46 : decode cX2_performMove 46 = .ok (.putfield 100, 3) := by decide +kernel
theorem dX2_performMove_49 : decode cX2_performMove 49 = .ok (.aload_n 1, 1) := by decide +kernel
theorem dX2_performMove_50 : decode cX2_performMove 50 = .ok (.lload_n 2, 1) := by decide +kernel
theorem dX2_performMove_51 : decode cX2_performMove 51 = .ok (.aload_n 0, 1) := by decide +kernel
theorem dX2_performMove_52 : decode cX2_performMove 52 = .ok (.getfield 62, 3) := by decide +kernel
theorem dX2_performMove_55 : decode cX2_performMove 55 = .ok (.invokevirtual 138, 3) := by decide +kernel
theorem dX2_performMove_58 : decode cX2_performMove 58 = .ok (.iconst 1, 1) := by decide +kernel
theorem dX2_performMove_59 : decode cX2_performMove 59 = .ok (.ireturn, 1) := by decide +kernel
theorem dX2_performSwallow_0 : decode cX2_performSwallow 0 = .ok (.aload_n 2, 1) := by decide +kernel
theorem dX2_performSwallow_1 : decode cX2_performSwallow 1 = .ok (.aload_n 1, 1) := by decide +kernel
theorem dX2_performSwallow_2 : decode cX2_performSwallow 2 = .ok (.getfield 59, 3) := by decide +kernel
theorem dX2_performSwallow_5 : decode cX2_performSwallow 5 = .ok (.invokevirtual 126, 3) := by decide +kernel
theorem dX2_performSwallow_8 : decode cX2_performSwallow 8 = .ok (.ifCond .eq 26, 3) := by decide +kernel
theorem dX2_performSwallow_11 : decode cX2_performSwallow 11 = .ok (.aload_n 2, 1) := by decide +kernel
theorem dX2_performSwallow_12 : decode cX2_performSwallow 12 = .ok (.aload_n 1, 1) := by decide +kernel
theorem dX2_performSwallow_13 : decode cX2_performSwallow 13 = .ok (.getfield 62, 3) := by decide +kernel
theorem dX2_performSwallow_16 : decode cX2_performSwallow 16 = .ok (.invokevirtual 126, 3) := by decide +kernel
theorem dX2_performSwallow_19 : decode cX2_performSwallow 19 = .ok (.ifCond .eq 15, 3) := by decide +kernel
theorem dX2_performSwallow_22 : decode cX2_performSwallow 22 = .ok (.aload_n 0, 1) := by decide +kernel
theorem dX2_performSwallow_23 : decode cX2_performSwallow 23 = .ok (.aload_n 1, 1) := by decide +kernel
theorem dX2_performSwallow_24 : decode cX2_performSwallow 24 = .ok (.getfield 59, 3) := by decide +kernel
theorem dX2_performSwallow_27 : decode cX2_performSwallow 27 = .ok (.invokevirtual 44, 3) := by decide +kernel
theorem dX2_performSwallow_30 : decode cX2_performSwallow 30 = .ok (.iconst 2, 1) := by decide +kernel
theorem dX2_performSwallow_31 : decode cX2_performSwallow 31 = .ok (.if_icmp .ne 5, 3) := by decide +kernel
theorem dX2_performSwallow_34 : decode cX2_performSwallow 34 = .ok (.iconst 0, 1) := by decide +kernel
theorem dX2_performSwallow_35 : decode cX2_performSwallow 35 = .ok (.ireturn, 1) := by decide +kernel
theorem dX2_performSwallow_36 : decode cX2_performSwallow 36 = .ok (.aload_n 1, 1) := by decide +kernel
theorem dX2_performSwallow_37 : decode cX2_performSwallow 37 = .ok (.aload_n 2, 1) := by decide +kernel
theorem dX2_performSwallow_38 : decode cX2_performSwallow 38 = .ok (.aload_n 1, 1) := by decide +kernel
theorem dX2_performSwallow_39 : decode cX2_performSwallow 39 = .ok (.getfield 59, 3) := by decide +kernel
theorem dX2_performSwallow_42 : decode cX2_performSwallow 42 = .ok (.invokevirtual 132, 3) := by decide +kernel
theorem dX2_performSwallow_45 : decode cX2_performSwallow 45 = .ok (.putfield 100, 3) := by decide +kernel
theorem dX2_performSwallow_48 : decode cX2_performSwallow 48 = .ok (.aload_n 2, 1) := by decide +kernel
theorem dX2_performSwallow_49 : decode cX2_performSwallow 49 = .ok (.aload_n 1, 1) := by decide +kernel
theorem dX2_performSwallow_50 : decode cX2_performSwallow 50 = .ok (.getfield 100, 3) := by decide +kernel
theorem dX2_performSwallow_53 : decode cX2_performSwallow 53 = .ok (.aload_n 1, 1) := by decide +kernel
theorem dX2_performSwallow_54 : decode cX2_performSwallow 54 = .ok (.getfield 62, 3) := by decide +kernel
theorem dX2_performSwallow_57 : decode cX2_performSwallow 57 = .ok (.invokevirtual 138, 3) := by decide +kernel
theorem dX2_performSwallow_60 : decode cX2_performSwallow 60 = .ok (.aload_n 2, 1) := by decide +kernel
theorem dX2_performSwallow_61 : decode cX2_performSwallow 61 = .ok (.aload_n 1, 1) := by decide +kernel
theorem dX2_performSwallow_62 : decode cX2_performSwallow 62 = .ok (.getfield 59, 3) := by decide +kernel
theorem dX2_performSwallow_65 : decode cX2_performSwallow 65 = .ok (.invokevirtual 142, 3) := by decide +kernel
theorem dX2_performSwallow_68 : decode cX2_performSwallow 68 = .ok (.iconst 1, 1) := by decide +kernel
theorem dX2_performSwallow_69 : decode cX2_performSwallow 69 = .ok (.ireturn, 1) := by decide +kernel
theorem dX2_performBack_0 : decode cX2_performBack 0 = .ok (.aload_n 0, 1) := by decide +kernel
theorem dX2_performBack_1 : decode cX2_performBack 1 = .ok (.aload_n 1, 1) := by decide +kernel
theorem dX2_performBack_2 : decode cX2_performBack 2 = .ok (.getfield 59, 3) := by decide +kernel
theorem dX2_performBack_5 : decode cX2_performBack 5 = .ok (.invokevirtual 145, 3) := by decide +kernel
theorem dX2_performBack_8 : decode cX2_performBack 8 = .ok (.ifCond .ne 5, 3) := by decide +kernel
theorem dX2_performBack_11 : decode cX2_performBack 11 = .ok (.iconst 0, 1) := by decide +kernel
theorem dX2_performBack_12 : decode cX2_performBack 12 = .ok (.ireturn, 1) := by decide +kernel
theorem dX2_performBack_13 : decode cX2_performBack 13 = .ok (.aload_n 0, 1) := by decide +kernel
theorem dX2_performBack_14 : decode cX2_performBack 14 = .ok (.getfield 17, 3) := by decide +kernel
theorem dX2_performBack_17 : decode cX2_performBack 17 = .ok (.aload_n 1, 1) := by decide +kernel
theorem dX2_performBack_18 : decode cX2_performBack 18 = .ok (.getfield 59, 3) := by decide +kernel
theorem dX2_performBack_21 : decode cX2_performBack 21 = .ok (.aaload, 1) := by decide +kernel
theorem dX2_performBack_22 : decode cX2_performBack 22 = .ok (.astore_n 3, 1) := by decide +kernel
theorem dX2_performBack_23 : decode cX2_performBack 23 = .ok (.aload_n 0, 1) := by decide +kernel
theorem dX2_performBack_24 : decode cX2_performBack 24 = .ok (.aload_n 3, 1) := by decide +kernel
theorem dX2_performBack_25 : decode cX2_performBack 25 = .ok (.getfield 97, 3) := by decide +kernel
theorem dX2_performBack_28 : decode cX2_performBack 28 = .ok (.invokevirtual 89, 3) := by decide +kernel
theorem dX2_performBack_31 : decode cX2_performBack 31 = .ok (.astore 4, 2) := by decide +kernel
theorem dX2_performBack_33 : decode cX2_performBack 33 = .ok (.aload_n 3, 1) := by decide +kernel
theorem dX2_performBack_34 : decode cX2_performBack 34 = .ok (.getfield 100, 3) := by decide +kernel
theorem dX2_performBack_37 : decode cX2_performBack 37 = .ok (.aload_n 2, 1) := by decide +kernel
theorem dX2_performBack_38 : decode cX2_performBack 38 = .ok (.aload_n 3, 1) := by decide +kernel
theorem dX2_performBack_39 : decode cX2_performBack 39 = .ok (.invokevirtual 148, 3) := by decide +kernel
theorem dX2_performBack_42 : decode cX2_performBack 42 = .ok (.invokevirtual 132, 3) := by decide +kernel
theorem dX2_performBack_45 : decode cX2_performBack 45 = .ok (.land, 1) := by decide +kernel
theorem dX2_performBack_46 : decode cX2_performBack 46 = .ok (.lstore 5, 2) := by decide +kernel
theorem dX2_performBack_48 : decode cX2_performBack 48 = .ok (.iconst 0, 1) := by decide +kernel
theorem dX2_performBack_49 : decode cX2_performBack 49 = .ok (.istore 7, 2) := by decide +kernel
theorem dX2_performBack_51 : decode cX2_performBack 51 = .ok (.iload 7, 2) := by decide +kernel
theorem dX2_performBack_53 : decode cX2_performBack 53 = .ok (.bipush 11, 2) := by decide +kernel
theorem dX2_performBack_55 : decode cX2_performBack 55 = .ok (.if_icmp .ge 63, 3) := by decide +kernel
theorem dX2_performBack_58 : decode cX2_performBack 58 = .ok (.lload 5, 2) := by decide +kernel
theorem dX2_performBack_60 : decode cX2_performBack 60 = .ok (.aload 4, 2) := by decide +kernel
theorem dX2_performBack_62 : decode cX2_performBack 62 = .ok (.iload 7, 2) := by decide +kernel
theorem dX2_performBack_64 : decode cX2_performBack 64 = .ok (.invokevirtual 132, 3) := by decide +kernel
theorem dX2_performBack_67 : decode cX2_performBack 67 = .ok (.land, 1) := by decide +kernel
theorem dX2_performBack_68 : decode cX2_performBack 68 = .ok (.lstore 8, 2) := by decide +kernel
theorem dX2_performBack_70 : decode cX2_performBack 70 = .ok (.lload 8, 2) := by decide +kernel
theorem dX2_performBack_72 : decode cX2_performBack 72 = .ok (.lconst 0, 1) := by decide +kernel
theorem dX2_performBack_73 : decode cX2_performBack 73 = .ok (.lcmp, 1) := by decide +kernel
theorem dX2_performBack_74 : decode cX2_performBack 74 = .ok (.ifCond .eq 38, 3) := by decide +kernel
theorem dX2_performBack_77 : decode cX2_performBack 77 = .ok (.iload 7, 2) := by decide +kernel
theorem dX2_performBack_79 : decode cX2_performBack 79 = .ok (.bipush 10, 2) := by decide +kernel
theorem dX2_performBack_81 : decode cX2_performBack 81 = .ok (.if_icmp .eq 12, 3) := by decide +kernel
theorem dX2_performBack_84 : decode cX2_performBack 84 = .ok (.aload_n 2, 1) := by decide +kernel
theorem dX2_performBack_85 : decode cX2_performBack 85 = .ok (.iload 7, 2) := by decide +kernel
theorem dX2_performBack_87 : decode cX2_performBack 87 = .ok (.invokevirtual 126, 3) := by decide +kernel
theorem dX2_performBack_90 : decode cX2_performBack 90 = .ok (.ifCond .eq 22, 3) := by decide +kernel
theorem dX2_performBack_93 : decode cX2_performBack 93 = .ok (.aload_n 1, 1) := by decide +kernel
theorem dX2_performBack_94 : decode cX2_performBack 94 = .ok (.dup, 1) := by decide +kernel
theorem dX2_performBack_95 : decode cX2_performBack 95 = .ok (.getfield 100, 3) := by decide +kernel
theorem dX2_performBack_98 : decode cX2_performBack 98 = .ok (.lload 8, 2) := by decide +kernel
theorem dX2_performBack_100 : decode cX2_performBack 100 = .ok (.lor, 1) := by decide +kernel
theorem dX2_performBack_101 : decode cX2_performBack 101 = .ok (.putfield 100, 3) := by decide +kernel
theorem dX2_performBack_104 : decode cX2_performBack 104 = .ok (.aload_n 2, 1) := by decide +kernel
theorem dX2_performBack_105 : decode cX2_performBack 105 = .ok (.lload 8, 2) := by decide +kernel
theorem dX2_performBack_107 : decode cX2_performBack 107 = .ok (.iload 7, 2) := by decide +kernel
theorem dX2_performBack_109 : decode cX2_performBack 109 = .ok (.invokevirtual 138, 3) := by decide +kernel
theorem dX2_performBack_112 : decode cX2_performBack 112 = .ok (.iinc 7 1, 3) := by decide +kernel
theorem dX2_performBack_115 : decode cX2_performBack 115 = .ok (.goto (-64), 3) := by decide +kernel
theorem dX2_performBack_118 : decode cX2_performBack 118 = .ok (.aload_n 1, 1) := by decide +kernel
theorem dX2_performBack_119 : decode cX2_performBack 119 = .ok (.getfield 100, 3) := by decide +kernel
theorem dX2_performBack_122 : decode cX2_performBack 122 = .ok (.lconst 0, 1) := by decide +kernel
theorem dX2_performBack_123 : decode cX2_performBack 123 = .ok (.lcmp, 1) := by decide +kernel
theorem dX2_performBack_124 : decode cX2_performBack 124 = .ok (.ifCond .eq 7, 3) := by decide +kernel
theorem dX2_performBack_127 : decode cX2_performBack 127 = .ok (.iconst 1, 1) := by decide +kernel
theorem dX2_performBack_128 : decode cX2_performBack 128 = .ok (.goto 4, 3) := by decide +kernel
theorem dX2_performBack_131 : decode cX2_performBack 131 = .ok (.iconst 0, 1) := by decide +kernel
theorem dX2_performBack_132 : decode cX2_performBack 132 = .ok (.ireturn, 1) := by decide +kernel
theorem dX2_performJoin_0 : decode cX2_performJoin 0 = .ok (.aload_n 1, 1) := by decide +kernel
theorem dX2_performJoin_1 : decode cX2_performJoin 1 = .ok (.aload_n 0, 1) := by decide +kernel
theorem dX2_performJoin_2 : decode cX2_performJoin 2 = .ok (.getfield 59, 3) := by decide +kernel
theorem dX2_performJoin_5 : decode cX2_performJoin 5 = .ok (.invokevirtual 126, 3) := by decide +kernel
theorem dX2_performJoin_8 : decode cX2_performJoin 8 = .ok (.ifCond .ne 5, 3) := by decide +kernel
theorem dX2_performJoin_11 : decode cX2_performJoin 11 = .ok (.iconst 0, 1) := by decide +kernel
theorem dX2_performJoin_12 : decode cX2_performJoin 12 = .ok (.ireturn, 1) := by decide +kernel
theorem dX2_performJoin_13 : decode cX2_performJoin 13 = .ok (.aload_n 1, 1) := by decide +kernel
theorem dX2_performJoin_14 : decode cX2_performJoin 14 = .ok (.aload_n 0, 1) := by decide +kernel
theorem dX2_performJoin_15 : decode cX2_performJoin 15 = .ok (.getfield 59, 3) := by decide +kernel
theorem dX2_performJoin_18 : decode cX2_performJoin 18 = .ok (.aload_n 0, 1) := by decide +kernel
theorem dX2_performJoin_19 : decode cX2_performJoin 19 = .ok (.getfield 62, 3) := by decide +kernel
theorem dX2_performJoin_22 : decode cX2_performJoin 22 = .ok (.invokevirtual 152, 3) := by decide +kernel
theorem dX2_performJoin_25 : decode cX2_performJoin 25 = .ok (.iconst 1, 1) := by decide +kernel
theorem dX2_performJoin_26 : decode cX2_performJoin 26 = .ok (.ireturn, 1) := by decide +kernel
theorem dX2_doneUpTo_0 : decode cX2_doneUpTo 0 = .ok (.iconst 0, 1) := by decide +kernel
theorem dX2_doneUpTo_1 : decode cX2_doneUpTo 1 = .ok (.istore_n 2, 1) := by decide +kernel
theorem dX2_doneUpTo_2 : decode cX2_doneUpTo 2 = .ok (.iconst 0, 1) := by decide +kernel
theorem dX2_doneUpTo_3 : decode cX2_doneUpTo 3 = .ok (.istore_n 3, 1) := by decide +kernel
theorem dX2_doneUpTo_4 : decode cX2_doneUpTo 4 = .ok (.iload_n 3, 1) := by decide +kernel
theorem dX2_doneUpTo_5 : decode cX2_doneUpTo 5 = .ok (.aload_n 0, 1) := by decide +kernel
theorem dX2_doneUpTo_6 : decode cX2_doneUpTo 6 = .ok (.getfield 48, 3) := by decide +kernel
theorem dX2_doneUpTo_9 : decode cX2_doneUpTo 9 = .ok (.if_icmp .ge 25, 3) := by decide +kernel
theorem dX2_doneUpTo_12 : decode cX2_doneUpTo 12 = .ok (.aload_n 0, 1) := by decide +kernel
theorem dX2_doneUpTo_13 : decode cX2_doneUpTo 13 = .ok (.getfield 17, 3) := by decide +kernel
theorem dX2_doneUpTo_16 : decode cX2_doneUpTo 16 = .ok (.iload_n 3, 1) := by decide +kernel
theorem dX2_doneUpTo_17 : decode cX2_doneUpTo 17 = .ok (.aaload, 1) := by decide +kernel
theorem dX2_doneUpTo_18 : decode cX2_doneUpTo 18 = .ok (.getfield 65, 3) := by decide +kernel
theorem dX2_doneUpTo_21 : decode cX2_doneUpTo 21 = .ok (.iload_n 1, 1) := by decide +kernel
theorem dX2_doneUpTo_22 : decode cX2_doneUpTo 22 = .ok (.if_icmp .gt 6, 3) := by decide +kernel
theorem dX2_doneUpTo_25 : decode cX2_doneUpTo 25 = .ok (.iinc 2 1, 3) := by decide +kernel
theorem dX2_doneUpTo_28 : decode cX2_doneUpTo 28 = .ok (.iinc 3 1, 3) := by decide +kernel
theorem dX2_doneUpTo_31 : decode cX2_doneUpTo 31 = .ok (.goto (-27), 3) := by decide +kernel
theorem dX2_doneUpTo_34 : decode cX2_doneUpTo 34 = .ok (.iload_n 2, 1) := by decide +kernel
theorem dX2_doneUpTo_35 : decode cX2_doneUpTo 35 = .ok (.ireturn, 1) := by decide +kernel
theorem dX2_momentAt_0 : decode cX2_momentAt 0 = .ok (.aload_n 0, 1) := by decide +kernel
theorem dX2_momentAt_1 : decode cX2_momentAt 1 = .ok (.aload_n 0, 1) := by decide +kernel
theorem dX2_momentAt_2 : decode cX2_momentAt 2 = .ok (.iload_n 1, 1) := by decide +kernel
theorem dX2_momentAt_3 : decode cX2_momentAt 3 = .ok (.invokevirtual 72, 3) := by decide +kernel
theorem dX2_momentAt_6 : decode cX2_momentAt 6 = .ok (.invokevirtual 89, 3) := by decide +kernel
theorem dX2_momentAt_9 : decode cX2_momentAt 9 = .ok (.areturn, 1) := by decide +kernel
theorem dX2_momentBehind_0 : decode cX2_momentBehind 0 = .ok (.aload_n 0, 1) := by decide +kernel
theorem dX2_momentBehind_1 : decode cX2_momentBehind 1 = .ok (.getfield 26, 3) := by decide +kernel
theorem dX2_momentBehind_4 : decode cX2_momentBehind 4 = .ok (.iload_n 1, 1) := by decide +kernel
theorem dX2_momentBehind_5 : decode cX2_momentBehind 5 = .ok (.ifCond .lt 13, 3) := by decide +kernel
theorem dX2_momentBehind_8 : decode cX2_momentBehind 8 = .ok (.iload_n 1, 1) := by decide +kernel
theorem dX2_momentBehind_9 : decode cX2_momentBehind 9 = .ok (.bipush 30, 2) := by decide +kernel
theorem dX2_momentBehind_11 : decode cX2_momentBehind 11 = .ok (.if_icmp .gt 7, 3) := by decide +kernel
theorem dX2_momentBehind_14 : decode cX2_momentBehind 14 = .ok (.iload_n 1, 1) := by decide +kernel
theorem dX2_momentBehind_15 : decode cX2_momentBehind 15 = .ok (.goto 4, 3) := by decide +kernel
theorem dX2_momentBehind_18 : decode cX2_momentBehind 18 = .ok (.iconst 0, 1) := by decide +kernel
theorem dX2_momentBehind_19 : decode cX2_momentBehind 19 = .ok (.aaload, 1) := by decide +kernel
theorem dX2_momentBehind_20 : decode cX2_momentBehind 20 = .ok (.areturn, 1) := by decide +kernel
theorem dX2_actAt_0 : decode cX2_actAt 0 = .ok (.aload_n 0, 1) := by decide +kernel
theorem dX2_actAt_1 : decode cX2_actAt 1 = .ok (.iload_n 1, 1) := by decide +kernel
theorem dX2_actAt_2 : decode cX2_actAt 2 = .ok (.invokevirtual 145, 3) := by decide +kernel
theorem dX2_actAt_5 : decode cX2_actAt 5 = .ok (.ifCond .eq 12, 3) := by decide +kernel
theorem dX2_actAt_8 : decode cX2_actAt 8 = .ok (.aload_n 0, 1) := by decide +kernel
theorem dX2_actAt_9 : decode cX2_actAt 9 = .ok (.getfield 21, 3) := by decide +kernel
theorem dX2_actAt_12 : decode cX2_actAt 12 = .ok (.iload_n 1, 1) := by decide +kernel
theorem dX2_actAt_13 : decode cX2_actAt 13 = .ok (.iaload, 1) := by decide +kernel
theorem dX2_actAt_14 : decode cX2_actAt 14 = .ok (.goto 4, 3) := by decide +kernel
theorem dX2_actAt_17 : decode cX2_actAt 17 = .ok (.iconst 0, 1) := by decide +kernel
theorem dX2_actAt_18 : decode cX2_actAt 18 = .ok (.istore_n 2, 1) := by decide +kernel
theorem dX2_actAt_19 : decode cX2_actAt 19 = .ok (.aload_n 0, 1) := by decide +kernel
theorem dX2_actAt_20 : decode cX2_actAt 20 = .ok (.getfield 17, 3) := by decide +kernel
theorem dX2_actAt_23 : decode cX2_actAt 23 = .ok (.aload_n 0, 1) := by decide +kernel
theorem dX2_actAt_24 : decode cX2_actAt 24 = .ok (.iload_n 2, 1) := by decide +kernel
theorem dX2_actAt_25 : decode cX2_actAt 25 = .ok (.invokevirtual 145, 3) := by decide +kernel
theorem dX2_actAt_28 : decode cX2_actAt 28 = .ok (.ifCond .eq 7, 3) := by decide +kernel
theorem dX2_actAt_31 : decode cX2_actAt 31 = .ok (.iload_n 2, 1) := by decide +kernel
theorem dX2_actAt_32 : decode cX2_actAt 32 = .ok (.goto 4, 3) := by decide +kernel
theorem dX2_actAt_35 : decode cX2_actAt 35 = .ok (.iconst 0, 1) := by decide +kernel
theorem dX2_actAt_36 : decode cX2_actAt 36 = .ok (.aaload, 1) := by decide +kernel
theorem dX2_actAt_37 : decode cX2_actAt 37 = .ok (.areturn, 1) := by decide +kernel
theorem dX2_heldAt_0 : decode cX2_heldAt 0 = .ok (.aload_n 0, 1) := by decide +kernel
theorem dX2_heldAt_1 : decode cX2_heldAt 1 = .ok (.iload_n 2, 1) := by decide +kernel
theorem dX2_heldAt_2 : decode cX2_heldAt 2 = .ok (.invokevirtual 156, 3) := by decide +kernel
theorem dX2_heldAt_5 : decode cX2_heldAt 5 = .ok (.astore_n 3, 1) := by decide +kernel
theorem dX2_heldAt_6 : decode cX2_heldAt 6 = .ok (.aload_n 0, 1) := by decide +kernel
theorem dX2_heldAt_7 : decode cX2_heldAt 7 = .ok (.iload_n 1, 1) := by decide +kernel
theorem dX2_heldAt_8 : decode cX2_heldAt 8 = .ok (.invokevirtual 159, 3) := by decide +kernel
theorem dX2_heldAt_11 : decode cX2_heldAt 11 = .ok (.ifCond .eq 11, 3) := by decide +kernel
theorem dX2_heldAt_14 : decode cX2_heldAt 14 = .ok (.aload_n 3, 1) := by decide +kernel
theorem dX2_heldAt_15 : decode cX2_heldAt 15 = .ok (.iload_n 1, 1) := by decide +kernel
theorem dX2_heldAt_16 : decode cX2_heldAt 16 = .ok (.invokevirtual 162, 3) := by decide +kernel
theorem dX2_heldAt_19 : decode cX2_heldAt 19 = .ok (.goto 8, 3) := by decide +kernel
theorem dX2_heldAt_22 : decode cX2_heldAt 22 = .ok (.aload_n 3, 1) := by decide +kernel
theorem dX2_heldAt_23 : decode cX2_heldAt 23 = .ok (.iload_n 1, 1) := by decide +kernel
theorem dX2_heldAt_24 : decode cX2_heldAt 24 = .ok (.invokevirtual 132, 3) := by decide +kernel
theorem dX2_heldAt_27 : decode cX2_heldAt 27 = .ok (.lreturn, 1) := by decide +kernel
theorem dX2_makerOfBorder_0 : decode cX2_makerOfBorder 0 = .ok (.aload_n 0, 1) := by decide +kernel
theorem dX2_makerOfBorder_1 : decode cX2_makerOfBorder 1 = .ok (.iload_n 3, 1) := by decide +kernel
theorem dX2_makerOfBorder_2 : decode cX2_makerOfBorder 2 = .ok (.invokevirtual 72, 3) := by decide +kernel
theorem dX2_makerOfBorder_5 : decode cX2_makerOfBorder 5 = .ok (.istore 4, 2) := by decide +kernel
theorem dX2_makerOfBorder_7 : decode cX2_makerOfBorder 7 = .ok (.aload_n 0, 1) := by decide +kernel
theorem dX2_makerOfBorder_8 : decode cX2_makerOfBorder 8 = .ok (.iload 4, 2) := by decide +kernel
theorem dX2_makerOfBorder_10 : decode cX2_makerOfBorder 10 = .ok (.invokevirtual 89, 3) := by decide +kernel
theorem dX2_makerOfBorder_13 : decode cX2_makerOfBorder 13 = .ok (.iload_n 1, 1) := by decide +kernel
theorem dX2_makerOfBorder_14 : decode cX2_makerOfBorder 14 = .ok (.iload_n 2, 1) := by decide +kernel
theorem dX2_makerOfBorder_15 : decode cX2_makerOfBorder 15 = .ok (.invokevirtual 165, 3) := by decide +kernel
theorem dX2_makerOfBorder_18 : decode cX2_makerOfBorder 18 = .ok (.ifCond .ne 5, 3) := by decide +kernel
theorem dX2_makerOfBorder_21 : decode cX2_makerOfBorder 21 = .ok (.iconst (-1), 1) := by decide +kernel
theorem dX2_makerOfBorder_22 : decode cX2_makerOfBorder 22 = .ok (.ireturn, 1) := by decide +kernel
theorem dX2_makerOfBorder_23 : decode cX2_makerOfBorder 23 = .ok (.iload 4, 2) := by decide +kernel
theorem dX2_makerOfBorder_25 : decode cX2_makerOfBorder 25 = .ok (.iconst 1, 1) := by decide +kernel
theorem dX2_makerOfBorder_26 : decode cX2_makerOfBorder 26 = .ok (.isub, 1) := by decide +kernel
theorem dX2_makerOfBorder_27 : decode cX2_makerOfBorder 27 = .ok (.istore 5, 2) := by decide +kernel
theorem dX2_makerOfBorder_29 : decode cX2_makerOfBorder 29 = .ok (.iload 5, 2) := by decide +kernel
theorem dX2_makerOfBorder_31 : decode cX2_makerOfBorder 31 = .ok (.ifCond .lt 31, 3) := by decide +kernel
theorem dX2_makerOfBorder_34 : decode cX2_makerOfBorder 34 = .ok (.aload_n 0, 1) := by decide +kernel
theorem dX2_makerOfBorder_35 : decode cX2_makerOfBorder 35 = .ok (.iload 5, 2) := by decide +kernel
theorem dX2_makerOfBorder_37 : decode cX2_makerOfBorder 37 = .ok (.invokevirtual 89, 3) := by decide +kernel
theorem dX2_makerOfBorder_40 : decode cX2_makerOfBorder 40 = .ok (.iload_n 1, 1) := by decide +kernel
theorem dX2_makerOfBorder_41 : decode cX2_makerOfBorder 41 = .ok (.iload_n 2, 1) := by decide +kernel
theorem dX2_makerOfBorder_42 : decode cX2_makerOfBorder 42 = .ok (.invokevirtual 165, 3) := by decide +kernel
theorem dX2_makerOfBorder_45 : decode cX2_makerOfBorder 45 = .ok (.ifCond .ne 11, 3) := by decide +kernel
theorem dX2_makerOfBorder_48 : decode cX2_makerOfBorder 48 = .ok (.aload_n 0, 1) := by decide +kernel
theorem dX2_makerOfBorder_49 : decode cX2_makerOfBorder 49 = .ok (.getfield 21, 3) := by decide +kernel
theorem dX2_makerOfBorder_52 : decode cX2_makerOfBorder 52 = .ok (.iload 5, 2) := by decide +kernel
theorem dX2_makerOfBorder_54 : decode cX2_makerOfBorder 54 = .ok (.iaload, 1) := by decide +kernel
theorem dX2_makerOfBorder_55 : decode cX2_makerOfBorder 55 = .ok (.ireturn, 1) := by decide +kernel
theorem dX2_makerOfBorder_56 : decode cX2_makerOfBorder 56 = .ok (.iinc 5 (-1), 3) := by decide +kernel
theorem dX2_makerOfBorder_59 : decode cX2_makerOfBorder 59 = .ok (.goto (-30), 3) := by decide +kernel
theorem dX2_makerOfBorder_62 : decode cX2_makerOfBorder 62 = .ok (.iconst (-1), 1) := by decide +kernel
theorem dX2_makerOfBorder_63 : decode cX2_makerOfBorder 63 = .ok (.ireturn, 1) := by decide +kernel
theorem dX2_firstChange_0 : decode cX2_firstChange 0 = .ok (.iconst 0, 1) := by decide +kernel
theorem dX2_firstChange_1 : decode cX2_firstChange 1 = .ok (.istore_n 3, 1) := by decide +kernel
theorem dX2_firstChange_2 : decode cX2_firstChange 2 = .ok (.iload_n 3, 1) := by decide +kernel
theorem dX2_firstChange_3 : decode cX2_firstChange 3 = .ok (.aload_n 0, 1) := by decide +kernel
theorem dX2_firstChange_4 : decode cX2_firstChange 4 = .ok (.getfield 48, 3) := by decide +kernel
theorem dX2_firstChange_7 : decode cX2_firstChange 7 = .ok (.if_icmp .ge 48, 3) := by decide +kernel
theorem dX2_firstChange_10 : decode cX2_firstChange 10 = .ok (.aload_n 0, 1) := by decide +kernel
theorem dX2_firstChange_11 : decode cX2_firstChange 11 = .ok (.iload_n 3, 1) := by decide +kernel
theorem dX2_firstChange_12 : decode cX2_firstChange 12 = .ok (.invokevirtual 85, 3) := by decide +kernel
theorem dX2_firstChange_15 : decode cX2_firstChange 15 = .ok (.getfield 65, 3) := by decide +kernel
theorem dX2_firstChange_18 : decode cX2_firstChange 18 = .ok (.istore 4, 2) := by decide +kernel
theorem dX2_firstChange_20 : decode cX2_firstChange 20 = .ok (.iload 4, 2) := by decide +kernel
theorem dX2_firstChange_22 : decode cX2_firstChange 22 = .ok (.iload_n 2, 1) := by decide +kernel
theorem dX2_firstChange_23 : decode cX2_firstChange 23 = .ok (.if_icmp .lt 26, 3) := by decide +kernel
theorem dX2_firstChange_26 : decode cX2_firstChange 26 = .ok (.aload_n 0, 1) := by decide +kernel
theorem dX2_firstChange_27 : decode cX2_firstChange 27 = .ok (.iload_n 1, 1) := by decide +kernel
theorem dX2_firstChange_28 : decode cX2_firstChange 28 = .ok (.iload 4, 2) := by decide +kernel
theorem dX2_firstChange_30 : decode cX2_firstChange 30 = .ok (.invokevirtual 169, 3) := by decide +kernel
theorem dX2_firstChange_33 : decode cX2_firstChange 33 = .ok (.aload_n 0, 1) := by decide +kernel
theorem dX2_firstChange_34 : decode cX2_firstChange 34 = .ok (.iload_n 1, 1) := by decide +kernel
theorem dX2_firstChange_35 : decode cX2_firstChange 35 = .ok (.iload 4, 2) := by decide +kernel
theorem dX2_firstChange_37 : decode cX2_firstChange 37 = .ok (.iconst 1, 1) := by decide +kernel
theorem dX2_firstChange_38 : decode cX2_firstChange 38 = .ok (.isub, 1) := by decide +kernel
theorem dX2_firstChange_39 : decode cX2_firstChange 39 = .ok (.invokevirtual 169, 3) := by decide +kernel
theorem dX2_firstChange_42 : decode cX2_firstChange 42 = .ok (.lcmp, 1) := by decide +kernel
theorem dX2_firstChange_43 : decode cX2_firstChange 43 = .ok (.ifCond .eq 6, 3) := by decide +kernel
theorem dX2_firstChange_46 : decode cX2_firstChange 46 = .ok (.iload 4, 2) := by decide +kernel
theorem dX2_firstChange_48 : decode cX2_firstChange 48 = .ok (.ireturn, 1) := by decide +kernel
theorem dX2_firstChange_49 : decode cX2_firstChange 49 = .ok (.iinc 3 1, 3) := by decide +kernel
theorem dX2_firstChange_52 : decode cX2_firstChange 52 = .ok (.goto (-50), 3) := by decide +kernel
theorem dX2_firstChange_55 : decode cX2_firstChange 55 = .ok (.iconst (-1), 1) := by decide +kernel
theorem dX2_firstChange_56 : decode cX2_firstChange 56 = .ok (.ireturn, 1) := by decide +kernel
theorem dX2_voidActs_0 : decode cX2_voidActs 0 = .ok (.iconst 0, 1) := by decide +kernel
theorem dX2_voidActs_1 : decode cX2_voidActs 1 = .ok (.istore_n 1, 1) := by decide +kernel
theorem dX2_voidActs_2 : decode cX2_voidActs 2 = .ok (.iconst 0, 1) := by decide +kernel
theorem dX2_voidActs_3 : decode cX2_voidActs 3 = .ok (.istore_n 2, 1) := by decide +kernel
theorem dX2_voidActs_4 : decode cX2_voidActs 4 = .ok (.iload_n 2, 1) := by decide +kernel
theorem dX2_voidActs_5 : decode cX2_voidActs 5 = .ok (.aload_n 0, 1) := by decide +kernel
theorem dX2_voidActs_6 : decode cX2_voidActs 6 = .ok (.getfield 48, 3) := by decide +kernel
theorem dX2_voidActs_9 : decode cX2_voidActs 9 = .ok (.if_icmp .ge 24, 3) := by decide +kernel
theorem dX2_voidActs_12 : decode cX2_voidActs 12 = .ok (.aload_n 0, 1) := by decide +kernel
theorem dX2_voidActs_13 : decode cX2_voidActs 13 = .ok (.getfield 17, 3) := by decide +kernel
theorem dX2_voidActs_16 : decode cX2_voidActs 16 = .ok (.iload_n 2, 1) := by decide +kernel
theorem dX2_voidActs_17 : decode cX2_voidActs 17 = .ok (.aaload, 1) := by decide +kernel
theorem dX2_voidActs_18 : decode cX2_voidActs 18 = .ok (.getfield 107, 3) := by decide +kernel
theorem dX2_voidActs_21 : decode cX2_voidActs 21 = .ok (.ifCond .eq 6, 3) := by decide +kernel
theorem dX2_voidActs_24 : decode cX2_voidActs 24 = .ok (.iinc 1 1, 3) := by decide +kernel
theorem dX2_voidActs_27 : decode cX2_voidActs 27 = .ok (.iinc 2 1, 3) := by decide +kernel
theorem dX2_voidActs_30 : decode cX2_voidActs 30 = .ok (.goto (-26), 3) := by decide +kernel
theorem dX2_voidActs_33 : decode cX2_voidActs 33 = .ok (.iload_n 1, 1) := by decide +kernel
theorem dX2_voidActs_34 : decode cX2_voidActs 34 = .ok (.ireturn, 1) := by decide +kernel
theorem dX3_isCell_0 : decode cX3_isCell 0 = .ok (.iload_n 0, 1) := by decide +kernel
theorem dX3_isCell_1 : decode cX3_isCell 1 = .ok (.ifCond .lt 13, 3) := by decide +kernel
theorem dX3_isCell_4 : decode cX3_isCell 4 = .ok (.iload_n 0, 1) := by decide +kernel
theorem dX3_isCell_5 : decode cX3_isCell 5 = .ok (.bipush 36, 2) := by decide +kernel
theorem dX3_isCell_7 : decode cX3_isCell 7 = .ok (.if_icmp .ge 7, 3) := by decide +kernel
theorem dX3_isCell_10 : decode cX3_isCell 10 = .ok (.iconst 1, 1) := by decide +kernel
theorem dX3_isCell_11 : decode cX3_isCell 11 = .ok (.goto 4, 3) := by decide +kernel
theorem dX3_isCell_14 : decode cX3_isCell 14 = .ok (.iconst 0, 1) := by decide +kernel
theorem dX3_isCell_15 : decode cX3_isCell 15 = .ok (.ireturn, 1) := by decide +kernel
theorem dX3_isSet_0 : decode cX3_isSet 0 = .ok (.lload_n 0, 1) := by decide +kernel
theorem dX3_isSet_1 : decode cX3_isSet 1 = .ok (.ldc2_w 11, 3) := by decide +kernel
theorem dX3_isSet_4 : decode cX3_isSet 4 = .ok (.land, 1) := by decide +kernel
theorem dX3_isSet_5 : decode cX3_isSet 5 = .ok (.lconst 0, 1) := by decide +kernel
theorem dX3_isSet_6 : decode cX3_isSet 6 = .ok (.lcmp, 1) := by decide +kernel
theorem dX3_isSet_7 : decode cX3_isSet 7 = .ok (.ifCond .ne 7, 3) := by decide +kernel
theorem dX3_isSet_10 : decode cX3_isSet 10 = .ok (.iconst 1, 1) := by decide +kernel
theorem dX3_isSet_11 : decode cX3_isSet 11 = .ok (.goto 4, 3) := by decide +kernel
theorem dX3_isSet_14 : decode cX3_isSet 14 = .ok (.iconst 0, 1) := by decide +kernel
theorem dX3_isSet_15 : decode cX3_isSet 15 = .ok (.ireturn, 1) := by decide +kernel
theorem dX3_has_0 : decode cX3_has 0 = .ok (.lload_n 0, 1) := by decide +kernel
theorem dX3_has_1 : decode cX3_has 1 = .ok (.iload_n 2, 1) := by decide +kernel
theorem dX3_has_2 : decode cX3_has 2 = .ok (.lushr, 1) := by decide +kernel
theorem dX3_has_3 : decode cX3_has 3 = .ok (.lconst 1, 1) := by decide +kernel
theorem dX3_has_4 : decode cX3_has 4 = .ok (.land, 1) := by decide +kernel
theorem dX3_has_5 : decode cX3_has 5 = .ok (.lconst 1, 1) := by decide +kernel
theorem dX3_has_6 : decode cX3_has 6 = .ok (.lcmp, 1) := by decide +kernel
theorem dX3_has_7 : decode cX3_has 7 = .ok (.ifCond .ne 7, 3) := by decide +kernel
theorem dX3_has_10 : decode cX3_has 10 = .ok (.iconst 1, 1) := by decide +kernel
theorem dX3_has_11 : decode cX3_has 11 = .ok (.goto 4, 3) := by decide +kernel
theorem dX3_has_14 : decode cX3_has 14 = .ok (.iconst 0, 1) := by decide +kernel
theorem dX3_has_15 : decode cX3_has 15 = .ok (.ireturn, 1) := by decide +kernel
theorem dX3_areBeside_0 : decode cX3_areBeside 0 = .ok (.iload_n 0, 1) := by decide +kernel
theorem dX3_areBeside_1 : decode cX3_areBeside 1 = .ok (.iload_n 1, 1) := by decide +kernel
theorem dX3_areBeside_2 : decode cX3_areBeside 2 = .ok (.isub, 1) := by decide +kernel
theorem dX3_areBeside_3 : decode cX3_areBeside 3 = .ok (.invokestatic 13, 3) := by decide +kernel
theorem dX3_areBeside_6 : decode cX3_areBeside 6 = .ok (.istore_n 2, 1) := by decide +kernel
theorem dX3_areBeside_7 : decode cX3_areBeside 7 = .ok (.iload_n 2, 1) := by decide +kernel
theorem dX3_areBeside_8 : decode cX3_areBeside 8 = .ok (.bipush 6, 2) := by decide +kernel
theorem dX3_areBeside_10 : decode cX3_areBeside 10 = .ok (.if_icmp .eq 19, 3) := by decide +kernel
theorem dX3_areBeside_13 : decode cX3_areBeside 13 = .ok (.iload_n 2, 1) := by decide +kernel
theorem dX3_areBeside_14 : decode cX3_areBeside 14 = .ok (.iconst 1, 1) := by decide +kernel
theorem dX3_areBeside_15 : decode cX3_areBeside 15 = .ok (.if_icmp .ne 18, 3) := by decide +kernel
theorem dX3_areBeside_18 : decode cX3_areBeside 18 = .ok (.iload_n 0, 1) := by decide +kernel
theorem dX3_areBeside_19 : decode cX3_areBeside 19 = .ok (.bipush 6, 2) := by decide +kernel
theorem dX3_areBeside_21 : decode cX3_areBeside 21 = .ok (.idiv, 1) := by decide +kernel
theorem dX3_areBeside_22 : decode cX3_areBeside 22 = .ok (.iload_n 1, 1) := by decide +kernel
theorem dX3_areBeside_23 : decode cX3_areBeside 23 = .ok (.bipush 6, 2) := by decide +kernel
theorem dX3_areBeside_25 : decode cX3_areBeside 25 = .ok (.idiv, 1) := by decide +kernel
theorem dX3_areBeside_26 : decode cX3_areBeside 26 = .ok (.if_icmp .ne 7, 3) := by decide +kernel
theorem dX3_areBeside_29 : decode cX3_areBeside 29 = .ok (.iconst 1, 1) := by decide +kernel
theorem dX3_areBeside_30 : decode cX3_areBeside 30 = .ok (.goto 4, 3) := by decide +kernel
theorem dX3_areBeside_33 : decode cX3_areBeside 33 = .ok (.iconst 0, 1) := by decide +kernel
theorem dX3_areBeside_34 : decode cX3_areBeside 34 = .ok (.ireturn, 1) := by decide +kernel
theorem dX3_right_0 : decode cX3_right 0 = .ok (.lload_n 0, 1) := by decide +kernel
theorem dX3_right_1 : decode cX3_right 1 = .ok (.iconst 1, 1) := by decide +kernel
theorem dX3_right_2 : decode cX3_right 2 = .ok (.lshl, 1) := by decide +kernel
theorem dX3_right_3 : decode cX3_right 3 = .ok (.ldc2_w 19, 3) := by decide +kernel
theorem dX3_right_6 : decode cX3_right 6 = .ok (.land, 1) := by decide +kernel
theorem dX3_right_7 : decode cX3_right 7 = .ok (.ldc2_w 21, 3) := by decide +kernel
theorem dX3_right_10 : decode cX3_right 10 = .ok (.land, 1) := by decide +kernel
theorem dX3_right_11 : decode cX3_right 11 = .ok (.lreturn, 1) := by decide +kernel
theorem dX3_left_0 : decode cX3_left 0 = .ok (.lload_n 0, 1) := by decide +kernel
theorem dX3_left_1 : decode cX3_left 1 = .ok (.ldc2_w 21, 3) := by decide +kernel
theorem dX3_left_4 : decode cX3_left 4 = .ok (.land, 1) := by decide +kernel
theorem dX3_left_5 : decode cX3_left 5 = .ok (.iconst 1, 1) := by decide +kernel
theorem dX3_left_6 : decode cX3_left 6 = .ok (.lushr, 1) := by decide +kernel
theorem dX3_left_7 : decode cX3_left 7 = .ok (.lreturn, 1) := by decide +kernel
theorem dX3_down_0 : decode cX3_down 0 = .ok (.lload_n 0, 1) := by decide +kernel
theorem dX3_down_1 : decode cX3_down 1 = .ok (.bipush 6, 2) := by decide +kernel
theorem dX3_down_3 : decode cX3_down 3 = .ok (.lshl, 1) := by decide +kernel
theorem dX3_down_4 : decode cX3_down 4 = .ok (.ldc2_w 19, 3) := by decide +kernel
theorem dX3_down_7 : decode cX3_down 7 = .ok (.land, 1) := by decide +kernel
theorem dX3_down_8 : decode cX3_down 8 = .ok (.lreturn, 1) := by decide +kernel
theorem dX3_up_0 : decode cX3_up 0 = .ok (.lload_n 0, 1) := by decide +kernel
theorem dX3_up_1 : decode cX3_up 1 = .ok (.bipush 6, 2) := by decide +kernel
theorem dX3_up_3 : decode cX3_up 3 = .ok (.lushr, 1) := by decide +kernel
theorem dX3_up_4 : decode cX3_up 4 = .ok (.lreturn, 1) := by decide +kernel
theorem dX3_pairsWithin_0 : decode cX3_pairsWithin 0 = .ok (.lload_n 0, 1) := by decide +kernel
theorem dX3_pairsWithin_1 : decode cX3_pairsWithin 1 = .ok (.lload_n 0, 1) := by decide +kernel
theorem dX3_pairsWithin_2 : decode cX3_pairsWithin 2 = .ok (.invokestatic 23, 3) := by decide +kernel
theorem dX3_pairsWithin_5 : decode cX3_pairsWithin 5 = .ok (.land, 1) := by decide +kernel
theorem dX3_pairsWithin_6 : decode cX3_pairsWithin 6 = .ok (.invokestatic 27, 3) := by decide +kernel
theorem dX3_pairsWithin_9 : decode cX3_pairsWithin 9 = .ok (.lload_n 0, 1) := by decide +kernel
theorem dX3_pairsWithin_10 : decode cX3_pairsWithin 10 = .ok (.lload_n 0, 1) := by decide +kernel
theorem dX3_pairsWithin_11 : decode cX3_pairsWithin 11 = .ok (.invokestatic 33, 3) := by decide +kernel
theorem dX3_pairsWithin_14 : decode cX3_pairsWithin 14 = .ok (.land, 1) := by decide +kernel
theorem dX3_pairsWithin_15 : decode cX3_pairsWithin 15 = .ok (.invokestatic 27, 3) := by decide +kernel
theorem dX3_pairsWithin_18 : decode cX3_pairsWithin 18 = .ok (.iadd, 1) := by decide +kernel
theorem dX3_pairsWithin_19 : decode cX3_pairsWithin 19 = .ok (.ireturn, 1) := by decide +kernel
theorem dX3_sides_0 : decode cX3_sides 0 = .ok (.iconst 4, 1) := by decide +kernel
theorem dX3_sides_1 : decode cX3_sides 1 = .ok (.lload_n 0, 1) := by decide +kernel
theorem dX3_sides_2 : decode cX3_sides 2 = .ok (.invokestatic 27, 3) := by decide +kernel
theorem dX3_sides_5 : decode cX3_sides 5 = .ok (.imul, 1) := by decide +kernel
theorem dX3_sides_6 : decode cX3_sides 6 = .ok (.iconst 2, 1) := by decide +kernel
theorem dX3_sides_7 : decode cX3_sides 7 = .ok (.lload_n 0, 1) := by decide +kernel
theorem dX3_sides_8 : decode cX3_sides 8 = .ok (.invokestatic 36, 3) := by decide +kernel
theorem dX3_sides_11 : decode cX3_sides 11 = .ok (.imul, 1) := by decide +kernel
theorem dX3_sides_12 : decode cX3_sides 12 = .ok (.isub, 1) := by decide +kernel
theorem dX3_sides_13 : decode cX3_sides 13 = .ok (.ireturn, 1) := by decide +kernel
theorem dX3_firstOf_0 : decode cX3_firstOf 0 = .ok (.iconst 0, 1) := by decide +kernel
theorem dX3_firstOf_1 : decode cX3_firstOf 1 = .ok (.istore_n 2, 1) := by decide +kernel
theorem dX3_firstOf_2 : decode cX3_firstOf 2 = .ok (.iload_n 2, 1) := by decide +kernel
theorem dX3_firstOf_3 : decode cX3_firstOf 3 = .ok (.bipush 36, 2) := by decide +kernel
theorem dX3_firstOf_5 : decode cX3_firstOf 5 = .ok (.if_icmp .ge 19, 3) := by decide +kernel
theorem dX3_firstOf_8 : decode cX3_firstOf 8 = .ok (.lload_n 0, 1) := by decide +kernel
theorem dX3_firstOf_9 : decode cX3_firstOf 9 = .ok (.iload_n 2, 1) := by decide +kernel
