theorem dX3_firstOf_10 : decode cX3_firstOf 10 = .ok (.invokestatic 39, 3) := by decide +kernel
theorem dX3_firstOf_13 : decode cX3_firstOf 13 = .ok (.ifCond .eq 5, 3) := by decide +kernel
theorem dX3_firstOf_16 : decode cX3_firstOf 16 = .ok (.iload_n 2, 1) := by decide +kernel
theorem dX3_firstOf_17 : decode cX3_firstOf 17 = .ok (.ireturn, 1) := by decide +kernel
theorem dX3_firstOf_18 : decode cX3_firstOf 18 = .ok (.iinc 2 1, 3) := by decide +kernel
theorem dX3_firstOf_21 : decode cX3_firstOf 21 = .ok (.goto (-19), 3) := by decide +kernel
theorem dX3_firstOf_24 : decode cX3_firstOf 24 = .ok (.bipush 36, 2) := by decide +kernel
theorem dX3_firstOf_26 : decode cX3_firstOf 26 = .ok (.ireturn, 1) := by decide +kernel
theorem dX3_pieces_0 : decode cX3_pieces 0 = .ok (.iconst 0, 1) := by decide +kernel
theorem dX3_pieces_1 : decode cX3_pieces 1 = .ok (.istore_n 2, 1) := by decide +kernel
theorem dX3_pieces_2 : decode cX3_pieces 2 = .ok (.lload_n 0, 1) := by decide +kernel
theorem dX3_pieces_3 : decode cX3_pieces 3 = .ok (.lstore_n 3, 1) := by decide +kernel
theorem dX3_pieces_4 : decode cX3_pieces 4 = .ok (.iconst 0, 1) := by decide +kernel
theorem dX3_pieces_5 : decode cX3_pieces 5 = .ok (.istore 5, 2) := by decide +kernel
theorem dX3_pieces_7 : decode cX3_pieces 7 = .ok (.iload 5, 2) := by decide +kernel
theorem dX3_pieces_9 : decode cX3_pieces 9 = .ok (.bipush 36, 2) := by decide +kernel
theorem dX3_pieces_11 : decode cX3_pieces 11 = .ok (.if_icmp .ge 34, 3) := by decide +kernel
theorem dX3_pieces_14 : decode cX3_pieces 14 = .ok (.lload_n 3, 1) := by decide +kernel
theorem dX3_pieces_15 : decode cX3_pieces 15 = .ok (.iload 5, 2) := by decide +kernel
theorem dX3_pieces_17 : decode cX3_pieces 17 = .ok (.invokestatic 39, 3) := by decide +kernel
theorem dX3_pieces_20 : decode cX3_pieces 20 = .ok (.ifCond .eq 19, 3) := by decide +kernel
theorem dX3_pieces_23 : decode cX3_pieces 23 = .ok (.iinc 2 1, 3) := by decide +kernel
theorem dX3_pieces_26 : decode cX3_pieces 26 = .ok (.lload_n 3, 1) := by decide +kernel
theorem dX3_pieces_27 : decode cX3_pieces 27 = .ok (.iload 5, 2) := by decide +kernel
theorem dX3_pieces_29 : decode cX3_pieces 29 = .ok (.lload_n 3, 1) := by decide +kernel
theorem dX3_pieces_30 : decode cX3_pieces 30 = .ok (.invokestatic 43, 3) := by decide +kernel
theorem dX3_pieces_33 : decode cX3_pieces 33 = .ok (.ldc2_w 47, 3) := by decide +kernel
theorem dX3_pieces_36 : decode cX3_pieces 36 = .ok (.lxor, 1) := by decide +kernel
theorem dX3_pieces_37 : decode cX3_pieces 37 = .ok (.land, 1) := by decide +kernel
theorem dX3_pieces_38 : decode cX3_pieces 38 = .ok (.lstore_n 3, 1) := by decide +kernel
theorem dX3_pieces_39 : decode cX3_pieces 39 = .ok (.iinc 5 1, 3) := by decide +kernel
theorem dX3_pieces_42 : decode cX3_pieces 42 = .ok (.goto (-35), 3) := by decide +kernel
theorem dX3_pieces_45 : decode cX3_pieces 45 = .ok (.iload_n 2, 1) := by decide +kernel
theorem dX3_pieces_46 : decode cX3_pieces 46 = .ok (.ireturn, 1) := by decide +kernel
theorem dX3_heapFrom_0 : decode cX3_heapFrom 0 = .ok (.lconst 1, 1) := by decide +kernel
theorem dX3_heapFrom_1 : decode cX3_heapFrom 1 = .ok (.iload_n 0, 1) := by decide +kernel
theorem dX3_heapFrom_2 : decode cX3_heapFrom 2 = .ok (.lshl, 1) := by decide +kernel
theorem dX3_heapFrom_3 : decode cX3_heapFrom 3 = .ok (.lload_n 1, 1) := by decide +kernel
theorem dX3_heapFrom_4 : decode cX3_heapFrom 4 = .ok (.land, 1) := by decide +kernel
theorem dX3_heapFrom_5 : decode cX3_heapFrom 5 = .ok (.lstore_n 3, 1) := by decide +kernel
theorem dX3_heapFrom_6 : decode cX3_heapFrom 6 = .ok (.lconst 0, 1) := by decide +kernel
theorem dX3_heapFrom_7 : decode cX3_heapFrom 7 = .ok (.lstore 5, 2) := by decide +kernel
theorem dX3_heapFrom_9 : decode cX3_heapFrom 9 = .ok (.iconst 0, 1) := by decide +kernel
theorem dX3_heapFrom_10 : decode cX3_heapFrom 10 = .ok (.istore 7, 2) := by decide +kernel
theorem dX3_heapFrom_12 : decode cX3_heapFrom 12 = .ok (.iload 7, 2) := by decide +kernel
theorem dX3_heapFrom_14 : decode cX3_heapFrom 14 = .ok (.bipush 36, 2) := by decide +kernel
theorem dX3_heapFrom_16 : decode cX3_heapFrom 16 = .ok (.if_icmp .ge 43, 3) := by decide +kernel
theorem dX3_heapFrom_19 : decode cX3_heapFrom 19 = .ok (.lload_n 3, 1) := by decide +kernel
theorem dX3_heapFrom_20 : decode cX3_heapFrom 20 = .ok (.lload 5, 2) := by decide +kernel
theorem dX3_heapFrom_22 : decode cX3_heapFrom 22 = .ok (.lcmp, 1) := by decide +kernel
theorem dX3_heapFrom_23 : decode cX3_heapFrom 23 = .ok (.ifCond .eq 36, 3) := by decide +kernel
theorem dX3_heapFrom_26 : decode cX3_heapFrom 26 = .ok (.lload_n 3, 1) := by decide +kernel
theorem dX3_heapFrom_27 : decode cX3_heapFrom 27 = .ok (.lstore 5, 2) := by decide +kernel
theorem dX3_heapFrom_29 : decode cX3_heapFrom 29 = .ok (.lload_n 3, 1) := by decide +kernel
theorem dX3_heapFrom_30 : decode cX3_heapFrom 30 = .ok (.lload_n 3, 1) := by decide +kernel
theorem dX3_heapFrom_31 : decode cX3_heapFrom 31 = .ok (.invokestatic 23, 3) := by decide +kernel
theorem dX3_heapFrom_34 : decode cX3_heapFrom 34 = .ok (.lload_n 3, 1) := by decide +kernel
theorem dX3_heapFrom_35 : decode cX3_heapFrom 35 = .ok (.invokestatic 49, 3) := by decide +kernel
theorem dX3_heapFrom_38 : decode cX3_heapFrom 38 = .ok (.lor, 1) := by decide +kernel
theorem dX3_heapFrom_39 : decode cX3_heapFrom 39 = .ok (.lload_n 3, 1) := by decide +kernel
theorem dX3_heapFrom_40 : decode cX3_heapFrom 40 = .ok (.invokestatic 33, 3) := by decide +kernel
theorem dX3_heapFrom_43 : decode cX3_heapFrom 43 = .ok (.lor, 1) := by decide +kernel
theorem dX3_heapFrom_44 : decode cX3_heapFrom 44 = .ok (.lload_n 3, 1) := by decide +kernel
theorem dX3_heapFrom_45 : decode cX3_heapFrom 45 = .ok (.invokestatic 52, 3) := by decide +kernel
theorem dX3_heapFrom_48 : decode cX3_heapFrom 48 = .ok (.lor, 1) := by decide +kernel
theorem dX3_heapFrom_49 : decode cX3_heapFrom 49 = .ok (.lload_n 1, 1) := by decide +kernel
theorem dX3_heapFrom_50 : decode cX3_heapFrom 50 = .ok (.land, 1) := by decide +kernel
theorem dX3_heapFrom_51 : decode cX3_heapFrom 51 = .ok (.lor, 1) := by decide +kernel
theorem dX3_heapFrom_52 : decode cX3_heapFrom 52 = .ok (.lstore_n 3, 1) := by decide +kernel
theorem dX3_heapFrom_53 : decode cX3_heapFrom 53 = .ok (.iinc 7 1, 3) := by decide +kernel
theorem dX3_heapFrom_56 : decode cX3_heapFrom 56 = .ok (.goto (-44), 3) := by decide +kernel
theorem dX3_heapFrom_59 : decode cX3_heapFrom 59 = .ok (.lload_n 3, 1) := by decide +kernel
theorem dX3_heapFrom_60 : decode cX3_heapFrom 60 = .ok (.lreturn, 1) := by decide +kernel
theorem dX4_init_0 : decode cX4_init 0 = .ok (.aload_n 0, 1) := by decide +kernel
theorem dX4_init_1 : decode cX4_init 1 = .ok (.invokespecial 3, 3) := by decide +kernel
theorem dX4_init_4 : decode cX4_init 4 = .ok (.aload_n 0, 1) := by decide +kernel
theorem dX4_init_5 : decode cX4_init 5 = .ok (.bipush 10, 2) := by decide +kernel
theorem dX4_init_7 : decode cX4_init 7 = .ok (.newarray .long, 2) := by decide +kernel
theorem dX4_init_9 : decode cX4_init 9 = .ok (.putfield 9, 3) := by decide +kernel
theorem dX4_init_12 : decode cX4_init 12 = .ok (.aload_n 0, 1) := by decide +kernel
theorem dX4_init_13 : decode cX4_init 13 = .ok (.bipush 10, 2) := by decide +kernel
theorem dX4_init_15 : decode cX4_init 15 = .ok (.newarray .int, 2) := by decide +kernel
theorem dX4_init_17 : decode cX4_init 17 = .ok (.putfield 15, 3) := by decide +kernel
theorem dX4_init_20 : decode cX4_init 20 = .ok (.aload_n 0, 1) := by decide +kernel
theorem dX4_init_21 : decode cX4_init 21 = .ok (.getfield 15, 3) := by decide +kernel
theorem dX4_init_24 : decode cX4_init 24 = .ok (.bipush 10, 2) := by decide +kernel
theorem dX4_init_26 : decode cX4_init 26 = .ok (.invokestatic 19, 3) := by decide +kernel
theorem dX4_init_29 : decode cX4_init 29 = .ok (.return_, 1) := by decide +kernel
theorem dX4_becomeLike_0 : decode cX4_becomeLike 0 = .ok (.aload_n 1, 1) := by decide +kernel
theorem dX4_becomeLike_1 : decode cX4_becomeLike 1 = .ok (.getfield 9, 3) := by decide +kernel
theorem dX4_becomeLike_4 : decode cX4_becomeLike 4 = .ok (.iconst 0, 1) := by decide +kernel
theorem dX4_becomeLike_5 : decode cX4_becomeLike 5 = .ok (.aload_n 0, 1) := by decide +kernel
theorem dX4_becomeLike_6 : decode cX4_becomeLike 6 = .ok (.getfield 9, 3) := by decide +kernel
theorem dX4_becomeLike_9 : decode cX4_becomeLike 9 = .ok (.iconst 0, 1) := by decide +kernel
theorem dX4_becomeLike_10 : decode cX4_becomeLike 10 = .ok (.bipush 10, 2) := by decide +kernel
theorem dX4_becomeLike_12 : decode cX4_becomeLike 12 = .ok (.invokestatic 25, 3) := by decide +kernel
theorem dX4_becomeLike_15 : decode cX4_becomeLike 15 = .ok (.aload_n 1, 1) := by decide +kernel
theorem dX4_becomeLike_16 : decode cX4_becomeLike 16 = .ok (.getfield 15, 3) := by decide +kernel
theorem dX4_becomeLike_19 : decode cX4_becomeLike 19 = .ok (.iconst 0, 1) := by decide +kernel
theorem dX4_becomeLike_20 : decode cX4_becomeLike 20 = .ok (.aload_n 0, 1) := by decide +kernel
theorem dX4_becomeLike_21 : decode cX4_becomeLike 21 = .ok (.getfield 15, 3) := by decide +kernel
theorem dX4_becomeLike_24 : decode cX4_becomeLike 24 = .ok (.iconst 0, 1) := by decide +kernel
theorem dX4_becomeLike_25 : decode cX4_becomeLike 25 = .ok (.bipush 10, 2) := by decide +kernel
theorem dX4_becomeLike_27 : decode cX4_becomeLike 27 = .ok (.invokestatic 25, 3) := by decide +kernel
theorem dX4_becomeLike_30 : decode cX4_becomeLike 30 = .ok (.aload_n 0, 1) := by decide +kernel
theorem dX4_becomeLike_31 : decode cX4_becomeLike 31 = .ok (.aload_n 1, 1) := by decide +kernel
theorem dX4_becomeLike_32 : decode cX4_becomeLike 32 = .ok (.getfield 31, 3) := by decide +kernel
theorem dX4_becomeLike_35 : decode cX4_becomeLike 35 = .ok (.putfield 31, 3) := by decide +kernel
theorem dX4_becomeLike_38 : decode cX4_becomeLike 38 = .ok (.return_, 1) := by decide +kernel
theorem dX4_isThere_0 : decode cX4_isThere 0 = .ok (.iload_n 1, 1) := by decide +kernel
theorem dX4_isThere_1 : decode cX4_isThere 1 = .ok (.invokestatic 35, 3) := by decide +kernel
theorem dX4_isThere_4 : decode cX4_isThere 4 = .ok (.ifCond .eq 19, 3) := by decide +kernel
theorem dX4_isThere_7 : decode cX4_isThere 7 = .ok (.aload_n 0, 1) := by decide +kernel
theorem dX4_isThere_8 : decode cX4_isThere 8 = .ok (.getfield 31, 3) := by decide +kernel
theorem dX4_isThere_11 : decode cX4_isThere 11 = .ok (.iload_n 1, 1) := by decide +kernel
theorem dX4_isThere_12 : decode cX4_isThere 12 = .ok (.iushr, 1) := by decide +kernel
theorem dX4_isThere_13 : decode cX4_isThere 13 = .ok (.iconst 1, 1) := by decide +kernel
theorem dX4_isThere_14 : decode cX4_isThere 14 = .ok (.iand, 1) := by decide +kernel
theorem dX4_isThere_15 : decode cX4_isThere 15 = .ok (.iconst 1, 1) := by decide +kernel
theorem dX4_isThere_16 : decode cX4_isThere 16 = .ok (.if_icmp .ne 7, 3) := by decide +kernel
theorem dX4_isThere_19 : decode cX4_isThere 19 = .ok (.iconst 1, 1) := by decide +kernel
theorem dX4_isThere_20 : decode cX4_isThere 20 = .ok (.goto 4, 3) := by decide +kernel
theorem dX4_isThere_23 : decode cX4_isThere 23 = .ok (.iconst 0, 1) := by decide +kernel
theorem dX4_isThere_24 : decode cX4_isThere 24 = .ok (.ireturn, 1) := by decide +kernel
theorem dX4_arrive_0 : decode cX4_arrive 0 = .ok (.iload_n 1, 1) := by decide +kernel
theorem dX4_arrive_1 : decode cX4_arrive 1 = .ok (.invokestatic 35, 3) := by decide +kernel
theorem dX4_arrive_4 : decode cX4_arrive 4 = .ok (.ifCond .eq 15, 3) := by decide +kernel
theorem dX4_arrive_7 : decode cX4_arrive 7 = .ok (.aload_n 0, 1) := by decide +kernel
theorem dX4_arrive_8 : decode cX4_arrive 8 = .ok (.dup, 1) := by decide +kernel
theorem dX4_arrive_9 : decode cX4_arrive 9 = .ok (.getfield 31, 3) := by decide +kernel
theorem dX4_arrive_12 : decode cX4_arrive 12 = .ok (.iconst 1, 1) := by decide +kernel
theorem dX4_arrive_13 : decode cX4_arrive 13 = .ok (.iload_n 1, 1) := by decide +kernel
theorem dX4_arrive_14 : decode cX4_arrive 14 = .ok (.ishl, 1) := by decide +kernel
theorem dX4_arrive_15 : decode cX4_arrive 15 = .ok (.ior, 1) := by decide +kernel
theorem dX4_arrive_16 : decode cX4_arrive 16 = .ok (.putfield 31, 3) := by decide +kernel
theorem dX4_arrive_19 : decode cX4_arrive 19 = .ok (.return_, 1) := by decide +kernel
theorem dX4_leave_0 : decode cX4_leave 0 = .ok (.iload_n 1, 1) := by decide +kernel
theorem dX4_leave_1 : decode cX4_leave 1 = .ok (.invokestatic 35, 3) := by decide +kernel
theorem dX4_leave_4 : decode cX4_leave 4 = .ok (.ifCond .eq 25, 3) := by decide +kernel
theorem dX4_leave_7 : decode cX4_leave 7 = .ok (.aload_n 0, 1) := by decide +kernel
theorem dX4_leave_8 : decode cX4_leave 8 = .ok (.dup, 1) := by decide +kernel
theorem dX4_leave_9 : decode cX4_leave 9 = .ok (.getfield 31, 3) := by decide +kernel
theorem dX4_leave_12 : decode cX4_leave 12 = .ok (.iconst 1, 1) := by decide +kernel
theorem dX4_leave_13 : decode cX4_leave 13 = .ok (.iload_n 1, 1) := by decide +kernel
theorem dX4_leave_14 : decode cX4_leave 14 = .ok (.ishl, 1) := by decide +kernel
theorem dX4_leave_15 : decode cX4_leave 15 = .ok (.iconst (-1), 1) := by decide +kernel
theorem dX4_leave_16 : decode cX4_leave 16 = .ok (.ixor, 1) := by decide +kernel
theorem dX4_leave_17 : decode cX4_leave 17 = .ok (.iand, 1) := by decide +kernel
theorem dX4_leave_18 : decode cX4_leave 18 = .ok (.putfield 31, 3) := by decide +kernel
theorem dX4_leave_21 : decode cX4_leave 21 = .ok (.aload_n 0, 1) := by decide +kernel
theorem dX4_leave_22 : decode cX4_leave 22 = .ok (.getfield 15, 3) := by decide +kernel
theorem dX4_leave_25 : decode cX4_leave 25 = .ok (.iload_n 1, 1) := by decide +kernel
theorem dX4_leave_26 : decode cX4_leave 26 = .ok (.bipush 10, 2) := by decide +kernel
theorem dX4_leave_28 : decode cX4_leave 28 = .ok (.iastore, 1) := by decide +kernel
theorem dX4_leave_29 : decode cX4_leave 29 = .ok (.return_, 1) := by decide +kernel
theorem dX4_putUnder_0 : decode cX4_putUnder 0 = .ok (.iload_n 1, 1) := by decide +kernel
theorem dX4_putUnder_1 : decode cX4_putUnder 1 = .ok (.invokestatic 35, 3) := by decide +kernel
theorem dX4_putUnder_4 : decode cX4_putUnder 4 = .ok (.ifCond .eq 10, 3) := by decide +kernel
theorem dX4_putUnder_7 : decode cX4_putUnder 7 = .ok (.aload_n 0, 1) := by decide +kernel
theorem dX4_putUnder_8 : decode cX4_putUnder 8 = .ok (.getfield 15, 3) := by decide +kernel
theorem dX4_putUnder_11 : decode cX4_putUnder 11 = .ok (.iload_n 1, 1) := by decide +kernel
theorem dX4_putUnder_12 : decode cX4_putUnder 12 = .ok (.iload_n 2, 1) := by decide +kernel
theorem dX4_putUnder_13 : decode cX4_putUnder 13 = .ok (.iastore, 1) := by decide +kernel
theorem dX4_putUnder_14 : decode cX4_putUnder 14 = .ok (.return_, 1) := by decide +kernel
theorem dX4_hundredOver_0 : decode cX4_hundredOver 0 = .ok (.iload_n 1, 1) := by decide +kernel
theorem dX4_hundredOver_1 : decode cX4_hundredOver 1 = .ok (.invokestatic 35, 3) := by decide +kernel
theorem dX4_hundredOver_4 : decode cX4_hundredOver 4 = .ok (.ifCond .eq 12, 3) := by decide +kernel
theorem dX4_hundredOver_7 : decode cX4_hundredOver 7 = .ok (.aload_n 0, 1) := by decide +kernel
theorem dX4_hundredOver_8 : decode cX4_hundredOver 8 = .ok (.getfield 15, 3) := by decide +kernel
theorem dX4_hundredOver_11 : decode cX4_hundredOver 11 = .ok (.iload_n 1, 1) := by decide +kernel
theorem dX4_hundredOver_12 : decode cX4_hundredOver 12 = .ok (.iaload, 1) := by decide +kernel
theorem dX4_hundredOver_13 : decode cX4_hundredOver 13 = .ok (.goto 5, 3) := by decide +kernel
theorem dX4_hundredOver_16 : decode cX4_hundredOver 16 = .ok (.bipush 10, 2) := by decide +kernel
theorem dX4_hundredOver_18 : decode cX4_hundredOver 18 = .ok (.ireturn, 1) := by decide +kernel
theorem dX4_give_0 : decode cX4_give 0 = .ok (.iconst 0, 1) := by decide +kernel
theorem dX4_give_1 : decode cX4_give 1 = .ok (.istore 4, 2) := by decide +kernel
theorem dX4_give_3 : decode cX4_give 3 = .ok (.iload 4, 2) := by decide +kernel
theorem dX4_give_5 : decode cX4_give 5 = .ok (.bipush 10, 2) := by decide +kernel
theorem dX4_give_7 : decode cX4_give 7 = .ok (.if_icmp .ge 24, 3) := by decide +kernel
theorem dX4_give_10 : decode cX4_give 10 = .ok (.aload_n 0, 1) := by decide +kernel
theorem dX4_give_11 : decode cX4_give 11 = .ok (.getfield 9, 3) := by decide +kernel
theorem dX4_give_14 : decode cX4_give 14 = .ok (.iload 4, 2) := by decide +kernel
theorem dX4_give_16 : decode cX4_give 16 = .ok (.dup2, 1) := by decide +kernel
theorem dX4_give_17 : decode cX4_give 17 = .ok (.laload, 1) := by decide +kernel
theorem dX4_give_18 : decode cX4_give 18 = .ok (.lload_n 1, 1) := by decide +kernel
theorem dX4_give_19 : decode cX4_give 19 = .ok (.ldc2_w 39, 3) := by decide +kernel
theorem dX4_give_22 : decode cX4_give 22 = .ok (.lxor, 1) := by decide +kernel
theorem dX4_give_23 : decode cX4_give 23 = .ok (.land, 1) := by decide +kernel
theorem dX4_give_24 : decode cX4_give 24 = .ok (.lastore, 1) := by decide +kernel
theorem dX4_give_25 : decode cX4_give 25 = .ok (.iinc 4 1, 3) := by decide +kernel
theorem dX4_give_28 : decode cX4_give 28 = .ok (.goto (-25), 3) := by decide +kernel
theorem dX4_give_31 : decode cX4_give 31 = .ok (.iload_n 3, 1) := by decide +kernel
theorem dX4_give_32 : decode cX4_give 32 = .ok (.invokestatic 35, 3) := by decide +kernel
theorem dX4_give_35 : decode cX4_give 35 = .ok (.ifCond .eq 13, 3) := by decide +kernel
theorem dX4_give_38 : decode cX4_give 38 = .ok (.aload_n 0, 1) := by decide +kernel
theorem dX4_give_39 : decode cX4_give 39 = .ok (.getfield 9, 3) := by decide +kernel
theorem dX4_give_42 : decode cX4_give 42 = .ok (.iload_n 3, 1) := by decide +kernel
theorem dX4_give_43 : decode cX4_give 43 = .ok (.dup2, 1) := by decide +kernel
theorem dX4_give_44 : decode cX4_give 44 = .ok (.laload, 1) := by decide +kernel
theorem dX4_give_45 : decode cX4_give 45 = .ok (.lload_n 1, 1) := by decide +kernel
theorem dX4_give_46 : decode cX4_give 46 = .ok (.lor, 1) := by decide +kernel
theorem dX4_give_47 : decode cX4_give 47 = .ok (.lastore, 1) := by decide +kernel
theorem dX4_give_48 : decode cX4_give 48 = .ok (.return_, 1) := by decide +kernel
theorem dX4_heldBy_0 : decode cX4_heldBy 0 = .ok (.iload_n 1, 1) := by decide +kernel
theorem dX4_heldBy_1 : decode cX4_heldBy 1 = .ok (.invokestatic 35, 3) := by decide +kernel
theorem dX4_heldBy_4 : decode cX4_heldBy 4 = .ok (.ifCond .eq 10, 3) := by decide +kernel
theorem dX4_heldBy_7 : decode cX4_heldBy 7 = .ok (.aload_n 0, 1) := by decide +kernel
theorem dX4_heldBy_8 : decode cX4_heldBy 8 = .ok (.getfield 9, 3) := by decide +kernel
theorem dX4_heldBy_11 : decode cX4_heldBy 11 = .ok (.iload_n 1, 1) := by decide +kernel
theorem dX4_heldBy_12 : decode cX4_heldBy 12 = .ok (.laload, 1) := by decide +kernel
theorem dX4_heldBy_13 : decode cX4_heldBy 13 = .ok (.lreturn, 1) := by decide +kernel
theorem dX4_heldBy_14 : decode cX4_heldBy 14 = .ok (.ldc2_w 43, 3) := by decide +kernel
theorem dX4_heldBy_17 : decode cX4_heldBy 17 = .ok (.lstore_n 2, 1) := by decide +kernel
theorem dX4_heldBy_18 : decode cX4_heldBy 18 = .ok (.iconst 0, 1) := by decide +kernel
theorem dX4_heldBy_19 : decode cX4_heldBy 19 = .ok (.istore 4, 2) := by decide +kernel
theorem dX4_heldBy_21 : decode cX4_heldBy 21 = .ok (.iload 4, 2) := by decide +kernel
theorem dX4_heldBy_23 : decode cX4_heldBy 23 = .ok (.bipush 10, 2) := by decide +kernel
theorem dX4_heldBy_25 : decode cX4_heldBy 25 = .ok (.if_icmp .ge 23, 3) := by decide +kernel
theorem dX4_heldBy_28 : decode cX4_heldBy 28 = .ok (.lload_n 2, 1) := by decide +kernel
theorem dX4_heldBy_29 : decode cX4_heldBy 29 = .ok (.aload_n 0, 1) := by decide +kernel
theorem dX4_heldBy_30 : decode cX4_heldBy 30 = .ok (.getfield 9, 3) := by decide +kernel
theorem dX4_heldBy_33 : decode cX4_heldBy 33 = .ok (.iload 4, 2) := by decide +kernel
theorem dX4_heldBy_35 : decode cX4_heldBy 35 = .ok (.laload, 1) := by decide +kernel
theorem dX4_heldBy_36 : decode cX4_heldBy 36 = .ok (.ldc2_w 39, 3) := by decide +kernel
theorem dX4_heldBy_39 : decode cX4_heldBy 39 = .ok (.lxor, 1) := by decide +kernel
theorem dX4_heldBy_40 : decode cX4_heldBy 40 = .ok (.land, 1) := by decide +kernel
theorem dX4_heldBy_41 : decode cX4_heldBy 41 = .ok (.lstore_n 2, 1) := by decide +kernel
theorem dX4_heldBy_42 : decode cX4_heldBy 42 = .ok (.iinc 4 1, 3) := by decide +kernel
theorem dX4_heldBy_45 : decode cX4_heldBy 45 = .ok (.goto (-24), 3) := by decide +kernel
theorem dX4_heldBy_48 : decode cX4_heldBy 48 = .ok (.lload_n 2, 1) := by decide +kernel
theorem dX4_heldBy_49 : decode cX4_heldBy 49 = .ok (.lreturn, 1) := by decide +kernel
theorem dX4_heldUnder_0 : decode cX4_heldUnder 0 = .ok (.lconst 0, 1) := by decide +kernel
theorem dX4_heldUnder_1 : decode cX4_heldUnder 1 = .ok (.lstore_n 2, 1) := by decide +kernel
theorem dX4_heldUnder_2 : decode cX4_heldUnder 2 = .ok (.iconst 0, 1) := by decide +kernel
theorem dX4_heldUnder_3 : decode cX4_heldUnder 3 = .ok (.istore 4, 2) := by decide +kernel
theorem dX4_heldUnder_5 : decode cX4_heldUnder 5 = .ok (.iload 4, 2) := by decide +kernel
theorem dX4_heldUnder_7 : decode cX4_heldUnder 7 = .ok (.bipush 10, 2) := by decide +kernel
theorem dX4_heldUnder_9 : decode cX4_heldUnder 9 = .ok (.if_icmp .ge 30, 3) := by decide +kernel
theorem dX4_heldUnder_12 : decode cX4_heldUnder 12 = .ok (.aload_n 0, 1) := by decide +kernel
theorem dX4_heldUnder_13 : decode cX4_heldUnder 13 = .ok (.getfield 15, 3) := by decide +kernel
theorem dX4_heldUnder_16 : decode cX4_heldUnder 16 = .ok (.iload 4, 2) := by decide +kernel
theorem dX4_heldUnder_18 : decode cX4_heldUnder 18 = .ok (.iaload, 1) := by decide +kernel
theorem dX4_heldUnder_19 : decode cX4_heldUnder 19 = .ok (.iload_n 1, 1) := by decide +kernel
theorem dX4_heldUnder_20 : decode cX4_heldUnder 20 = .ok (.if_icmp .ne 13, 3) := by decide +kernel
theorem dX4_heldUnder_23 : decode cX4_heldUnder 23 = .ok (.lload_n 2, 1) := by decide +kernel
theorem dX4_heldUnder_24 : decode cX4_heldUnder 24 = .ok (.aload_n 0, 1) := by decide +kernel
theorem dX4_heldUnder_25 : decode cX4_heldUnder 25 = .ok (.getfield 9, 3) := by decide +kernel
theorem dX4_heldUnder_28 : decode cX4_heldUnder 28 = .ok (.iload 4, 2) := by decide +kernel
theorem dX4_heldUnder_30 : decode cX4_heldUnder 30 = .ok (.laload, 1) := by decide +kernel
theorem dX4_heldUnder_31 : decode cX4_heldUnder 31 = .ok (.lor, 1) := by decide +kernel
theorem dX4_heldUnder_32 : decode cX4_heldUnder 32 = .ok (.lstore_n 2, 1) := by decide +kernel
theorem dX4_heldUnder_33 : decode cX4_heldUnder 33 = .ok (.iinc 4 1, 3) := by decide +kernel
theorem dX4_heldUnder_36 : decode cX4_heldUnder 36 = .ok (.goto (-31), 3) := by decide +kernel
theorem dX4_heldUnder_39 : decode cX4_heldUnder 39 = .ok (.lload_n 2, 1) := by decide +kernel
theorem dX4_heldUnder_40 : decode cX4_heldUnder 40 = .ok (.lreturn, 1) := by decide +kernel
theorem dX4_holderOf_0 : decode cX4_holderOf 0 = .ok (.iconst 0, 1) := by decide +kernel
theorem dX4_holderOf_1 : decode cX4_holderOf 1 = .ok (.istore_n 2, 1) := by decide +kernel
theorem dX4_holderOf_2 : decode cX4_holderOf 2 = .ok (.iload_n 2, 1) := by decide +kernel
theorem dX4_holderOf_3 : decode cX4_holderOf 3 = .ok (.bipush 10, 2) := by decide +kernel
theorem dX4_holderOf_5 : decode cX4_holderOf 5 = .ok (.if_icmp .ge 24, 3) := by decide +kernel
theorem dX4_holderOf_8 : decode cX4_holderOf 8 = .ok (.aload_n 0, 1) := by decide +kernel
theorem dX4_holderOf_9 : decode cX4_holderOf 9 = .ok (.getfield 9, 3) := by decide +kernel
theorem dX4_holderOf_12 : decode cX4_holderOf 12 = .ok (.iload_n 2, 1) := by decide +kernel
theorem dX4_holderOf_13 : decode cX4_holderOf 13 = .ok (.laload, 1) := by decide +kernel
theorem dX4_holderOf_14 : decode cX4_holderOf 14 = .ok (.iload_n 1, 1) := by decide +kernel
theorem dX4_holderOf_15 : decode cX4_holderOf 15 = .ok (.invokestatic 45, 3) := by decide +kernel
theorem dX4_holderOf_18 : decode cX4_holderOf 18 = .ok (.ifCond .eq 5, 3) := by decide +kernel
theorem dX4_holderOf_21 : decode cX4_holderOf 21 = .ok (.iload_n 2, 1) := by decide +kernel
theorem dX4_holderOf_22 : decode cX4_holderOf 22 = .ok (.ireturn, 1) := by decide +kernel
theorem dX4_holderOf_23 : decode cX4_holderOf 23 = .ok (.iinc 2 1, 3) := by decide +kernel
theorem dX4_holderOf_26 : decode cX4_holderOf 26 = .ok (.goto (-24), 3) := by decide +kernel
theorem dX4_holderOf_29 : decode cX4_holderOf 29 = .ok (.bipush 10, 2) := by decide +kernel
theorem dX4_holderOf_31 : decode cX4_holderOf 31 = .ok (.ireturn, 1) := by decide +kernel
theorem dX4_hasBorder_0 : decode cX4_hasBorder 0 = .ok (.aload_n 0, 1) := by decide +kernel
theorem dX4_hasBorder_1 : decode cX4_hasBorder 1 = .ok (.iload_n 1, 1) := by decide +kernel
theorem dX4_hasBorder_2 : decode cX4_hasBorder 2 = .ok (.invokevirtual 49, 3) := by decide +kernel
theorem dX4_hasBorder_5 : decode cX4_hasBorder 5 = .ok (.aload_n 0, 1) := by decide +kernel
theorem dX4_hasBorder_6 : decode cX4_hasBorder 6 = .ok (.iload_n 2, 1) := by decide +kernel
theorem dX4_hasBorder_7 : decode cX4_hasBorder 7 = .ok (.invokevirtual 49, 3) := by decide +kernel
theorem dX4_hasBorder_10 : decode cX4_hasBorder 10 = .ok (.if_icmp .eq 7, 3) := by decide +kernel
theorem dX4_hasBorder_13 : decode cX4_hasBorder 13 = .ok (.iconst 1, 1) := by decide +kernel
theorem dX4_hasBorder_14 : decode cX4_hasBorder 14 = .ok (.goto 4, 3) := by decide +kernel
theorem dX4_hasBorder_17 : decode cX4_hasBorder 17 = .ok (.iconst 0, 1) := by decide +kernel
theorem dX4_hasBorder_18 : decode cX4_hasBorder 18 = .ok (.ireturn, 1) := by decide +kernel
theorem dX4_borderPairs_0 : decode cX4_borderPairs 0 = .ok (.iconst 0, 1) := by decide +kernel
theorem dX4_borderPairs_1 : decode cX4_borderPairs 1 = .ok (.istore_n 1, 1) := by decide +kernel
theorem dX4_borderPairs_2 : decode cX4_borderPairs 2 = .ok (.iconst 0, 1) := by decide +kernel
theorem dX4_borderPairs_3 : decode cX4_borderPairs 3 = .ok (.istore_n 2, 1) := by decide +kernel
theorem dX4_borderPairs_4 : decode cX4_borderPairs 4 = .ok (.iload_n 2, 1) := by decide +kernel
theorem dX4_borderPairs_5 : decode cX4_borderPairs 5 = .ok (.bipush 11, 2) := by decide +kernel
theorem dX4_borderPairs_7 : decode cX4_borderPairs 7 = .ok (.if_icmp .ge 20, 3) := by decide +kernel
theorem dX4_borderPairs_10 : decode cX4_borderPairs 10 = .ok (.iload_n 1, 1) := by decide +kernel
theorem dX4_borderPairs_11 : decode cX4_borderPairs 11 = .ok (.aload_n 0, 1) := by decide +kernel
theorem dX4_borderPairs_12 : decode cX4_borderPairs 12 = .ok (.iload_n 2, 1) := by decide +kernel
theorem dX4_borderPairs_13 : decode cX4_borderPairs 13 = .ok (.invokevirtual 53, 3) := by decide +kernel
theorem dX4_borderPairs_16 : decode cX4_borderPairs 16 = .ok (.invokestatic 57, 3) := by decide +kernel
theorem dX4_borderPairs_19 : decode cX4_borderPairs 19 = .ok (.iadd, 1) := by decide +kernel
theorem dX4_borderPairs_20 : decode cX4_borderPairs 20 = .ok (.istore_n 1, 1) := by decide +kernel
theorem dX4_borderPairs_21 : decode cX4_borderPairs 21 = .ok (.iinc 2 1, 3) := by decide +kernel
theorem dX4_borderPairs_24 : decode cX4_borderPairs 24 = .ok (.goto (-20), 3) := by decide +kernel
theorem dX4_borderPairs_27 : decode cX4_borderPairs 27 = .ok (.bipush 60, 2) := by decide +kernel
theorem dX4_borderPairs_29 : decode cX4_borderPairs 29 = .ok (.iload_n 1, 1) := by decide +kernel
theorem dX4_borderPairs_30 : decode cX4_borderPairs 30 = .ok (.isub, 1) := by decide +kernel
theorem dX4_borderPairs_31 : decode cX4_borderPairs 31 = .ok (.ireturn, 1) := by decide +kernel
theorem dX4_isSlot_0 : decode cX4_isSlot 0 = .ok (.iload_n 0, 1) := by decide +kernel
theorem dX4_isSlot_1 : decode cX4_isSlot 1 = .ok (.ifCond .lt 13, 3) := by decide +kernel
theorem dX4_isSlot_4 : decode cX4_isSlot 4 = .ok (.iload_n 0, 1) := by decide +kernel
theorem dX4_isSlot_5 : decode cX4_isSlot 5 = .ok (.bipush 10, 2) := by decide +kernel
theorem dX4_isSlot_7 : decode cX4_isSlot 7 = .ok (.if_icmp .ge 7, 3) := by decide +kernel
theorem dX4_isSlot_10 : decode cX4_isSlot 10 = .ok (.iconst 1, 1) := by decide +kernel
theorem dX4_isSlot_11 : decode cX4_isSlot 11 = .ok (.goto 4, 3) := by decide +kernel
theorem dX4_isSlot_14 : decode cX4_isSlot 14 = .ok (.iconst 0, 1) := by decide +kernel
theorem dX4_isSlot_15 : decode cX4_isSlot 15 = .ok (.ireturn, 1) := by decide +kernel
theorem dX5_init_0 : decode cX5_init 0 = .ok (.aload_n 0, 1) := by decide +kernel
theorem dX5_init_1 : decode cX5_init 1 = .ok (.invokespecial 3, 3) := by decide +kernel
theorem dX5_init_4 : decode cX5_init 4 = .ok (.aload_n 0, 1) := by decide +kernel
theorem dX5_init_5 : decode cX5_init 5 = .ok (.bipush 36, 2) := by decide +kernel
theorem dX5_init_7 : decode cX5_init 7 = .ok (.newarray .int, 2) := by decide +kernel
theorem dX5_init_9 : decode cX5_init 9 = .ok (.putfield 9, 3) := by decide +kernel
theorem dX5_init_12 : decode cX5_init 12 = .ok (.return_, 1) := by decide +kernel
theorem dX5_renew_0 : decode cX5_renew 0 = .ok (.aload_n 0, 1) := by decide +kernel
theorem dX5_renew_1 : decode cX5_renew 1 = .ok (.iload_n 1, 1) := by decide +kernel
theorem dX5_renew_2 : decode cX5_renew 2 = .ok (.putfield 15, 3) := by decide +kernel
theorem dX5_renew_5 : decode cX5_renew 5 = .ok (.aload_n 0, 1) := by decide +kernel
theorem dX5_renew_6 : decode cX5_renew 6 = .ok (.iload_n 1, 1) := by decide +kernel
theorem dX5_renew_7 : decode cX5_renew 7 = .ok (.ifCond .ne 7, 3) := by decide +kernel
theorem dX5_renew_10 : decode cX5_renew 10 = .ok (.iconst 0, 1) := by decide +kernel
theorem dX5_renew_11 : decode cX5_renew 11 = .ok (.goto 4, 3) := by decide +kernel
theorem dX5_renew_14 : decode cX5_renew 14 = .ok (.iload_n 2, 1) := by decide +kernel
theorem dX5_renew_15 : decode cX5_renew 15 = .ok (.putfield 19, 3) := by decide +kernel
theorem dX5_renew_18 : decode cX5_renew 18 = .ok (.aload_n 0, 1) := by decide +kernel
theorem dX5_renew_19 : decode cX5_renew 19 = .ok (.getfield 9, 3) := by decide +kernel
theorem dX5_renew_22 : decode cX5_renew 22 = .ok (.iconst 0, 1) := by decide +kernel
theorem dX5_renew_23 : decode cX5_renew 23 = .ok (.invokestatic 22, 3) := by decide +kernel
theorem dX5_renew_26 : decode cX5_renew 26 = .ok (.aload_n 0, 1) := by decide +kernel
theorem dX5_renew_27 : decode cX5_renew 27 = .ok (.getfield 19, 3) := by decide +kernel
theorem dX5_renew_30 : decode cX5_renew 30 = .ok (.ireturn, 1) := by decide +kernel
theorem dX5_isMissing_0 : decode cX5_isMissing 0 = .ok (.aload_n 0, 1) := by decide +kernel
theorem dX5_isMissing_1 : decode cX5_isMissing 1 = .ok (.getfield 15, 3) := by decide +kernel
theorem dX5_isMissing_4 : decode cX5_isMissing 4 = .ok (.ifCond .ne 7, 3) := by decide +kernel
theorem dX5_isMissing_7 : decode cX5_isMissing 7 = .ok (.iconst 1, 1) := by decide +kernel
theorem dX5_isMissing_8 : decode cX5_isMissing 8 = .ok (.goto 4, 3) := by decide +kernel
theorem dX5_isMissing_11 : decode cX5_isMissing 11 = .ok (.iconst 0, 1) := by decide +kernel
theorem dX5_isMissing_12 : decode cX5_isMissing 12 = .ok (.ireturn, 1) := by decide +kernel
theorem dX5_hasRun_0 : decode cX5_hasRun 0 = .ok (.iload_n 1, 1) := by decide +kernel
theorem dX5_hasRun_1 : decode cX5_hasRun 1 = .ok (.ifCond .lt 29, 3) := by decide +kernel
theorem dX5_hasRun_4 : decode cX5_hasRun 4 = .ok (.iload_n 2, 1) := by decide +kernel
theorem dX5_hasRun_5 : decode cX5_hasRun 5 = .ok (.ifCond .lt 25, 3) := by decide +kernel
theorem dX5_hasRun_8 : decode cX5_hasRun 8 = .ok (.iload_n 2, 1) := by decide +kernel
theorem dX5_hasRun_9 : decode cX5_hasRun 9 = .ok (.aload_n 0, 1) := by decide +kernel
theorem dX5_hasRun_10 : decode cX5_hasRun 10 = .ok (.getfield 19, 3) := by decide +kernel
theorem dX5_hasRun_13 : decode cX5_hasRun 13 = .ok (.if_icmp .gt 17, 3) := by decide +kernel
theorem dX5_hasRun_16 : decode cX5_hasRun 16 = .ok (.iload_n 1, 1) := by decide +kernel
theorem dX5_hasRun_17 : decode cX5_hasRun 17 = .ok (.aload_n 0, 1) := by decide +kernel
theorem dX5_hasRun_18 : decode cX5_hasRun 18 = .ok (.getfield 19, 3) := by decide +kernel
theorem dX5_hasRun_21 : decode cX5_hasRun 21 = .ok (.iload_n 2, 1) := by decide +kernel
theorem dX5_hasRun_22 : decode cX5_hasRun 22 = .ok (.isub, 1) := by decide +kernel
theorem dX5_hasRun_23 : decode cX5_hasRun 23 = .ok (.if_icmp .gt 7, 3) := by decide +kernel
theorem dX5_hasRun_26 : decode cX5_hasRun 26 = .ok (.iconst 1, 1) := by decide +kernel
theorem dX5_hasRun_27 : decode cX5_hasRun 27 = .ok (.goto 4, 3) := by decide +kernel
theorem dX5_hasRun_30 : decode cX5_hasRun 30 = .ok (.iconst 0, 1) := by decide +kernel
theorem dX5_hasRun_31 : decode cX5_hasRun 31 = .ok (.ireturn, 1) := by decide +kernel
theorem dX5_lowestBits_0 : decode cX5_lowestBits 0 = .ok (.aload_n 0, 1) := by decide +kernel
theorem dX5_lowestBits_1 : decode cX5_lowestBits 1 = .ok (.getfield 15, 3) := by decide +kernel
theorem dX5_lowestBits_4 : decode cX5_lowestBits 4 = .ok (.bipush 32, 2) := by decide +kernel
theorem dX5_lowestBits_6 : decode cX5_lowestBits 6 = .ok (.if_icmp .ne 7, 3) := by decide +kernel
theorem dX5_lowestBits_9 : decode cX5_lowestBits 9 = .ok (.iload_n 1, 1) := by decide +kernel
theorem dX5_lowestBits_10 : decode cX5_lowestBits 10 = .ok (.goto 13, 3) := by decide +kernel
theorem dX5_lowestBits_13 : decode cX5_lowestBits 13 = .ok (.iload_n 1, 1) := by decide +kernel
theorem dX5_lowestBits_14 : decode cX5_lowestBits 14 = .ok (.iconst 1, 1) := by decide +kernel
theorem dX5_lowestBits_15 : decode cX5_lowestBits 15 = .ok (.aload_n 0, 1) := by decide +kernel
theorem dX5_lowestBits_16 : decode cX5_lowestBits 16 = .ok (.getfield 15, 3) := by decide +kernel
theorem dX5_lowestBits_19 : decode cX5_lowestBits 19 = .ok (.ishl, 1) := by decide +kernel
theorem dX5_lowestBits_20 : decode cX5_lowestBits 20 = .ok (.iconst 1, 1) := by decide +kernel
theorem dX5_lowestBits_21 : decode cX5_lowestBits 21 = .ok (.isub, 1) := by decide +kernel
theorem dX5_lowestBits_22 : decode cX5_lowestBits 22 = .ok (.iand, 1) := by decide +kernel
theorem dX5_lowestBits_23 : decode cX5_lowestBits 23 = .ok (.ireturn, 1) := by decide +kernel
theorem dX6_init_0 : decode cX6_init 0 = .ok (.aload_n 0, 1) := by decide +kernel
theorem dX6_init_1 : decode cX6_init 1 = .ok (.invokespecial 3, 3) := by decide +kernel
theorem dX6_init_4 : decode cX6_init 4 = .ok (.aload_n 0, 1) := by decide +kernel
theorem dX6_init_5 : decode cX6_init 5 = .ok (.bipush 20, 2) := by decide +kernel
theorem dX6_init_7 : decode cX6_init 7 = .ok (.newarray .int, 2) := by decide +kernel
theorem dX6_init_9 : decode cX6_init 9 = .ok (.putfield 9, 3) := by decide +kernel
theorem dX6_init_12 : decode cX6_init 12 = .ok (.aload_n 0, 1) := by decide +kernel
theorem dX6_init_13 : decode cX6_init 13 = .ok (.bipush 20, 2) := by decide +kernel
theorem dX6_init_15 : decode cX6_init 15 = .ok (.newarray .int, 2) := by decide +kernel
theorem dX6_init_17 : decode cX6_init 17 = .ok (.putfield 15, 3) := by decide +kernel
theorem dX6_init_20 : decode cX6_init 20 = .ok (.aload_n 0, 1) := by decide +kernel
theorem dX6_init_21 : decode cX6_init 21 = .ok (.bipush 20, 2) := by decide +kernel
theorem dX6_init_23 : decode cX6_init 23 = .ok (.newarray .int, 2) := by decide +kernel
theorem dX6_init_25 : decode cX6_init 25 = .ok (.putfield 18, 3) := by decide +kernel
theorem dX6_init_28 : decode cX6_init 28 = .ok (.return_, 1) := by decide +kernel
theorem dX6_isFull_0 : decode cX6_isFull 0 = .ok (.aload_n 0, 1) := by decide +kernel
theorem dX6_isFull_1 : decode cX6_isFull 1 = .ok (.getfield 21, 3) := by decide +kernel
theorem dX6_isFull_4 : decode cX6_isFull 4 = .ok (.bipush 20, 2) := by decide +kernel
theorem dX6_isFull_6 : decode cX6_isFull 6 = .ok (.if_icmp .lt 7, 3) := by decide +kernel
theorem dX6_isFull_9 : decode cX6_isFull 9 = .ok (.iconst 1, 1) := by decide +kernel
theorem dX6_isFull_10 : decode cX6_isFull 10 = .ok (.goto 4, 3) := by decide +kernel
theorem dX6_isFull_13 : decode cX6_isFull 13 = .ok (.iconst 0, 1) := by decide +kernel
theorem dX6_isFull_14 : decode cX6_isFull 14 = .ok (.ireturn, 1) := by decide +kernel
theorem dX6_add_0 : decode cX6_add 0 = .ok (.aload_n 0, 1) := by decide +kernel
theorem dX6_add_1 : decode cX6_add 1 = .ok (.invokevirtual 25, 3) := by decide +kernel
theorem dX6_add_4 : decode cX6_add 4 = .ok (.ifCond .ne 43, 3) := by decide +kernel
theorem dX6_add_7 : decode cX6_add 7 = .ok (.aload_n 0, 1) := by decide +kernel
theorem dX6_add_8 : decode cX6_add 8 = .ok (.getfield 9, 3) := by decide +kernel
theorem dX6_add_11 : decode cX6_add 11 = .ok (.aload_n 0, 1) := by decide +kernel
theorem dX6_add_12 : decode cX6_add 12 = .ok (.getfield 21, 3) := by decide +kernel
theorem dX6_add_15 : decode cX6_add 15 = .ok (.iload_n 1, 1) := by decide +kernel
theorem dX6_add_16 : decode cX6_add 16 = .ok (.iastore, 1) := by decide +kernel
theorem dX6_add_17 : decode cX6_add 17 = .ok (.aload_n 0, 1) := by decide +kernel
theorem dX6_add_18 : decode cX6_add 18 = .ok (.getfield 15, 3) := by decide +kernel
theorem dX6_add_21 : decode cX6_add 21 = .ok (.aload_n 0, 1) := by decide +kernel
theorem dX6_add_22 : decode cX6_add 22 = .ok (.getfield 21, 3) := by decide +kernel
theorem dX6_add_25 : decode cX6_add 25 = .ok (.iload_n 2, 1) := by decide +kernel
theorem dX6_add_26 : decode cX6_add 26 = .ok (.iastore, 1) := by decide +kernel
theorem dX6_add_27 : decode cX6_add 27 = .ok (.aload_n 0, 1) := by decide +kernel
theorem dX6_add_28 : decode cX6_add 28 = .ok (.getfield 18, 3) := by decide +kernel
theorem dX6_add_31 : decode cX6_add 31 = .ok (.aload_n 0, 1) := by decide +kernel
theorem dX6_add_32 : decode cX6_add 32 = .ok (.getfield 21, 3) := by decide +kernel
theorem dX6_add_35 : decode cX6_add 35 = .ok (.iload_n 3, 1) := by decide +kernel
theorem dX6_add_36 : decode cX6_add 36 = .ok (.iastore, 1) := by decide +kernel
theorem dX6_add_37 : decode cX6_add 37 = .ok (.aload_n 0, 1) := by decide +kernel
theorem dX6_add_38 : decode cX6_add 38 = .ok (.dup, 1) := by decide +kernel
theorem dX6_add_39 : decode cX6_add 39 = .ok (.getfield 21, 3) := by decide +kernel
theorem dX6_add_42 : decode cX6_add 42 = .ok (.iconst 1, 1) := by decide +kernel
theorem dX6_add_43 : decode cX6_add 43 = .ok (.iadd, 1) := by decide +kernel
theorem dX6_add_44 : decode cX6_add 44 = .ok (.putfield 21, 3) := by decide +kernel
theorem dX6_add_47 : decode cX6_add 47 = .ok (.aload_n 0, 1) := by decide +kernel
theorem dX6_add_48 : decode cX6_add 48 = .ok (.getfield 21, 3) := by decide +kernel
theorem dX6_add_51 : decode cX6_add 51 = .ok (.ireturn, 1) := by decide +kernel
theorem dX6_standsFor_0 : decode cX6_standsFor 0 = .ok (.aload_n 0, 1) := by decide +kernel
theorem dX6_standsFor_1 : decode cX6_standsFor 1 = .ok (.getfield 15, 3) := by decide +kernel
theorem dX6_standsFor_4 : decode cX6_standsFor 4 = .ok (.iload_n 1, 1) := by decide +kernel
theorem dX6_standsFor_5 : decode cX6_standsFor 5 = .ok (.iaload, 1) := by decide +kernel
theorem dX6_standsFor_6 : decode cX6_standsFor 6 = .ok (.iload_n 2, 1) := by decide +kernel
theorem dX6_standsFor_7 : decode cX6_standsFor 7 = .ok (.if_icmp .eq 5, 3) := by decide +kernel
theorem dX6_standsFor_10 : decode cX6_standsFor 10 = .ok (.iconst 0, 1) := by decide +kernel
theorem dX6_standsFor_11 : decode cX6_standsFor 11 = .ok (.ireturn, 1) := by decide +kernel
theorem dX6_standsFor_12 : decode cX6_standsFor 12 = .ok (.iload_n 1, 1) := by decide +kernel
theorem dX6_standsFor_13 : decode cX6_standsFor 13 = .ok (.iconst 1, 1) := by decide +kernel
theorem dX6_standsFor_14 : decode cX6_standsFor 14 = .ok (.iadd, 1) := by decide +kernel
theorem dX6_standsFor_15 : decode cX6_standsFor 15 = .ok (.istore_n 3, 1) := by decide +kernel
theorem dX6_standsFor_16 : decode cX6_standsFor 16 = .ok (.iload_n 3, 1) := by decide +kernel
theorem dX6_standsFor_17 : decode cX6_standsFor 17 = .ok (.aload_n 0, 1) := by decide +kernel
theorem dX6_standsFor_18 : decode cX6_standsFor 18 = .ok (.getfield 21, 3) := by decide +kernel
theorem dX6_standsFor_21 : decode cX6_standsFor 21 = .ok (.if_icmp .ge 36, 3) := by decide +kernel
theorem dX6_standsFor_24 : decode cX6_standsFor 24 = .ok (.aload_n 0, 1) := by decide +kernel
theorem dX6_standsFor_25 : decode cX6_standsFor 25 = .ok (.getfield 15, 3) := by decide +kernel
theorem dX6_standsFor_28 : decode cX6_standsFor 28 = .ok (.iload_n 3, 1) := by decide +kernel
theorem dX6_standsFor_29 : decode cX6_standsFor 29 = .ok (.iaload, 1) := by decide +kernel
theorem dX6_standsFor_30 : decode cX6_standsFor 30 = .ok (.iload_n 2, 1) := by decide +kernel
theorem dX6_standsFor_31 : decode cX6_standsFor 31 = .ok (.if_icmp .ne 20, 3) := by decide +kernel
theorem dX6_standsFor_34 : decode cX6_standsFor 34 = .ok (.aload_n 0, 1) := by decide +kernel
theorem dX6_standsFor_35 : decode cX6_standsFor 35 = .ok (.getfield 9, 3) := by decide +kernel
theorem dX6_standsFor_38 : decode cX6_standsFor 38 = .ok (.iload_n 3, 1) := by decide +kernel
theorem dX6_standsFor_39 : decode cX6_standsFor 39 = .ok (.iaload, 1) := by decide +kernel
theorem dX6_standsFor_40 : decode cX6_standsFor 40 = .ok (.aload_n 0, 1) := by decide +kernel
theorem dX6_standsFor_41 : decode cX6_standsFor 41 = .ok (.getfield 9, 3) := by decide +kernel
theorem dX6_standsFor_44 : decode cX6_standsFor 44 = .ok (.iload_n 1, 1) := by decide +kernel
theorem dX6_standsFor_45 : decode cX6_standsFor 45 = .ok (.iaload, 1) := by decide +kernel
theorem dX6_standsFor_46 : decode cX6_standsFor 46 = .ok (.if_icmp .ne 5, 3) := by decide +kernel
theorem dX6_standsFor_49 : decode cX6_standsFor 49 = .ok (.iconst 0, 1) := by decide +kernel
theorem dX6_standsFor_50 : decode cX6_standsFor 50 = .ok (.ireturn, 1) := by decide +kernel
theorem dX6_standsFor_51 : decode cX6_standsFor 51 = .ok (.iinc 3 1, 3) := by decide +kernel
theorem dX6_standsFor_54 : decode cX6_standsFor 54 = .ok (.goto (-38), 3) := by decide +kernel
theorem dX6_standsFor_57 : decode cX6_standsFor 57 = .ok (.iconst 1, 1) := by decide +kernel
theorem dX6_standsFor_58 : decode cX6_standsFor 58 = .ok (.ireturn, 1) := by decide +kernel
theorem dX6_sum_0 : decode cX6_sum 0 = .ok (.lconst 0, 1) := by decide +kernel
theorem dX6_sum_1 : decode cX6_sum 1 = .ok (.lstore_n 2, 1) := by decide +kernel
theorem dX6_sum_2 : decode cX6_sum 2 = .ok (.iconst 0, 1) := by decide +kernel
theorem dX6_sum_3 : decode cX6_sum 3 = .ok (.istore 4, 2) := by decide +kernel
theorem dX6_sum_5 : decode cX6_sum 5 = .ok (.iload 4, 2) := by decide +kernel
theorem dX6_sum_7 : decode cX6_sum 7 = .ok (.aload_n 0, 1) := by decide +kernel
theorem dX6_sum_8 : decode cX6_sum 8 = .ok (.getfield 21, 3) := by decide +kernel
theorem dX6_sum_11 : decode cX6_sum 11 = .ok (.if_icmp .ge 30, 3) := by decide +kernel
theorem dX6_sum_14 : decode cX6_sum 14 = .ok (.aload_n 0, 1) := by decide +kernel
theorem dX6_sum_15 : decode cX6_sum 15 = .ok (.iload 4, 2) := by decide +kernel
theorem dX6_sum_17 : decode cX6_sum 17 = .ok (.iload_n 1, 1) := by decide +kernel
theorem dX6_sum_18 : decode cX6_sum 18 = .ok (.invokevirtual 29, 3) := by decide +kernel
theorem dX6_sum_21 : decode cX6_sum 21 = .ok (.ifCond .eq 14, 3) := by decide +kernel
theorem dX6_sum_24 : decode cX6_sum 24 = .ok (.lload_n 2, 1) := by decide +kernel
theorem dX6_sum_25 : decode cX6_sum 25 = .ok (.aload_n 0, 1) := by decide +kernel
theorem dX6_sum_26 : decode cX6_sum 26 = .ok (.getfield 18, 3) := by decide +kernel
theorem dX6_sum_29 : decode cX6_sum 29 = .ok (.iload 4, 2) := by decide +kernel
theorem dX6_sum_31 : decode cX6_sum 31 = .ok (.iaload, 1) := by decide +kernel
theorem dX6_sum_32 : decode cX6_sum 32 = .ok (.i2l, 1) := by decide +kernel
theorem dX6_sum_33 : decode cX6_sum 33 = .ok (.ladd, 1) := by decide +kernel
theorem dX6_sum_34 : decode cX6_sum 34 = .ok (.lstore_n 2, 1) := by decide +kernel
theorem dX6_sum_35 : decode cX6_sum 35 = .ok (.iinc 4 1, 3) := by decide +kernel
theorem dX6_sum_38 : decode cX6_sum 38 = .ok (.goto (-33), 3) := by decide +kernel
theorem dX6_sum_41 : decode cX6_sum 41 = .ok (.lload_n 2, 1) := by decide +kernel
theorem dX6_sum_42 : decode cX6_sum 42 = .ok (.lreturn, 1) := by decide +kernel
theorem dX6_share_0 : decode cX6_share 0 = .ok (.lconst 0, 1) := by decide +kernel
theorem dX6_share_1 : decode cX6_share 1 = .ok (.lstore 6, 2) := by decide +kernel
theorem dX6_share_3 : decode cX6_share 3 = .ok (.lconst 1, 1) := by decide +kernel
theorem dX6_share_4 : decode cX6_share 4 = .ok (.lstore 8, 2) := by decide +kernel
theorem dX6_share_6 : decode cX6_share 6 = .ok (.iconst 0, 1) := by decide +kernel
theorem dX6_share_7 : decode cX6_share 7 = .ok (.istore 10, 2) := by decide +kernel
theorem dX6_share_9 : decode cX6_share 9 = .ok (.iload 10, 2) := by decide +kernel
theorem dX6_share_11 : decode cX6_share 11 = .ok (.aload_n 0, 1) := by decide +kernel
theorem dX6_share_12 : decode cX6_share 12 = .ok (.getfield 21, 3) := by decide +kernel
theorem dX6_share_15 : decode cX6_share 15 = .ok (.if_icmp .ge 112, 3) := by decide +kernel
theorem dX6_share_18 : decode cX6_share 18 = .ok (.aload_n 2, 1) := by decide +kernel
theorem dX6_share_19 : decode cX6_share 19 = .ok (.aload_n 0, 1) := by decide +kernel
theorem dX6_share_20 : decode cX6_share 20 = .ok (.getfield 9, 3) := by decide +kernel
theorem dX6_share_23 : decode cX6_share 23 = .ok (.iload 10, 2) := by decide +kernel
theorem dX6_share_25 : decode cX6_share 25 = .ok (.iaload, 1) := by decide +kernel
theorem dX6_share_26 : decode cX6_share 26 = .ok (.invokevirtual 33, 3) := by decide +kernel
theorem dX6_share_29 : decode cX6_share 29 = .ok (.lstore 11, 2) := by decide +kernel
theorem dX6_share_31 : decode cX6_share 31 = .ok (.lload 11, 2) := by decide +kernel
theorem dX6_share_33 : decode cX6_share 33 = .ok (.lconst 0, 1) := by decide +kernel
theorem dX6_share_34 : decode cX6_share 34 = .ok (.lcmp, 1) := by decide +kernel
theorem dX6_share_35 : decode cX6_share 35 = .ok (.ifCond .eq 86, 3) := by decide +kernel
theorem dX6_share_38 : decode cX6_share 38 = .ok (.aload_n 0, 1) := by decide +kernel
theorem dX6_share_39 : decode cX6_share 39 = .ok (.iload 10, 2) := by decide +kernel
theorem dX6_share_41 : decode cX6_share 41 = .ok (.iload_n 1, 1) := by decide +kernel
theorem dX6_share_42 : decode cX6_share 42 = .ok (.invokevirtual 29, 3) := by decide +kernel
theorem dX6_share_45 : decode cX6_share 45 = .ok (.ifCond .eq 76, 3) := by decide +kernel
theorem dX6_share_48 : decode cX6_share 48 = .ok (.lload 11, 2) := by decide +kernel
theorem dX6_share_50 : decode cX6_share 50 = .ok (.invokestatic 39, 3) := by decide +kernel
theorem dX6_share_53 : decode cX6_share 53 = .ok (.i2l, 1) := by decide +kernel
theorem dX6_share_54 : decode cX6_share 54 = .ok (.lstore 13, 2) := by decide +kernel
theorem dX6_share_56 : decode cX6_share 56 = .ok (.lload 6, 2) := by decide +kernel
theorem dX6_share_58 : decode cX6_share 58 = .ok (.lload 13, 2) := by decide +kernel
theorem dX6_share_60 : decode cX6_share 60 = .ok (.lmul, 1) := by decide +kernel
theorem dX6_share_61 : decode cX6_share 61 = .ok (.aload_n 0, 1) := by decide +kernel
theorem dX6_share_62 : decode cX6_share 62 = .ok (.getfield 18, 3) := by decide +kernel
theorem dX6_share_65 : decode cX6_share 65 = .ok (.iload 10, 2) := by decide +kernel
theorem dX6_share_67 : decode cX6_share 67 = .ok (.iaload, 1) := by decide +kernel
theorem dX6_share_68 : decode cX6_share 68 = .ok (.i2l, 1) := by decide +kernel
theorem dX6_share_69 : decode cX6_share 69 = .ok (.lload 8, 2) := by decide +kernel
theorem dX6_share_71 : decode cX6_share 71 = .ok (.lmul, 1) := by decide +kernel
theorem dX6_share_72 : decode cX6_share 72 = .ok (.lload 11, 2) := by decide +kernel
theorem dX6_share_74 : decode cX6_share 74 = .ok (.lload_n 3, 1) := by decide +kernel
theorem dX6_share_75 : decode cX6_share 75 = .ok (.land, 1) := by decide +kernel
theorem dX6_share_76 : decode cX6_share 76 = .ok (.invokestatic 39, 3) := by decide +kernel
theorem dX6_share_79 : decode cX6_share 79 = .ok (.i2l, 1) := by decide +kernel
theorem dX6_share_80 : decode cX6_share 80 = .ok (.lmul, 1) := by decide +kernel
theorem dX6_share_81 : decode cX6_share 81 = .ok (.ladd, 1) := by decide +kernel
theorem dX6_share_82 : decode cX6_share 82 = .ok (.lstore 6, 2) := by decide +kernel
theorem dX6_share_84 : decode cX6_share 84 = .ok (.lload 8, 2) := by decide +kernel
theorem dX6_share_86 : decode cX6_share 86 = .ok (.lload 13, 2) := by decide +kernel
theorem dX6_share_88 : decode cX6_share 88 = .ok (.lmul, 1) := by decide +kernel
theorem dX6_share_89 : decode cX6_share 89 = .ok (.lstore 8, 2) := by decide +kernel
theorem dX6_share_91 : decode cX6_share 91 = .ok (.lload 6, 2) := by decide +kernel
theorem dX6_share_93 : decode cX6_share 93 = .ok (.lload 8, 2) := by decide +kernel
theorem dX6_share_95 : decode cX6_share 95 = .ok (.invokestatic 45, 3) := by decide +kernel
theorem dX6_share_98 : decode cX6_share 98 = .ok (.lstore 15, 2) := by decide +kernel
theorem dX6_share_100 : decode cX6_share 100 = .ok (.lload 15, 2) := by decide +kernel
theorem dX6_share_102 : decode cX6_share 102 = .ok (.lconst 1, 1) := by decide +kernel
theorem dX6_share_103 : decode cX6_share 103 = .ok (.lcmp, 1) := by decide +kernel
theorem dX6_share_104 : decode cX6_share 104 = .ok (.ifCond .le 17, 3) := by decide +kernel
theorem dX6_share_107 : decode cX6_share 107 = .ok (.lload 6, 2) := by decide +kernel
theorem dX6_share_109 : decode cX6_share 109 = .ok (.lload 15, 2) := by decide +kernel
theorem dX6_share_111 : decode cX6_share 111 = .ok (.ldiv, 1) := by decide +kernel
theorem dX6_share_112 : decode cX6_share 112 = .ok (.lstore 6, 2) := by decide +kernel
theorem dX6_share_114 : decode cX6_share 114 = .ok (.lload 8, 2) := by decide +kernel
theorem dX6_share_116 : decode cX6_share 116 = .ok (.lload 15, 2) := by decide +kernel
theorem dX6_share_118 : decode cX6_share 118 = .ok (.ldiv, 1) := by decide +kernel
theorem dX6_share_119 : decode cX6_share 119 = .ok (.lstore 8, 2) := by decide +kernel
theorem dX6_share_121 : decode cX6_share 121 = .ok (.iinc 10 1, 3) := by decide +kernel
theorem dX6_share_124 : decode cX6_share 124 = .ok (.goto (-115), 3) := by decide +kernel
theorem dX6_share_127 : decode cX6_share 127 = .ok (.iload 5, 2) := by decide +kernel
theorem dX6_share_129 : decode cX6_share 129 = .ok (.ifCond .eq 8, 3) := by decide +kernel
theorem dX6_share_132 : decode cX6_share 132 = .ok (.lload 8, 2) := by decide +kernel
theorem dX6_share_134 : decode cX6_share 134 = .ok (.goto 5, 3) := by decide +kernel
theorem dX6_share_137 : decode cX6_share 137 = .ok (.lload 6, 2) := by decide +kernel
theorem dX6_share_139 : decode cX6_share 139 = .ok (.lreturn, 1) := by decide +kernel
theorem dX6_greatestDivisor_0 : decode cX6_greatestDivisor 0 = .ok (.lload_n 0, 1) := by decide +kernel
theorem dX6_greatestDivisor_1 : decode cX6_greatestDivisor 1 = .ok (.lstore 4, 2) := by decide +kernel
theorem dX6_greatestDivisor_3 : decode cX6_greatestDivisor 3 = .ok (.lload_n 2, 1) := by decide +kernel
theorem dX6_greatestDivisor_4 : decode cX6_greatestDivisor 4 = .ok (.lstore 6, 2) := by decide +kernel
theorem dX6_greatestDivisor_6 : decode cX6_greatestDivisor 6 = .ok (.iconst 0, 1) := by decide +kernel
theorem dX6_greatestDivisor_7 : decode cX6_greatestDivisor 7 = .ok (.istore 8, 2) := by decide +kernel
theorem dX6_greatestDivisor_9 : decode cX6_greatestDivisor 9 = .ok (.iload 8, 2) := by decide +kernel
theorem dX6_greatestDivisor_11 : decode cX6_greatestDivisor 11 = .ok (.bipush 100, 2) := by decide +kernel
theorem dX6_greatestDivisor_13 : decode cX6_greatestDivisor 13 = .ok (.if_icmp .ge 31, 3) := by decide +kernel
theorem dX6_greatestDivisor_16 : decode cX6_greatestDivisor 16 = .ok (.lload 6, 2) := by decide +kernel
theorem dX6_greatestDivisor_18 : decode cX6_greatestDivisor 18 = .ok (.lconst 0, 1) := by decide +kernel
theorem dX6_greatestDivisor_19 : decode cX6_greatestDivisor 19 = .ok (.lcmp, 1) := by decide +kernel
theorem dX6_greatestDivisor_20 : decode cX6_greatestDivisor 20 = .ok (.ifCond .eq 24, 3) := by decide +kernel
theorem dX6_greatestDivisor_23 : decode cX6_greatestDivisor 23 = .ok (.lload 4, 2) := by decide +kernel
theorem dX6_greatestDivisor_25 : decode cX6_greatestDivisor 25 = .ok (.lload 6, 2) := by decide +kernel
theorem dX6_greatestDivisor_27 : decode cX6_greatestDivisor 27 = .ok (.lrem, 1) := by decide +kernel
theorem dX6_greatestDivisor_28 : decode cX6_greatestDivisor 28 = .ok (.lstore 9, 2) := by decide +kernel
theorem dX6_greatestDivisor_30 : decode cX6_greatestDivisor 30 = .ok (.lload 6, 2) := by decide +kernel
theorem dX6_greatestDivisor_32 : decode cX6_greatestDivisor 32 = .ok (.lstore 4, 2) := by decide +kernel
theorem dX6_greatestDivisor_34 : decode cX6_greatestDivisor 34 = .ok (.lload 9, 2) := by decide +kernel
theorem dX6_greatestDivisor_36 : decode cX6_greatestDivisor 36 = .ok (.lstore 6, 2) := by decide +kernel
theorem dX6_greatestDivisor_38 : decode cX6_greatestDivisor 38 = .ok (.iinc 8 1, 3) := by decide +kernel
theorem dX6_greatestDivisor_41 : decode cX6_greatestDivisor 41 = .ok (.goto (-32), 3) := by decide +kernel
theorem dX6_greatestDivisor_44 : decode cX6_greatestDivisor 44 = .ok (.lload 4, 2) := by decide +kernel
theorem dX6_greatestDivisor_46 : decode cX6_greatestDivisor 46 = .ok (.lreturn, 1) := by decide +kernel
theorem dX7_init_0 : decode cX7_init 0 = .ok (.aload_n 0, 1) := by decide +kernel
theorem dX7_init_1 : decode cX7_init 1 = .ok (.invokespecial 3, 3) := by decide +kernel
theorem dX7_init_4 : decode cX7_init 4 = .ok (.aload_n 0, 1) := by decide +kernel
theorem dX7_init_5 : decode cX7_init 5 = .ok (.new 9, 3) := by decide +kernel
theorem dX7_init_8 : decode cX7_init 8 = .ok (.dup, 1) := by decide +kernel
theorem dX7_init_9 : decode cX7_init 9 = .ok (.invokespecial 11, 3) := by decide +kernel
theorem dX7_init_12 : decode cX7_init 12 = .ok (.putfield 12, 3) := by decide +kernel
theorem dX7_init_15 : decode cX7_init 15 = .ok (.aload_n 0, 1) := by decide +kernel
theorem dX7_init_16 : decode cX7_init 16 = .ok (.new 16, 3) := by decide +kernel
theorem dX7_init_19 : decode cX7_init 19 = .ok (.dup, 1) := by decide +kernel
theorem dX7_init_20 : decode cX7_init 20 = .ok (.invokespecial 18, 3) := by decide +kernel
theorem dX7_init_23 : decode cX7_init 23 = .ok (.putfield 19, 3) := by decide +kernel
theorem dX7_init_26 : decode cX7_init 26 = .ok (.aload_n 0, 1) := by decide +kernel
theorem dX7_init_27 : decode cX7_init 27 = .ok (.iconst 4, 1) := by decide +kernel
theorem dX7_init_28 : decode cX7_init 28 = .ok (.anewarray 23, 3) := by decide +kernel
theorem dX7_init_31 : decode cX7_init 31 = .ok (.putfield 25, 3) := by decide +kernel
theorem dX7_init_34 : decode cX7_init 34 = .ok (.aload_n 0, 1) := by decide +kernel
theorem dX7_init_35 : decode cX7_init 35 = .ok (.iconst 4, 1) := by decide +kernel
theorem dX7_init_36 : decode cX7_init 36 = .ok (.anewarray 29, 3) := by decide +kernel
theorem dX7_init_39 : decode cX7_init 39 = .ok (.putfield 31, 3) := by decide +kernel
theorem dX7_init_42 : decode cX7_init 42 = .ok (.iconst 0, 1) := by decide +kernel
theorem dX7_init_43 : decode cX7_init 43 = .ok (.istore_n 1, 1) := by decide +kernel
theorem dX7_init_44 : decode cX7_init 44 = .ok (.iload_n 1, 1) := by decide +kernel
theorem dX7_init_45 : decode cX7_init 45 = .ok (.iconst 4, 1) := by decide +kernel
theorem dX7_init_46 : decode cX7_init 46 = .ok (.if_icmp .ge 22, 3) := by decide +kernel
theorem dX7_init_49 : decode cX7_init 49 = .ok (.aload_n 0, 1) := by decide +kernel
theorem dX7_init_50 : decode cX7_init 50 = .ok (.getfield 25, 3) := by decide +kernel
theorem dX7_init_53 : decode cX7_init 53 = .ok (.iload_n 1, 1) := by decide +kernel
theorem dX7_init_54 : decode cX7_init 54 = .ok (.new 23, 3) := by decide +kernel
theorem dX7_init_57 : decode cX7_init 57 = .ok (.dup, 1) := by decide +kernel
theorem dX7_init_58 : decode cX7_init 58 = .ok (.invokespecial 35, 3) := by decide +kernel
theorem dX7_init_61 : decode cX7_init 61 = .ok (.aastore, 1) := by decide +kernel
theorem dX7_init_62 : decode cX7_init 62 = .ok (.iinc 1 1, 3) := by decide +kernel
theorem dX7_init_65 : decode cX7_init 65 = .ok (.goto (-21), 3) := by decide +kernel
theorem dX7_init_68 : decode cX7_init 68 = .ok (.iconst 0, 1) := by decide +kernel
theorem dX7_init_69 : decode cX7_init 69 = .ok (.istore_n 1, 1) := by decide +kernel
theorem dX7_init_70 : decode cX7_init 70 = .ok (.iload_n 1, 1) := by decide +kernel
theorem dX7_init_71 : decode cX7_init 71 = .ok (.iconst 4, 1) := by decide +kernel
theorem dX7_init_72 : decode cX7_init 72 = .ok (.if_icmp .ge 22, 3) := by decide +kernel
theorem dX7_init_75 : decode cX7_init 75 = .ok (.aload_n 0, 1) := by decide +kernel
theorem dX7_init_76 : decode cX7_init 76 = .ok (.getfield 31, 3) := by decide +kernel
theorem dX7_init_79 : decode cX7_init 79 = .ok (.iload_n 1, 1) := by decide +kernel
theorem dX7_init_80 : decode cX7_init 80 = .ok (.new 29, 3) := by decide +kernel
theorem dX7_init_83 : decode cX7_init 83 = .ok (.dup, 1) := by decide +kernel
theorem dX7_init_84 : decode cX7_init 84 = .ok (.invokespecial 36, 3) := by decide +kernel
theorem dX7_init_87 : decode cX7_init 87 = .ok (.aastore, 1) := by decide +kernel
theorem dX7_init_88 : decode cX7_init 88 = .ok (.iinc 1 1, 3) := by decide +kernel
theorem dX7_init_91 : decode cX7_init 91 = .ok (.goto (-21), 3) := by decide +kernel
theorem dX7_init_94 : decode cX7_init 94 = .ok (.return_, 1) := by decide +kernel
theorem dX7_unit_0 : decode cX7_unit 0 = .ok (.iload_n 1, 1) := by decide +kernel
theorem dX7_unit_1 : decode cX7_unit 1 = .ok (.invokestatic 37, 3) := by decide +kernel
theorem dX7_unit_4 : decode cX7_unit 4 = .ok (.ifCond .ne 11, 3) := by decide +kernel
theorem dX7_unit_7 : decode cX7_unit 7 = .ok (.aload_n 0, 1) := by decide +kernel
theorem dX7_unit_8 : decode cX7_unit 8 = .ok (.ldc2_w 41, 3) := by decide +kernel
theorem dX7_unit_11 : decode cX7_unit 11 = .ok (.invokevirtual 43, 3) := by decide +kernel
theorem dX7_unit_14 : decode cX7_unit 14 = .ok (.lreturn, 1) := by decide +kernel
theorem dX7_unit_15 : decode cX7_unit 15 = .ok (.aload_n 0, 1) := by decide +kernel
theorem dX7_unit_16 : decode cX7_unit 16 = .ok (.getfield 12, 3) := by decide +kernel
theorem dX7_unit_19 : decode cX7_unit 19 = .ok (.invokevirtual 47, 3) := by decide +kernel
theorem dX7_unit_22 : decode cX7_unit 22 = .ok (.ifCond .eq 11, 3) := by decide +kernel
theorem dX7_unit_25 : decode cX7_unit 25 = .ok (.aload_n 0, 1) := by decide +kernel
theorem dX7_unit_26 : decode cX7_unit 26 = .ok (.ldc2_w 51, 3) := by decide +kernel
theorem dX7_unit_29 : decode cX7_unit 29 = .ok (.invokevirtual 43, 3) := by decide +kernel
theorem dX7_unit_32 : decode cX7_unit 32 = .ok (.lreturn, 1) := by decide +kernel
theorem dX7_unit_33 : decode cX7_unit 33 = .ok (.aload_n 0, 1) := by decide +kernel
theorem dX7_unit_34 : decode cX7_unit 34 = .ok (.getfield 12, 3) := by decide +kernel
theorem dX7_unit_37 : decode cX7_unit 37 = .ok (.iload_n 1, 1) := by decide +kernel
theorem dX7_unit_38 : decode cX7_unit 38 = .ok (.invokevirtual 53, 3) := by decide +kernel
theorem dX7_unit_41 : decode cX7_unit 41 = .ok (.i2l, 1) := by decide +kernel
theorem dX7_unit_42 : decode cX7_unit 42 = .ok (.lreturn, 1) := by decide +kernel
theorem dX7_as_0 : decode cX7_as 0 = .ok (.aload_n 0, 1) := by decide +kernel
theorem dX7_as_1 : decode cX7_as 1 = .ok (.getfield 12, 3) := by decide +kernel
theorem dX7_as_4 : decode cX7_as 4 = .ok (.iload_n 1, 1) := by decide +kernel
theorem dX7_as_5 : decode cX7_as 5 = .ok (.invokevirtual 57, 3) := by decide +kernel
theorem dX7_as_8 : decode cX7_as 8 = .ok (.ifCond .eq 10, 3) := by decide +kernel
theorem dX7_as_11 : decode cX7_as 11 = .ok (.iload_n 2, 1) := by decide +kernel
theorem dX7_as_12 : decode cX7_as 12 = .ok (.invokestatic 37, 3) := by decide +kernel
theorem dX7_as_15 : decode cX7_as 15 = .ok (.ifCond .ne 11, 3) := by decide +kernel
theorem dX7_as_18 : decode cX7_as 18 = .ok (.aload_n 0, 1) := by decide +kernel
theorem dX7_as_19 : decode cX7_as 19 = .ok (.ldc2_w 41, 3) := by decide +kernel
theorem dX7_as_22 : decode cX7_as 22 = .ok (.invokevirtual 43, 3) := by decide +kernel
theorem dX7_as_25 : decode cX7_as 25 = .ok (.lreturn, 1) := by decide +kernel
theorem dX7_as_26 : decode cX7_as 26 = .ok (.aload_n 0, 1) := by decide +kernel
theorem dX7_as_27 : decode cX7_as 27 = .ok (.getfield 12, 3) := by decide +kernel
theorem dX7_as_30 : decode cX7_as 30 = .ok (.iload_n 1, 1) := by decide +kernel
theorem dX7_as_31 : decode cX7_as 31 = .ok (.invokevirtual 60, 3) := by decide +kernel
theorem dX7_as_34 : decode cX7_as 34 = .ok (.iload_n 2, 1) := by decide +kernel
theorem dX7_as_35 : decode cX7_as 35 = .ok (.invokestatic 63, 3) := by decide +kernel
theorem dX7_as_38 : decode cX7_as 38 = .ok (.ifCond .ne 11, 3) := by decide +kernel
theorem dX7_as_41 : decode cX7_as 41 = .ok (.aload_n 0, 1) := by decide +kernel
theorem dX7_as_42 : decode cX7_as 42 = .ok (.ldc2_w 67, 3) := by decide +kernel
theorem dX7_as_45 : decode cX7_as 45 = .ok (.invokevirtual 43, 3) := by decide +kernel
theorem dX7_as_48 : decode cX7_as 48 = .ok (.lreturn, 1) := by decide +kernel
theorem dX7_as_49 : decode cX7_as 49 = .ok (.iload_n 1, 1) := by decide +kernel
theorem dX7_as_50 : decode cX7_as 50 = .ok (.i2l, 1) := by decide +kernel
theorem dX7_as_51 : decode cX7_as 51 = .ok (.lreturn, 1) := by decide +kernel
theorem dX7_found_0 : decode cX7_found 0 = .ok (.aload_n 0, 1) := by decide +kernel
theorem dX7_found_1 : decode cX7_found 1 = .ok (.getfield 12, 3) := by decide +kernel
theorem dX7_found_4 : decode cX7_found 4 = .ok (.iload_n 1, 1) := by decide +kernel
theorem dX7_found_5 : decode cX7_found 5 = .ok (.invokevirtual 57, 3) := by decide +kernel
theorem dX7_found_8 : decode cX7_found 8 = .ok (.ifCond .eq 17, 3) := by decide +kernel
theorem dX7_found_11 : decode cX7_found 11 = .ok (.iload_n 2, 1) := by decide +kernel
theorem dX7_found_12 : decode cX7_found 12 = .ok (.invokestatic 69, 3) := by decide +kernel
theorem dX7_found_15 : decode cX7_found 15 = .ok (.ifCond .eq 10, 3) := by decide +kernel
theorem dX7_found_18 : decode cX7_found 18 = .ok (.lload_n 3, 1) := by decide +kernel
theorem dX7_found_19 : decode cX7_found 19 = .ok (.invokestatic 72, 3) := by decide +kernel
theorem dX7_found_22 : decode cX7_found 22 = .ok (.ifCond .ne 11, 3) := by decide +kernel
theorem dX7_found_25 : decode cX7_found 25 = .ok (.aload_n 0, 1) := by decide +kernel
theorem dX7_found_26 : decode cX7_found 26 = .ok (.ldc2_w 41, 3) := by decide +kernel
theorem dX7_found_29 : decode cX7_found 29 = .ok (.invokevirtual 43, 3) := by decide +kernel
theorem dX7_found_32 : decode cX7_found 32 = .ok (.lreturn, 1) := by decide +kernel
theorem dX7_found_33 : decode cX7_found 33 = .ok (.aload_n 0, 1) := by decide +kernel
theorem dX7_found_34 : decode cX7_found 34 = .ok (.getfield 12, 3) := by decide +kernel
theorem dX7_found_37 : decode cX7_found 37 = .ok (.iload_n 1, 1) := by decide +kernel
theorem dX7_found_38 : decode cX7_found 38 = .ok (.invokevirtual 78, 3) := by decide +kernel
theorem dX7_found_41 : decode cX7_found 41 = .ok (.ifCond .eq 11, 3) := by decide +kernel
theorem dX7_found_44 : decode cX7_found 44 = .ok (.aload_n 0, 1) := by decide +kernel
theorem dX7_found_45 : decode cX7_found 45 = .ok (.ldc2_w 67, 3) := by decide +kernel
theorem dX7_found_48 : decode cX7_found 48 = .ok (.invokevirtual 43, 3) := by decide +kernel
theorem dX7_found_51 : decode cX7_found 51 = .ok (.lreturn, 1) := by decide +kernel
theorem dX7_found_52 : decode cX7_found 52 = .ok (.aload_n 0, 1) := by decide +kernel
theorem dX7_found_53 : decode cX7_found 53 = .ok (.aload_n 0, 1) := by decide +kernel
theorem dX7_found_54 : decode cX7_found 54 = .ok (.getfield 12, 3) := by decide +kernel
theorem dX7_found_57 : decode cX7_found 57 = .ok (.iconst 0, 1) := by decide +kernel
theorem dX7_found_58 : decode cX7_found 58 = .ok (.iload_n 1, 1) := by decide +kernel
theorem dX7_found_59 : decode cX7_found 59 = .ok (.bipush 10, 2) := by decide +kernel
theorem dX7_found_61 : decode cX7_found 61 = .ok (.iload_n 2, 1) := by decide +kernel
theorem dX7_found_62 : decode cX7_found 62 = .ok (.lload_n 3, 1) := by decide +kernel
theorem dX7_found_63 : decode cX7_found 63 = .ok (.invokevirtual 81, 3) := by decide +kernel
theorem dX7_found_66 : decode cX7_found 66 = .ok (.invokevirtual 85, 3) := by decide +kernel
theorem dX7_found_69 : decode cX7_found 69 = .ok (.lreturn, 1) := by decide +kernel
theorem dX7_move_0 : decode cX7_move 0 = .ok (.lload 4, 2) := by decide +kernel
theorem dX7_move_2 : decode cX7_move 2 = .ok (.invokestatic 72, 3) := by decide +kernel
theorem dX7_move_5 : decode cX7_move 5 = .ok (.ifCond .ne 11, 3) := by decide +kernel
theorem dX7_move_8 : decode cX7_move 8 = .ok (.aload_n 0, 1) := by decide +kernel
theorem dX7_move_9 : decode cX7_move 9 = .ok (.ldc2_w 41, 3) := by decide +kernel
theorem dX7_move_12 : decode cX7_move 12 = .ok (.invokevirtual 43, 3) := by decide +kernel
theorem dX7_move_15 : decode cX7_move 15 = .ok (.lreturn, 1) := by decide +kernel
theorem dX7_move_16 : decode cX7_move 16 = .ok (.aload_n 0, 1) := by decide +kernel
theorem dX7_move_17 : decode cX7_move 17 = .ok (.iload_n 1, 1) := by decide +kernel
theorem dX7_move_18 : decode cX7_move 18 = .ok (.iload_n 2, 1) := by decide +kernel
theorem dX7_move_19 : decode cX7_move 19 = .ok (.iload_n 3, 1) := by decide +kernel
theorem dX7_move_20 : decode cX7_move 20 = .ok (.invokevirtual 88, 3) := by decide +kernel
theorem dX7_move_23 : decode cX7_move 23 = .ok (.lstore 6, 2) := by decide +kernel
theorem dX7_move_25 : decode cX7_move 25 = .ok (.lload 6, 2) := by decide +kernel
theorem dX7_move_27 : decode cX7_move 27 = .ok (.ldc2_w 92, 3) := by decide +kernel
theorem dX7_move_30 : decode cX7_move 30 = .ok (.lcmp, 1) := by decide +kernel
theorem dX7_move_31 : decode cX7_move 31 = .ok (.ifCond .ge 12, 3) := by decide +kernel
theorem dX7_move_34 : decode cX7_move 34 = .ok (.aload_n 0, 1) := by decide +kernel
theorem dX7_move_35 : decode cX7_move 35 = .ok (.lload 6, 2) := by decide +kernel
theorem dX7_move_37 : decode cX7_move 37 = .ok (.invokevirtual 43, 3) := by decide +kernel
theorem dX7_move_40 : decode cX7_move 40 = .ok (.goto 20, 3) := by decide +kernel
theorem dX7_move_43 : decode cX7_move 43 = .ok (.aload_n 0, 1) := by decide +kernel
theorem dX7_move_44 : decode cX7_move 44 = .ok (.aload_n 0, 1) := by decide +kernel
theorem dX7_move_45 : decode cX7_move 45 = .ok (.getfield 12, 3) := by decide +kernel
theorem dX7_move_48 : decode cX7_move 48 = .ok (.iconst 1, 1) := by decide +kernel
theorem dX7_move_49 : decode cX7_move 49 = .ok (.iload_n 1, 1) := by decide +kernel
theorem dX7_move_50 : decode cX7_move 50 = .ok (.iload_n 2, 1) := by decide +kernel
theorem dX7_move_51 : decode cX7_move 51 = .ok (.iload_n 3, 1) := by decide +kernel
theorem dX7_move_52 : decode cX7_move 52 = .ok (.lload 4, 2) := by decide +kernel
theorem dX7_move_54 : decode cX7_move 54 = .ok (.invokevirtual 81, 3) := by decide +kernel
theorem dX7_move_57 : decode cX7_move 57 = .ok (.invokevirtual 85, 3) := by decide +kernel
theorem dX7_move_60 : decode cX7_move 60 = .ok (.lreturn, 1) := by decide +kernel
theorem dX7_swallow_0 : decode cX7_swallow 0 = .ok (.aload_n 0, 1) := by decide +kernel
theorem dX7_swallow_1 : decode cX7_swallow 1 = .ok (.iload_n 1, 1) := by decide +kernel
theorem dX7_swallow_2 : decode cX7_swallow 2 = .ok (.iload_n 2, 1) := by decide +kernel
theorem dX7_swallow_3 : decode cX7_swallow 3 = .ok (.iload_n 3, 1) := by decide +kernel
theorem dX7_swallow_4 : decode cX7_swallow 4 = .ok (.invokevirtual 88, 3) := by decide +kernel
theorem dX7_swallow_7 : decode cX7_swallow 7 = .ok (.lstore 4, 2) := by decide +kernel
theorem dX7_swallow_9 : decode cX7_swallow 9 = .ok (.lload 4, 2) := by decide +kernel
theorem dX7_swallow_11 : decode cX7_swallow 11 = .ok (.ldc2_w 92, 3) := by decide +kernel
theorem dX7_swallow_14 : decode cX7_swallow 14 = .ok (.lcmp, 1) := by decide +kernel
theorem dX7_swallow_15 : decode cX7_swallow 15 = .ok (.ifCond .ge 12, 3) := by decide +kernel
theorem dX7_swallow_18 : decode cX7_swallow 18 = .ok (.aload_n 0, 1) := by decide +kernel
theorem dX7_swallow_19 : decode cX7_swallow 19 = .ok (.lload 4, 2) := by decide +kernel
theorem dX7_swallow_21 : decode cX7_swallow 21 = .ok (.invokevirtual 43, 3) := by decide +kernel
theorem dX7_swallow_24 : decode cX7_swallow 24 = .ok (.goto 19, 3) := by decide +kernel
theorem dX7_swallow_27 : decode cX7_swallow 27 = .ok (.aload_n 0, 1) := by decide +kernel
theorem dX7_swallow_28 : decode cX7_swallow 28 = .ok (.aload_n 0, 1) := by decide +kernel
theorem dX7_swallow_29 : decode cX7_swallow 29 = .ok (.getfield 12, 3) := by decide +kernel
theorem dX7_swallow_32 : decode cX7_swallow 32 = .ok (.iconst 2, 1) := by decide +kernel
theorem dX7_swallow_33 : decode cX7_swallow 33 = .ok (.iload_n 1, 1) := by decide +kernel
theorem dX7_swallow_34 : decode cX7_swallow 34 = .ok (.iload_n 2, 1) := by decide +kernel
theorem dX7_swallow_35 : decode cX7_swallow 35 = .ok (.iload_n 3, 1) := by decide +kernel
theorem dX7_swallow_36 : decode cX7_swallow 36 = .ok (.lconst 0, 1) := by decide +kernel
theorem dX7_swallow_37 : decode cX7_swallow 37 = .ok (.invokevirtual 81, 3) := by decide +kernel
theorem dX7_swallow_40 : decode cX7_swallow 40 = .ok (.invokevirtual 85, 3) := by decide +kernel
theorem dX7_swallow_43 : decode cX7_swallow 43 = .ok (.lreturn, 1) := by decide +kernel
theorem dX7_back_0 : decode cX7_back 0 = .ok (.aload_n 0, 1) := by decide +kernel
theorem dX7_back_1 : decode cX7_back 1 = .ok (.getfield 12, 3) := by decide +kernel
theorem dX7_back_4 : decode cX7_back 4 = .ok (.iload_n 1, 1) := by decide +kernel
theorem dX7_back_5 : decode cX7_back 5 = .ok (.invokevirtual 94, 3) := by decide +kernel
theorem dX7_back_8 : decode cX7_back 8 = .ok (.ifCond .eq 26, 3) := by decide +kernel
theorem dX7_back_11 : decode cX7_back 11 = .ok (.iload_n 2, 1) := by decide +kernel
theorem dX7_back_12 : decode cX7_back 12 = .ok (.invokestatic 69, 3) := by decide +kernel
theorem dX7_back_15 : decode cX7_back 15 = .ok (.ifCond .eq 19, 3) := by decide +kernel
theorem dX7_back_18 : decode cX7_back 18 = .ok (.iload_n 2, 1) := by decide +kernel
theorem dX7_back_19 : decode cX7_back 19 = .ok (.aload_n 0, 1) := by decide +kernel
theorem dX7_back_20 : decode cX7_back 20 = .ok (.getfield 12, 3) := by decide +kernel
theorem dX7_back_23 : decode cX7_back 23 = .ok (.getfield 97, 3) := by decide +kernel
theorem dX7_back_26 : decode cX7_back 26 = .ok (.iload_n 1, 1) := by decide +kernel
theorem dX7_back_27 : decode cX7_back 27 = .ok (.aaload, 1) := by decide +kernel
theorem dX7_back_28 : decode cX7_back 28 = .ok (.getfield 101, 3) := by decide +kernel
theorem dX7_back_31 : decode cX7_back 31 = .ok (.if_icmp .ge 11, 3) := by decide +kernel
theorem dX7_back_34 : decode cX7_back 34 = .ok (.aload_n 0, 1) := by decide +kernel
theorem dX7_back_35 : decode cX7_back 35 = .ok (.ldc2_w 41, 3) := by decide +kernel
theorem dX7_back_38 : decode cX7_back 38 = .ok (.invokevirtual 43, 3) := by decide +kernel
theorem dX7_back_41 : decode cX7_back 41 = .ok (.lreturn, 1) := by decide +kernel
theorem dX7_back_42 : decode cX7_back 42 = .ok (.aload_n 0, 1) := by decide +kernel
theorem dX7_back_43 : decode cX7_back 43 = .ok (.getfield 12, 3) := by decide +kernel
theorem dX7_back_46 : decode cX7_back 46 = .ok (.getfield 97, 3) := by decide +kernel
theorem dX7_back_49 : decode cX7_back 49 = .ok (.iload_n 1, 1) := by decide +kernel
theorem dX7_back_50 : decode cX7_back 50 = .ok (.aaload, 1) := by decide +kernel
theorem dX7_back_51 : decode cX7_back 51 = .ok (.invokevirtual 107, 3) := by decide +kernel
theorem dX7_back_54 : decode cX7_back 54 = .ok (.ifCond .ne 11, 3) := by decide +kernel
theorem dX7_back_57 : decode cX7_back 57 = .ok (.aload_n 0, 1) := by decide +kernel
theorem dX7_back_58 : decode cX7_back 58 = .ok (.ldc2_w 67, 3) := by decide +kernel
theorem dX7_back_61 : decode cX7_back 61 = .ok (.invokevirtual 43, 3) := by decide +kernel
theorem dX7_back_64 : decode cX7_back 64 = .ok (.lreturn, 1) := by decide +kernel
theorem dX7_back_65 : decode cX7_back 65 = .ok (.aload_n 0, 1) := by decide +kernel
theorem dX7_back_66 : decode cX7_back 66 = .ok (.aload_n 0, 1) := by decide +kernel
theorem dX7_back_67 : decode cX7_back 67 = .ok (.getfield 12, 3) := by decide +kernel
theorem dX7_back_70 : decode cX7_back 70 = .ok (.iconst 3, 1) := by decide +kernel
theorem dX7_back_71 : decode cX7_back 71 = .ok (.iload_n 1, 1) := by decide +kernel
theorem dX7_back_72 : decode cX7_back 72 = .ok (.bipush 10, 2) := by decide +kernel
theorem dX7_back_74 : decode cX7_back 74 = .ok (.iload_n 2, 1) := by decide +kernel
theorem dX7_back_75 : decode cX7_back 75 = .ok (.lconst 0, 1) := by decide +kernel
theorem dX7_back_76 : decode cX7_back 76 = .ok (.invokevirtual 81, 3) := by decide +kernel
theorem dX7_back_79 : decode cX7_back 79 = .ok (.invokevirtual 85, 3) := by decide +kernel
theorem dX7_back_82 : decode cX7_back 82 = .ok (.lreturn, 1) := by decide +kernel
theorem dX7_join_0 : decode cX7_join 0 = .ok (.aload_n 0, 1) := by decide +kernel
theorem dX7_join_1 : decode cX7_join 1 = .ok (.getfield 12, 3) := by decide +kernel
theorem dX7_join_4 : decode cX7_join 4 = .ok (.iload_n 1, 1) := by decide +kernel
theorem dX7_join_5 : decode cX7_join 5 = .ok (.invokevirtual 57, 3) := by decide +kernel
theorem dX7_join_8 : decode cX7_join 8 = .ok (.ifCond .eq 21, 3) := by decide +kernel
theorem dX7_join_11 : decode cX7_join 11 = .ok (.aload_n 0, 1) := by decide +kernel
theorem dX7_join_12 : decode cX7_join 12 = .ok (.getfield 12, 3) := by decide +kernel
theorem dX7_join_15 : decode cX7_join 15 = .ok (.iload_n 2, 1) := by decide +kernel
theorem dX7_join_16 : decode cX7_join 16 = .ok (.invokevirtual 57, 3) := by decide +kernel
theorem dX7_join_19 : decode cX7_join 19 = .ok (.ifCond .eq 10, 3) := by decide +kernel
theorem dX7_join_22 : decode cX7_join 22 = .ok (.iload_n 3, 1) := by decide +kernel
theorem dX7_join_23 : decode cX7_join 23 = .ok (.invokestatic 69, 3) := by decide +kernel
theorem dX7_join_26 : decode cX7_join 26 = .ok (.ifCond .ne 11, 3) := by decide +kernel
theorem dX7_join_29 : decode cX7_join 29 = .ok (.aload_n 0, 1) := by decide +kernel
theorem dX7_join_30 : decode cX7_join 30 = .ok (.ldc2_w 41, 3) := by decide +kernel
theorem dX7_join_33 : decode cX7_join 33 = .ok (.invokevirtual 43, 3) := by decide +kernel
theorem dX7_join_36 : decode cX7_join 36 = .ok (.lreturn, 1) := by decide +kernel
theorem dX7_join_37 : decode cX7_join 37 = .ok (.aload_n 0, 1) := by decide +kernel
theorem dX7_join_38 : decode cX7_join 38 = .ok (.getfield 12, 3) := by decide +kernel
theorem dX7_join_41 : decode cX7_join 41 = .ok (.iload_n 1, 1) := by decide +kernel
theorem dX7_join_42 : decode cX7_join 42 = .ok (.invokevirtual 78, 3) := by decide +kernel
theorem dX7_join_45 : decode cX7_join 45 = .ok (.ifCond .ne 14, 3) := by decide +kernel
theorem dX7_join_48 : decode cX7_join 48 = .ok (.aload_n 0, 1) := by decide +kernel
theorem dX7_join_49 : decode cX7_join 49 = .ok (.getfield 12, 3) := by decide +kernel
theorem dX7_join_52 : decode cX7_join 52 = .ok (.iload_n 2, 1) := by decide +kernel
theorem dX7_join_53 : decode cX7_join 53 = .ok (.invokevirtual 78, 3) := by decide +kernel
theorem dX7_join_56 : decode cX7_join 56 = .ok (.ifCond .ne 11, 3) := by decide +kernel
theorem dX7_join_59 : decode cX7_join 59 = .ok (.aload_n 0, 1) := by decide +kernel
theorem dX7_join_60 : decode cX7_join 60 = .ok (.ldc2_w 67, 3) := by decide +kernel
theorem dX7_join_63 : decode cX7_join 63 = .ok (.invokevirtual 43, 3) := by decide +kernel
theorem dX7_join_66 : decode cX7_join 66 = .ok (.lreturn, 1) := by decide +kernel
theorem dX7_join_67 : decode cX7_join 67 = .ok (.aload_n 0, 1) := by decide +kernel
theorem dX7_join_68 : decode cX7_join 68 = .ok (.aload_n 0, 1) := by decide +kernel
theorem dX7_join_69 : decode cX7_join 69 = .ok (.getfield 12, 3) := by decide +kernel
theorem dX7_join_72 : decode cX7_join 72 = .ok (.iconst 4, 1) := by decide +kernel
theorem dX7_join_73 : decode cX7_join 73 = .ok (.iload_n 1, 1) := by decide +kernel
theorem dX7_join_74 : decode cX7_join 74 = .ok (.iload_n 2, 1) := by decide +kernel
theorem dX7_join_75 : decode cX7_join 75 = .ok (.iload_n 3, 1) := by decide +kernel
theorem dX7_join_76 : decode cX7_join 76 = .ok (.lconst 0, 1) := by decide +kernel
theorem dX7_join_77 : decode cX7_join 77 = .ok (.invokevirtual 81, 3) := by decide +kernel
theorem dX7_join_80 : decode cX7_join 80 = .ok (.invokevirtual 85, 3) := by decide +kernel
theorem dX7_join_83 : decode cX7_join 83 = .ok (.lreturn, 1) := by decide +kernel
theorem dX7_act_0 : decode cX7_act 0 = .ok (.aload_n 0, 1) := by decide +kernel
theorem dX7_act_1 : decode cX7_act 1 = .ok (.getfield 12, 3) := by decide +kernel
theorem dX7_act_4 : decode cX7_act 4 = .ok (.iload_n 1, 1) := by decide +kernel
theorem dX7_act_5 : decode cX7_act 5 = .ok (.invokevirtual 94, 3) := by decide +kernel
theorem dX7_act_8 : decode cX7_act 8 = .ok (.ifCond .ne 11, 3) := by decide +kernel
theorem dX7_act_11 : decode cX7_act 11 = .ok (.aload_n 0, 1) := by decide +kernel
theorem dX7_act_12 : decode cX7_act 12 = .ok (.ldc2_w 41, 3) := by decide +kernel
theorem dX7_act_15 : decode cX7_act 15 = .ok (.invokevirtual 43, 3) := by decide +kernel
theorem dX7_act_18 : decode cX7_act 18 = .ok (.lreturn, 1) := by decide +kernel
theorem dX7_act_19 : decode cX7_act 19 = .ok (.aload_n 0, 1) := by decide +kernel
theorem dX7_act_20 : decode cX7_act 20 = .ok (.getfield 12, 3) := by decide +kernel
theorem dX7_act_23 : decode cX7_act 23 = .ok (.getfield 97, 3) := by decide +kernel
theorem dX7_act_26 : decode cX7_act 26 = .ok (.iload_n 1, 1) := by decide +kernel
theorem dX7_act_27 : decode cX7_act 27 = .ok (.aaload, 1) := by decide +kernel
theorem dX7_act_28 : decode cX7_act 28 = .ok (.astore_n 3, 1) := by decide +kernel
theorem dX7_act_29 : decode cX7_act 29 = .ok (.iload_n 2, 1) := by decide +kernel
theorem dX7_act_30 : decode cX7_act 30 = .ok (.tableswitch 69 0 4 #[34, 40, 46, 54, 63], 34) := by decide +kernel
theorem dX7_act_64 : decode cX7_act 64 = .ok (.aload_n 3, 1) := by decide +kernel
theorem dX7_act_65 : decode cX7_act 65 = .ok (.getfield 110, 3) := by decide +kernel
theorem dX7_act_68 : decode cX7_act 68 = .ok (.i2l, 1) := by decide +kernel
theorem dX7_act_69 : decode cX7_act 69 = .ok (.lreturn, 1) := by decide +kernel
theorem dX7_act_70 : decode cX7_act 70 = .ok (.aload_n 3, 1) := by decide +kernel
theorem dX7_act_71 : decode cX7_act 71 = .ok (.getfield 101, 3) := by decide +kernel
theorem dX7_act_74 : decode cX7_act 74 = .ok (.i2l, 1) := by decide +kernel
theorem dX7_act_75 : decode cX7_act 75 = .ok (.lreturn, 1) := by decide +kernel
theorem dX7_act_76 : decode cX7_act 76 = .ok (.aload_n 3, 1) := by decide +kernel
theorem dX7_act_77 : decode cX7_act 77 = .ok (.getfield 113, 3) := by decide +kernel
theorem dX7_act_80 : decode cX7_act 80 = .ok (.invokestatic 117, 3) := by decide +kernel
theorem dX7_act_83 : decode cX7_act 83 = .ok (.lreturn, 1) := by decide +kernel
theorem dX7_act_84 : decode cX7_act 84 = .ok (.aload_n 3, 1) := by decide +kernel
theorem dX7_act_85 : decode cX7_act 85 = .ok (.getfield 121, 3) := by decide +kernel
theorem dX7_act_88 : decode cX7_act 88 = .ok (.invokestatic 125, 3) := by decide +kernel
theorem dX7_act_91 : decode cX7_act 91 = .ok (.i2l, 1) := by decide +kernel
theorem dX7_act_92 : decode cX7_act 92 = .ok (.lreturn, 1) := by decide +kernel
theorem dX7_act_93 : decode cX7_act 93 = .ok (.aload_n 3, 1) := by decide +kernel
