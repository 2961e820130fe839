set_option maxHeartbeats 4000000 in
set_option maxRecDepth 100000 in
theorem mJ13_bitCount_95d88 (G : Gw) (l : Launch) (x0 : Int64) (M : Mem) (a : Int32) (h : fJ13_bitCount_95d88 x0 = some a) : CtP G l yJ13_bitCount_95d88 cJ13_bitCount_95d88 2 (some .int) 0 0 [.long x0] M (some (.int a)) M := by
  refine CtP.ofV (by decide) (Nat.le_of_ble_eq_true rfl) ?_
  refine (?_ : T G l RJ13 cJ13_bitCount_95d88 2 (some .int) (rmOf 0 0) 0 0 (FinM G (some (.int a)) M) (fun x => x = a) 0 [(0, .long x0)] [] M (fJ13_bitCount_95d88 x0)) a h rfl
  clear h
  unfold fJ13_bitCount_95d88
  refine T_lload_n (q := 0) dJ13_bitCount_95d88_0 rfl rfl ?_
  refine T_lload_n (q := 0) dJ13_bitCount_95d88_1 rfl rfl ?_
  refine T_iconst (v := 1) dJ13_bitCount_95d88_2 (by decide) ?_
  refine T_lushr dJ13_bitCount_95d88_3 ?_
  refine T_ldc2 dJ13_bitCount_95d88_4 kcl_J13_314 ?_
  refine T_land dJ13_bitCount_95d88_7 ?_
  refine T_lsub dJ13_bitCount_95d88_8 ?_
  refine T_lstore_n_G (lv' := fun v1 => [(0, .long v1)]) dJ13_bitCount_95d88_9 rfl (by decide) (fun _ => rfl) (fun v1 => ?_)
  refine T_lload_n (q := 0) dJ13_bitCount_95d88_10 rfl rfl ?_
  refine T_ldc2 dJ13_bitCount_95d88_11 kcl_J13_316 ?_
  refine T_land dJ13_bitCount_95d88_14 ?_
  refine T_lload_n (q := 0) dJ13_bitCount_95d88_15 rfl rfl ?_
  refine T_iconst (v := 2) dJ13_bitCount_95d88_16 (by decide) ?_
  refine T_lushr dJ13_bitCount_95d88_17 ?_
  refine T_ldc2 dJ13_bitCount_95d88_18 kcl_J13_316 ?_
  refine T_land dJ13_bitCount_95d88_21 ?_
  refine T_ladd dJ13_bitCount_95d88_22 ?_
  refine T_lstore_n_G (lv' := fun v2 => [(0, .long v2)]) dJ13_bitCount_95d88_23 rfl (by decide) (fun _ => rfl) (fun v2 => ?_)
  refine T_lload_n (q := 0) dJ13_bitCount_95d88_24 rfl rfl ?_
  refine T_lload_n (q := 0) dJ13_bitCount_95d88_25 rfl rfl ?_
  refine T_iconst (v := 4) dJ13_bitCount_95d88_26 (by decide) ?_
  refine T_lushr dJ13_bitCount_95d88_27 ?_
  refine T_ladd dJ13_bitCount_95d88_28 ?_
  refine T_ldc2 dJ13_bitCount_95d88_29 kcl_J13_318 ?_
  refine T_land dJ13_bitCount_95d88_32 ?_
  refine T_lstore_n_G (lv' := fun v3 => [(0, .long v3)]) dJ13_bitCount_95d88_33 rfl (by decide) (fun _ => rfl) (fun v3 => ?_)
  refine T_lload_n (q := 0) dJ13_bitCount_95d88_34 rfl rfl ?_
  refine T_lload_n (q := 0) dJ13_bitCount_95d88_35 rfl rfl ?_
  refine T_bipush (v := 8) dJ13_bitCount_95d88_36 (by decide) ?_
  refine T_lushr dJ13_bitCount_95d88_38 ?_
  refine T_ladd dJ13_bitCount_95d88_39 ?_
  refine T_lstore_n_G (lv' := fun v4 => [(0, .long v4)]) dJ13_bitCount_95d88_40 rfl (by decide) (fun _ => rfl) (fun v4 => ?_)
  refine T_lload_n (q := 0) dJ13_bitCount_95d88_41 rfl rfl ?_
  refine T_lload_n (q := 0) dJ13_bitCount_95d88_42 rfl rfl ?_
  refine T_bipush (v := 16) dJ13_bitCount_95d88_43 (by decide) ?_
  refine T_lushr dJ13_bitCount_95d88_45 ?_
  refine T_ladd dJ13_bitCount_95d88_46 ?_
  refine T_lstore_n_G (lv' := fun v5 => [(0, .long v5)]) dJ13_bitCount_95d88_47 rfl (by decide) (fun _ => rfl) (fun v5 => ?_)
  refine T_lload_n (q := 0) dJ13_bitCount_95d88_48 rfl rfl ?_
  refine T_lload_n (q := 0) dJ13_bitCount_95d88_49 rfl rfl ?_
  refine T_bipush (v := 32) dJ13_bitCount_95d88_50 (by decide) ?_
  refine T_lushr dJ13_bitCount_95d88_52 ?_
  refine T_ladd dJ13_bitCount_95d88_53 ?_
  refine T_lstore_n_G (lv' := fun v6 => [(0, .long v6)]) dJ13_bitCount_95d88_54 rfl (by decide) (fun _ => rfl) (fun v6 => ?_)
  refine T_lload_n (q := 0) dJ13_bitCount_95d88_55 rfl rfl ?_
  refine T_l2i dJ13_bitCount_95d88_56 ?_
  refine T_bipush (v := 127) dJ13_bitCount_95d88_57 (by decide) ?_
  refine T_iand dJ13_bitCount_95d88_59 ?_
  exact T_end (fun h => by cases h; exact V_iret dJ13_bitCount_95d88_60)
set_option maxHeartbeats 4000000 in
set_option maxRecDepth 100000 in
theorem mJ7_fill_53178 (G : Gw) (l : Launch) (o0 : Nat) (ho0 : shp o0 = 9) (x1 : Int32) (M : Mem) (a : Mem) (h : fJ7_fill_53178 o0 x1 M = some a) : CtP G l yJ7_fill_53178 cJ7_fill_53178 4 none 0 0 [.ref (adr G o0), .int x1] M (none) a := by
  refine CtP.ofV (by decide) (Nat.le_of_ble_eq_true rfl) ?_
  refine (?_ : T G l RJ7 cJ7_fill_53178 4 none (rmOf 0 0) 0 0 (FinM G (none) a) (fun x => x = a) 0 [(0, .ref (adr G o0)), (1, .int x1)] [] M (fJ7_fill_53178 o0 x1 M)) a h rfl
  clear h
  unfold fJ7_fill_53178
  refine T_iconst (v := 0) dJ7_fill_53178_0 (by decide) ?_
  refine T_istore_n (lv' := [(2, .int (0 : Int32)), (0, .ref (adr G o0)), (1, .int x1)]) dJ7_fill_53178_1 rfl (by decide) rfl ?_
  refine T_aload_n (q := 1) dJ7_fill_53178_2 rfl rfl ?_
  refine T_alen dJ7_fill_53178_3 ho0 ?_
  refine T_istore_n_G (lv' := fun v1 => [(3, .int v1), (2, .int (0 : Int32)), (0, .ref (adr G o0)), (1, .int x1)]) dJ7_fill_53178_4 rfl (by decide) (fun _ => rfl) (fun v1 => ?_)
  refine T_bind (X := fun r6 => V G l RJ7 cJ7_fill_53178 4 none (rmOf 0 0) 0 0 (FinM G (none) a) 20 [(3, .int v1), (2, .int r6.1), (0, .ref (adr G o0)), (1, .int x1)] [] r6.2) (T_loop (fun s2 => [(3, .int v1), (2, .int s2.1), (0, .ref (adr G o0)), (1, .int x1)]) (fun s2 => s2.2) (fun s2 => ?_) ((0 : Int32), M)) (fun r6 => ?_)
  · unfold wJ7_fill_53178_5
    refine T_iload_n (q := 1) dJ7_fill_53178_5 rfl rfl ?_
    refine T_iload_n (q := 0) dJ7_fill_53178_6 rfl rfl ?_
    refine T_icmp_ge (tgt := 20) dJ7_fill_53178_7 (by decide) (fun hc3 => ?_) (fun hc3 => ?_)
    · exact T_end (fun h => V_sub [0, 1, 2, 3] rfl h)
    · refine T_aload_n (q := 2) dJ7_fill_53178_10 rfl rfl ?_
      refine T_iload_n (q := 1) dJ7_fill_53178_11 rfl rfl ?_
      refine T_iload_n (q := 3) dJ7_fill_53178_12 rfl rfl ?_
      refine T_iast dJ7_fill_53178_13 ho0 (fun M4 => ?_)
      refine T_iinc_G (q := 1) (y := s2.1 + 1) (lv' := fun v5 => [(2, .int v5), (3, .int v1), (0, .ref (adr G o0)), (1, .int x1)]) dJ7_fill_53178_14 rfl rfl (by decide) (fun _ => rfl) (fun v5 => ?_)
      refine T_goto (tgt := 5) dJ7_fill_53178_17 (by decide) ?_
      exact T_end (fun h => V_sub [1, 0, 2, 3] rfl h)
  · change T G l RJ7 cJ7_fill_53178 4 none (rmOf 0 0) 0 0 (FinM G (none) a) _ 20 [(3, .int v1), (2, .int r6.1), (0, .ref (adr G o0)), (1, .int x1)] [] r6.2 _
    exact T_end (fun h => by cases h; exact V_vret dJ7_fill_53178_20)
