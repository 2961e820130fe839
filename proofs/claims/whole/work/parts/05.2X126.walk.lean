set_option maxHeartbeats 4000000 in
set_option maxRecDepth 100000 in
theorem mX1_rightCells (G : Gw) (l : Launch) (o0 : Nat) (ho0 : shp o0 = 1) (o1 : Nat) (ho1 : shp o1 = 3) (M : Mem) (a : Int64) (h : fX1_rightCells o0 o1 M = some a) : CtP G l yX1_rightCells cX1_rightCells 5 (some .long) 2 44 [.ref (adr G o0), .ref (adr G o1)] M (some (.long a)) M := by
  refine CtP.ofV (by decide) (Nat.le_of_ble_eq_true rfl) ?_
  refine (?_ : T G l RX1 cX1_rightCells 5 (some .long) (rmOf 2 44) 0 0 (FinM G (some (.long a)) M) (fun x => x = a) 0 [(0, .ref (adr G o0)), (1, .ref (adr G o1))] [] M (fX1_rightCells o0 o1 M)) a h rfl
  clear h
  unfold fX1_rightCells
  refine T_lconst (v := 0) dX1_rightCells_0 (by decide) ?_
  refine T_lstore_n (lv' := [(2, .long (0 : Int64)), (0, .ref (adr G o0)), (1, .ref (adr G o1))]) dX1_rightCells_1 rfl (by decide) rfl ?_
  refine T_iconst (v := 0) dX1_rightCells_2 (by decide) ?_
  refine T_istore (lv' := [(4, .int (0 : Int32)), (2, .long (0 : Int64)), (0, .ref (adr G o0)), (1, .ref (adr G o1))]) dX1_rightCells_3 (by decide) rfl ?_
  refine T_bind (X := fun r6 => V G l RX1 cX1_rightCells 5 (some .long) (rmOf 2 44) 0 0 (FinM G (some (.long a)) M) 35 [(4, .int r6.2), (2, .long r6.1), (0, .ref (adr G o0)), (1, .ref (adr G o1))] [] M) (T_loop (fun s1 => [(4, .int s1.2), (2, .long s1.1), (0, .ref (adr G o0)), (1, .ref (adr G o1))]) (fun s1 => M) (fun s1 => ?_) ((0 : Int64), (0 : Int32))) (fun r6 => ?_)
  · unfold wX1_rightCells_5
    refine T_iload (q := 0) dX1_rightCells_5 rfl ?_
    refine T_bipush (v := 11) dX1_rightCells_7 (by decide) ?_
    refine T_icmp_ge (tgt := 35) dX1_rightCells_9 (by decide) (fun hc2 => ?_) (fun hc2 => ?_)
    · exact T_end (fun h => V_sub [0, 1, 2, 3] rfl h)
    · refine T_lload_n (q := 1) dX1_rightCells_12 rfl rfl ?_
      refine T_aload_n (q := 2) dX1_rightCells_13 rfl rfl ?_
      refine T_getR cf1 fr_X1_9 dX1_rightCells_14 ho0 rfl ?_
      refine T_iload (q := 0) dX1_rightCells_17 rfl ?_
      refine T_lald dX1_rightCells_19 (sf_1_0 ho0) ?_
      refine T_aload_n (q := 3) dX1_rightCells_20 rfl rfl ?_
      refine T_iload (q := 0) dX1_rightCells_21 rfl ?_
      refine T_callVl (As := [.int s1.2]) (st := [.long (M.2 (rf o0 0) s1.2.toNatClampNeg), .long s1.1]) mv_X1_31 (by decide) dX1_rightCells_23 ho1 (fun b hb => mX4_heldBy G l o1 ho1 s1.2 M b hb) rfl rfl (Nat.le_of_ble_eq_true rfl) (fun b3 => ?_)
      refine T_land dX1_rightCells_26 ?_
      refine T_lor dX1_rightCells_27 ?_
      refine T_lstore_n_G (lv' := fun v4 => [(2, .long v4), (4, .int s1.2), (0, .ref (adr G o0)), (1, .ref (adr G o1))]) dX1_rightCells_28 rfl (by decide) (fun _ => rfl) (fun v4 => ?_)
      refine T_iinc_G (q := 1) (y := s1.2 + 1) (lv' := fun v5 => [(4, .int v5), (2, .long v4), (0, .ref (adr G o0)), (1, .ref (adr G o1))]) dX1_rightCells_29 rfl rfl (by decide) (fun _ => rfl) (fun v5 => ?_)
      refine T_goto (tgt := 5) dX1_rightCells_32 (by decide) ?_
      exact T_end (fun h => V_sub [0, 1, 2, 3] rfl h)
  · change T G l RX1 cX1_rightCells 5 (some .long) (rmOf 2 44) 0 0 (FinM G (some (.long a)) M) _ 35 [(4, .int r6.2), (2, .long r6.1), (0, .ref (adr G o0)), (1, .ref (adr G o1))] [] M _
    refine T_lload_n (q := 1) dX1_rightCells_35 rfl rfl ?_
    exact T_end (fun h => by cases h; exact V_lret dX1_rightCells_36)
set_option maxHeartbeats 4000000 in
set_option maxRecDepth 100000 in
theorem mX1_agreement (G : Gw) (l : Launch) (o0 : Nat) (ho0 : shp o0 = 1) (o1 : Nat) (ho1 : shp o1 = 3) (M : Mem) (a : Int32) (h : fX1_agreement o0 o1 M = some a) : CtP G l yX1_agreement cX1_agreement 2 (some .int) 3 68 [.ref (adr G o0), .ref (adr G o1)] M (some (.int a)) M := by
  refine CtP.ofV (by decide) (Nat.le_of_ble_eq_true rfl) ?_
  refine (?_ : T G l RX1 cX1_agreement 2 (some .int) (rmOf 3 68) 0 0 (FinM G (some (.int a)) M) (fun x => x = a) 0 [(0, .ref (adr G o0)), (1, .ref (adr G o1))] [] M (fX1_agreement o0 o1 M)) a h rfl
  clear h
  unfold fX1_agreement
  refine T_aload_n (q := 0) dX1_agreement_0 rfl rfl ?_
  refine T_aload_n (q := 1) dX1_agreement_1 rfl rfl ?_
  refine T_callVl (As := [.ref (adr G o1)]) (st := []) mv_X1_37 (by decide) dX1_agreement_2 ho0 (fun b hb => mX1_rightCells G l o0 ho0 o1 ho1 M b hb) rfl rfl (Nat.le_of_ble_eq_true rfl) (fun b1 => ?_)
  refine T_callSi (As := [.long b1]) (st := []) ms_X1_25 (by decide) dX1_agreement_5 (fun b hb => mJ13_bitCount_95d88 G l b1 M b hb) rfl rfl (Nat.le_of_ble_eq_true rfl) (fun b2 => ?_)
  exact T_end (fun h => by cases h; exact V_iret dX1_agreement_8)
set_option maxHeartbeats 4000000 in
set_option maxRecDepth 100000 in
theorem mX1_claimedCells (G : Gw) (l : Launch) (o0 : Nat) (ho0 : shp o0 = 1) (M : Mem) (a : Int64) (h : fX1_claimedCells o0 M = some a) : CtP G l yX1_claimedCells cX1_claimedCells 4 (some .long) 0 0 [.ref (adr G o0)] M (some (.long a)) M := by
  refine CtP.ofV (by decide) (Nat.le_of_ble_eq_true rfl) ?_
  refine (?_ : T G l RX1 cX1_claimedCells 4 (some .long) (rmOf 0 0) 0 0 (FinM G (some (.long a)) M) (fun x => x = a) 0 [(0, .ref (adr G o0))] [] M (fX1_claimedCells o0 M)) a h rfl
  clear h
  unfold fX1_claimedCells
  refine T_lconst (v := 0) dX1_claimedCells_0 (by decide) ?_
  refine T_lstore_n (lv' := [(1, .long (0 : Int64)), (0, .ref (adr G o0))]) dX1_claimedCells_1 rfl (by decide) rfl ?_
  refine T_iconst (v := 0) dX1_claimedCells_2 (by decide) ?_
  refine T_istore_n (lv' := [(3, .int (0 : Int32)), (1, .long (0 : Int64)), (0, .ref (adr G o0))]) dX1_claimedCells_3 rfl (by decide) rfl ?_
  refine T_bind (X := fun r5 => V G l RX1 cX1_claimedCells 4 (some .long) (rmOf 0 0) 0 0 (FinM G (some (.long a)) M) 25 [(3, .int r5.2), (1, .long r5.1), (0, .ref (adr G o0))] [] M) (T_loop (fun s1 => [(3, .int s1.2), (1, .long s1.1), (0, .ref (adr G o0))]) (fun s1 => M) (fun s1 => ?_) ((0 : Int64), (0 : Int32))) (fun r5 => ?_)
  · unfold wX1_claimedCells_4
    refine T_iload_n (q := 0) dX1_claimedCells_4 rfl rfl ?_
    refine T_bipush (v := 11) dX1_claimedCells_5 (by decide) ?_
    refine T_icmp_ge (tgt := 25) dX1_claimedCells_7 (by decide) (fun hc2 => ?_) (fun hc2 => ?_)
    · exact T_end (fun h => V_sub [0, 1, 2] rfl h)
    · refine T_lload_n (q := 1) dX1_claimedCells_10 rfl rfl ?_
      refine T_aload_n (q := 2) dX1_claimedCells_11 rfl rfl ?_
      refine T_getR cf1 fr_X1_9 dX1_claimedCells_12 ho0 rfl ?_
      refine T_iload_n (q := 0) dX1_claimedCells_15 rfl rfl ?_
      refine T_lald dX1_claimedCells_16 (sf_1_0 ho0) ?_
      refine T_lor dX1_claimedCells_17 ?_
      refine T_lstore_n_G (lv' := fun v3 => [(1, .long v3), (3, .int s1.2), (0, .ref (adr G o0))]) dX1_claimedCells_18 rfl (by decide) (fun _ => rfl) (fun v3 => ?_)
      refine T_iinc_G (q := 1) (y := s1.2 + 1) (lv' := fun v4 => [(3, .int v4), (1, .long v3), (0, .ref (adr G o0))]) dX1_claimedCells_19 rfl rfl (by decide) (fun _ => rfl) (fun v4 => ?_)
      refine T_goto (tgt := 4) dX1_claimedCells_22 (by decide) ?_
      exact T_end (fun h => V_sub [0, 1, 2] rfl h)
  · change T G l RX1 cX1_claimedCells 4 (some .long) (rmOf 0 0) 0 0 (FinM G (some (.long a)) M) _ 25 [(3, .int r5.2), (1, .long r5.1), (0, .ref (adr G o0))] [] M _
    refine T_lload_n (q := 1) dX1_claimedCells_25 rfl rfl ?_
    exact T_end (fun h => by cases h; exact V_lret dX1_claimedCells_26)
set_option maxHeartbeats 4000000 in
set_option maxRecDepth 100000 in
theorem mX1_firstQuarrel (G : Gw) (l : Launch) (o0 : Nat) (ho0 : shp o0 = 1) (o1 : Nat) (ho1 : shp o1 = 1) (M : Mem) (a : Int32) (h : fX1_firstQuarrel o0 o1 M = some a) : CtP G l yX1_firstQuarrel cX1_firstQuarrel 5 (some .int) 2 44 [.ref (adr G o0), .ref (adr G o1)] M (some (.int a)) M := by
  refine CtP.ofV (by decide) (Nat.le_of_ble_eq_true rfl) ?_
  refine (?_ : T G l RX1 cX1_firstQuarrel 5 (some .int) (rmOf 2 44) 0 0 (FinM G (some (.int a)) M) (fun x => x = a) 0 [(0, .ref (adr G o0)), (1, .ref (adr G o1))] [] M (fX1_firstQuarrel o0 o1 M)) a h rfl
  clear h
  unfold fX1_firstQuarrel
  refine T_lconst (v := 0) dX1_firstQuarrel_0 (by decide) ?_
  refine T_lstore_n (lv' := [(2, .long (0 : Int64)), (0, .ref (adr G o0)), (1, .ref (adr G o1))]) dX1_firstQuarrel_1 rfl (by decide) rfl ?_
  refine T_iconst (v := 0) dX1_firstQuarrel_2 (by decide) ?_
  refine T_istore (lv' := [(4, .int (0 : Int32)), (2, .long (0 : Int64)), (0, .ref (adr G o0)), (1, .ref (adr G o1))]) dX1_firstQuarrel_3 (by decide) rfl ?_
  refine T_bind (X := fun r5 => V G l RX1 cX1_firstQuarrel 5 (some .int) (rmOf 2 44) 0 0 (FinM G (some (.int a)) M) 36 [(4, .int r5.2), (2, .long r5.1), (0, .ref (adr G o0)), (1, .ref (adr G o1))] [] M) (T_loop (fun s1 => [(4, .int s1.2), (2, .long s1.1), (0, .ref (adr G o0)), (1, .ref (adr G o1))]) (fun s1 => M) (fun s1 => ?_) ((0 : Int64), (0 : Int32))) (fun r5 => ?_)
  · unfold wX1_firstQuarrel_5
    refine T_iload (q := 0) dX1_firstQuarrel_5 rfl ?_
    refine T_bipush (v := 11) dX1_firstQuarrel_7 (by decide) ?_
    refine T_icmp_ge (tgt := 36) dX1_firstQuarrel_9 (by decide) (fun hc2 => ?_) (fun hc2 => ?_)
    · exact T_end (fun h => V_sub [0, 1, 2, 3] rfl h)
    · refine T_lload_n (q := 1) dX1_firstQuarrel_12 rfl rfl ?_
      refine T_aload_n (q := 2) dX1_firstQuarrel_13 rfl rfl ?_
      refine T_getR cf1 fr_X1_9 dX1_firstQuarrel_14 ho0 rfl ?_
      refine T_iload (q := 0) dX1_firstQuarrel_17 rfl ?_
      refine T_lald dX1_firstQuarrel_19 (sf_1_0 ho0) ?_
      refine T_aload_n (q := 3) dX1_firstQuarrel_20 rfl rfl ?_
      refine T_getR cf1 fr_X1_9 dX1_firstQuarrel_21 ho1 rfl ?_
      refine T_iload (q := 0) dX1_firstQuarrel_24 rfl ?_
      refine T_lald dX1_firstQuarrel_26 (sf_1_0 ho1) ?_
      refine T_land dX1_firstQuarrel_27 ?_
      refine T_lor dX1_firstQuarrel_28 ?_
      refine T_lstore_n_G (lv' := fun v3 => [(2, .long v3), (4, .int s1.2), (0, .ref (adr G o0)), (1, .ref (adr G o1))]) dX1_firstQuarrel_29 rfl (by decide) (fun _ => rfl) (fun v3 => ?_)
      refine T_iinc_G (q := 1) (y := s1.2 + 1) (lv' := fun v4 => [(4, .int v4), (2, .long v3), (0, .ref (adr G o0)), (1, .ref (adr G o1))]) dX1_firstQuarrel_30 rfl rfl (by decide) (fun _ => rfl) (fun v4 => ?_)
      refine T_goto (tgt := 5) dX1_firstQuarrel_33 (by decide) ?_
      exact T_end (fun h => V_sub [0, 1, 2, 3] rfl h)
  · change T G l RX1 cX1_firstQuarrel 5 (some .int) (rmOf 2 44) 0 0 (FinM G (some (.int a)) M) _ 36 [(4, .int r5.2), (2, .long r5.1), (0, .ref (adr G o0)), (1, .ref (adr G o1))] [] M _
    refine T_aload_n (q := 2) dX1_firstQuarrel_36 rfl rfl ?_
    refine T_callVl (As := []) (st := []) mv_X1_21 (by decide) dX1_firstQuarrel_37 ho0 (fun b hb => mX1_claimedCells G l o0 ho0 M b hb) rfl rfl (Nat.le_of_ble_eq_true rfl) (fun b6 => ?_)
    refine T_aload_n (q := 3) dX1_firstQuarrel_40 rfl rfl ?_
    refine T_callVl (As := []) (st := [.long b6]) mv_X1_21 (by decide) dX1_firstQuarrel_41 ho1 (fun b hb => mX1_claimedCells G l o1 ho1 M b hb) rfl rfl (Nat.le_of_ble_eq_true rfl) (fun b7 => ?_)
    refine T_land dX1_firstQuarrel_44 ?_
    refine T_lload_n (q := 1) dX1_firstQuarrel_45 rfl rfl ?_
    refine T_ldc2 dX1_firstQuarrel_46 kcl_X1_19 ?_
    refine T_lxor dX1_firstQuarrel_49 ?_
    refine T_land dX1_firstQuarrel_50 ?_
    refine T_callSi (As := [.long ((b6 &&& b7) &&& (r5.1 ^^^ (-1 : Int64)))]) (st := []) ms_X1_41 (by decide) dX1_firstQuarrel_51 (fun b hb => mX3_firstOf G l ((b6 &&& b7) &&& (r5.1 ^^^ (-1 : Int64))) M b hb) rfl rfl (Nat.le_of_ble_eq_true rfl) (fun b8 => ?_)
    exact T_end (fun h => by cases h; exact V_iret dX1_firstQuarrel_54)
set_option maxHeartbeats 4000000 in
set_option maxRecDepth 100000 in
theorem mX1_firstWrong (G : Gw) (l : Launch) (o0 : Nat) (ho0 : shp o0 = 1) (o1 : Nat) (ho1 : shp o1 = 3) (M : Mem) (a : Int32) (h : fX1_firstWrong o0 o1 M = some a) : CtP G l yX1_firstWrong cX1_firstWrong 2 (some .int) 3 68 [.ref (adr G o0), .ref (adr G o1)] M (some (.int a)) M := by
  refine CtP.ofV (by decide) (Nat.le_of_ble_eq_true rfl) ?_
  refine (?_ : T G l RX1 cX1_firstWrong 2 (some .int) (rmOf 3 68) 0 0 (FinM G (some (.int a)) M) (fun x => x = a) 0 [(0, .ref (adr G o0)), (1, .ref (adr G o1))] [] M (fX1_firstWrong o0 o1 M)) a h rfl
  clear h
  unfold fX1_firstWrong
  refine T_aload_n (q := 0) dX1_firstWrong_0 rfl rfl ?_
  refine T_callVl (As := []) (st := []) mv_X1_21 (by decide) dX1_firstWrong_1 ho0 (fun b hb => mX1_claimedCells G l o0 ho0 M b hb) rfl rfl (Nat.le_of_ble_eq_true rfl) (fun b1 => ?_)
  refine T_aload_n (q := 0) dX1_firstWrong_4 rfl rfl ?_
  refine T_aload_n (q := 1) dX1_firstWrong_5 rfl rfl ?_
  refine T_callVl (As := [.ref (adr G o1)]) (st := [.long b1]) mv_X1_37 (by decide) dX1_firstWrong_6 ho0 (fun b hb => mX1_rightCells G l o0 ho0 o1 ho1 M b hb) rfl rfl (Nat.le_of_ble_eq_true rfl) (fun b2 => ?_)
  refine T_ldc2 dX1_firstWrong_9 kcl_X1_19 ?_
  refine T_lxor dX1_firstWrong_12 ?_
  refine T_land dX1_firstWrong_13 ?_
  refine T_callSi (As := [.long (b1 &&& (b2 ^^^ (-1 : Int64)))]) (st := []) ms_X1_41 (by decide) dX1_firstWrong_14 (fun b hb => mX3_firstOf G l (b1 &&& (b2 ^^^ (-1 : Int64))) M b hb) rfl rfl (Nat.le_of_ble_eq_true rfl) (fun b3 => ?_)
  exact T_end (fun h => by cases h; exact V_iret dX1_firstWrong_17)
set_option maxHeartbeats 4000000 in
set_option maxRecDepth 100000 in
theorem mX1_setClaim (G : Gw) (l : Launch) (o0 : Nat) (ho0 : shp o0 = 1) (x1 : Int32) (x2 : Int32) (M : Mem) (a : Mem) (h : fX1_setClaim o0 x1 x2 M = some a) : CtP G l yX1_setClaim cX1_setClaim 6 none 0 0 [.ref (adr G o0), .int x1, .int x2] M (none) a := by
  refine CtP.ofV (by decide) (Nat.le_of_ble_eq_true rfl) ?_
  refine (?_ : T G l RX1 cX1_setClaim 6 none (rmOf 0 0) 0 0 (FinM G (none) a) (fun x => x = a) 0 [(0, .ref (adr G o0)), (1, .int x1), (2, .int x2)] [] M (fX1_setClaim o0 x1 x2 M)) a h rfl
  clear h
  unfold fX1_setClaim
  refine T_lconst (v := 1) dX1_setClaim_0 (by decide) ?_
  refine T_iload_n (q := 1) dX1_setClaim_1 rfl rfl ?_
  refine T_lshl dX1_setClaim_2 ?_
  refine T_lstore_n_G (lv' := fun v1 => [(3, .long v1), (0, .ref (adr G o0)), (1, .int x1), (2, .int x2)]) dX1_setClaim_3 rfl (by decide) (fun _ => rfl) (fun v1 => ?_)
  refine T_iconst (v := 0) dX1_setClaim_4 (by decide) ?_
  refine T_istore (lv' := [(5, .int (0 : Int32)), (3, .long v1), (0, .ref (adr G o0)), (1, .int x1), (2, .int x2)]) dX1_setClaim_5 (by decide) rfl ?_
  refine T_bind (X := fun r6 => V G l RX1 cX1_setClaim 6 none (rmOf 0 0) 0 0 (FinM G (none) a) 35 [(5, .int r6.1), (3, .long v1), (0, .ref (adr G o0)), (1, .int x1), (2, .int x2)] [] r6.2) (T_loop (fun s2 => [(5, .int s2.1), (3, .long v1), (0, .ref (adr G o0)), (1, .int x1), (2, .int x2)]) (fun s2 => s2.2) (fun s2 => ?_) ((0 : Int32), M)) (fun r6 => ?_)
  · unfold wX1_setClaim_7
    refine T_iload (q := 0) dX1_setClaim_7 rfl ?_
    refine T_bipush (v := 11) dX1_setClaim_9 (by decide) ?_
    refine T_icmp_ge (tgt := 35) dX1_setClaim_11 (by decide) (fun hc3 => ?_) (fun hc3 => ?_)
    · exact T_end (fun h => V_sub [0, 1, 2, 3, 4] rfl h)
    · refine T_aload_n (q := 2) dX1_setClaim_14 rfl rfl ?_
      refine T_getR cf1 fr_X1_9 dX1_setClaim_15 ho0 rfl ?_
      refine T_iload (q := 0) dX1_setClaim_18 rfl ?_
      refine T_dup2_11 dX1_setClaim_20 rfl rfl ?_
      refine T_lald dX1_setClaim_21 (sf_1_0 ho0) ?_
      refine T_lload_n (q := 1) dX1_setClaim_22 rfl rfl ?_
      refine T_ldc2 dX1_setClaim_23 kcl_X1_19 ?_
      refine T_lxor dX1_setClaim_26 ?_
      refine T_land dX1_setClaim_27 ?_
      refine T_last dX1_setClaim_28 (sf_1_0 ho0) (fun M4 => ?_)
      refine T_iinc_G (q := 0) (y := s2.1 + 1) (lv' := fun v5 => [(5, .int v5), (3, .long v1), (0, .ref (adr G o0)), (1, .int x1), (2, .int x2)]) dX1_setClaim_29 rfl rfl (by decide) (fun _ => rfl) (fun v5 => ?_)
      refine T_goto (tgt := 7) dX1_setClaim_32 (by decide) ?_
      exact T_end (fun h => V_sub [0, 1, 2, 3, 4] rfl h)
  · change T G l RX1 cX1_setClaim 6 none (rmOf 0 0) 0 0 (FinM G (none) a) _ 35 [(5, .int r6.1), (3, .long v1), (0, .ref (adr G o0)), (1, .int x1), (2, .int x2)] [] r6.2 _
    refine T_iload_n (q := 4) dX1_setClaim_35 rfl rfl ?_
    refine T_if_lt (tgt := 55) dX1_setClaim_36 (by decide) (fun hc7 => ?_) (fun hc7 => ?_)
    · exact T_end (fun h => by cases h; exact V_vret dX1_setClaim_55)
    · refine T_iload_n (q := 4) dX1_setClaim_39 rfl rfl ?_
      refine T_bipush (v := 11) dX1_setClaim_40 (by decide) ?_
      refine T_icmp_ge (tgt := 55) dX1_setClaim_42 (by decide) (fun hc8 => ?_) (fun hc8 => ?_)
      · exact T_end (fun h => by cases h; exact V_vret dX1_setClaim_55)
      · refine T_aload_n (q := 2) dX1_setClaim_45 rfl rfl ?_
        refine T_getR cf1 fr_X1_9 dX1_setClaim_46 ho0 rfl ?_
        refine T_iload_n (q := 4) dX1_setClaim_49 rfl rfl ?_
        refine T_dup2_11 dX1_setClaim_50 rfl rfl ?_
        refine T_lald dX1_setClaim_51 (sf_1_0 ho0) ?_
        refine T_lload_n (q := 1) dX1_setClaim_52 rfl rfl ?_
        refine T_lor dX1_setClaim_53 ?_
        refine T_last dX1_setClaim_54 (sf_1_0 ho0) (fun M9 => ?_)
        exact T_end (fun h => by cases h; exact V_vret dX1_setClaim_55)
set_option maxHeartbeats 4000000 in
set_option maxRecDepth 100000 in
theorem mX1_size (G : Gw) (l : Launch) (o0 : Nat) (ho0 : shp o0 = 1) (M : Mem) (a : Int32) (h : fX1_size o0 M = some a) : CtP G l yX1_size cX1_size 1 (some .int) 1 23 [.ref (adr G o0)] M (some (.int a)) M := by
  refine CtP.ofV (by decide) (Nat.le_of_ble_eq_true rfl) ?_
  refine (?_ : T G l RX1 cX1_size 1 (some .int) (rmOf 1 23) 0 0 (FinM G (some (.int a)) M) (fun x => x = a) 0 [(0, .ref (adr G o0))] [] M (fX1_size o0 M)) a h rfl
  clear h
  unfold fX1_size
  refine T_aload_n (q := 0) dX1_size_0 rfl rfl ?_
  refine T_callVl (As := []) (st := []) mv_X1_21 (by decide) dX1_size_1 ho0 (fun b hb => mX1_claimedCells G l o0 ho0 M b hb) rfl rfl (Nat.le_of_ble_eq_true rfl) (fun b1 => ?_)
  refine T_callSi (As := [.long b1]) (st := []) ms_X1_25 (by decide) dX1_size_4 (fun b hb => mJ13_bitCount_95d88 G l b1 M b hb) rfl rfl (Nat.le_of_ble_eq_true rfl) (fun b2 => ?_)
  exact T_end (fun h => by cases h; exact V_iret dX1_size_7)
set_option maxHeartbeats 4000000 in
set_option maxRecDepth 100000 in
theorem mX6_isFull (G : Gw) (l : Launch) (o0 : Nat) (ho0 : shp o0 = 5) (M : Mem) (a : Int32) (h : fX6_isFull o0 M = some a) : CtP G l yX6_isFull cX6_isFull 1 (some .boolean) 0 0 [.ref (adr G o0)] M (some (.int a)) M := by
  refine CtP.ofV (by decide) (Nat.le_of_ble_eq_true rfl) ?_
  refine (?_ : T G l RX6 cX6_isFull 1 (some .boolean) (rmOf 0 0) 0 0 (FinM G (some (.int a)) M) (fun x => x = a) 0 [(0, .ref (adr G o0))] [] M (fX6_isFull o0 M)) a h rfl
  clear h
  unfold fX6_isFull
  refine T_aload_n (q := 0) dX6_isFull_0 rfl rfl ?_
  refine T_getI cf5 fr_X6_21 dX6_isFull_1 ho0 rfl ?_
  refine T_bipush (v := 20) dX6_isFull_4 (by decide) ?_
  refine T_icmp_lt (tgt := 13) dX6_isFull_6 (by decide) (fun hc1 => ?_) (fun hc1 => ?_)
  · refine T_iconst (v := 0) dX6_isFull_13 (by decide) ?_
    exact T_end (fun h => by cases h; exact V_zret (Or.inl rfl) dX6_isFull_14)
  · refine T_iconst (v := 1) dX6_isFull_9 (by decide) ?_
    refine T_goto (tgt := 14) dX6_isFull_10 (by decide) ?_
    exact T_end (fun h => by cases h; exact V_zret (Or.inr rfl) dX6_isFull_14)
set_option maxHeartbeats 4000000 in
set_option maxRecDepth 100000 in
theorem mX6_add (G : Gw) (l : Launch) (o0 : Nat) (ho0 : shp o0 = 5) (x1 : Int32) (x2 : Int32) (x3 : Int32) (M : Mem) (a : Int32 × Mem) (h : fX6_add o0 x1 x2 x3 M = some a) : CtP G l yX6_add cX6_add 4 (some .int) 1 20 [.ref (adr G o0), .int x1, .int x2, .int x3] M (some (.int a.1)) a.2 := by
  refine CtP.ofV (by decide) (Nat.le_of_ble_eq_true rfl) ?_
  refine (?_ : T G l RX6 cX6_add 4 (some .int) (rmOf 1 20) 0 0 (FinM G (some (.int a.1)) a.2) (fun x => x = a) 0 [(0, .ref (adr G o0)), (1, .int x1), (2, .int x2), (3, .int x3)] [] M (fX6_add o0 x1 x2 x3 M)) a h rfl
  clear h
  unfold fX6_add
  refine T_aload_n (q := 0) dX6_add_0 rfl rfl ?_
  refine T_callVi (As := []) (st := []) mv_X6_25 (by decide) dX6_add_1 ho0 (fun b hb => mX6_isFull G l o0 ho0 M b hb) rfl rfl (Nat.le_of_ble_eq_true rfl) (fun b1 => ?_)
  refine T_if_ne (tgt := 47) dX6_add_4 (by decide) (fun hc2 => ?_) (fun hc2 => ?_)
  · refine T_aload_n (q := 0) dX6_add_7 rfl rfl ?_
    refine T_getR cf5 fr_X6_9 dX6_add_8 ho0 rfl ?_
    refine T_aload_n (q := 0) dX6_add_11 rfl rfl ?_
    refine T_getI cf5 fr_X6_21 dX6_add_12 ho0 rfl ?_
    refine T_iload_n (q := 1) dX6_add_15 rfl rfl ?_
    refine T_iast dX6_add_16 (sf_5_0 ho0) (fun M3 => ?_)
    refine T_aload_n (q := 0) dX6_add_17 rfl rfl ?_
    refine T_getR cf5 fr_X6_15 dX6_add_18 ho0 rfl ?_
    refine T_aload_n (q := 0) dX6_add_21 rfl rfl ?_
    refine T_getI cf5 fr_X6_21 dX6_add_22 ho0 rfl ?_
    refine T_iload_n (q := 2) dX6_add_25 rfl rfl ?_
    refine T_iast dX6_add_26 (sf_5_1 ho0) (fun M4 => ?_)
    refine T_aload_n (q := 0) dX6_add_27 rfl rfl ?_
    refine T_getR cf5 fr_X6_18 dX6_add_28 ho0 rfl ?_
    refine T_aload_n (q := 0) dX6_add_31 rfl rfl ?_
    refine T_getI cf5 fr_X6_21 dX6_add_32 ho0 rfl ?_
    refine T_iload_n (q := 3) dX6_add_35 rfl rfl ?_
    refine T_iast dX6_add_36 (sf_5_2 ho0) (fun M5 => ?_)
    refine T_aload_n (q := 0) dX6_add_37 rfl rfl ?_
    refine T_dup dX6_add_38 rfl ?_
    refine T_getI cf5 fr_X6_21 dX6_add_39 ho0 rfl ?_
    refine T_iconst (v := 1) dX6_add_42 (by decide) ?_
    refine T_iadd dX6_add_43 ?_
    refine T_putI cf5 fr_X6_21 pt_5_3 dX6_add_44 ho0 rfl (fun M6 => ?_)
    refine T_aload_n (q := 0) dX6_add_47 rfl rfl ?_
    refine T_getI cf5 fr_X6_21 dX6_add_48 ho0 rfl ?_
    exact T_end (fun h => by cases h; exact V_iret dX6_add_51)
  · refine T_aload_n (q := 0) dX6_add_47 rfl rfl ?_
    refine T_getI cf5 fr_X6_21 dX6_add_48 ho0 rfl ?_
    exact T_end (fun h => by cases h; exact V_iret dX6_add_51)
set_option maxHeartbeats 4000000 in
set_option maxRecDepth 100000 in
theorem mX6_greatestDivisor (G : Gw) (l : Launch) (x0 : Int64) (x2 : Int64) (M : Mem) (a : Int64) (h : fX6_greatestDivisor x0 x2 = some a) : CtP G l yX6_greatestDivisor cX6_greatestDivisor 11 (some .long) 0 0 [.long x0, .long x2] M (some (.long a)) M := by
  refine CtP.ofV (by decide) (Nat.le_of_ble_eq_true rfl) ?_
  refine (?_ : T G l RX6 cX6_greatestDivisor 11 (some .long) (rmOf 0 0) 0 0 (FinM G (some (.long a)) M) (fun x => x = a) 0 [(0, .long x0), (2, .long x2)] [] M (fX6_greatestDivisor x0 x2)) a h rfl
  clear h
  unfold fX6_greatestDivisor
  refine T_lload_n (q := 0) dX6_greatestDivisor_0 rfl rfl ?_
  refine T_lstore (lv' := [(4, .long x0), (0, .long x0), (2, .long x2)]) dX6_greatestDivisor_1 (by decide) rfl ?_
  refine T_lload_n (q := 2) dX6_greatestDivisor_3 rfl rfl ?_
  refine T_lstore (lv' := [(6, .long x2), (4, .long x0), (0, .long x0), (2, .long x2)]) dX6_greatestDivisor_4 (by decide) rfl ?_
  refine T_iconst (v := 0) dX6_greatestDivisor_6 (by decide) ?_
  refine T_istore (lv' := [(8, .int (0 : Int32)), (6, .long x2), (4, .long x0), (0, .long x0), (2, .long x2)]) dX6_greatestDivisor_7 (by decide) rfl ?_
  refine T_bind (X := fun r6 => V G l RX6 cX6_greatestDivisor 11 (some .long) (rmOf 0 0) 0 0 (FinM G (some (.long a)) M) 44 [(8, .int r6.2.2), (6, .long r6.2.1), (4, .long r6.1), (0, .long x0), (2, .long x2)] [] M) (T_loop (fun s1 => [(8, .int s1.2.2), (6, .long s1.2.1), (4, .long s1.1), (0, .long x0), (2, .long x2)]) (fun s1 => M) (fun s1 => ?_) (x0, x2, (0 : Int32))) (fun r6 => ?_)
  · unfold wX6_greatestDivisor_9
    refine T_iload (q := 0) dX6_greatestDivisor_9 rfl ?_
    refine T_bipush (v := 100) dX6_greatestDivisor_11 (by decide) ?_
    refine T_icmp_ge (tgt := 44) dX6_greatestDivisor_13 (by decide) (fun hc2 => ?_) (fun hc2 => ?_)
    · exact T_end (fun h => V_sub [0, 1, 2, 3, 4] rfl h)
    · refine T_lload (q := 1) dX6_greatestDivisor_16 rfl ?_
      refine T_lconst (v := 0) dX6_greatestDivisor_18 (by decide) ?_
      refine T_lcmp dX6_greatestDivisor_19 ?_
      refine T_if_eq (tgt := 44) dX6_greatestDivisor_20 (by decide) (fun hc3 => ?_) (fun hc3 => ?_)
      · exact T_end (fun h => V_sub [0, 1, 2, 3, 4] rfl h)
      · refine T_lload (q := 2) dX6_greatestDivisor_23 rfl ?_
        refine T_lload (q := 1) dX6_greatestDivisor_25 rfl ?_
        refine T_lrem dX6_greatestDivisor_27 ?_
        refine T_lstore_G (lv' := fun v4 => [(9, .long v4), (8, .int s1.2.2), (6, .long s1.2.1), (4, .long s1.1), (0, .long x0), (2, .long x2)]) dX6_greatestDivisor_28 (by decide) (fun _ => rfl) (fun v4 => ?_)
        refine T_lload (q := 2) dX6_greatestDivisor_30 rfl ?_
        refine T_lstore (lv' := [(4, .long s1.2.1), (9, .long v4), (8, .int s1.2.2), (6, .long s1.2.1), (0, .long x0), (2, .long x2)]) dX6_greatestDivisor_32 (by decide) rfl ?_
        refine T_lload (q := 1) dX6_greatestDivisor_34 rfl ?_
        refine T_lstore (lv' := [(6, .long v4), (4, .long s1.2.1), (9, .long v4), (8, .int s1.2.2), (0, .long x0), (2, .long x2)]) dX6_greatestDivisor_36 (by decide) rfl ?_
        refine T_iinc_G (q := 3) (y := s1.2.2 + 1) (lv' := fun v5 => [(8, .int v5), (6, .long v4), (4, .long s1.2.1), (9, .long v4), (0, .long x0), (2, .long x2)]) dX6_greatestDivisor_38 rfl rfl (by decide) (fun _ => rfl) (fun v5 => ?_)
        refine T_goto (tgt := 9) dX6_greatestDivisor_41 (by decide) ?_
        exact T_end (fun h => V_sub [0, 1, 2, 4, 5] rfl h)
  · change T G l RX6 cX6_greatestDivisor 11 (some .long) (rmOf 0 0) 0 0 (FinM G (some (.long a)) M) _ 44 [(8, .int r6.2.2), (6, .long r6.2.1), (4, .long r6.1), (0, .long x0), (2, .long x2)] [] M _
    refine T_lload (q := 2) dX6_greatestDivisor_44 rfl ?_
    exact T_end (fun h => by cases h; exact V_lret dX6_greatestDivisor_46)
set_option maxHeartbeats 4000000 in
set_option maxRecDepth 100000 in
theorem mX6_standsFor (G : Gw) (l : Launch) (o0 : Nat) (ho0 : shp o0 = 5) (x1 : Int32) (x2 : Int32) (M : Mem) (a : Int32) (h : fX6_standsFor o0 x1 x2 M = some a) : CtP G l yX6_standsFor cX6_standsFor 4 (some .boolean) 0 0 [.ref (adr G o0), .int x1, .int x2] M (some (.int a)) M := by
  refine CtP.ofV (by decide) (Nat.le_of_ble_eq_true rfl) ?_
  refine (?_ : T G l RX6 cX6_standsFor 4 (some .boolean) (rmOf 0 0) 0 0 (FinM G (some (.int a)) M) (fun x => x = a) 0 [(0, .ref (adr G o0)), (1, .int x1), (2, .int x2)] [] M (fX6_standsFor o0 x1 x2 M)) a h rfl
  clear h
  unfold fX6_standsFor
  refine T_aload_n (q := 0) dX6_standsFor_0 rfl rfl ?_
  refine T_getR cf5 fr_X6_15 dX6_standsFor_1 ho0 rfl ?_
  refine T_iload_n (q := 1) dX6_standsFor_4 rfl rfl ?_
  refine T_iald dX6_standsFor_5 (sf_5_1 ho0) ?_
  refine T_iload_n (q := 2) dX6_standsFor_6 rfl rfl ?_
  refine T_icmp_eq (tgt := 12) dX6_standsFor_7 (by decide) (fun hc1 => ?_) (fun hc1 => ?_)
  · refine T_iload_n (q := 1) dX6_standsFor_12 rfl rfl ?_
    refine T_iconst (v := 1) dX6_standsFor_13 (by decide) ?_
    refine T_iadd dX6_standsFor_14 ?_
    refine T_istore_n_G (lv' := fun v2 => [(3, .int v2), (0, .ref (adr G o0)), (1, .int x1), (2, .int x2)]) dX6_standsFor_15 rfl (by decide) (fun _ => rfl) (fun v2 => ?_)
    refine T_loop (fun s3 => [(3, .int s3), (0, .ref (adr G o0)), (1, .int x1), (2, .int x2)]) (fun s3 => M) (fun s3 => ?_) v2
    unfold wX6_standsFor_16
    refine T_iload_n (q := 0) dX6_standsFor_16 rfl rfl ?_
    refine T_aload_n (q := 1) dX6_standsFor_17 rfl rfl ?_
    refine T_getI cf5 fr_X6_21 dX6_standsFor_18 ho0 rfl ?_
    refine T_icmp_ge (tgt := 57) dX6_standsFor_21 (by decide) (fun hc4 => ?_) (fun hc4 => ?_)
    · refine T_iconst (v := 1) dX6_standsFor_57 (by decide) ?_
      exact T_end (fun h => by cases h; exact V_zret (Or.inr rfl) dX6_standsFor_58)
    · refine T_aload_n (q := 1) dX6_standsFor_24 rfl rfl ?_
      refine T_getR cf5 fr_X6_15 dX6_standsFor_25 ho0 rfl ?_
      refine T_iload_n (q := 0) dX6_standsFor_28 rfl rfl ?_
      refine T_iald dX6_standsFor_29 (sf_5_1 ho0) ?_
      refine T_iload_n (q := 3) dX6_standsFor_30 rfl rfl ?_
      refine T_icmp_ne (tgt := 51) dX6_standsFor_31 (by decide) (fun hc5 => ?_) (fun hc5 => ?_)
      · refine T_aload_n (q := 1) dX6_standsFor_34 rfl rfl ?_
        refine T_getR cf5 fr_X6_9 dX6_standsFor_35 ho0 rfl ?_
        refine T_iload_n (q := 0) dX6_standsFor_38 rfl rfl ?_
        refine T_iald dX6_standsFor_39 (sf_5_0 ho0) ?_
        refine T_aload_n (q := 1) dX6_standsFor_40 rfl rfl ?_
        refine T_getR cf5 fr_X6_9 dX6_standsFor_41 ho0 rfl ?_
        refine T_iload_n (q := 2) dX6_standsFor_44 rfl rfl ?_
        refine T_iald dX6_standsFor_45 (sf_5_0 ho0) ?_
        refine T_icmp_ne (tgt := 51) dX6_standsFor_46 (by decide) (fun hc6 => ?_) (fun hc6 => ?_)
        · refine T_iconst (v := 0) dX6_standsFor_49 (by decide) ?_
          exact T_end (fun h => by cases h; exact V_zret (Or.inl rfl) dX6_standsFor_50)
        · refine T_iinc_G (q := 0) (y := s3 + 1) (lv' := fun v7 => [(3, .int v7), (0, .ref (adr G o0)), (1, .int x1), (2, .int x2)]) dX6_standsFor_51 rfl rfl (by decide) (fun _ => rfl) (fun v7 => ?_)
          refine T_goto (tgt := 16) dX6_standsFor_54 (by decide) ?_
          exact T_end (fun h => V_sub [0, 1, 2, 3] rfl h)
      · refine T_iinc_G (q := 0) (y := s3 + 1) (lv' := fun v8 => [(3, .int v8), (0, .ref (adr G o0)), (1, .int x1), (2, .int x2)]) dX6_standsFor_51 rfl rfl (by decide) (fun _ => rfl) (fun v8 => ?_)
        refine T_goto (tgt := 16) dX6_standsFor_54 (by decide) ?_
        exact T_end (fun h => V_sub [0, 1, 2, 3] rfl h)
  · refine T_iconst (v := 0) dX6_standsFor_10 (by decide) ?_
    exact T_end (fun h => by cases h; exact V_zret (Or.inl rfl) dX6_standsFor_11)
set_option maxHeartbeats 4000000 in
set_option maxRecDepth 100000 in
theorem mX6_share (G : Gw) (l : Launch) (o0 : Nat) (ho0 : shp o0 = 5) (x1 : Int32) (o2 : Nat) (ho2 : shp o2 = 3) (x3 : Int64) (x5 : Int32) (M : Mem) (a : Int64) (h : fX6_share o0 x1 o2 x3 x5 M = some a) : CtP G l yX6_share cX6_share 17 (some .long) 2 44 [.ref (adr G o0), .int x1, .ref (adr G o2), .long x3, .int x5] M (some (.long a)) M := by
  refine CtP.ofV (by decide) (Nat.le_of_ble_eq_true rfl) ?_
  refine (?_ : T G l RX6 cX6_share 17 (some .long) (rmOf 2 44) 0 0 (FinM G (some (.long a)) M) (fun x => x = a) 0 [(0, .ref (adr G o0)), (1, .int x1), (2, .ref (adr G o2)), (3, .long x3), (5, .int x5)] [] M (fX6_share o0 x1 o2 x3 x5 M)) a h rfl
  clear h
  unfold fX6_share
  refine T_lconst (v := 0) dX6_share_0 (by decide) ?_
  refine T_lstore (lv' := [(6, .long (0 : Int64)), (0, .ref (adr G o0)), (1, .int x1), (2, .ref (adr G o2)), (3, .long x3), (5, .int x5)]) dX6_share_1 (by decide) rfl ?_
  refine T_lconst (v := 1) dX6_share_3 (by decide) ?_
  refine T_lstore (lv' := [(8, .long (1 : Int64)), (6, .long (0 : Int64)), (0, .ref (adr G o0)), (1, .int x1), (2, .ref (adr G o2)), (3, .long x3), (5, .int x5)]) dX6_share_4 (by decide) rfl ?_
  refine T_iconst (v := 0) dX6_share_6 (by decide) ?_
  refine T_istore (lv' := [(10, .int (0 : Int32)), (8, .long (1 : Int64)), (6, .long (0 : Int64)), (0, .ref (adr G o0)), (1, .int x1), (2, .ref (adr G o2)), (3, .long x3), (5, .int x5)]) dX6_share_7 (by decide) rfl ?_
  refine T_bind (X := fun r20 => V G l RX6 cX6_share 17 (some .long) (rmOf 2 44) 0 0 (FinM G (some (.long a)) M) 127 [(10, .int r20.2.2), (8, .long r20.2.1), (6, .long r20.1), (0, .ref (adr G o0)), (1, .int x1), (2, .ref (adr G o2)), (3, .long x3), (5, .int x5)] [] M) (T_loop (fun s1 => [(10, .int s1.2.2), (8, .long s1.2.1), (6, .long s1.1), (0, .ref (adr G o0)), (1, .int x1), (2, .ref (adr G o2)), (3, .long x3), (5, .int x5)]) (fun s1 => M) (fun s1 => ?_) ((0 : Int64), (1 : Int64), (0 : Int32))) (fun r20 => ?_)
  · unfold wX6_share_9
    refine T_iload (q := 0) dX6_share_9 rfl ?_
    refine T_aload_n (q := 3) dX6_share_11 rfl rfl ?_
    refine T_getI cf5 fr_X6_21 dX6_share_12 ho0 rfl ?_
    refine T_icmp_ge (tgt := 127) dX6_share_15 (by decide) (fun hc2 => ?_) (fun hc2 => ?_)
    · exact T_end (fun h => V_sub [0, 1, 2, 3, 4, 5, 6, 7] rfl h)
    · refine T_aload_n (q := 5) dX6_share_18 rfl rfl ?_
      refine T_aload_n (q := 3) dX6_share_19 rfl rfl ?_
      refine T_getR cf5 fr_X6_9 dX6_share_20 ho0 rfl ?_
      refine T_iload (q := 0) dX6_share_23 rfl ?_
      refine T_iald dX6_share_25 (sf_5_0 ho0) ?_
      refine T_callVl (As := [.int (M.1 (rf o0 0) s1.2.2.toNatClampNeg)]) (st := []) mv_X6_33 (by decide) dX6_share_26 ho2 (fun b hb => mX4_heldBy G l o2 ho2 (M.1 (rf o0 0) s1.2.2.toNatClampNeg) M b hb) rfl rfl (Nat.le_of_ble_eq_true rfl) (fun b3 => ?_)
      refine T_lstore (lv' := [(11, .long b3), (10, .int s1.2.2), (8, .long s1.2.1), (6, .long s1.1), (0, .ref (adr G o0)), (1, .int x1), (2, .ref (adr G o2)), (3, .long x3), (5, .int x5)]) dX6_share_29 (by decide) rfl ?_
      refine T_lload (q := 0) dX6_share_31 rfl ?_
      refine T_lconst (v := 0) dX6_share_33 (by decide) ?_
      refine T_lcmp dX6_share_34 ?_
      refine T_if_eq (tgt := 121) dX6_share_35 (by decide) (fun hc4 => ?_) (fun hc4 => ?_)
      · refine T_iinc_G (q := 1) (y := s1.2.2 + 1) (lv' := fun v5 => [(10, .int v5), (11, .long b3), (8, .long s1.2.1), (6, .long s1.1), (0, .ref (adr G o0)), (1, .int x1), (2, .ref (adr G o2)), (3, .long x3), (5, .int x5)]) dX6_share_121 rfl rfl (by decide) (fun _ => rfl) (fun v5 => ?_)
        refine T_goto (tgt := 9) dX6_share_124 (by decide) ?_
        exact T_end (fun h => V_sub [0, 2, 3, 4, 5, 6, 7, 8] rfl h)
      · refine T_aload_n (q := 4) dX6_share_38 rfl rfl ?_
        refine T_iload (q := 1) dX6_share_39 rfl ?_
        refine T_iload_n (q := 5) dX6_share_41 rfl rfl ?_
        refine T_callVi (As := [.int s1.2.2, .int x1]) (st := []) mv_X6_29 (by decide) dX6_share_42 ho0 (fun b hb => mX6_standsFor G l o0 ho0 s1.2.2 x1 M b hb) rfl rfl (Nat.le_of_ble_eq_true rfl) (fun b6 => ?_)
        refine T_if_eq (tgt := 121) dX6_share_45 (by decide) (fun hc7 => ?_) (fun hc7 => ?_)
        · refine T_iinc_G (q := 1) (y := s1.2.2 + 1) (lv' := fun v8 => [(10, .int v8), (11, .long b3), (8, .long s1.2.1), (6, .long s1.1), (0, .ref (adr G o0)), (1, .int x1), (2, .ref (adr G o2)), (3, .long x3), (5, .int x5)]) dX6_share_121 rfl rfl (by decide) (fun _ => rfl) (fun v8 => ?_)
          refine T_goto (tgt := 9) dX6_share_124 (by decide) ?_
          exact T_end (fun h => V_sub [0, 2, 3, 4, 5, 6, 7, 8] rfl h)
        · refine T_lload (q := 0) dX6_share_48 rfl ?_
          refine T_callSi (As := [.long b3]) (st := []) ms_X6_39 (by decide) dX6_share_50 (fun b hb => mJ13_bitCount_95d88 G l b3 M b hb) rfl rfl (Nat.le_of_ble_eq_true rfl) (fun b9 => ?_)
          refine T_i2l dX6_share_53 ?_
          refine T_lstore_G (lv' := fun v10 => [(13, .long v10), (11, .long b3), (10, .int s1.2.2), (8, .long s1.2.1), (6, .long s1.1), (0, .ref (adr G o0)), (1, .int x1), (2, .ref (adr G o2)), (3, .long x3), (5, .int x5)]) dX6_share_54 (by decide) (fun _ => rfl) (fun v10 => ?_)
          refine T_lload (q := 4) dX6_share_56 rfl ?_
          refine T_lload (q := 0) dX6_share_58 rfl ?_
          refine T_lmul dX6_share_60 ?_
          refine T_aload_n (q := 5) dX6_share_61 rfl rfl ?_
          refine T_getR cf5 fr_X6_18 dX6_share_62 ho0 rfl ?_
          refine T_iload (q := 2) dX6_share_65 rfl ?_
          refine T_iald dX6_share_67 (sf_5_2 ho0) ?_
          refine T_i2l dX6_share_68 ?_
          refine T_lload (q := 3) dX6_share_69 rfl ?_
          refine T_lmul dX6_share_71 ?_
          refine T_lload (q := 1) dX6_share_72 rfl ?_
          refine T_lload_n (q := 8) dX6_share_74 rfl rfl ?_
          refine T_land dX6_share_75 ?_
          refine T_callSi (As := [.long (b3 &&& x3)]) (st := [.long (((M.1 (rf o0 2) s1.2.2.toNatClampNeg).toInt64) * s1.2.1), .long (s1.1 * v10)]) ms_X6_39 (by decide) dX6_share_76 (fun b hb => mJ13_bitCount_95d88 G l (b3 &&& x3) M b hb) rfl rfl (Nat.le_of_ble_eq_true rfl) (fun b11 => ?_)
          refine T_i2l dX6_share_79 ?_
          refine T_lmul dX6_share_80 ?_
          refine T_ladd dX6_share_81 ?_
          refine T_lstore_G (lv' := fun v12 => [(6, .long v12), (13, .long v10), (11, .long b3), (10, .int s1.2.2), (8, .long s1.2.1), (0, .ref (adr G o0)), (1, .int x1), (2, .ref (adr G o2)), (3, .long x3), (5, .int x5)]) dX6_share_82 (by decide) (fun _ => rfl) (fun v12 => ?_)
          refine T_lload (q := 4) dX6_share_84 rfl ?_
          refine T_lload (q := 1) dX6_share_86 rfl ?_
          refine T_lmul dX6_share_88 ?_
          refine T_lstore_G (lv' := fun v13 => [(8, .long v13), (6, .long v12), (13, .long v10), (11, .long b3), (10, .int s1.2.2), (0, .ref (adr G o0)), (1, .int x1), (2, .ref (adr G o2)), (3, .long x3), (5, .int x5)]) dX6_share_89 (by decide) (fun _ => rfl) (fun v13 => ?_)
          refine T_lload (q := 1) dX6_share_91 rfl ?_
          refine T_lload (q := 0) dX6_share_93 rfl ?_
          refine T_callSl (As := [.long v12, .long v13]) (st := []) ms_X6_45 (by decide) dX6_share_95 (fun b hb => mX6_greatestDivisor G l v12 v13 M b hb) rfl rfl (Nat.le_of_ble_eq_true rfl) (fun b14 => ?_)
          refine T_lstore (lv' := [(15, .long b14), (8, .long v13), (6, .long v12), (13, .long v10), (11, .long b3), (10, .int s1.2.2), (0, .ref (adr G o0)), (1, .int x1), (2, .ref (adr G o2)), (3, .long x3), (5, .int x5)]) dX6_share_98 (by decide) rfl ?_
          refine T_lload (q := 0) dX6_share_100 rfl ?_
          refine T_lconst (v := 1) dX6_share_102 (by decide) ?_
          refine T_lcmp dX6_share_103 ?_
          refine T_if_le (tgt := 121) dX6_share_104 (by decide) (fun hc15 => ?_) (fun hc15 => ?_)
          · refine T_iinc_G (q := 5) (y := s1.2.2 + 1) (lv' := fun v16 => [(10, .int v16), (15, .long b14), (8, .long v13), (6, .long v12), (13, .long v10), (11, .long b3), (0, .ref (adr G o0)), (1, .int x1), (2, .ref (adr G o2)), (3, .long x3), (5, .int x5)]) dX6_share_121 rfl rfl (by decide) (fun _ => rfl) (fun v16 => ?_)
            refine T_goto (tgt := 9) dX6_share_124 (by decide) ?_
            exact T_end (fun h => V_sub [0, 2, 3, 6, 7, 8, 9, 10] rfl h)
          · refine T_lload (q := 2) dX6_share_107 rfl ?_
            refine T_lload (q := 0) dX6_share_109 rfl ?_
            refine T_ldiv dX6_share_111 ?_
            refine T_lstore_G (lv' := fun v17 => [(6, .long v17), (15, .long b14), (8, .long v13), (13, .long v10), (11, .long b3), (10, .int s1.2.2), (0, .ref (adr G o0)), (1, .int x1), (2, .ref (adr G o2)), (3, .long x3), (5, .int x5)]) dX6_share_112 (by decide) (fun _ => rfl) (fun v17 => ?_)
            refine T_lload (q := 2) dX6_share_114 rfl ?_
            refine T_lload (q := 1) dX6_share_116 rfl ?_
            refine T_ldiv dX6_share_118 ?_
            refine T_lstore_G (lv' := fun v18 => [(8, .long v18), (6, .long v17), (15, .long b14), (13, .long v10), (11, .long b3), (10, .int s1.2.2), (0, .ref (adr G o0)), (1, .int x1), (2, .ref (adr G o2)), (3, .long x3), (5, .int x5)]) dX6_share_119 (by decide) (fun _ => rfl) (fun v18 => ?_)
            refine T_iinc_G (q := 5) (y := s1.2.2 + 1) (lv' := fun v19 => [(10, .int v19), (8, .long v18), (6, .long v17), (15, .long b14), (13, .long v10), (11, .long b3), (0, .ref (adr G o0)), (1, .int x1), (2, .ref (adr G o2)), (3, .long x3), (5, .int x5)]) dX6_share_121 rfl rfl (by decide) (fun _ => rfl) (fun v19 => ?_)
            refine T_goto (tgt := 9) dX6_share_124 (by decide) ?_
            exact T_end (fun h => V_sub [0, 1, 2, 6, 7, 8, 9, 10] rfl h)
  · change T G l RX6 cX6_share 17 (some .long) (rmOf 2 44) 0 0 (FinM G (some (.long a)) M) _ 127 [(10, .int r20.2.2), (8, .long r20.2.1), (6, .long r20.1), (0, .ref (adr G o0)), (1, .int x1), (2, .ref (adr G o2)), (3, .long x3), (5, .int x5)] [] M _
    refine T_iload (q := 7) dX6_share_127 rfl ?_
    refine T_if_eq (tgt := 137) dX6_share_129 (by decide) (fun hc21 => ?_) (fun hc21 => ?_)
    · refine T_lload (q := 2) dX6_share_137 rfl ?_
      exact T_end (fun h => by cases h; exact V_lret dX6_share_139)
    · refine T_lload (q := 1) dX6_share_132 rfl ?_
      refine T_goto (tgt := 139) dX6_share_134 (by decide) ?_
      exact T_end (fun h => by cases h; exact V_lret dX6_share_139)
set_option maxHeartbeats 4000000 in
set_option maxRecDepth 100000 in
theorem mX6_sum (G : Gw) (l : Launch) (o0 : Nat) (ho0 : shp o0 = 5) (x1 : Int32) (M : Mem) (a : Int64) (h : fX6_sum o0 x1 M = some a) : CtP G l yX6_sum cX6_sum 5 (some .long) 1 23 [.ref (adr G o0), .int x1] M (some (.long a)) M := by
  refine CtP.ofV (by decide) (Nat.le_of_ble_eq_true rfl) ?_
  refine (?_ : T G l RX6 cX6_sum 5 (some .long) (rmOf 1 23) 0 0 (FinM G (some (.long a)) M) (fun x => x = a) 0 [(0, .ref (adr G o0)), (1, .int x1)] [] M (fX6_sum o0 x1 M)) a h rfl
  clear h
  unfold fX6_sum
  refine T_lconst (v := 0) dX6_sum_0 (by decide) ?_
  refine T_lstore_n (lv' := [(2, .long (0 : Int64)), (0, .ref (adr G o0)), (1, .int x1)]) dX6_sum_1 rfl (by decide) rfl ?_
  refine T_iconst (v := 0) dX6_sum_2 (by decide) ?_
  refine T_istore (lv' := [(4, .int (0 : Int32)), (2, .long (0 : Int64)), (0, .ref (adr G o0)), (1, .int x1)]) dX6_sum_3 (by decide) rfl ?_
  refine T_bind (X := fun r8 => V G l RX6 cX6_sum 5 (some .long) (rmOf 1 23) 0 0 (FinM G (some (.long a)) M) 41 [(4, .int r8.2), (2, .long r8.1), (0, .ref (adr G o0)), (1, .int x1)] [] M) (T_loop (fun s1 => [(4, .int s1.2), (2, .long s1.1), (0, .ref (adr G o0)), (1, .int x1)]) (fun s1 => M) (fun s1 => ?_) ((0 : Int64), (0 : Int32))) (fun r8 => ?_)
  · unfold wX6_sum_5
    refine T_iload (q := 0) dX6_sum_5 rfl ?_
    refine T_aload_n (q := 2) dX6_sum_7 rfl rfl ?_
    refine T_getI cf5 fr_X6_21 dX6_sum_8 ho0 rfl ?_
    refine T_icmp_ge (tgt := 41) dX6_sum_11 (by decide) (fun hc2 => ?_) (fun hc2 => ?_)
    · exact T_end (fun h => V_sub [0, 1, 2, 3] rfl h)
    · refine T_aload_n (q := 2) dX6_sum_14 rfl rfl ?_
      refine T_iload (q := 0) dX6_sum_15 rfl ?_
      refine T_iload_n (q := 3) dX6_sum_17 rfl rfl ?_
      refine T_callVi (As := [.int s1.2, .int x1]) (st := []) mv_X6_29 (by decide) dX6_sum_18 ho0 (fun b hb => mX6_standsFor G l o0 ho0 s1.2 x1 M b hb) rfl rfl (Nat.le_of_ble_eq_true rfl) (fun b3 => ?_)
      refine T_if_eq (tgt := 35) dX6_sum_21 (by decide) (fun hc4 => ?_) (fun hc4 => ?_)
      · refine T_iinc_G (q := 0) (y := s1.2 + 1) (lv' := fun v5 => [(4, .int v5), (2, .long s1.1), (0, .ref (adr G o0)), (1, .int x1)]) dX6_sum_35 rfl rfl (by decide) (fun _ => rfl) (fun v5 => ?_)
        refine T_goto (tgt := 5) dX6_sum_38 (by decide) ?_
        exact T_end (fun h => V_sub [0, 1, 2, 3] rfl h)
      · refine T_lload_n (q := 1) dX6_sum_24 rfl rfl ?_
        refine T_aload_n (q := 2) dX6_sum_25 rfl rfl ?_
        refine T_getR cf5 fr_X6_18 dX6_sum_26 ho0 rfl ?_
        refine T_iload (q := 0) dX6_sum_29 rfl ?_
        refine T_iald dX6_sum_31 (sf_5_2 ho0) ?_
        refine T_i2l dX6_sum_32 ?_
        refine T_ladd dX6_sum_33 ?_
        refine T_lstore_n_G (lv' := fun v6 => [(2, .long v6), (4, .int s1.2), (0, .ref (adr G o0)), (1, .int x1)]) dX6_sum_34 rfl (by decide) (fun _ => rfl) (fun v6 => ?_)
        refine T_iinc_G (q := 1) (y := s1.2 + 1) (lv' := fun v7 => [(4, .int v7), (2, .long v6), (0, .ref (adr G o0)), (1, .int x1)]) dX6_sum_35 rfl rfl (by decide) (fun _ => rfl) (fun v7 => ?_)
        refine T_goto (tgt := 5) dX6_sum_38 (by decide) ?_
        exact T_end (fun h => V_sub [0, 1, 2, 3] rfl h)
  · change T G l RX6 cX6_sum 5 (some .long) (rmOf 1 23) 0 0 (FinM G (some (.long a)) M) _ 41 [(4, .int r8.2), (2, .long r8.1), (0, .ref (adr G o0)), (1, .int x1)] [] M _
    refine T_lload_n (q := 1) dX6_sum_41 rfl rfl ?_
    exact T_end (fun h => by cases h; exact V_lret dX6_sum_42)
