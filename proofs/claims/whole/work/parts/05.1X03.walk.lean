set_option maxHeartbeats 4000000 in
set_option maxRecDepth 100000 in
theorem mX0_canBeTurnedBack (G : Gw) (l : Launch) (o0 : Nat) (ho0 : shp o0 = 0) (M : Mem) (a : Int32) (h : fX0_canBeTurnedBack o0 M = some a) : CtP G l yX0_canBeTurnedBack cX0_canBeTurnedBack 1 (some .boolean) 0 0 [.ref (adr G o0)] M (some (.int a)) M := by
  refine CtP.ofV (by decide) (Nat.le_of_ble_eq_true rfl) ?_
  refine (?_ : T G l RX0 cX0_canBeTurnedBack 1 (some .boolean) (rmOf 0 0) 0 0 (FinM G (some (.int a)) M) (fun x => x = a) 0 [(0, .ref (adr G o0))] [] M (fX0_canBeTurnedBack o0 M)) a h rfl
  clear h
  unfold fX0_canBeTurnedBack
  refine T_aload_n (q := 0) dX0_canBeTurnedBack_0 rfl rfl ?_
  refine T_getI cf0 fr_X0_9 dX0_canBeTurnedBack_1 ho0 rfl ?_
  refine T_if_eq (tgt := 23) dX0_canBeTurnedBack_4 (by decide) (fun hc1 => ?_) (fun hc1 => ?_)
  · refine T_iconst (v := 1) dX0_canBeTurnedBack_23 (by decide) ?_
    refine T_goto (tgt := 28) dX0_canBeTurnedBack_24 (by decide) ?_
    exact T_end (fun h => by cases h; exact V_zret (Or.inr rfl) dX0_canBeTurnedBack_28)
  · refine T_aload_n (q := 0) dX0_canBeTurnedBack_7 rfl rfl ?_
    refine T_getI cf0 fr_X0_9 dX0_canBeTurnedBack_8 ho0 rfl ?_
    refine T_iconst (v := 1) dX0_canBeTurnedBack_11 (by decide) ?_
    refine T_icmp_eq (tgt := 23) dX0_canBeTurnedBack_12 (by decide) (fun hc2 => ?_) (fun hc2 => ?_)
    · refine T_iconst (v := 1) dX0_canBeTurnedBack_23 (by decide) ?_
      refine T_goto (tgt := 28) dX0_canBeTurnedBack_24 (by decide) ?_
      exact T_end (fun h => by cases h; exact V_zret (Or.inr rfl) dX0_canBeTurnedBack_28)
    · refine T_aload_n (q := 0) dX0_canBeTurnedBack_15 rfl rfl ?_
      refine T_getI cf0 fr_X0_9 dX0_canBeTurnedBack_16 ho0 rfl ?_
      refine T_iconst (v := 2) dX0_canBeTurnedBack_19 (by decide) ?_
      refine T_icmp_ne (tgt := 27) dX0_canBeTurnedBack_20 (by decide) (fun hc3 => ?_) (fun hc3 => ?_)
      · refine T_iconst (v := 1) dX0_canBeTurnedBack_23 (by decide) ?_
        refine T_goto (tgt := 28) dX0_canBeTurnedBack_24 (by decide) ?_
        exact T_end (fun h => by cases h; exact V_zret (Or.inr rfl) dX0_canBeTurnedBack_28)
      · refine T_iconst (v := 0) dX0_canBeTurnedBack_27 (by decide) ?_
        exact T_end (fun h => by cases h; exact V_zret (Or.inl rfl) dX0_canBeTurnedBack_28)
set_option maxHeartbeats 4000000 in
set_option maxRecDepth 100000 in
theorem mX0_receiver (G : Gw) (l : Launch) (o0 : Nat) (ho0 : shp o0 = 0) (M : Mem) (a : Int32) (h : fX0_receiver o0 M = some a) : CtP G l yX0_receiver cX0_receiver 1 (some .int) 0 0 [.ref (adr G o0)] M (some (.int a)) M := by
  refine CtP.ofV (by decide) (Nat.le_of_ble_eq_true rfl) ?_
  refine (?_ : T G l RX0 cX0_receiver 1 (some .int) (rmOf 0 0) 0 0 (FinM G (some (.int a)) M) (fun x => x = a) 0 [(0, .ref (adr G o0))] [] M (fX0_receiver o0 M)) a h rfl
  clear h
  unfold fX0_receiver
  refine T_aload_n (q := 0) dX0_receiver_0 rfl rfl ?_
  refine T_getI cf0 fr_X0_9 dX0_receiver_1 ho0 rfl ?_
  refine T_if_ne (tgt := 14) dX0_receiver_4 (by decide) (fun hc1 => ?_) (fun hc1 => ?_)
  · refine T_aload_n (q := 0) dX0_receiver_7 rfl rfl ?_
    refine T_getI cf0 fr_X0_15 dX0_receiver_8 ho0 rfl ?_
    refine T_goto (tgt := 18) dX0_receiver_11 (by decide) ?_
    exact T_end (fun h => by cases h; exact V_iret dX0_receiver_18)
  · refine T_aload_n (q := 0) dX0_receiver_14 rfl rfl ?_
    refine T_getI cf0 fr_X0_18 dX0_receiver_15 ho0 rfl ?_
    exact T_end (fun h => by cases h; exact V_iret dX0_receiver_18)
set_option maxHeartbeats 4000000 in
set_option maxRecDepth 100000 in
theorem mX4_isSlot (G : Gw) (l : Launch) (x0 : Int32) (M : Mem) (a : Int32) (h : fX4_isSlot x0 = some a) : CtP G l yX4_isSlot cX4_isSlot 1 (some .boolean) 0 0 [.int x0] M (some (.int a)) M := by
  refine CtP.ofV (by decide) (Nat.le_of_ble_eq_true rfl) ?_
  refine (?_ : T G l RX4 cX4_isSlot 1 (some .boolean) (rmOf 0 0) 0 0 (FinM G (some (.int a)) M) (fun x => x = a) 0 [(0, .int x0)] [] M (fX4_isSlot x0)) a h rfl
  clear h
  unfold fX4_isSlot
  refine T_iload_n (q := 0) dX4_isSlot_0 rfl rfl ?_
  refine T_if_lt (tgt := 14) dX4_isSlot_1 (by decide) (fun hc1 => ?_) (fun hc1 => ?_)
  · refine T_iconst (v := 0) dX4_isSlot_14 (by decide) ?_
    exact T_end (fun h => by cases h; exact V_zret (Or.inl rfl) dX4_isSlot_15)
  · refine T_iload_n (q := 0) dX4_isSlot_4 rfl rfl ?_
    refine T_bipush (v := 10) dX4_isSlot_5 (by decide) ?_
    refine T_icmp_ge (tgt := 14) dX4_isSlot_7 (by decide) (fun hc2 => ?_) (fun hc2 => ?_)
    · refine T_iconst (v := 0) dX4_isSlot_14 (by decide) ?_
      exact T_end (fun h => by cases h; exact V_zret (Or.inl rfl) dX4_isSlot_15)
    · refine T_iconst (v := 1) dX4_isSlot_10 (by decide) ?_
      refine T_goto (tgt := 15) dX4_isSlot_11 (by decide) ?_
      exact T_end (fun h => by cases h; exact V_zret (Or.inr rfl) dX4_isSlot_15)
set_option maxHeartbeats 4000000 in
set_option maxRecDepth 100000 in
theorem mX4_heldBy (G : Gw) (l : Launch) (o0 : Nat) (ho0 : shp o0 = 3) (x1 : Int32) (M : Mem) (a : Int64) (h : fX4_heldBy o0 x1 M = some a) : CtP G l yX4_heldBy cX4_heldBy 5 (some .long) 1 20 [.ref (adr G o0), .int x1] M (some (.long a)) M := by
  refine CtP.ofV (by decide) (Nat.le_of_ble_eq_true rfl) ?_
  refine (?_ : T G l RX4 cX4_heldBy 5 (some .long) (rmOf 1 20) 0 0 (FinM G (some (.long a)) M) (fun x => x = a) 0 [(0, .ref (adr G o0)), (1, .int x1)] [] M (fX4_heldBy o0 x1 M)) a h rfl
  clear h
  unfold fX4_heldBy
  refine T_iload_n (q := 1) dX4_heldBy_0 rfl rfl ?_
  refine T_callSi (As := [.int x1]) (st := []) ms_X4_35 (by decide) dX4_heldBy_1 (fun b hb => mX4_isSlot G l x1 M b hb) rfl rfl (Nat.le_of_ble_eq_true rfl) (fun b1 => ?_)
  refine T_if_eq (tgt := 14) dX4_heldBy_4 (by decide) (fun hc2 => ?_) (fun hc2 => ?_)
  · refine T_ldc2 dX4_heldBy_14 kcl_X4_43 ?_
    refine T_lstore_n (lv' := [(2, .long (68719476735 : Int64)), (0, .ref (adr G o0)), (1, .int x1)]) dX4_heldBy_17 rfl (by decide) rfl ?_
    refine T_iconst (v := 0) dX4_heldBy_18 (by decide) ?_
    refine T_istore (lv' := [(4, .int (0 : Int32)), (2, .long (68719476735 : Int64)), (0, .ref (adr G o0)), (1, .int x1)]) dX4_heldBy_19 (by decide) rfl ?_
    refine T_bind (X := fun r7 => V G l RX4 cX4_heldBy 5 (some .long) (rmOf 1 20) 0 0 (FinM G (some (.long a)) M) 48 [(4, .int r7.2), (2, .long r7.1), (0, .ref (adr G o0)), (1, .int x1)] [] M) (T_loop (fun s3 => [(4, .int s3.2), (2, .long s3.1), (0, .ref (adr G o0)), (1, .int x1)]) (fun s3 => M) (fun s3 => ?_) ((68719476735 : Int64), (0 : Int32))) (fun r7 => ?_)
    · unfold wX4_heldBy_21
      refine T_iload (q := 0) dX4_heldBy_21 rfl ?_
      refine T_bipush (v := 10) dX4_heldBy_23 (by decide) ?_
      refine T_icmp_ge (tgt := 48) dX4_heldBy_25 (by decide) (fun hc4 => ?_) (fun hc4 => ?_)
      · exact T_end (fun h => V_sub [0, 1, 2, 3] rfl h)
      · refine T_lload_n (q := 1) dX4_heldBy_28 rfl rfl ?_
        refine T_aload_n (q := 2) dX4_heldBy_29 rfl rfl ?_
        refine T_getR cf3 fr_X4_9 dX4_heldBy_30 ho0 rfl ?_
        refine T_iload (q := 0) dX4_heldBy_33 rfl ?_
        refine T_lald dX4_heldBy_35 (sf_3_0 ho0) ?_
        refine T_ldc2 dX4_heldBy_36 kcl_X4_39 ?_
        refine T_lxor dX4_heldBy_39 ?_
        refine T_land dX4_heldBy_40 ?_
        refine T_lstore_n_G (lv' := fun v5 => [(2, .long v5), (4, .int s3.2), (0, .ref (adr G o0)), (1, .int x1)]) dX4_heldBy_41 rfl (by decide) (fun _ => rfl) (fun v5 => ?_)
        refine T_iinc_G (q := 1) (y := s3.2 + 1) (lv' := fun v6 => [(4, .int v6), (2, .long v5), (0, .ref (adr G o0)), (1, .int x1)]) dX4_heldBy_42 rfl rfl (by decide) (fun _ => rfl) (fun v6 => ?_)
        refine T_goto (tgt := 21) dX4_heldBy_45 (by decide) ?_
        exact T_end (fun h => V_sub [0, 1, 2, 3] rfl h)
    · change T G l RX4 cX4_heldBy 5 (some .long) (rmOf 1 20) 0 0 (FinM G (some (.long a)) M) _ 48 [(4, .int r7.2), (2, .long r7.1), (0, .ref (adr G o0)), (1, .int x1)] [] M _
      refine T_lload_n (q := 1) dX4_heldBy_48 rfl rfl ?_
      exact T_end (fun h => by cases h; exact V_lret dX4_heldBy_49)
  · refine T_aload_n (q := 0) dX4_heldBy_7 rfl rfl ?_
    refine T_getR cf3 fr_X4_9 dX4_heldBy_8 ho0 rfl ?_
    refine T_iload_n (q := 1) dX4_heldBy_11 rfl rfl ?_
    refine T_lald dX4_heldBy_12 (sf_3_0 ho0) ?_
    exact T_end (fun h => by cases h; exact V_lret dX4_heldBy_13)
set_option maxHeartbeats 4000000 in
set_option maxRecDepth 100000 in
theorem mX3_has (G : Gw) (l : Launch) (x0 : Int64) (x2 : Int32) (M : Mem) (a : Int32) (h : fX3_has x0 x2 = some a) : CtP G l yX3_has cX3_has 3 (some .boolean) 0 0 [.long x0, .int x2] M (some (.int a)) M := by
  refine CtP.ofV (by decide) (Nat.le_of_ble_eq_true rfl) ?_
  refine (?_ : T G l RX3 cX3_has 3 (some .boolean) (rmOf 0 0) 0 0 (FinM G (some (.int a)) M) (fun x => x = a) 0 [(0, .long x0), (2, .int x2)] [] M (fX3_has x0 x2)) a h rfl
  clear h
  unfold fX3_has
  refine T_lload_n (q := 0) dX3_has_0 rfl rfl ?_
  refine T_iload_n (q := 1) dX3_has_1 rfl rfl ?_
  refine T_lushr dX3_has_2 ?_
  refine T_lconst (v := 1) dX3_has_3 (by decide) ?_
  refine T_land dX3_has_4 ?_
  refine T_lconst (v := 1) dX3_has_5 (by decide) ?_
  refine T_lcmp dX3_has_6 ?_
  refine T_if_ne (tgt := 14) dX3_has_7 (by decide) (fun hc1 => ?_) (fun hc1 => ?_)
  · refine T_iconst (v := 1) dX3_has_10 (by decide) ?_
    refine T_goto (tgt := 15) dX3_has_11 (by decide) ?_
    exact T_end (fun h => by cases h; exact V_zret (Or.inr rfl) dX3_has_15)
  · refine T_iconst (v := 0) dX3_has_14 (by decide) ?_
    exact T_end (fun h => by cases h; exact V_zret (Or.inl rfl) dX3_has_15)
set_option maxHeartbeats 4000000 in
set_option maxRecDepth 100000 in
theorem mX3_firstOf (G : Gw) (l : Launch) (x0 : Int64) (M : Mem) (a : Int32) (h : fX3_firstOf x0 = some a) : CtP G l yX3_firstOf cX3_firstOf 3 (some .int) 1 22 [.long x0] M (some (.int a)) M := by
  refine CtP.ofV (by decide) (Nat.le_of_ble_eq_true rfl) ?_
  refine (?_ : T G l RX3 cX3_firstOf 3 (some .int) (rmOf 1 22) 0 0 (FinM G (some (.int a)) M) (fun x => x = a) 0 [(0, .long x0)] [] M (fX3_firstOf x0)) a h rfl
  clear h
  unfold fX3_firstOf
  refine T_iconst (v := 0) dX3_firstOf_0 (by decide) ?_
  refine T_istore_n (lv' := [(2, .int (0 : Int32)), (0, .long x0)]) dX3_firstOf_1 rfl (by decide) rfl ?_
  refine T_loop (fun s1 => [(2, .int s1), (0, .long x0)]) (fun s1 => M) (fun s1 => ?_) (0 : Int32)
  unfold wX3_firstOf_2
  refine T_iload_n (q := 0) dX3_firstOf_2 rfl rfl ?_
  refine T_bipush (v := 36) dX3_firstOf_3 (by decide) ?_
  refine T_icmp_ge (tgt := 24) dX3_firstOf_5 (by decide) (fun hc2 => ?_) (fun hc2 => ?_)
  · refine T_bipush (v := 36) dX3_firstOf_24 (by decide) ?_
    exact T_end (fun h => by cases h; exact V_iret dX3_firstOf_26)
  · refine T_lload_n (q := 1) dX3_firstOf_8 rfl rfl ?_
    refine T_iload_n (q := 0) dX3_firstOf_9 rfl rfl ?_
    refine T_callSi (As := [.long x0, .int s1]) (st := []) ms_X3_39 (by decide) dX3_firstOf_10 (fun b hb => mX3_has G l x0 s1 M b hb) rfl rfl (Nat.le_of_ble_eq_true rfl) (fun b3 => ?_)
    refine T_if_eq (tgt := 18) dX3_firstOf_13 (by decide) (fun hc4 => ?_) (fun hc4 => ?_)
    · refine T_iinc_G (q := 0) (y := s1 + 1) (lv' := fun v5 => [(2, .int v5), (0, .long x0)]) dX3_firstOf_18 rfl rfl (by decide) (fun _ => rfl) (fun v5 => ?_)
      refine T_goto (tgt := 2) dX3_firstOf_21 (by decide) ?_
      exact T_end (fun h => V_sub [0, 1] rfl h)
    · refine T_iload_n (q := 0) dX3_firstOf_16 rfl rfl ?_
      exact T_end (fun h => by cases h; exact V_iret dX3_firstOf_17)
set_option maxHeartbeats 4000000 in
set_option maxRecDepth 100000 in
theorem mX4_becomeLike (G : Gw) (l : Launch) (o0 : Nat) (ho0 : shp o0 = 3) (o1 : Nat) (ho1 : shp o1 = 3) (M : Mem) (a : Mem) (h : fX4_becomeLike o0 o1 M = some a) : CtP G l yX4_becomeLike cX4_becomeLike 2 none 1 18 [.ref (adr G o0), .ref (adr G o1)] M (none) a := by
  refine CtP.ofV (by decide) (Nat.le_of_ble_eq_true rfl) ?_
  refine (?_ : T G l RX4 cX4_becomeLike 2 none (rmOf 1 18) 0 0 (FinM G (none) a) (fun x => x = a) 0 [(0, .ref (adr G o0)), (1, .ref (adr G o1))] [] M (fX4_becomeLike o0 o1 M)) a h rfl
  clear h
  unfold fX4_becomeLike
  refine T_aload_n (q := 1) dX4_becomeLike_0 rfl rfl ?_
  refine T_getR cf3 fr_X4_9 dX4_becomeLike_1 ho1 rfl ?_
  refine T_iconst (v := 0) dX4_becomeLike_4 (by decide) ?_
  refine T_aload_n (q := 0) dX4_becomeLike_5 rfl rfl ?_
  refine T_getR cf3 fr_X4_9 dX4_becomeLike_6 ho0 rfl ?_
  refine T_iconst (v := 0) dX4_becomeLike_9 (by decide) ?_
  refine T_bipush (v := 10) dX4_becomeLike_10 (by decide) ?_
  refine T_cpl aw_X4_25 ⟨by decide, Nat.le_of_ble_eq_true rfl⟩ dX4_becomeLike_12 (sf_3_0 ho1) (sf_3_0 ho0) (fun M1 => ?_)
  refine T_aload_n (q := 1) dX4_becomeLike_15 rfl rfl ?_
  refine T_getR cf3 fr_X4_15 dX4_becomeLike_16 ho1 rfl ?_
  refine T_iconst (v := 0) dX4_becomeLike_19 (by decide) ?_
  refine T_aload_n (q := 0) dX4_becomeLike_20 rfl rfl ?_
  refine T_getR cf3 fr_X4_15 dX4_becomeLike_21 ho0 rfl ?_
  refine T_iconst (v := 0) dX4_becomeLike_24 (by decide) ?_
  refine T_bipush (v := 10) dX4_becomeLike_25 (by decide) ?_
  refine T_cpi aw_X4_25 ⟨by decide, Nat.le_of_ble_eq_true rfl⟩ dX4_becomeLike_27 (sf_3_1 ho1) (sf_3_1 ho0) (fun M2 => ?_)
  refine T_aload_n (q := 0) dX4_becomeLike_30 rfl rfl ?_
  refine T_aload_n (q := 1) dX4_becomeLike_31 rfl rfl ?_
  refine T_getI cf3 fr_X4_31 dX4_becomeLike_32 ho1 rfl ?_
  refine T_putI cf3 fr_X4_31 pt_3_2 dX4_becomeLike_35 ho0 rfl (fun M3 => ?_)
  exact T_end (fun h => by cases h; exact V_vret dX4_becomeLike_38)
set_option maxHeartbeats 4000000 in
set_option maxRecDepth 100000 in
theorem mX4_isThere (G : Gw) (l : Launch) (o0 : Nat) (ho0 : shp o0 = 3) (x1 : Int32) (M : Mem) (a : Int32) (h : fX4_isThere o0 x1 M = some a) : CtP G l yX4_isThere cX4_isThere 2 (some .boolean) 1 20 [.ref (adr G o0), .int x1] M (some (.int a)) M := by
  refine CtP.ofV (by decide) (Nat.le_of_ble_eq_true rfl) ?_
  refine (?_ : T G l RX4 cX4_isThere 2 (some .boolean) (rmOf 1 20) 0 0 (FinM G (some (.int a)) M) (fun x => x = a) 0 [(0, .ref (adr G o0)), (1, .int x1)] [] M (fX4_isThere o0 x1 M)) a h rfl
  clear h
  unfold fX4_isThere
  refine T_iload_n (q := 1) dX4_isThere_0 rfl rfl ?_
  refine T_callSi (As := [.int x1]) (st := []) ms_X4_35 (by decide) dX4_isThere_1 (fun b hb => mX4_isSlot G l x1 M b hb) rfl rfl (Nat.le_of_ble_eq_true rfl) (fun b1 => ?_)
  refine T_if_eq (tgt := 23) dX4_isThere_4 (by decide) (fun hc2 => ?_) (fun hc2 => ?_)
  · refine T_iconst (v := 0) dX4_isThere_23 (by decide) ?_
    exact T_end (fun h => by cases h; exact V_zret (Or.inl rfl) dX4_isThere_24)
  · refine T_aload_n (q := 0) dX4_isThere_7 rfl rfl ?_
    refine T_getI cf3 fr_X4_31 dX4_isThere_8 ho0 rfl ?_
    refine T_iload_n (q := 1) dX4_isThere_11 rfl rfl ?_
    refine T_iushr dX4_isThere_12 ?_
    refine T_iconst (v := 1) dX4_isThere_13 (by decide) ?_
    refine T_iand dX4_isThere_14 ?_
    refine T_iconst (v := 1) dX4_isThere_15 (by decide) ?_
    refine T_icmp_ne (tgt := 23) dX4_isThere_16 (by decide) (fun hc3 => ?_) (fun hc3 => ?_)
    · refine T_iconst (v := 1) dX4_isThere_19 (by decide) ?_
      refine T_goto (tgt := 24) dX4_isThere_20 (by decide) ?_
      exact T_end (fun h => by cases h; exact V_zret (Or.inr rfl) dX4_isThere_24)
    · refine T_iconst (v := 0) dX4_isThere_23 (by decide) ?_
      exact T_end (fun h => by cases h; exact V_zret (Or.inl rfl) dX4_isThere_24)
set_option maxHeartbeats 4000000 in
set_option maxRecDepth 100000 in
theorem mX4_arrive (G : Gw) (l : Launch) (o0 : Nat) (ho0 : shp o0 = 3) (x1 : Int32) (M : Mem) (a : Mem) (h : fX4_arrive o0 x1 M = some a) : CtP G l yX4_arrive cX4_arrive 2 none 1 20 [.ref (adr G o0), .int x1] M (none) a := by
  refine CtP.ofV (by decide) (Nat.le_of_ble_eq_true rfl) ?_
  refine (?_ : T G l RX4 cX4_arrive 2 none (rmOf 1 20) 0 0 (FinM G (none) a) (fun x => x = a) 0 [(0, .ref (adr G o0)), (1, .int x1)] [] M (fX4_arrive o0 x1 M)) a h rfl
  clear h
  unfold fX4_arrive
  refine T_iload_n (q := 1) dX4_arrive_0 rfl rfl ?_
  refine T_callSi (As := [.int x1]) (st := []) ms_X4_35 (by decide) dX4_arrive_1 (fun b hb => mX4_isSlot G l x1 M b hb) rfl rfl (Nat.le_of_ble_eq_true rfl) (fun b1 => ?_)
  refine T_if_eq (tgt := 19) dX4_arrive_4 (by decide) (fun hc2 => ?_) (fun hc2 => ?_)
  · exact T_end (fun h => by cases h; exact V_vret dX4_arrive_19)
  · refine T_aload_n (q := 0) dX4_arrive_7 rfl rfl ?_
    refine T_dup dX4_arrive_8 rfl ?_
    refine T_getI cf3 fr_X4_31 dX4_arrive_9 ho0 rfl ?_
    refine T_iconst (v := 1) dX4_arrive_12 (by decide) ?_
    refine T_iload_n (q := 1) dX4_arrive_13 rfl rfl ?_
    refine T_ishl dX4_arrive_14 ?_
    refine T_ior dX4_arrive_15 ?_
    refine T_putI cf3 fr_X4_31 pt_3_2 dX4_arrive_16 ho0 rfl (fun M3 => ?_)
    exact T_end (fun h => by cases h; exact V_vret dX4_arrive_19)
set_option maxHeartbeats 4000000 in
set_option maxRecDepth 100000 in
theorem mX4_give (G : Gw) (l : Launch) (o0 : Nat) (ho0 : shp o0 = 3) (x1 : Int64) (x3 : Int32) (M : Mem) (a : Mem) (h : fX4_give o0 x1 x3 M = some a) : CtP G l yX4_give cX4_give 5 none 1 20 [.ref (adr G o0), .long x1, .int x3] M (none) a := by
  refine CtP.ofV (by decide) (Nat.le_of_ble_eq_true rfl) ?_
  refine (?_ : T G l RX4 cX4_give 5 none (rmOf 1 20) 0 0 (FinM G (none) a) (fun x => x = a) 0 [(0, .ref (adr G o0)), (1, .long x1), (3, .int x3)] [] M (fX4_give o0 x1 x3 M)) a h rfl
  clear h
  unfold fX4_give
  refine T_iconst (v := 0) dX4_give_0 (by decide) ?_
  refine T_istore (lv' := [(4, .int (0 : Int32)), (0, .ref (adr G o0)), (1, .long x1), (3, .int x3)]) dX4_give_1 (by decide) rfl ?_
  refine T_bind (X := fun r5 => V G l RX4 cX4_give 5 none (rmOf 1 20) 0 0 (FinM G (none) a) 31 [(4, .int r5.1), (0, .ref (adr G o0)), (1, .long x1), (3, .int x3)] [] r5.2) (T_loop (fun s1 => [(4, .int s1.1), (0, .ref (adr G o0)), (1, .long x1), (3, .int x3)]) (fun s1 => s1.2) (fun s1 => ?_) ((0 : Int32), M)) (fun r5 => ?_)
  · unfold wX4_give_3
    refine T_iload (q := 0) dX4_give_3 rfl ?_
    refine T_bipush (v := 10) dX4_give_5 (by decide) ?_
    refine T_icmp_ge (tgt := 31) dX4_give_7 (by decide) (fun hc2 => ?_) (fun hc2 => ?_)
    · exact T_end (fun h => V_sub [0, 1, 2, 3] rfl h)
    · refine T_aload_n (q := 1) dX4_give_10 rfl rfl ?_
      refine T_getR cf3 fr_X4_9 dX4_give_11 ho0 rfl ?_
      refine T_iload (q := 0) dX4_give_14 rfl ?_
      refine T_dup2_11 dX4_give_16 rfl rfl ?_
      refine T_lald dX4_give_17 (sf_3_0 ho0) ?_
      refine T_lload_n (q := 2) dX4_give_18 rfl rfl ?_
      refine T_ldc2 dX4_give_19 kcl_X4_39 ?_
      refine T_lxor dX4_give_22 ?_
      refine T_land dX4_give_23 ?_
      refine T_last dX4_give_24 (sf_3_0 ho0) (fun M3 => ?_)
      refine T_iinc_G (q := 0) (y := s1.1 + 1) (lv' := fun v4 => [(4, .int v4), (0, .ref (adr G o0)), (1, .long x1), (3, .int x3)]) dX4_give_25 rfl rfl (by decide) (fun _ => rfl) (fun v4 => ?_)
      refine T_goto (tgt := 3) dX4_give_28 (by decide) ?_
      exact T_end (fun h => V_sub [0, 1, 2, 3] rfl h)
  · change T G l RX4 cX4_give 5 none (rmOf 1 20) 0 0 (FinM G (none) a) _ 31 [(4, .int r5.1), (0, .ref (adr G o0)), (1, .long x1), (3, .int x3)] [] r5.2 _
    refine T_iload_n (q := 3) dX4_give_31 rfl rfl ?_
    refine T_callSi (As := [.int x3]) (st := []) ms_X4_35 (by decide) dX4_give_32 (fun b hb => mX4_isSlot G l x3 r5.2 b hb) rfl rfl (Nat.le_of_ble_eq_true rfl) (fun b6 => ?_)
    refine T_if_eq (tgt := 48) dX4_give_35 (by decide) (fun hc7 => ?_) (fun hc7 => ?_)
    · exact T_end (fun h => by cases h; exact V_vret dX4_give_48)
    · refine T_aload_n (q := 1) dX4_give_38 rfl rfl ?_
      refine T_getR cf3 fr_X4_9 dX4_give_39 ho0 rfl ?_
      refine T_iload_n (q := 3) dX4_give_42 rfl rfl ?_
      refine T_dup2_11 dX4_give_43 rfl rfl ?_
      refine T_lald dX4_give_44 (sf_3_0 ho0) ?_
      refine T_lload_n (q := 2) dX4_give_45 rfl rfl ?_
      refine T_lor dX4_give_46 ?_
      refine T_last dX4_give_47 (sf_3_0 ho0) (fun M8 => ?_)
      exact T_end (fun h => by cases h; exact V_vret dX4_give_48)
set_option maxHeartbeats 4000000 in
set_option maxRecDepth 100000 in
theorem mX4_leave (G : Gw) (l : Launch) (o0 : Nat) (ho0 : shp o0 = 3) (x1 : Int32) (M : Mem) (a : Mem) (h : fX4_leave o0 x1 M = some a) : CtP G l yX4_leave cX4_leave 2 none 1 20 [.ref (adr G o0), .int x1] M (none) a := by
  refine CtP.ofV (by decide) (Nat.le_of_ble_eq_true rfl) ?_
  refine (?_ : T G l RX4 cX4_leave 2 none (rmOf 1 20) 0 0 (FinM G (none) a) (fun x => x = a) 0 [(0, .ref (adr G o0)), (1, .int x1)] [] M (fX4_leave o0 x1 M)) a h rfl
  clear h
  unfold fX4_leave
  refine T_iload_n (q := 1) dX4_leave_0 rfl rfl ?_
  refine T_callSi (As := [.int x1]) (st := []) ms_X4_35 (by decide) dX4_leave_1 (fun b hb => mX4_isSlot G l x1 M b hb) rfl rfl (Nat.le_of_ble_eq_true rfl) (fun b1 => ?_)
  refine T_if_eq (tgt := 29) dX4_leave_4 (by decide) (fun hc2 => ?_) (fun hc2 => ?_)
  · exact T_end (fun h => by cases h; exact V_vret dX4_leave_29)
  · refine T_aload_n (q := 0) dX4_leave_7 rfl rfl ?_
    refine T_dup dX4_leave_8 rfl ?_
    refine T_getI cf3 fr_X4_31 dX4_leave_9 ho0 rfl ?_
    refine T_iconst (v := 1) dX4_leave_12 (by decide) ?_
    refine T_iload_n (q := 1) dX4_leave_13 rfl rfl ?_
    refine T_ishl dX4_leave_14 ?_
    refine T_iconst (v := -1) dX4_leave_15 (by decide) ?_
    refine T_ixor dX4_leave_16 ?_
    refine T_iand dX4_leave_17 ?_
    refine T_putI cf3 fr_X4_31 pt_3_2 dX4_leave_18 ho0 rfl (fun M3 => ?_)
    refine T_aload_n (q := 0) dX4_leave_21 rfl rfl ?_
    refine T_getR cf3 fr_X4_15 dX4_leave_22 ho0 rfl ?_
    refine T_iload_n (q := 1) dX4_leave_25 rfl rfl ?_
    refine T_bipush (v := 10) dX4_leave_26 (by decide) ?_
    refine T_iast dX4_leave_28 (sf_3_1 ho0) (fun M4 => ?_)
    exact T_end (fun h => by cases h; exact V_vret dX4_leave_29)
set_option maxHeartbeats 4000000 in
set_option maxRecDepth 100000 in
theorem mX4_putUnder (G : Gw) (l : Launch) (o0 : Nat) (ho0 : shp o0 = 3) (x1 : Int32) (x2 : Int32) (M : Mem) (a : Mem) (h : fX4_putUnder o0 x1 x2 M = some a) : CtP G l yX4_putUnder cX4_putUnder 3 none 1 20 [.ref (adr G o0), .int x1, .int x2] M (none) a := by
  refine CtP.ofV (by decide) (Nat.le_of_ble_eq_true rfl) ?_
  refine (?_ : T G l RX4 cX4_putUnder 3 none (rmOf 1 20) 0 0 (FinM G (none) a) (fun x => x = a) 0 [(0, .ref (adr G o0)), (1, .int x1), (2, .int x2)] [] M (fX4_putUnder o0 x1 x2 M)) a h rfl
  clear h
  unfold fX4_putUnder
  refine T_iload_n (q := 1) dX4_putUnder_0 rfl rfl ?_
  refine T_callSi (As := [.int x1]) (st := []) ms_X4_35 (by decide) dX4_putUnder_1 (fun b hb => mX4_isSlot G l x1 M b hb) rfl rfl (Nat.le_of_ble_eq_true rfl) (fun b1 => ?_)
  refine T_if_eq (tgt := 14) dX4_putUnder_4 (by decide) (fun hc2 => ?_) (fun hc2 => ?_)
  · exact T_end (fun h => by cases h; exact V_vret dX4_putUnder_14)
  · refine T_aload_n (q := 0) dX4_putUnder_7 rfl rfl ?_
    refine T_getR cf3 fr_X4_15 dX4_putUnder_8 ho0 rfl ?_
    refine T_iload_n (q := 1) dX4_putUnder_11 rfl rfl ?_
    refine T_iload_n (q := 2) dX4_putUnder_12 rfl rfl ?_
    refine T_iast dX4_putUnder_13 (sf_3_1 ho0) (fun M3 => ?_)
    exact T_end (fun h => by cases h; exact V_vret dX4_putUnder_14)
set_option maxHeartbeats 4000000 in
set_option maxRecDepth 100000 in
theorem mX4_heldUnder (G : Gw) (l : Launch) (o0 : Nat) (ho0 : shp o0 = 3) (x1 : Int32) (M : Mem) (a : Int64) (h : fX4_heldUnder o0 x1 M = some a) : CtP G l yX4_heldUnder cX4_heldUnder 5 (some .long) 0 0 [.ref (adr G o0), .int x1] M (some (.long a)) M := by
  refine CtP.ofV (by decide) (Nat.le_of_ble_eq_true rfl) ?_
  refine (?_ : T G l RX4 cX4_heldUnder 5 (some .long) (rmOf 0 0) 0 0 (FinM G (some (.long a)) M) (fun x => x = a) 0 [(0, .ref (adr G o0)), (1, .int x1)] [] M (fX4_heldUnder o0 x1 M)) a h rfl
  clear h
  unfold fX4_heldUnder
  refine T_lconst (v := 0) dX4_heldUnder_0 (by decide) ?_
  refine T_lstore_n (lv' := [(2, .long (0 : Int64)), (0, .ref (adr G o0)), (1, .int x1)]) dX4_heldUnder_1 rfl (by decide) rfl ?_
  refine T_iconst (v := 0) dX4_heldUnder_2 (by decide) ?_
  refine T_istore (lv' := [(4, .int (0 : Int32)), (2, .long (0 : Int64)), (0, .ref (adr G o0)), (1, .int x1)]) dX4_heldUnder_3 (by decide) rfl ?_
  refine T_bind (X := fun r7 => V G l RX4 cX4_heldUnder 5 (some .long) (rmOf 0 0) 0 0 (FinM G (some (.long a)) M) 39 [(4, .int r7.2), (2, .long r7.1), (0, .ref (adr G o0)), (1, .int x1)] [] M) (T_loop (fun s1 => [(4, .int s1.2), (2, .long s1.1), (0, .ref (adr G o0)), (1, .int x1)]) (fun s1 => M) (fun s1 => ?_) ((0 : Int64), (0 : Int32))) (fun r7 => ?_)
  · unfold wX4_heldUnder_5
    refine T_iload (q := 0) dX4_heldUnder_5 rfl ?_
    refine T_bipush (v := 10) dX4_heldUnder_7 (by decide) ?_
    refine T_icmp_ge (tgt := 39) dX4_heldUnder_9 (by decide) (fun hc2 => ?_) (fun hc2 => ?_)
    · exact T_end (fun h => V_sub [0, 1, 2, 3] rfl h)
    · refine T_aload_n (q := 2) dX4_heldUnder_12 rfl rfl ?_
      refine T_getR cf3 fr_X4_15 dX4_heldUnder_13 ho0 rfl ?_
      refine T_iload (q := 0) dX4_heldUnder_16 rfl ?_
      refine T_iald dX4_heldUnder_18 (sf_3_1 ho0) ?_
      refine T_iload_n (q := 3) dX4_heldUnder_19 rfl rfl ?_
      refine T_icmp_ne (tgt := 33) dX4_heldUnder_20 (by decide) (fun hc3 => ?_) (fun hc3 => ?_)
      · refine T_lload_n (q := 1) dX4_heldUnder_23 rfl rfl ?_
        refine T_aload_n (q := 2) dX4_heldUnder_24 rfl rfl ?_
        refine T_getR cf3 fr_X4_9 dX4_heldUnder_25 ho0 rfl ?_
        refine T_iload (q := 0) dX4_heldUnder_28 rfl ?_
        refine T_lald dX4_heldUnder_30 (sf_3_0 ho0) ?_
        refine T_lor dX4_heldUnder_31 ?_
        refine T_lstore_n_G (lv' := fun v4 => [(2, .long v4), (4, .int s1.2), (0, .ref (adr G o0)), (1, .int x1)]) dX4_heldUnder_32 rfl (by decide) (fun _ => rfl) (fun v4 => ?_)
        refine T_iinc_G (q := 1) (y := s1.2 + 1) (lv' := fun v5 => [(4, .int v5), (2, .long v4), (0, .ref (adr G o0)), (1, .int x1)]) dX4_heldUnder_33 rfl rfl (by decide) (fun _ => rfl) (fun v5 => ?_)
        refine T_goto (tgt := 5) dX4_heldUnder_36 (by decide) ?_
        exact T_end (fun h => V_sub [0, 1, 2, 3] rfl h)
      · refine T_iinc_G (q := 0) (y := s1.2 + 1) (lv' := fun v6 => [(4, .int v6), (2, .long s1.1), (0, .ref (adr G o0)), (1, .int x1)]) dX4_heldUnder_33 rfl rfl (by decide) (fun _ => rfl) (fun v6 => ?_)
        refine T_goto (tgt := 5) dX4_heldUnder_36 (by decide) ?_
        exact T_end (fun h => V_sub [0, 1, 2, 3] rfl h)
  · change T G l RX4 cX4_heldUnder 5 (some .long) (rmOf 0 0) 0 0 (FinM G (some (.long a)) M) _ 39 [(4, .int r7.2), (2, .long r7.1), (0, .ref (adr G o0)), (1, .int x1)] [] M _
    refine T_lload_n (q := 1) dX4_heldUnder_39 rfl rfl ?_
    exact T_end (fun h => by cases h; exact V_lret dX4_heldUnder_40)
set_option maxHeartbeats 4000000 in
set_option maxRecDepth 100000 in
theorem mX4_holderOf (G : Gw) (l : Launch) (o0 : Nat) (ho0 : shp o0 = 3) (x1 : Int32) (M : Mem) (a : Int32) (h : fX4_holderOf o0 x1 M = some a) : CtP G l yX4_holderOf cX4_holderOf 3 (some .int) 1 22 [.ref (adr G o0), .int x1] M (some (.int a)) M := by
  refine CtP.ofV (by decide) (Nat.le_of_ble_eq_true rfl) ?_
  refine (?_ : T G l RX4 cX4_holderOf 3 (some .int) (rmOf 1 22) 0 0 (FinM G (some (.int a)) M) (fun x => x = a) 0 [(0, .ref (adr G o0)), (1, .int x1)] [] M (fX4_holderOf o0 x1 M)) a h rfl
  clear h
  unfold fX4_holderOf
  refine T_iconst (v := 0) dX4_holderOf_0 (by decide) ?_
  refine T_istore_n (lv' := [(2, .int (0 : Int32)), (0, .ref (adr G o0)), (1, .int x1)]) dX4_holderOf_1 rfl (by decide) rfl ?_
  refine T_loop (fun s1 => [(2, .int s1), (0, .ref (adr G o0)), (1, .int x1)]) (fun s1 => M) (fun s1 => ?_) (0 : Int32)
  unfold wX4_holderOf_2
  refine T_iload_n (q := 0) dX4_holderOf_2 rfl rfl ?_
  refine T_bipush (v := 10) dX4_holderOf_3 (by decide) ?_
  refine T_icmp_ge (tgt := 29) dX4_holderOf_5 (by decide) (fun hc2 => ?_) (fun hc2 => ?_)
  · refine T_bipush (v := 10) dX4_holderOf_29 (by decide) ?_
    exact T_end (fun h => by cases h; exact V_iret dX4_holderOf_31)
  · refine T_aload_n (q := 1) dX4_holderOf_8 rfl rfl ?_
    refine T_getR cf3 fr_X4_9 dX4_holderOf_9 ho0 rfl ?_
    refine T_iload_n (q := 0) dX4_holderOf_12 rfl rfl ?_
    refine T_lald dX4_holderOf_13 (sf_3_0 ho0) ?_
    refine T_iload_n (q := 2) dX4_holderOf_14 rfl rfl ?_
    refine T_callSi (As := [.long (M.2 (rf o0 0) s1.toNatClampNeg), .int x1]) (st := []) ms_X4_45 (by decide) dX4_holderOf_15 (fun b hb => mX3_has G l (M.2 (rf o0 0) s1.toNatClampNeg) x1 M b hb) rfl rfl (Nat.le_of_ble_eq_true rfl) (fun b3 => ?_)
    refine T_if_eq (tgt := 23) dX4_holderOf_18 (by decide) (fun hc4 => ?_) (fun hc4 => ?_)
    · refine T_iinc_G (q := 0) (y := s1 + 1) (lv' := fun v5 => [(2, .int v5), (0, .ref (adr G o0)), (1, .int x1)]) dX4_holderOf_23 rfl rfl (by decide) (fun _ => rfl) (fun v5 => ?_)
      refine T_goto (tgt := 2) dX4_holderOf_26 (by decide) ?_
      exact T_end (fun h => V_sub [0, 1, 2] rfl h)
    · refine T_iload_n (q := 0) dX4_holderOf_21 rfl rfl ?_
      exact T_end (fun h => by cases h; exact V_iret dX4_holderOf_22)
set_option maxHeartbeats 4000000 in
set_option maxRecDepth 100000 in
theorem mX4_hasBorder (G : Gw) (l : Launch) (o0 : Nat) (ho0 : shp o0 = 3) (x1 : Int32) (x2 : Int32) (M : Mem) (a : Int32) (h : fX4_hasBorder o0 x1 x2 M = some a) : CtP G l yX4_hasBorder cX4_hasBorder 3 (some .boolean) 2 44 [.ref (adr G o0), .int x1, .int x2] M (some (.int a)) M := by
  refine CtP.ofV (by decide) (Nat.le_of_ble_eq_true rfl) ?_
  refine (?_ : T G l RX4 cX4_hasBorder 3 (some .boolean) (rmOf 2 44) 0 0 (FinM G (some (.int a)) M) (fun x => x = a) 0 [(0, .ref (adr G o0)), (1, .int x1), (2, .int x2)] [] M (fX4_hasBorder o0 x1 x2 M)) a h rfl
  clear h
  unfold fX4_hasBorder
  refine T_aload_n (q := 0) dX4_hasBorder_0 rfl rfl ?_
  refine T_iload_n (q := 1) dX4_hasBorder_1 rfl rfl ?_
  refine T_callVi (As := [.int x1]) (st := []) mv_X4_49 (by decide) dX4_hasBorder_2 ho0 (fun b hb => mX4_holderOf G l o0 ho0 x1 M b hb) rfl rfl (Nat.le_of_ble_eq_true rfl) (fun b1 => ?_)
  refine T_aload_n (q := 0) dX4_hasBorder_5 rfl rfl ?_
  refine T_iload_n (q := 2) dX4_hasBorder_6 rfl rfl ?_
  refine T_callVi (As := [.int x2]) (st := [.int b1]) mv_X4_49 (by decide) dX4_hasBorder_7 ho0 (fun b hb => mX4_holderOf G l o0 ho0 x2 M b hb) rfl rfl (Nat.le_of_ble_eq_true rfl) (fun b2 => ?_)
  refine T_icmp_eq (tgt := 17) dX4_hasBorder_10 (by decide) (fun hc3 => ?_) (fun hc3 => ?_)
  · refine T_iconst (v := 0) dX4_hasBorder_17 (by decide) ?_
    exact T_end (fun h => by cases h; exact V_zret (Or.inl rfl) dX4_hasBorder_18)
  · refine T_iconst (v := 1) dX4_hasBorder_13 (by decide) ?_
    refine T_goto (tgt := 18) dX4_hasBorder_14 (by decide) ?_
    exact T_end (fun h => by cases h; exact V_zret (Or.inr rfl) dX4_hasBorder_18)
set_option maxHeartbeats 4000000 in
set_option maxRecDepth 100000 in
theorem mX3_areBeside (G : Gw) (l : Launch) (x0 : Int32) (x1 : Int32) (M : Mem) (a : Int32) (h : fX3_areBeside x0 x1 = some a) : CtP G l yX3_areBeside cX3_areBeside 3 (some .boolean) 1 20 [.int x0, .int x1] M (some (.int a)) M := by
  refine CtP.ofV (by decide) (Nat.le_of_ble_eq_true rfl) ?_
  refine (?_ : T G l RX3 cX3_areBeside 3 (some .boolean) (rmOf 1 20) 0 0 (FinM G (some (.int a)) M) (fun x => x = a) 0 [(0, .int x0), (1, .int x1)] [] M (fX3_areBeside x0 x1)) a h rfl
  clear h
  unfold fX3_areBeside
  refine T_iload_n (q := 0) dX3_areBeside_0 rfl rfl ?_
  refine T_iload_n (q := 1) dX3_areBeside_1 rfl rfl ?_
  refine T_isub dX3_areBeside_2 ?_
  refine T_mabs ab_X3_13 ⟨by decide, Nat.le_of_ble_eq_true rfl⟩ (by decide) dX3_areBeside_3 ?_
  refine T_istore_n_G (lv' := fun v1 => [(2, .int v1), (0, .int x0), (1, .int x1)]) dX3_areBeside_6 rfl (by decide) (fun _ => rfl) (fun v1 => ?_)
  refine T_iload_n (q := 0) dX3_areBeside_7 rfl rfl ?_
  refine T_bipush (v := 6) dX3_areBeside_8 (by decide) ?_
  refine T_icmp_eq (tgt := 29) dX3_areBeside_10 (by decide) (fun hc2 => ?_) (fun hc2 => ?_)
  · refine T_iconst (v := 1) dX3_areBeside_29 (by decide) ?_
    refine T_goto (tgt := 34) dX3_areBeside_30 (by decide) ?_
    exact T_end (fun h => by cases h; exact V_zret (Or.inr rfl) dX3_areBeside_34)
  · refine T_iload_n (q := 0) dX3_areBeside_13 rfl rfl ?_
    refine T_iconst (v := 1) dX3_areBeside_14 (by decide) ?_
    refine T_icmp_ne (tgt := 33) dX3_areBeside_15 (by decide) (fun hc3 => ?_) (fun hc3 => ?_)
    · refine T_iload_n (q := 1) dX3_areBeside_18 rfl rfl ?_
      refine T_bipush (v := 6) dX3_areBeside_19 (by decide) ?_
      refine T_idiv dX3_areBeside_21 ?_
      refine T_iload_n (q := 2) dX3_areBeside_22 rfl rfl ?_
      refine T_bipush (v := 6) dX3_areBeside_23 (by decide) ?_
      refine T_idiv dX3_areBeside_25 ?_
      refine T_icmp_ne (tgt := 33) dX3_areBeside_26 (by decide) (fun hc4 => ?_) (fun hc4 => ?_)
      · refine T_iconst (v := 1) dX3_areBeside_29 (by decide) ?_
        refine T_goto (tgt := 34) dX3_areBeside_30 (by decide) ?_
        exact T_end (fun h => by cases h; exact V_zret (Or.inr rfl) dX3_areBeside_34)
      · refine T_iconst (v := 0) dX3_areBeside_33 (by decide) ?_
        exact T_end (fun h => by cases h; exact V_zret (Or.inl rfl) dX3_areBeside_34)
    · refine T_iconst (v := 0) dX3_areBeside_33 (by decide) ?_
      exact T_end (fun h => by cases h; exact V_zret (Or.inl rfl) dX3_areBeside_34)
set_option maxHeartbeats 4000000 in
set_option maxRecDepth 100000 in
theorem mX3_down (G : Gw) (l : Launch) (x0 : Int64) (M : Mem) (a : Int64) (h : fX3_down x0 = some a) : CtP G l yX3_down cX3_down 2 (some .long) 0 0 [.long x0] M (some (.long a)) M := by
  refine CtP.ofV (by decide) (Nat.le_of_ble_eq_true rfl) ?_
  refine (?_ : T G l RX3 cX3_down 2 (some .long) (rmOf 0 0) 0 0 (FinM G (some (.long a)) M) (fun x => x = a) 0 [(0, .long x0)] [] M (fX3_down x0)) a h rfl
  clear h
  unfold fX3_down
  refine T_lload_n (q := 0) dX3_down_0 rfl rfl ?_
  refine T_bipush (v := 6) dX3_down_1 (by decide) ?_
  refine T_lshl dX3_down_3 ?_
  refine T_ldc2 dX3_down_4 kcl_X3_19 ?_
  refine T_land dX3_down_7 ?_
  exact T_end (fun h => by cases h; exact V_lret dX3_down_8)
set_option maxHeartbeats 4000000 in
set_option maxRecDepth 100000 in
theorem mX3_right (G : Gw) (l : Launch) (x0 : Int64) (M : Mem) (a : Int64) (h : fX3_right x0 = some a) : CtP G l yX3_right cX3_right 2 (some .long) 0 0 [.long x0] M (some (.long a)) M := by
  refine CtP.ofV (by decide) (Nat.le_of_ble_eq_true rfl) ?_
  refine (?_ : T G l RX3 cX3_right 2 (some .long) (rmOf 0 0) 0 0 (FinM G (some (.long a)) M) (fun x => x = a) 0 [(0, .long x0)] [] M (fX3_right x0)) a h rfl
  clear h
  unfold fX3_right
  refine T_lload_n (q := 0) dX3_right_0 rfl rfl ?_
  refine T_iconst (v := 1) dX3_right_1 (by decide) ?_
  refine T_lshl dX3_right_2 ?_
  refine T_ldc2 dX3_right_3 kcl_X3_19 ?_
  refine T_land dX3_right_6 ?_
  refine T_ldc2 dX3_right_7 kcl_X3_21 ?_
  refine T_land dX3_right_10 ?_
  exact T_end (fun h => by cases h; exact V_lret dX3_right_11)
set_option maxHeartbeats 4000000 in
set_option maxRecDepth 100000 in
theorem mX3_left (G : Gw) (l : Launch) (x0 : Int64) (M : Mem) (a : Int64) (h : fX3_left x0 = some a) : CtP G l yX3_left cX3_left 2 (some .long) 0 0 [.long x0] M (some (.long a)) M := by
  refine CtP.ofV (by decide) (Nat.le_of_ble_eq_true rfl) ?_
  refine (?_ : T G l RX3 cX3_left 2 (some .long) (rmOf 0 0) 0 0 (FinM G (some (.long a)) M) (fun x => x = a) 0 [(0, .long x0)] [] M (fX3_left x0)) a h rfl
  clear h
  unfold fX3_left
  refine T_lload_n (q := 0) dX3_left_0 rfl rfl ?_
  refine T_ldc2 dX3_left_1 kcl_X3_21 ?_
  refine T_land dX3_left_4 ?_
  refine T_iconst (v := 1) dX3_left_5 (by decide) ?_
  refine T_lushr dX3_left_6 ?_
  exact T_end (fun h => by cases h; exact V_lret dX3_left_7)
set_option maxHeartbeats 4000000 in
set_option maxRecDepth 100000 in
theorem mX3_up (G : Gw) (l : Launch) (x0 : Int64) (M : Mem) (a : Int64) (h : fX3_up x0 = some a) : CtP G l yX3_up cX3_up 2 (some .long) 0 0 [.long x0] M (some (.long a)) M := by
  refine CtP.ofV (by decide) (Nat.le_of_ble_eq_true rfl) ?_
  refine (?_ : T G l RX3 cX3_up 2 (some .long) (rmOf 0 0) 0 0 (FinM G (some (.long a)) M) (fun x => x = a) 0 [(0, .long x0)] [] M (fX3_up x0)) a h rfl
  clear h
  unfold fX3_up
  refine T_lload_n (q := 0) dX3_up_0 rfl rfl ?_
  refine T_bipush (v := 6) dX3_up_1 (by decide) ?_
  refine T_lushr dX3_up_3 ?_
  exact T_end (fun h => by cases h; exact V_lret dX3_up_4)
set_option maxHeartbeats 4000000 in
set_option maxRecDepth 100000 in
theorem mX3_heapFrom (G : Gw) (l : Launch) (x0 : Int32) (x1 : Int64) (M : Mem) (a : Int64) (h : fX3_heapFrom x0 x1 = some a) : CtP G l yX3_heapFrom cX3_heapFrom 8 (some .long) 1 21 [.int x0, .long x1] M (some (.long a)) M := by
  refine CtP.ofV (by decide) (Nat.le_of_ble_eq_true rfl) ?_
  refine (?_ : T G l RX3 cX3_heapFrom 8 (some .long) (rmOf 1 21) 0 0 (FinM G (some (.long a)) M) (fun x => x = a) 0 [(0, .int x0), (1, .long x1)] [] M (fX3_heapFrom x0 x1)) a h rfl
  clear h
  unfold fX3_heapFrom
  refine T_lconst (v := 1) dX3_heapFrom_0 (by decide) ?_
  refine T_iload_n (q := 0) dX3_heapFrom_1 rfl rfl ?_
  refine T_lshl dX3_heapFrom_2 ?_
  refine T_lload_n (q := 1) dX3_heapFrom_3 rfl rfl ?_
  refine T_land dX3_heapFrom_4 ?_
  refine T_lstore_n_G (lv' := fun v1 => [(3, .long v1), (0, .int x0), (1, .long x1)]) dX3_heapFrom_5 rfl (by decide) (fun _ => rfl) (fun v1 => ?_)
  refine T_lconst (v := 0) dX3_heapFrom_6 (by decide) ?_
  refine T_lstore (lv' := [(5, .long (0 : Int64)), (3, .long v1), (0, .int x0), (1, .long x1)]) dX3_heapFrom_7 (by decide) rfl ?_
  refine T_iconst (v := 0) dX3_heapFrom_9 (by decide) ?_
  refine T_istore (lv' := [(7, .int (0 : Int32)), (5, .long (0 : Int64)), (3, .long v1), (0, .int x0), (1, .long x1)]) dX3_heapFrom_10 (by decide) rfl ?_
  refine T_bind (X := fun r11 => V G l RX3 cX3_heapFrom 8 (some .long) (rmOf 1 21) 0 0 (FinM G (some (.long a)) M) 59 [(7, .int r11.2.2), (5, .long r11.2.1), (3, .long r11.1), (0, .int x0), (1, .long x1)] [] M) (T_loop (fun s2 => [(7, .int s2.2.2), (5, .long s2.2.1), (3, .long s2.1), (0, .int x0), (1, .long x1)]) (fun s2 => M) (fun s2 => ?_) (v1, (0 : Int64), (0 : Int32))) (fun r11 => ?_)
  · unfold wX3_heapFrom_12
    refine T_iload (q := 0) dX3_heapFrom_12 rfl ?_
    refine T_bipush (v := 36) dX3_heapFrom_14 (by decide) ?_
    refine T_icmp_ge (tgt := 59) dX3_heapFrom_16 (by decide) (fun hc3 => ?_) (fun hc3 => ?_)
    · exact T_end (fun h => V_sub [0, 1, 2, 3, 4] rfl h)
    · refine T_lload_n (q := 2) dX3_heapFrom_19 rfl rfl ?_
      refine T_lload (q := 1) dX3_heapFrom_20 rfl ?_
      refine T_lcmp dX3_heapFrom_22 ?_
      refine T_if_eq (tgt := 59) dX3_heapFrom_23 (by decide) (fun hc4 => ?_) (fun hc4 => ?_)
      · exact T_end (fun h => V_sub [0, 1, 2, 3, 4] rfl h)
      · refine T_lload_n (q := 2) dX3_heapFrom_26 rfl rfl ?_
        refine T_lstore (lv' := [(5, .long s2.1), (7, .int s2.2.2), (3, .long s2.1), (0, .int x0), (1, .long x1)]) dX3_heapFrom_27 (by decide) rfl ?_
        refine T_lload_n (q := 2) dX3_heapFrom_29 rfl rfl ?_
        refine T_lload_n (q := 2) dX3_heapFrom_30 rfl rfl ?_
        refine T_callSl (As := [.long s2.1]) (st := [.long s2.1]) ms_X3_23 (by decide) dX3_heapFrom_31 (fun b hb => mX3_right G l s2.1 M b hb) rfl rfl (Nat.le_of_ble_eq_true rfl) (fun b5 => ?_)
        refine T_lload_n (q := 2) dX3_heapFrom_34 rfl rfl ?_
        refine T_callSl (As := [.long s2.1]) (st := [.long b5, .long s2.1]) ms_X3_49 (by decide) dX3_heapFrom_35 (fun b hb => mX3_left G l s2.1 M b hb) rfl rfl (Nat.le_of_ble_eq_true rfl) (fun b6 => ?_)
        refine T_lor dX3_heapFrom_38 ?_
        refine T_lload_n (q := 2) dX3_heapFrom_39 rfl rfl ?_
        refine T_callSl (As := [.long s2.1]) (st := [.long (b5 ||| b6), .long s2.1]) ms_X3_33 (by decide) dX3_heapFrom_40 (fun b hb => mX3_down G l s2.1 M b hb) rfl rfl (Nat.le_of_ble_eq_true rfl) (fun b7 => ?_)
        refine T_lor dX3_heapFrom_43 ?_
        refine T_lload_n (q := 2) dX3_heapFrom_44 rfl rfl ?_
        refine T_callSl (As := [.long s2.1]) (st := [.long ((b5 ||| b6) ||| b7), .long s2.1]) ms_X3_52 (by decide) dX3_heapFrom_45 (fun b hb => mX3_up G l s2.1 M b hb) rfl rfl (Nat.le_of_ble_eq_true rfl) (fun b8 => ?_)
        refine T_lor dX3_heapFrom_48 ?_
        refine T_lload_n (q := 4) dX3_heapFrom_49 rfl rfl ?_
        refine T_land dX3_heapFrom_50 ?_
        refine T_lor dX3_heapFrom_51 ?_
        refine T_lstore_n_G (lv' := fun v9 => [(3, .long v9), (5, .long s2.1), (7, .int s2.2.2), (0, .int x0), (1, .long x1)]) dX3_heapFrom_52 rfl (by decide) (fun _ => rfl) (fun v9 => ?_)
        refine T_iinc_G (q := 2) (y := s2.2.2 + 1) (lv' := fun v10 => [(7, .int v10), (3, .long v9), (5, .long s2.1), (0, .int x0), (1, .long x1)]) dX3_heapFrom_53 rfl rfl (by decide) (fun _ => rfl) (fun v10 => ?_)
        refine T_goto (tgt := 12) dX3_heapFrom_56 (by decide) ?_
        exact T_end (fun h => V_sub [0, 2, 1, 3, 4] rfl h)
  · change T G l RX3 cX3_heapFrom 8 (some .long) (rmOf 1 21) 0 0 (FinM G (some (.long a)) M) _ 59 [(7, .int r11.2.2), (5, .long r11.2.1), (3, .long r11.1), (0, .int x0), (1, .long x1)] [] M _
    refine T_lload_n (q := 2) dX3_heapFrom_59 rfl rfl ?_
    exact T_end (fun h => by cases h; exact V_lret dX3_heapFrom_60)
set_option maxHeartbeats 4000000 in
set_option maxRecDepth 100000 in
theorem mX3_isCell (G : Gw) (l : Launch) (x0 : Int32) (M : Mem) (a : Int32) (h : fX3_isCell x0 = some a) : CtP G l yX3_isCell cX3_isCell 1 (some .boolean) 0 0 [.int x0] M (some (.int a)) M := by
  refine CtP.ofV (by decide) (Nat.le_of_ble_eq_true rfl) ?_
  refine (?_ : T G l RX3 cX3_isCell 1 (some .boolean) (rmOf 0 0) 0 0 (FinM G (some (.int a)) M) (fun x => x = a) 0 [(0, .int x0)] [] M (fX3_isCell x0)) a h rfl
  clear h
  unfold fX3_isCell
  refine T_iload_n (q := 0) dX3_isCell_0 rfl rfl ?_
  refine T_if_lt (tgt := 14) dX3_isCell_1 (by decide) (fun hc1 => ?_) (fun hc1 => ?_)
  · refine T_iconst (v := 0) dX3_isCell_14 (by decide) ?_
    exact T_end (fun h => by cases h; exact V_zret (Or.inl rfl) dX3_isCell_15)
  · refine T_iload_n (q := 0) dX3_isCell_4 rfl rfl ?_
    refine T_bipush (v := 36) dX3_isCell_5 (by decide) ?_
    refine T_icmp_ge (tgt := 14) dX3_isCell_7 (by decide) (fun hc2 => ?_) (fun hc2 => ?_)
    · refine T_iconst (v := 0) dX3_isCell_14 (by decide) ?_
      exact T_end (fun h => by cases h; exact V_zret (Or.inl rfl) dX3_isCell_15)
    · refine T_iconst (v := 1) dX3_isCell_10 (by decide) ?_
      refine T_goto (tgt := 15) dX3_isCell_11 (by decide) ?_
      exact T_end (fun h => by cases h; exact V_zret (Or.inr rfl) dX3_isCell_15)
set_option maxHeartbeats 4000000 in
set_option maxRecDepth 100000 in
theorem mX3_isSet (G : Gw) (l : Launch) (x0 : Int64) (M : Mem) (a : Int32) (h : fX3_isSet x0 = some a) : CtP G l yX3_isSet cX3_isSet 2 (some .boolean) 0 0 [.long x0] M (some (.int a)) M := by
  refine CtP.ofV (by decide) (Nat.le_of_ble_eq_true rfl) ?_
  refine (?_ : T G l RX3 cX3_isSet 2 (some .boolean) (rmOf 0 0) 0 0 (FinM G (some (.int a)) M) (fun x => x = a) 0 [(0, .long x0)] [] M (fX3_isSet x0)) a h rfl
  clear h
  unfold fX3_isSet
  refine T_lload_n (q := 0) dX3_isSet_0 rfl rfl ?_
  refine T_ldc2 dX3_isSet_1 kcl_X3_11 ?_
  refine T_land dX3_isSet_4 ?_
  refine T_lconst (v := 0) dX3_isSet_5 (by decide) ?_
  refine T_lcmp dX3_isSet_6 ?_
  refine T_if_ne (tgt := 14) dX3_isSet_7 (by decide) (fun hc1 => ?_) (fun hc1 => ?_)
  · refine T_iconst (v := 1) dX3_isSet_10 (by decide) ?_
    refine T_goto (tgt := 15) dX3_isSet_11 (by decide) ?_
    exact T_end (fun h => by cases h; exact V_zret (Or.inr rfl) dX3_isSet_15)
  · refine T_iconst (v := 0) dX3_isSet_14 (by decide) ?_
    exact T_end (fun h => by cases h; exact V_zret (Or.inl rfl) dX3_isSet_15)
set_option maxHeartbeats 4000000 in
set_option maxRecDepth 100000 in
theorem mX3_pairsWithin (G : Gw) (l : Launch) (x0 : Int64) (M : Mem) (a : Int32) (h : fX3_pairsWithin x0 = some a) : CtP G l yX3_pairsWithin cX3_pairsWithin 2 (some .int) 1 21 [.long x0] M (some (.int a)) M := by
  refine CtP.ofV (by decide) (Nat.le_of_ble_eq_true rfl) ?_
  refine (?_ : T G l RX3 cX3_pairsWithin 2 (some .int) (rmOf 1 21) 0 0 (FinM G (some (.int a)) M) (fun x => x = a) 0 [(0, .long x0)] [] M (fX3_pairsWithin x0)) a h rfl
  clear h
  unfold fX3_pairsWithin
  refine T_lload_n (q := 0) dX3_pairsWithin_0 rfl rfl ?_
  refine T_lload_n (q := 0) dX3_pairsWithin_1 rfl rfl ?_
  refine T_callSl (As := [.long x0]) (st := [.long x0]) ms_X3_23 (by decide) dX3_pairsWithin_2 (fun b hb => mX3_right G l x0 M b hb) rfl rfl (Nat.le_of_ble_eq_true rfl) (fun b1 => ?_)
  refine T_land dX3_pairsWithin_5 ?_
  refine T_callSi (As := [.long (x0 &&& b1)]) (st := []) ms_X3_27 (by decide) dX3_pairsWithin_6 (fun b hb => mJ13_bitCount_95d88 G l (x0 &&& b1) M b hb) rfl rfl (Nat.le_of_ble_eq_true rfl) (fun b2 => ?_)
  refine T_lload_n (q := 0) dX3_pairsWithin_9 rfl rfl ?_
  refine T_lload_n (q := 0) dX3_pairsWithin_10 rfl rfl ?_
  refine T_callSl (As := [.long x0]) (st := [.long x0, .int b2]) ms_X3_33 (by decide) dX3_pairsWithin_11 (fun b hb => mX3_down G l x0 M b hb) rfl rfl (Nat.le_of_ble_eq_true rfl) (fun b3 => ?_)
  refine T_land dX3_pairsWithin_14 ?_
  refine T_callSi (As := [.long (x0 &&& b3)]) (st := [.int b2]) ms_X3_27 (by decide) dX3_pairsWithin_15 (fun b hb => mJ13_bitCount_95d88 G l (x0 &&& b3) M b hb) rfl rfl (Nat.le_of_ble_eq_true rfl) (fun b4 => ?_)
  refine T_iadd dX3_pairsWithin_18 ?_
  exact T_end (fun h => by cases h; exact V_iret dX3_pairsWithin_19)
set_option maxHeartbeats 4000000 in
set_option maxRecDepth 100000 in
theorem mX3_pieces (G : Gw) (l : Launch) (x0 : Int64) (M : Mem) (a : Int32) (h : fX3_pieces x0 = some a) : CtP G l yX3_pieces cX3_pieces 6 (some .int) 2 48 [.long x0] M (some (.int a)) M := by
  refine CtP.ofV (by decide) (Nat.le_of_ble_eq_true rfl) ?_
  refine (?_ : T G l RX3 cX3_pieces 6 (some .int) (rmOf 2 48) 0 0 (FinM G (some (.int a)) M) (fun x => x = a) 0 [(0, .long x0)] [] M (fX3_pieces x0)) a h rfl
  clear h
  unfold fX3_pieces
  refine T_iconst (v := 0) dX3_pieces_0 (by decide) ?_
  refine T_istore_n (lv' := [(2, .int (0 : Int32)), (0, .long x0)]) dX3_pieces_1 rfl (by decide) rfl ?_
  refine T_lload_n (q := 1) dX3_pieces_2 rfl rfl ?_
  refine T_lstore_n (lv' := [(3, .long x0), (2, .int (0 : Int32)), (0, .long x0)]) dX3_pieces_3 rfl (by decide) rfl ?_
  refine T_iconst (v := 0) dX3_pieces_4 (by decide) ?_
  refine T_istore (lv' := [(5, .int (0 : Int32)), (3, .long x0), (2, .int (0 : Int32)), (0, .long x0)]) dX3_pieces_5 (by decide) rfl ?_
  refine T_bind (X := fun r10 => V G l RX3 cX3_pieces 6 (some .int) (rmOf 2 48) 0 0 (FinM G (some (.int a)) M) 45 [(5, .int r10.2.2), (3, .long r10.2.1), (2, .int r10.1), (0, .long x0)] [] M) (T_loop (fun s1 => [(5, .int s1.2.2), (3, .long s1.2.1), (2, .int s1.1), (0, .long x0)]) (fun s1 => M) (fun s1 => ?_) ((0 : Int32), x0, (0 : Int32))) (fun r10 => ?_)
  · unfold wX3_pieces_7
    refine T_iload (q := 0) dX3_pieces_7 rfl ?_
    refine T_bipush (v := 36) dX3_pieces_9 (by decide) ?_
    refine T_icmp_ge (tgt := 45) dX3_pieces_11 (by decide) (fun hc2 => ?_) (fun hc2 => ?_)
    · exact T_end (fun h => V_sub [0, 1, 2, 3] rfl h)
    · refine T_lload_n (q := 1) dX3_pieces_14 rfl rfl ?_
      refine T_iload (q := 0) dX3_pieces_15 rfl ?_
      refine T_callSi (As := [.long s1.2.1, .int s1.2.2]) (st := []) ms_X3_39 (by decide) dX3_pieces_17 (fun b hb => mX3_has G l s1.2.1 s1.2.2 M b hb) rfl rfl (Nat.le_of_ble_eq_true rfl) (fun b3 => ?_)
      refine T_if_eq (tgt := 39) dX3_pieces_20 (by decide) (fun hc4 => ?_) (fun hc4 => ?_)
      · refine T_iinc_G (q := 0) (y := s1.2.2 + 1) (lv' := fun v5 => [(5, .int v5), (3, .long s1.2.1), (2, .int s1.1), (0, .long x0)]) dX3_pieces_39 rfl rfl (by decide) (fun _ => rfl) (fun v5 => ?_)
        refine T_goto (tgt := 7) dX3_pieces_42 (by decide) ?_
        exact T_end (fun h => V_sub [0, 1, 2, 3] rfl h)
      · refine T_iinc_G (q := 2) (y := s1.1 + 1) (lv' := fun v6 => [(2, .int v6), (5, .int s1.2.2), (3, .long s1.2.1), (0, .long x0)]) dX3_pieces_23 rfl rfl (by decide) (fun _ => rfl) (fun v6 => ?_)
        refine T_lload_n (q := 2) dX3_pieces_26 rfl rfl ?_
        refine T_iload (q := 1) dX3_pieces_27 rfl ?_
        refine T_lload_n (q := 2) dX3_pieces_29 rfl rfl ?_
        refine T_callSl (As := [.int s1.2.2, .long s1.2.1]) (st := [.long s1.2.1]) ms_X3_43 (by decide) dX3_pieces_30 (fun b hb => mX3_heapFrom G l s1.2.2 s1.2.1 M b hb) rfl rfl (Nat.le_of_ble_eq_true rfl) (fun b7 => ?_)
        refine T_ldc2 dX3_pieces_33 kcl_X3_47 ?_
        refine T_lxor dX3_pieces_36 ?_
        refine T_land dX3_pieces_37 ?_
        refine T_lstore_n_G (lv' := fun v8 => [(3, .long v8), (2, .int v6), (5, .int s1.2.2), (0, .long x0)]) dX3_pieces_38 rfl (by decide) (fun _ => rfl) (fun v8 => ?_)
        refine T_iinc_G (q := 2) (y := s1.2.2 + 1) (lv' := fun v9 => [(5, .int v9), (3, .long v8), (2, .int v6), (0, .long x0)]) dX3_pieces_39 rfl rfl (by decide) (fun _ => rfl) (fun v9 => ?_)
        refine T_goto (tgt := 7) dX3_pieces_42 (by decide) ?_
        exact T_end (fun h => V_sub [0, 1, 2, 3] rfl h)
  · change T G l RX3 cX3_pieces 6 (some .int) (rmOf 2 48) 0 0 (FinM G (some (.int a)) M) _ 45 [(5, .int r10.2.2), (3, .long r10.2.1), (2, .int r10.1), (0, .long x0)] [] M _
    refine T_iload_n (q := 2) dX3_pieces_45 rfl rfl ?_
    exact T_end (fun h => by cases h; exact V_iret dX3_pieces_46)
set_option maxHeartbeats 4000000 in
set_option maxRecDepth 100000 in
theorem mX3_sides (G : Gw) (l : Launch) (x0 : Int64) (M : Mem) (a : Int32) (h : fX3_sides x0 = some a) : CtP G l yX3_sides cX3_sides 2 (some .int) 2 42 [.long x0] M (some (.int a)) M := by
  refine CtP.ofV (by decide) (Nat.le_of_ble_eq_true rfl) ?_
  refine (?_ : T G l RX3 cX3_sides 2 (some .int) (rmOf 2 42) 0 0 (FinM G (some (.int a)) M) (fun x => x = a) 0 [(0, .long x0)] [] M (fX3_sides x0)) a h rfl
  clear h
  unfold fX3_sides
  refine T_iconst (v := 4) dX3_sides_0 (by decide) ?_
  refine T_lload_n (q := 0) dX3_sides_1 rfl rfl ?_
  refine T_callSi (As := [.long x0]) (st := [.int (4 : Int32)]) ms_X3_27 (by decide) dX3_sides_2 (fun b hb => mJ13_bitCount_95d88 G l x0 M b hb) rfl rfl (Nat.le_of_ble_eq_true rfl) (fun b1 => ?_)
  refine T_imul dX3_sides_5 ?_
  refine T_iconst (v := 2) dX3_sides_6 (by decide) ?_
  refine T_lload_n (q := 0) dX3_sides_7 rfl rfl ?_
  refine T_callSi (As := [.long x0]) (st := [.int (2 : Int32), .int ((4 : Int32) * b1)]) ms_X3_36 (by decide) dX3_sides_8 (fun b hb => mX3_pairsWithin G l x0 M b hb) rfl rfl (Nat.le_of_ble_eq_true rfl) (fun b2 => ?_)
  refine T_imul dX3_sides_11 ?_
  refine T_isub dX3_sides_12 ?_
  exact T_end (fun h => by cases h; exact V_iret dX3_sides_13)
set_option maxHeartbeats 4000000 in
set_option maxRecDepth 100000 in
theorem mX4_borderPairs (G : Gw) (l : Launch) (o0 : Nat) (ho0 : shp o0 = 3) (M : Mem) (a : Int32) (h : fX4_borderPairs o0 M = some a) : CtP G l yX4_borderPairs cX4_borderPairs 3 (some .int) 2 44 [.ref (adr G o0)] M (some (.int a)) M := by
  refine CtP.ofV (by decide) (Nat.le_of_ble_eq_true rfl) ?_
  refine (?_ : T G l RX4 cX4_borderPairs 3 (some .int) (rmOf 2 44) 0 0 (FinM G (some (.int a)) M) (fun x => x = a) 0 [(0, .ref (adr G o0))] [] M (fX4_borderPairs o0 M)) a h rfl
  clear h
  unfold fX4_borderPairs
  refine T_iconst (v := 0) dX4_borderPairs_0 (by decide) ?_
  refine T_istore_n (lv' := [(1, .int (0 : Int32)), (0, .ref (adr G o0))]) dX4_borderPairs_1 rfl (by decide) rfl ?_
  refine T_iconst (v := 0) dX4_borderPairs_2 (by decide) ?_
  refine T_istore_n (lv' := [(2, .int (0 : Int32)), (1, .int (0 : Int32)), (0, .ref (adr G o0))]) dX4_borderPairs_3 rfl (by decide) rfl ?_
  refine T_bind (X := fun r7 => V G l RX4 cX4_borderPairs 3 (some .int) (rmOf 2 44) 0 0 (FinM G (some (.int a)) M) 27 [(2, .int r7.2), (1, .int r7.1), (0, .ref (adr G o0))] [] M) (T_loop (fun s1 => [(2, .int s1.2), (1, .int s1.1), (0, .ref (adr G o0))]) (fun s1 => M) (fun s1 => ?_) ((0 : Int32), (0 : Int32))) (fun r7 => ?_)
  · unfold wX4_borderPairs_4
    refine T_iload_n (q := 0) dX4_borderPairs_4 rfl rfl ?_
    refine T_bipush (v := 11) dX4_borderPairs_5 (by decide) ?_
    refine T_icmp_ge (tgt := 27) dX4_borderPairs_7 (by decide) (fun hc2 => ?_) (fun hc2 => ?_)
    · exact T_end (fun h => V_sub [0, 1, 2] rfl h)
    · refine T_iload_n (q := 1) dX4_borderPairs_10 rfl rfl ?_
      refine T_aload_n (q := 2) dX4_borderPairs_11 rfl rfl ?_
      refine T_iload_n (q := 0) dX4_borderPairs_12 rfl rfl ?_
      refine T_callVl (As := [.int s1.2]) (st := [.int s1.1]) mv_X4_53 (by decide) dX4_borderPairs_13 ho0 (fun b hb => mX4_heldBy G l o0 ho0 s1.2 M b hb) rfl rfl (Nat.le_of_ble_eq_true rfl) (fun b3 => ?_)
      refine T_callSi (As := [.long b3]) (st := [.int s1.1]) ms_X4_57 (by decide) dX4_borderPairs_16 (fun b hb => mX3_pairsWithin G l b3 M b hb) rfl rfl (Nat.le_of_ble_eq_true rfl) (fun b4 => ?_)
      refine T_iadd dX4_borderPairs_19 ?_
      refine T_istore_n_G (lv' := fun v5 => [(1, .int v5), (2, .int s1.2), (0, .ref (adr G o0))]) dX4_borderPairs_20 rfl (by decide) (fun _ => rfl) (fun v5 => ?_)
      refine T_iinc_G (q := 1) (y := s1.2 + 1) (lv' := fun v6 => [(2, .int v6), (1, .int v5), (0, .ref (adr G o0))]) dX4_borderPairs_21 rfl rfl (by decide) (fun _ => rfl) (fun v6 => ?_)
      refine T_goto (tgt := 4) dX4_borderPairs_24 (by decide) ?_
      exact T_end (fun h => V_sub [0, 1, 2] rfl h)
  · change T G l RX4 cX4_borderPairs 3 (some .int) (rmOf 2 44) 0 0 (FinM G (some (.int a)) M) _ 27 [(2, .int r7.2), (1, .int r7.1), (0, .ref (adr G o0))] [] M _
    refine T_bipush (v := 60) dX4_borderPairs_27 (by decide) ?_
    refine T_iload_n (q := 1) dX4_borderPairs_29 rfl rfl ?_
    refine T_isub dX4_borderPairs_30 ?_
    exact T_end (fun h => by cases h; exact V_iret dX4_borderPairs_31)
set_option maxHeartbeats 4000000 in
set_option maxRecDepth 100000 in
theorem mX4_hundredOver (G : Gw) (l : Launch) (o0 : Nat) (ho0 : shp o0 = 3) (x1 : Int32) (M : Mem) (a : Int32) (h : fX4_hundredOver o0 x1 M = some a) : CtP G l yX4_hundredOver cX4_hundredOver 2 (some .int) 1 20 [.ref (adr G o0), .int x1] M (some (.int a)) M := by
  refine CtP.ofV (by decide) (Nat.le_of_ble_eq_true rfl) ?_
  refine (?_ : T G l RX4 cX4_hundredOver 2 (some .int) (rmOf 1 20) 0 0 (FinM G (some (.int a)) M) (fun x => x = a) 0 [(0, .ref (adr G o0)), (1, .int x1)] [] M (fX4_hundredOver o0 x1 M)) a h rfl
  clear h
  unfold fX4_hundredOver
  refine T_iload_n (q := 1) dX4_hundredOver_0 rfl rfl ?_
  refine T_callSi (As := [.int x1]) (st := []) ms_X4_35 (by decide) dX4_hundredOver_1 (fun b hb => mX4_isSlot G l x1 M b hb) rfl rfl (Nat.le_of_ble_eq_true rfl) (fun b1 => ?_)
  refine T_if_eq (tgt := 16) dX4_hundredOver_4 (by decide) (fun hc2 => ?_) (fun hc2 => ?_)
  · refine T_bipush (v := 10) dX4_hundredOver_16 (by decide) ?_
    exact T_end (fun h => by cases h; exact V_iret dX4_hundredOver_18)
  · refine T_aload_n (q := 0) dX4_hundredOver_7 rfl rfl ?_
    refine T_getR cf3 fr_X4_15 dX4_hundredOver_8 ho0 rfl ?_
    refine T_iload_n (q := 1) dX4_hundredOver_11 rfl rfl ?_
    refine T_iald dX4_hundredOver_12 (sf_3_1 ho0) ?_
    refine T_goto (tgt := 18) dX4_hundredOver_13 (by decide) ?_
    exact T_end (fun h => by cases h; exact V_iret dX4_hundredOver_18)
set_option maxHeartbeats 4000000 in
set_option maxRecDepth 100000 in
theorem mX5_hasRun (G : Gw) (l : Launch) (o0 : Nat) (ho0 : shp o0 = 4) (x1 : Int32) (x2 : Int32) (M : Mem) (a : Int32) (h : fX5_hasRun o0 x1 x2 M = some a) : CtP G l yX5_hasRun cX5_hasRun 3 (some .boolean) 0 0 [.ref (adr G o0), .int x1, .int x2] M (some (.int a)) M := by
  refine CtP.ofV (by decide) (Nat.le_of_ble_eq_true rfl) ?_
  refine (?_ : T G l RX5 cX5_hasRun 3 (some .boolean) (rmOf 0 0) 0 0 (FinM G (some (.int a)) M) (fun x => x = a) 0 [(0, .ref (adr G o0)), (1, .int x1), (2, .int x2)] [] M (fX5_hasRun o0 x1 x2 M)) a h rfl
  clear h
  unfold fX5_hasRun
  refine T_iload_n (q := 1) dX5_hasRun_0 rfl rfl ?_
  refine T_if_lt (tgt := 30) dX5_hasRun_1 (by decide) (fun hc1 => ?_) (fun hc1 => ?_)
  · refine T_iconst (v := 0) dX5_hasRun_30 (by decide) ?_
    exact T_end (fun h => by cases h; exact V_zret (Or.inl rfl) dX5_hasRun_31)
  · refine T_iload_n (q := 2) dX5_hasRun_4 rfl rfl ?_
    refine T_if_lt (tgt := 30) dX5_hasRun_5 (by decide) (fun hc2 => ?_) (fun hc2 => ?_)
    · refine T_iconst (v := 0) dX5_hasRun_30 (by decide) ?_
      exact T_end (fun h => by cases h; exact V_zret (Or.inl rfl) dX5_hasRun_31)
    · refine T_iload_n (q := 2) dX5_hasRun_8 rfl rfl ?_
      refine T_aload_n (q := 0) dX5_hasRun_9 rfl rfl ?_
      refine T_getI cf4 fr_X5_19 dX5_hasRun_10 ho0 rfl ?_
      refine T_icmp_gt (tgt := 30) dX5_hasRun_13 (by decide) (fun hc3 => ?_) (fun hc3 => ?_)
      · refine T_iconst (v := 0) dX5_hasRun_30 (by decide) ?_
        exact T_end (fun h => by cases h; exact V_zret (Or.inl rfl) dX5_hasRun_31)
      · refine T_iload_n (q := 1) dX5_hasRun_16 rfl rfl ?_
        refine T_aload_n (q := 0) dX5_hasRun_17 rfl rfl ?_
        refine T_getI cf4 fr_X5_19 dX5_hasRun_18 ho0 rfl ?_
        refine T_iload_n (q := 2) dX5_hasRun_21 rfl rfl ?_
        refine T_isub dX5_hasRun_22 ?_
        refine T_icmp_gt (tgt := 30) dX5_hasRun_23 (by decide) (fun hc4 => ?_) (fun hc4 => ?_)
        · refine T_iconst (v := 0) dX5_hasRun_30 (by decide) ?_
          exact T_end (fun h => by cases h; exact V_zret (Or.inl rfl) dX5_hasRun_31)
        · refine T_iconst (v := 1) dX5_hasRun_26 (by decide) ?_
          refine T_goto (tgt := 31) dX5_hasRun_27 (by decide) ?_
          exact T_end (fun h => by cases h; exact V_zret (Or.inr rfl) dX5_hasRun_31)
set_option maxHeartbeats 4000000 in
set_option maxRecDepth 100000 in
theorem mX5_isMissing (G : Gw) (l : Launch) (o0 : Nat) (ho0 : shp o0 = 4) (M : Mem) (a : Int32) (h : fX5_isMissing o0 M = some a) : CtP G l yX5_isMissing cX5_isMissing 1 (some .boolean) 0 0 [.ref (adr G o0)] M (some (.int a)) M := by
  refine CtP.ofV (by decide) (Nat.le_of_ble_eq_true rfl) ?_
  refine (?_ : T G l RX5 cX5_isMissing 1 (some .boolean) (rmOf 0 0) 0 0 (FinM G (some (.int a)) M) (fun x => x = a) 0 [(0, .ref (adr G o0))] [] M (fX5_isMissing o0 M)) a h rfl
  clear h
  unfold fX5_isMissing
  refine T_aload_n (q := 0) dX5_isMissing_0 rfl rfl ?_
  refine T_getI cf4 fr_X5_15 dX5_isMissing_1 ho0 rfl ?_
  refine T_if_ne (tgt := 11) dX5_isMissing_4 (by decide) (fun hc1 => ?_) (fun hc1 => ?_)
  · refine T_iconst (v := 1) dX5_isMissing_7 (by decide) ?_
    refine T_goto (tgt := 12) dX5_isMissing_8 (by decide) ?_
    exact T_end (fun h => by cases h; exact V_zret (Or.inr rfl) dX5_isMissing_12)
  · refine T_iconst (v := 0) dX5_isMissing_11 (by decide) ?_
    exact T_end (fun h => by cases h; exact V_zret (Or.inl rfl) dX5_isMissing_12)
set_option maxHeartbeats 4000000 in
set_option maxRecDepth 100000 in
theorem mX5_lowestBits (G : Gw) (l : Launch) (o0 : Nat) (ho0 : shp o0 = 4) (x1 : Int32) (M : Mem) (a : Int32) (h : fX5_lowestBits o0 x1 M = some a) : CtP G l yX5_lowestBits cX5_lowestBits 2 (some .int) 0 0 [.ref (adr G o0), .int x1] M (some (.int a)) M := by
  refine CtP.ofV (by decide) (Nat.le_of_ble_eq_true rfl) ?_
  refine (?_ : T G l RX5 cX5_lowestBits 2 (some .int) (rmOf 0 0) 0 0 (FinM G (some (.int a)) M) (fun x => x = a) 0 [(0, .ref (adr G o0)), (1, .int x1)] [] M (fX5_lowestBits o0 x1 M)) a h rfl
  clear h
  unfold fX5_lowestBits
  refine T_aload_n (q := 0) dX5_lowestBits_0 rfl rfl ?_
  refine T_getI cf4 fr_X5_15 dX5_lowestBits_1 ho0 rfl ?_
  refine T_bipush (v := 32) dX5_lowestBits_4 (by decide) ?_
  refine T_icmp_ne (tgt := 13) dX5_lowestBits_6 (by decide) (fun hc1 => ?_) (fun hc1 => ?_)
  · refine T_iload_n (q := 1) dX5_lowestBits_9 rfl rfl ?_
    refine T_goto (tgt := 23) dX5_lowestBits_10 (by decide) ?_
    exact T_end (fun h => by cases h; exact V_iret dX5_lowestBits_23)
  · refine T_iload_n (q := 1) dX5_lowestBits_13 rfl rfl ?_
    refine T_iconst (v := 1) dX5_lowestBits_14 (by decide) ?_
    refine T_aload_n (q := 0) dX5_lowestBits_15 rfl rfl ?_
    refine T_getI cf4 fr_X5_15 dX5_lowestBits_16 ho0 rfl ?_
    refine T_ishl dX5_lowestBits_19 ?_
    refine T_iconst (v := 1) dX5_lowestBits_20 (by decide) ?_
    refine T_isub dX5_lowestBits_21 ?_
    refine T_iand dX5_lowestBits_22 ?_
    exact T_end (fun h => by cases h; exact V_iret dX5_lowestBits_23)
set_option maxHeartbeats 4000000 in
set_option maxRecDepth 100000 in
theorem mX5_renew (G : Gw) (l : Launch) (o0 : Nat) (ho0 : shp o0 = 4) (x1 : Int32) (x2 : Int32) (M : Mem) (a : Int32 × Mem) (h : fX5_renew o0 x1 x2 M = some a) : CtP G l yX5_renew cX5_renew 3 (some .int) 1 23 [.ref (adr G o0), .int x1, .int x2] M (some (.int a.1)) a.2 := by
  refine CtP.ofV (by decide) (Nat.le_of_ble_eq_true rfl) ?_
  refine (?_ : T G l RX5 cX5_renew 3 (some .int) (rmOf 1 23) 0 0 (FinM G (some (.int a.1)) a.2) (fun x => x = a) 0 [(0, .ref (adr G o0)), (1, .int x1), (2, .int x2)] [] M (fX5_renew o0 x1 x2 M)) a h rfl
  clear h
  unfold fX5_renew
  refine T_aload_n (q := 0) dX5_renew_0 rfl rfl ?_
  refine T_iload_n (q := 1) dX5_renew_1 rfl rfl ?_
  refine T_putI cf4 fr_X5_15 pt_4_1 dX5_renew_2 ho0 rfl (fun M1 => ?_)
  refine T_aload_n (q := 0) dX5_renew_5 rfl rfl ?_
  refine T_iload_n (q := 1) dX5_renew_6 rfl rfl ?_
  refine T_if_ne (tgt := 14) dX5_renew_7 (by decide) (fun hc2 => ?_) (fun hc2 => ?_)
  · refine T_iconst (v := 0) dX5_renew_10 (by decide) ?_
    refine T_goto (tgt := 15) dX5_renew_11 (by decide) ?_
    refine T_putI cf4 fr_X5_19 pt_4_2 dX5_renew_15 ho0 rfl (fun M3 => ?_)
    refine T_aload_n (q := 0) dX5_renew_18 rfl rfl ?_
    refine T_getR cf4 fr_X5_9 dX5_renew_19 ho0 rfl ?_
    refine T_iconst (v := 0) dX5_renew_22 (by decide) ?_
    refine T_callSvw (As := [.ref (adr G (rf o0 0)), .int (0 : Int32)]) (st := []) ms_X5_22 (by decide) dX5_renew_23 (fun b hb => mJ7_fill_53178 G l (rf o0 0) (sf_4_0 ho0) (0 : Int32) M3 b hb) rfl rfl (Nat.le_of_ble_eq_true rfl) (fun b4 => ?_)
    refine T_aload_n (q := 0) dX5_renew_26 rfl rfl ?_
    refine T_getI cf4 fr_X5_19 dX5_renew_27 ho0 rfl ?_
    exact T_end (fun h => by cases h; exact V_iret dX5_renew_30)
  · refine T_iload_n (q := 2) dX5_renew_14 rfl rfl ?_
    refine T_putI cf4 fr_X5_19 pt_4_2 dX5_renew_15 ho0 rfl (fun M5 => ?_)
    refine T_aload_n (q := 0) dX5_renew_18 rfl rfl ?_
    refine T_getR cf4 fr_X5_9 dX5_renew_19 ho0 rfl ?_
    refine T_iconst (v := 0) dX5_renew_22 (by decide) ?_
    refine T_callSvw (As := [.ref (adr G (rf o0 0)), .int (0 : Int32)]) (st := []) ms_X5_22 (by decide) dX5_renew_23 (fun b hb => mJ7_fill_53178 G l (rf o0 0) (sf_4_0 ho0) (0 : Int32) M5 b hb) rfl rfl (Nat.le_of_ble_eq_true rfl) (fun b6 => ?_)
    refine T_aload_n (q := 0) dX5_renew_26 rfl rfl ?_
    refine T_getI cf4 fr_X5_19 dX5_renew_27 ho0 rfl ?_
    exact T_end (fun h => by cases h; exact V_iret dX5_renew_30)
