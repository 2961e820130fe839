set_option maxHeartbeats 4000000 in
set_option maxRecDepth 100000 in
theorem mX2_hasAct (G : Gw) (l : Launch) (o0 : Nat) (ho0 : shp o0 = 2) (x1 : Int32) (M : Mem) (a : Int32) (h : fX2_hasAct o0 x1 M = some a) : CtP G l yX2_hasAct cX2_hasAct 2 (some .boolean) 0 0 [.ref (adr G o0), .int x1] M (some (.int a)) M := by
  refine CtP.ofV (by decide) (Nat.le_of_ble_eq_true rfl) ?_
  refine (?_ : T G l RX2 cX2_hasAct 2 (some .boolean) (rmOf 0 0) 0 0 (FinM G (some (.int a)) M) (fun x => x = a) 0 [(0, .ref (adr G o0)), (1, .int x1)] [] M (fX2_hasAct o0 x1 M)) a h rfl
  clear h
  unfold fX2_hasAct
  refine T_iload_n (q := 1) dX2_hasAct_0 rfl rfl ?_
  refine T_if_lt (tgt := 16) dX2_hasAct_1 (by decide) (fun hc1 => ?_) (fun hc1 => ?_)
  · refine T_iconst (v := 0) dX2_hasAct_16 (by decide) ?_
    exact T_end (fun h => by cases h; exact V_zret (Or.inl rfl) dX2_hasAct_17)
  · refine T_iload_n (q := 1) dX2_hasAct_4 rfl rfl ?_
    refine T_aload_n (q := 0) dX2_hasAct_5 rfl rfl ?_
    refine T_getI cf2 fr_X2_48 dX2_hasAct_6 ho0 rfl ?_
    refine T_icmp_ge (tgt := 16) dX2_hasAct_9 (by decide) (fun hc2 => ?_) (fun hc2 => ?_)
    · refine T_iconst (v := 0) dX2_hasAct_16 (by decide) ?_
      exact T_end (fun h => by cases h; exact V_zret (Or.inl rfl) dX2_hasAct_17)
    · refine T_iconst (v := 1) dX2_hasAct_12 (by decide) ?_
      refine T_goto (tgt := 17) dX2_hasAct_13 (by decide) ?_
      exact T_end (fun h => by cases h; exact V_zret (Or.inr rfl) dX2_hasAct_17)
set_option maxHeartbeats 4000000 in
set_option maxRecDepth 100000 in
theorem mX2_actAt (G : Gw) (l : Launch) (o0 : Nat) (ho0 : shp o0 = 2) (x1 : Int32) (M : Mem) (a : Nat) (h : fX2_actAt o0 x1 M = some a) : CtP G l yX2_actAt cX2_actAt 3 (some (.object "ShireLines$Act")) 1 21 [.ref (adr G o0), .int x1] M (some (.ref (adr G a))) M := by
  refine CtP.ofV (by decide) (Nat.le_of_ble_eq_true rfl) ?_
  refine (?_ : T G l RX2 cX2_actAt 3 (some (.object "ShireLines$Act")) (rmOf 1 21) 0 0 (FinM G (some (.ref (adr G a))) M) (fun x => x = a) 0 [(0, .ref (adr G o0)), (1, .int x1)] [] M (fX2_actAt o0 x1 M)) a h rfl
  clear h
  unfold fX2_actAt
  refine T_aload_n (q := 0) dX2_actAt_0 rfl rfl ?_
  refine T_iload_n (q := 1) dX2_actAt_1 rfl rfl ?_
  refine T_callVi (As := [.int x1]) (st := []) mv_X2_145 (by decide) dX2_actAt_2 ho0 (fun b hb => mX2_hasAct G l o0 ho0 x1 M b hb) rfl rfl (Nat.le_of_ble_eq_true rfl) (fun b1 => ?_)
  refine T_if_eq (tgt := 17) dX2_actAt_5 (by decide) (fun hc2 => ?_) (fun hc2 => ?_)
  · refine T_iconst (v := 0) dX2_actAt_17 (by decide) ?_
    refine T_istore_n (lv' := [(2, .int (0 : Int32)), (0, .ref (adr G o0)), (1, .int x1)]) dX2_actAt_18 rfl (by decide) rfl ?_
    refine T_aload_n (q := 1) dX2_actAt_19 rfl rfl ?_
    refine T_getR cf2 fr_X2_17 dX2_actAt_20 ho0 rfl ?_
    refine T_aload_n (q := 1) dX2_actAt_23 rfl rfl ?_
    refine T_iload_n (q := 0) dX2_actAt_24 rfl rfl ?_
    refine T_callVi (As := [.int (0 : Int32)]) (st := [.ref (adr G (rf o0 1))]) mv_X2_145 (by decide) dX2_actAt_25 ho0 (fun b hb => mX2_hasAct G l o0 ho0 (0 : Int32) M b hb) rfl rfl (Nat.le_of_ble_eq_true rfl) (fun b3 => ?_)
    refine T_if_eq (tgt := 35) dX2_actAt_28 (by decide) (fun hc4 => ?_) (fun hc4 => ?_)
    · refine T_iconst (v := 0) dX2_actAt_35 (by decide) ?_
      refine T_aald dX2_actAt_36 ⟨by have := (sf_2_1 ho0); omega, by have := (sf_2_1 ho0); omega⟩ (fun hi5 => ?_)
      exact T_end (fun h => by cases h; exact V_aret dX2_actAt_37)
    · refine T_iload_n (q := 0) dX2_actAt_31 rfl rfl ?_
      refine T_goto (tgt := 36) dX2_actAt_32 (by decide) ?_
      refine T_aald dX2_actAt_36 ⟨by have := (sf_2_1 ho0); omega, by have := (sf_2_1 ho0); omega⟩ (fun hi6 => ?_)
      exact T_end (fun h => by cases h; exact V_aret dX2_actAt_37)
  · refine T_aload_n (q := 0) dX2_actAt_8 rfl rfl ?_
    refine T_getR cf2 fr_X2_21 dX2_actAt_9 ho0 rfl ?_
    refine T_iload_n (q := 1) dX2_actAt_12 rfl rfl ?_
    refine T_iald dX2_actAt_13 (sf_2_2 ho0) ?_
    refine T_goto (tgt := 18) dX2_actAt_14 (by decide) ?_
    refine T_istore_n_G (lv' := fun v7 => [(2, .int v7), (0, .ref (adr G o0)), (1, .int x1)]) dX2_actAt_18 rfl (by decide) (fun _ => rfl) (fun v7 => ?_)
    refine T_aload_n (q := 1) dX2_actAt_19 rfl rfl ?_
    refine T_getR cf2 fr_X2_17 dX2_actAt_20 ho0 rfl ?_
    refine T_aload_n (q := 1) dX2_actAt_23 rfl rfl ?_
    refine T_iload_n (q := 0) dX2_actAt_24 rfl rfl ?_
    refine T_callVi (As := [.int v7]) (st := [.ref (adr G (rf o0 1))]) mv_X2_145 (by decide) dX2_actAt_25 ho0 (fun b hb => mX2_hasAct G l o0 ho0 v7 M b hb) rfl rfl (Nat.le_of_ble_eq_true rfl) (fun b8 => ?_)
    refine T_if_eq (tgt := 35) dX2_actAt_28 (by decide) (fun hc9 => ?_) (fun hc9 => ?_)
    · refine T_iconst (v := 0) dX2_actAt_35 (by decide) ?_
      refine T_aald dX2_actAt_36 ⟨by have := (sf_2_1 ho0); omega, by have := (sf_2_1 ho0); omega⟩ (fun hi10 => ?_)
      exact T_end (fun h => by cases h; exact V_aret dX2_actAt_37)
    · refine T_iload_n (q := 0) dX2_actAt_31 rfl rfl ?_
      refine T_goto (tgt := 36) dX2_actAt_32 (by decide) ?_
      refine T_aald dX2_actAt_36 ⟨by have := (sf_2_1 ho0); omega, by have := (sf_2_1 ho0); omega⟩ (fun hi11 => ?_)
      exact T_end (fun h => by cases h; exact V_aret dX2_actAt_37)
set_option maxHeartbeats 4000000 in
set_option maxRecDepth 100000 in
theorem mX2_hasAllUnits (G : Gw) (l : Launch) (o0 : Nat) (ho0 : shp o0 = 2) (M : Mem) (a : Int32) (h : fX2_hasAllUnits o0 M = some a) : CtP G l yX2_hasAllUnits cX2_hasAllUnits 1 (some .boolean) 0 0 [.ref (adr G o0)] M (some (.int a)) M := by
  refine CtP.ofV (by decide) (Nat.le_of_ble_eq_true rfl) ?_
  refine (?_ : T G l RX2 cX2_hasAllUnits 1 (some .boolean) (rmOf 0 0) 0 0 (FinM G (some (.int a)) M) (fun x => x = a) 0 [(0, .ref (adr G o0))] [] M (fX2_hasAllUnits o0 M)) a h rfl
  clear h
  unfold fX2_hasAllUnits
  refine T_aload_n (q := 0) dX2_hasAllUnits_0 rfl rfl ?_
  refine T_getI cf2 fr_X2_32 dX2_hasAllUnits_1 ho0 rfl ?_
  refine T_bipush (v := 10) dX2_hasAllUnits_4 (by decide) ?_
  refine T_icmp_lt (tgt := 13) dX2_hasAllUnits_6 (by decide) (fun hc1 => ?_) (fun hc1 => ?_)
  · refine T_iconst (v := 0) dX2_hasAllUnits_13 (by decide) ?_
    exact T_end (fun h => by cases h; exact V_zret (Or.inl rfl) dX2_hasAllUnits_14)
  · refine T_iconst (v := 1) dX2_hasAllUnits_9 (by decide) ?_
    refine T_goto (tgt := 14) dX2_hasAllUnits_10 (by decide) ?_
    exact T_end (fun h => by cases h; exact V_zret (Or.inr rfl) dX2_hasAllUnits_14)
set_option maxHeartbeats 4000000 in
set_option maxRecDepth 100000 in
theorem mX2_addUnit (G : Gw) (l : Launch) (o0 : Nat) (ho0 : shp o0 = 2) (x1 : Int32) (M : Mem) (a : Int32 × Mem) (h : fX2_addUnit o0 x1 M = some a) : CtP G l yX2_addUnit cX2_addUnit 2 (some .int) 1 20 [.ref (adr G o0), .int x1] M (some (.int a.1)) a.2 := by
  refine CtP.ofV (by decide) (Nat.le_of_ble_eq_true rfl) ?_
  refine (?_ : T G l RX2 cX2_addUnit 2 (some .int) (rmOf 1 20) 0 0 (FinM G (some (.int a.1)) a.2) (fun x => x = a) 0 [(0, .ref (adr G o0)), (1, .int x1)] [] M (fX2_addUnit o0 x1 M)) a h rfl
  clear h
  unfold fX2_addUnit
  refine T_aload_n (q := 0) dX2_addUnit_0 rfl rfl ?_
  refine T_callVi (As := []) (st := []) mv_X2_36 (by decide) dX2_addUnit_1 ho0 (fun b hb => mX2_hasAllUnits G l o0 ho0 M b hb) rfl rfl (Nat.le_of_ble_eq_true rfl) (fun b1 => ?_)
  refine T_if_ne (tgt := 27) dX2_addUnit_4 (by decide) (fun hc2 => ?_) (fun hc2 => ?_)
  · refine T_aload_n (q := 0) dX2_addUnit_7 rfl rfl ?_
    refine T_getR cf2 fr_X2_9 dX2_addUnit_8 ho0 rfl ?_
    refine T_aload_n (q := 0) dX2_addUnit_11 rfl rfl ?_
    refine T_getI cf2 fr_X2_32 dX2_addUnit_12 ho0 rfl ?_
    refine T_iload_n (q := 1) dX2_addUnit_15 rfl rfl ?_
    refine T_iast dX2_addUnit_16 (sf_2_0 ho0) (fun M3 => ?_)
    refine T_aload_n (q := 0) dX2_addUnit_17 rfl rfl ?_
    refine T_dup dX2_addUnit_18 rfl ?_
    refine T_getI cf2 fr_X2_32 dX2_addUnit_19 ho0 rfl ?_
    refine T_iconst (v := 1) dX2_addUnit_22 (by decide) ?_
    refine T_iadd dX2_addUnit_23 ?_
    refine T_putI cf2 fr_X2_32 pt_2_4 dX2_addUnit_24 ho0 rfl (fun M4 => ?_)
    refine T_aload_n (q := 0) dX2_addUnit_27 rfl rfl ?_
    refine T_getI cf2 fr_X2_32 dX2_addUnit_28 ho0 rfl ?_
    refine T_iconst (v := 1) dX2_addUnit_31 (by decide) ?_
    refine T_isub dX2_addUnit_32 ?_
    exact T_end (fun h => by cases h; exact V_iret dX2_addUnit_33)
  · refine T_aload_n (q := 0) dX2_addUnit_27 rfl rfl ?_
    refine T_getI cf2 fr_X2_32 dX2_addUnit_28 ho0 rfl ?_
    refine T_iconst (v := 1) dX2_addUnit_31 (by decide) ?_
    refine T_isub dX2_addUnit_32 ?_
    exact T_end (fun h => by cases h; exact V_iret dX2_addUnit_33)
set_option maxHeartbeats 4000000 in
set_option maxRecDepth 100000 in
theorem mX2_doneUpTo (G : Gw) (l : Launch) (o0 : Nat) (ho0 : shp o0 = 2) (x1 : Int32) (M : Mem) (a : Int32) (h : fX2_doneUpTo o0 x1 M = some a) : CtP G l yX2_doneUpTo cX2_doneUpTo 4 (some .int) 0 0 [.ref (adr G o0), .int x1] M (some (.int a)) M := by
  refine CtP.ofV (by decide) (Nat.le_of_ble_eq_true rfl) ?_
  refine (?_ : T G l RX2 cX2_doneUpTo 4 (some .int) (rmOf 0 0) 0 0 (FinM G (some (.int a)) M) (fun x => x = a) 0 [(0, .ref (adr G o0)), (1, .int x1)] [] M (fX2_doneUpTo o0 x1 M)) a h rfl
  clear h
  unfold fX2_doneUpTo
  refine T_iconst (v := 0) dX2_doneUpTo_0 (by decide) ?_
  refine T_istore_n (lv' := [(2, .int (0 : Int32)), (0, .ref (adr G o0)), (1, .int x1)]) dX2_doneUpTo_1 rfl (by decide) rfl ?_
  refine T_iconst (v := 0) dX2_doneUpTo_2 (by decide) ?_
  refine T_istore_n (lv' := [(3, .int (0 : Int32)), (2, .int (0 : Int32)), (0, .ref (adr G o0)), (1, .int x1)]) dX2_doneUpTo_3 rfl (by decide) rfl ?_
  refine T_bind (X := fun r8 => V G l RX2 cX2_doneUpTo 4 (some .int) (rmOf 0 0) 0 0 (FinM G (some (.int a)) M) 34 [(3, .int r8.2), (2, .int r8.1), (0, .ref (adr G o0)), (1, .int x1)] [] M) (T_loop (fun s1 => [(3, .int s1.2), (2, .int s1.1), (0, .ref (adr G o0)), (1, .int x1)]) (fun s1 => M) (fun s1 => ?_) ((0 : Int32), (0 : Int32))) (fun r8 => ?_)
  · unfold wX2_doneUpTo_4
    refine T_iload_n (q := 0) dX2_doneUpTo_4 rfl rfl ?_
    refine T_aload_n (q := 2) dX2_doneUpTo_5 rfl rfl ?_
    refine T_getI cf2 fr_X2_48 dX2_doneUpTo_6 ho0 rfl ?_
    refine T_icmp_ge (tgt := 34) dX2_doneUpTo_9 (by decide) (fun hc2 => ?_) (fun hc2 => ?_)
    · exact T_end (fun h => V_sub [0, 1, 2, 3] rfl h)
    · refine T_aload_n (q := 2) dX2_doneUpTo_12 rfl rfl ?_
      refine T_getR cf2 fr_X2_17 dX2_doneUpTo_13 ho0 rfl ?_
      refine T_iload_n (q := 0) dX2_doneUpTo_16 rfl rfl ?_
      refine T_aald dX2_doneUpTo_17 ⟨by have := (sf_2_1 ho0); omega, by have := (sf_2_1 ho0); omega⟩ (fun hi3 => ?_)
      refine T_getI cf0 fr_X2_65 dX2_doneUpTo_18 (sa_12 (sf_2_1 ho0) hi3) rfl ?_
      refine T_iload_n (q := 3) dX2_doneUpTo_21 rfl rfl ?_
      refine T_icmp_gt (tgt := 28) dX2_doneUpTo_22 (by decide) (fun hc4 => ?_) (fun hc4 => ?_)
      · refine T_iinc_G (q := 0) (y := s1.2 + 1) (lv' := fun v5 => [(3, .int v5), (2, .int s1.1), (0, .ref (adr G o0)), (1, .int x1)]) dX2_doneUpTo_28 rfl rfl (by decide) (fun _ => rfl) (fun v5 => ?_)
        refine T_goto (tgt := 4) dX2_doneUpTo_31 (by decide) ?_
        exact T_end (fun h => V_sub [0, 1, 2, 3] rfl h)
      · refine T_iinc_G (q := 1) (y := s1.1 + 1) (lv' := fun v6 => [(2, .int v6), (3, .int s1.2), (0, .ref (adr G o0)), (1, .int x1)]) dX2_doneUpTo_25 rfl rfl (by decide) (fun _ => rfl) (fun v6 => ?_)
        refine T_iinc_G (q := 1) (y := s1.2 + 1) (lv' := fun v7 => [(3, .int v7), (2, .int v6), (0, .ref (adr G o0)), (1, .int x1)]) dX2_doneUpTo_28 rfl rfl (by decide) (fun _ => rfl) (fun v7 => ?_)
        refine T_goto (tgt := 4) dX2_doneUpTo_31 (by decide) ?_
        exact T_end (fun h => V_sub [0, 1, 2, 3] rfl h)
  · change T G l RX2 cX2_doneUpTo 4 (some .int) (rmOf 0 0) 0 0 (FinM G (some (.int a)) M) _ 34 [(3, .int r8.2), (2, .int r8.1), (0, .ref (adr G o0)), (1, .int x1)] [] M _
    refine T_iload_n (q := 1) dX2_doneUpTo_34 rfl rfl ?_
    exact T_end (fun h => by cases h; exact V_iret dX2_doneUpTo_35)
set_option maxHeartbeats 4000000 in
set_option maxRecDepth 100000 in
theorem mX2_momentBehind (G : Gw) (l : Launch) (o0 : Nat) (ho0 : shp o0 = 2) (x1 : Int32) (M : Mem) (a : Nat) (h : fX2_momentBehind o0 x1 M = some a) : CtP G l yX2_momentBehind cX2_momentBehind 2 (some (.object "ShireLines$Moment")) 0 0 [.ref (adr G o0), .int x1] M (some (.ref (adr G a))) M := by
  refine CtP.ofV (by decide) (Nat.le_of_ble_eq_true rfl) ?_
  refine (?_ : T G l RX2 cX2_momentBehind 2 (some (.object "ShireLines$Moment")) (rmOf 0 0) 0 0 (FinM G (some (.ref (adr G a))) M) (fun x => x = a) 0 [(0, .ref (adr G o0)), (1, .int x1)] [] M (fX2_momentBehind o0 x1 M)) a h rfl
  clear h
  unfold fX2_momentBehind
  refine T_aload_n (q := 0) dX2_momentBehind_0 rfl rfl ?_
  refine T_getR cf2 fr_X2_26 dX2_momentBehind_1 ho0 rfl ?_
  refine T_iload_n (q := 1) dX2_momentBehind_4 rfl rfl ?_
  refine T_if_lt (tgt := 18) dX2_momentBehind_5 (by decide) (fun hc1 => ?_) (fun hc1 => ?_)
  · refine T_iconst (v := 0) dX2_momentBehind_18 (by decide) ?_
    refine T_aald dX2_momentBehind_19 ⟨by have := (sf_2_3 ho0); omega, by have := (sf_2_3 ho0); omega⟩ (fun hi2 => ?_)
    exact T_end (fun h => by cases h; exact V_aret dX2_momentBehind_20)
  · refine T_iload_n (q := 1) dX2_momentBehind_8 rfl rfl ?_
    refine T_bipush (v := 30) dX2_momentBehind_9 (by decide) ?_
    refine T_icmp_gt (tgt := 18) dX2_momentBehind_11 (by decide) (fun hc3 => ?_) (fun hc3 => ?_)
    · refine T_iconst (v := 0) dX2_momentBehind_18 (by decide) ?_
      refine T_aald dX2_momentBehind_19 ⟨by have := (sf_2_3 ho0); omega, by have := (sf_2_3 ho0); omega⟩ (fun hi4 => ?_)
      exact T_end (fun h => by cases h; exact V_aret dX2_momentBehind_20)
    · refine T_iload_n (q := 1) dX2_momentBehind_14 rfl rfl ?_
      refine T_goto (tgt := 19) dX2_momentBehind_15 (by decide) ?_
      refine T_aald dX2_momentBehind_19 ⟨by have := (sf_2_3 ho0); omega, by have := (sf_2_3 ho0); omega⟩ (fun hi5 => ?_)
      exact T_end (fun h => by cases h; exact V_aret dX2_momentBehind_20)
set_option maxHeartbeats 4000000 in
set_option maxRecDepth 100000 in
theorem mX2_performFound (G : Gw) (l : Launch) (o0 : Nat) (ho0 : shp o0 = 0) (o1 : Nat) (ho1 : shp o1 = 3) (M : Mem) (a : Int32 × Mem) (h : fX2_performFound o0 o1 M = some a) : CtP G l yX2_performFound cX2_performFound 2 (some .boolean) 2 44 [.ref (adr G o0), .ref (adr G o1)] M (some (.int a.1)) a.2 := by
  refine CtP.ofV (by decide) (Nat.le_of_ble_eq_true rfl) ?_
  refine (?_ : T G l RX2 cX2_performFound 2 (some .boolean) (rmOf 2 44) 0 0 (FinM G (some (.int a.1)) a.2) (fun x => x = a) 0 [(0, .ref (adr G o0)), (1, .ref (adr G o1))] [] M (fX2_performFound o0 o1 M)) a h rfl
  clear h
  unfold fX2_performFound
  refine T_aload_n (q := 1) dX2_performFound_0 rfl rfl ?_
  refine T_aload_n (q := 0) dX2_performFound_1 rfl rfl ?_
  refine T_getI cf0 fr_X2_59 dX2_performFound_2 ho0 rfl ?_
  refine T_callVi (As := [.int (M.1 o0 2)]) (st := []) mv_X2_126 (by decide) dX2_performFound_5 ho1 (fun b hb => mX4_isThere G l o1 ho1 (M.1 o0 2) M b hb) rfl rfl (Nat.le_of_ble_eq_true rfl) (fun b1 => ?_)
  refine T_if_eq (tgt := 13) dX2_performFound_8 (by decide) (fun hc2 => ?_) (fun hc2 => ?_)
  · refine T_aload_n (q := 1) dX2_performFound_13 rfl rfl ?_
    refine T_aload_n (q := 0) dX2_performFound_14 rfl rfl ?_
    refine T_getI cf0 fr_X2_59 dX2_performFound_15 ho0 rfl ?_
    refine T_callVvw (As := [.int (M.1 o0 2)]) (st := []) mv_X2_129 (by decide) dX2_performFound_18 ho1 (fun b hb => mX4_arrive G l o1 ho1 (M.1 o0 2) M b hb) rfl rfl (Nat.le_of_ble_eq_true rfl) (fun b3 => ?_)
    refine T_aload_n (q := 0) dX2_performFound_21 rfl rfl ?_
    refine T_aload_n (q := 0) dX2_performFound_22 rfl rfl ?_
    refine T_getL cf0 fr_X2_68 dX2_performFound_23 ho0 rfl ?_
    refine T_aload_n (q := 1) dX2_performFound_26 rfl rfl ?_
    refine T_aload_n (q := 0) dX2_performFound_27 rfl rfl ?_
    refine T_getI cf0 fr_X2_59 dX2_performFound_28 ho0 rfl ?_
    refine T_callVl (As := [.int (b3.1 o0 2)]) (st := [.long (b3.2 o0 4), .ref (adr G o0)]) mv_X2_132 (by decide) dX2_performFound_31 ho1 (fun b hb => mX4_heldBy G l o1 ho1 (b3.1 o0 2) b3 b hb) rfl rfl (Nat.le_of_ble_eq_true rfl) (fun b4 => ?_)
    refine T_ldc2 dX2_performFound_34 kcl_X2_136 ?_
    refine T_lxor dX2_performFound_37 ?_
    refine T_land dX2_performFound_38 ?_
    refine T_putL cf0 fr_X2_100 pt_0_7 dX2_performFound_39 ho0 rfl (fun M5 => ?_)
    refine T_aload_n (q := 1) dX2_performFound_42 rfl rfl ?_
    refine T_aload_n (q := 0) dX2_performFound_43 rfl rfl ?_
    refine T_getL cf0 fr_X2_100 dX2_performFound_44 ho0 rfl ?_
    refine T_aload_n (q := 0) dX2_performFound_47 rfl rfl ?_
    refine T_getI cf0 fr_X2_59 dX2_performFound_48 ho0 rfl ?_
    refine T_callVvw (As := [.long (M5.2 o0 7), .int (M5.1 o0 2)]) (st := []) mv_X2_138 (by decide) dX2_performFound_51 ho1 (fun b hb => mX4_give G l o1 ho1 (M5.2 o0 7) (M5.1 o0 2) M5 b hb) rfl rfl (Nat.le_of_ble_eq_true rfl) (fun b6 => ?_)
    refine T_iconst (v := 1) dX2_performFound_54 (by decide) ?_
    exact T_end (fun h => by cases h; exact V_zret (Or.inr rfl) dX2_performFound_55)
  · refine T_iconst (v := 0) dX2_performFound_11 (by decide) ?_
    exact T_end (fun h => by cases h; exact V_zret (Or.inl rfl) dX2_performFound_12)
set_option maxHeartbeats 4000000 in
set_option maxRecDepth 100000 in
theorem mX2_performMove (G : Gw) (l : Launch) (o0 : Nat) (ho0 : shp o0 = 0) (o1 : Nat) (ho1 : shp o1 = 3) (M : Mem) (a : Int32 × Mem) (h : fX2_performMove o0 o1 M = some a) : CtP G l yX2_performMove cX2_performMove 4 (some .boolean) 2 44 [.ref (adr G o0), .ref (adr G o1)] M (some (.int a.1)) a.2 := by
  refine CtP.ofV (by decide) (Nat.le_of_ble_eq_true rfl) ?_
  refine (?_ : T G l RX2 cX2_performMove 4 (some .boolean) (rmOf 2 44) 0 0 (FinM G (some (.int a.1)) a.2) (fun x => x = a) 0 [(0, .ref (adr G o0)), (1, .ref (adr G o1))] [] M (fX2_performMove o0 o1 M)) a h rfl
  clear h
  unfold fX2_performMove
  refine T_aload_n (q := 0) dX2_performMove_0 rfl rfl ?_
  refine T_getL cf0 fr_X2_68 dX2_performMove_1 ho0 rfl ?_
  refine T_aload_n (q := 1) dX2_performMove_4 rfl rfl ?_
  refine T_aload_n (q := 0) dX2_performMove_5 rfl rfl ?_
  refine T_getI cf0 fr_X2_59 dX2_performMove_6 ho0 rfl ?_
  refine T_callVl (As := [.int (M.1 o0 2)]) (st := [.long (M.2 o0 4)]) mv_X2_132 (by decide) dX2_performMove_9 ho1 (fun b hb => mX4_heldBy G l o1 ho1 (M.1 o0 2) M b hb) rfl rfl (Nat.le_of_ble_eq_true rfl) (fun b1 => ?_)
  refine T_land dX2_performMove_12 ?_
  refine T_lstore_n_G (lv' := fun v2 => [(2, .long v2), (0, .ref (adr G o0)), (1, .ref (adr G o1))]) dX2_performMove_13 rfl (by decide) (fun _ => rfl) (fun v2 => ?_)
  refine T_aload_n (q := 2) dX2_performMove_14 rfl rfl ?_
  refine T_aload_n (q := 1) dX2_performMove_15 rfl rfl ?_
  refine T_getI cf0 fr_X2_59 dX2_performMove_16 ho0 rfl ?_
  refine T_callVi (As := [.int (M.1 o0 2)]) (st := []) mv_X2_126 (by decide) dX2_performMove_19 ho1 (fun b hb => mX4_isThere G l o1 ho1 (M.1 o0 2) M b hb) rfl rfl (Nat.le_of_ble_eq_true rfl) (fun b3 => ?_)
  refine T_if_eq (tgt := 42) dX2_performMove_22 (by decide) (fun hc4 => ?_) (fun hc4 => ?_)
  · refine T_iconst (v := 0) dX2_performMove_42 (by decide) ?_
    exact T_end (fun h => by cases h; exact V_zret (Or.inl rfl) dX2_performMove_43)
  · refine T_aload_n (q := 2) dX2_performMove_25 rfl rfl ?_
    refine T_aload_n (q := 1) dX2_performMove_26 rfl rfl ?_
    refine T_getI cf0 fr_X2_62 dX2_performMove_27 ho0 rfl ?_
    refine T_callVi (As := [.int (M.1 o0 3)]) (st := []) mv_X2_126 (by decide) dX2_performMove_30 ho1 (fun b hb => mX4_isThere G l o1 ho1 (M.1 o0 3) M b hb) rfl rfl (Nat.le_of_ble_eq_true rfl) (fun b5 => ?_)
    refine T_if_eq (tgt := 42) dX2_performMove_33 (by decide) (fun hc6 => ?_) (fun hc6 => ?_)
    · refine T_iconst (v := 0) dX2_performMove_42 (by decide) ?_
      exact T_end (fun h => by cases h; exact V_zret (Or.inl rfl) dX2_performMove_43)
    · refine T_lload_n (q := 0) dX2_performMove_36 rfl rfl ?_
      refine T_lconst (v := 0) dX2_performMove_37 (by decide) ?_
      refine T_lcmp dX2_performMove_38 ?_
      refine T_if_ne (tgt := 44) dX2_performMove_39 (by decide) (fun hc7 => ?_) (fun hc7 => ?_)
      · refine T_iconst (v := 0) dX2_performMove_42 (by decide) ?_
        exact T_end (fun h => by cases h; exact V_zret (Or.inl rfl) dX2_performMove_43)
      · refine T_aload_n (q := 1) dX2_performMove_44 rfl rfl ?_
        refine T_lload_n (q := 0) dX2_performMove_45 rfl rfl ?_
        refine T_putL cf0 fr_X2_100 pt_0_7 dX2_performMove_46 ho0 rfl (fun M8 => ?_)
        refine T_aload_n (q := 2) dX2_performMove_49 rfl rfl ?_
        refine T_lload_n (q := 0) dX2_performMove_50 rfl rfl ?_
        refine T_aload_n (q := 1) dX2_performMove_51 rfl rfl ?_
        refine T_getI cf0 fr_X2_62 dX2_performMove_52 ho0 rfl ?_
        refine T_callVvw (As := [.long v2, .int (M8.1 o0 3)]) (st := []) mv_X2_138 (by decide) dX2_performMove_55 ho1 (fun b hb => mX4_give G l o1 ho1 v2 (M8.1 o0 3) M8 b hb) rfl rfl (Nat.le_of_ble_eq_true rfl) (fun b9 => ?_)
        refine T_iconst (v := 1) dX2_performMove_58 (by decide) ?_
        exact T_end (fun h => by cases h; exact V_zret (Or.inr rfl) dX2_performMove_59)
set_option maxHeartbeats 4000000 in
set_option maxRecDepth 100000 in
theorem mX2_hasUnit (G : Gw) (l : Launch) (o0 : Nat) (ho0 : shp o0 = 2) (x1 : Int32) (M : Mem) (a : Int32) (h : fX2_hasUnit o0 x1 M = some a) : CtP G l yX2_hasUnit cX2_hasUnit 2 (some .boolean) 0 0 [.ref (adr G o0), .int x1] M (some (.int a)) M := by
  refine CtP.ofV (by decide) (Nat.le_of_ble_eq_true rfl) ?_
  refine (?_ : T G l RX2 cX2_hasUnit 2 (some .boolean) (rmOf 0 0) 0 0 (FinM G (some (.int a)) M) (fun x => x = a) 0 [(0, .ref (adr G o0)), (1, .int x1)] [] M (fX2_hasUnit o0 x1 M)) a h rfl
  clear h
  unfold fX2_hasUnit
  refine T_iload_n (q := 1) dX2_hasUnit_0 rfl rfl ?_
  refine T_if_lt (tgt := 16) dX2_hasUnit_1 (by decide) (fun hc1 => ?_) (fun hc1 => ?_)
  · refine T_iconst (v := 0) dX2_hasUnit_16 (by decide) ?_
    exact T_end (fun h => by cases h; exact V_zret (Or.inl rfl) dX2_hasUnit_17)
  · refine T_iload_n (q := 1) dX2_hasUnit_4 rfl rfl ?_
    refine T_aload_n (q := 0) dX2_hasUnit_5 rfl rfl ?_
    refine T_getI cf2 fr_X2_32 dX2_hasUnit_6 ho0 rfl ?_
    refine T_icmp_ge (tgt := 16) dX2_hasUnit_9 (by decide) (fun hc2 => ?_) (fun hc2 => ?_)
    · refine T_iconst (v := 0) dX2_hasUnit_16 (by decide) ?_
      exact T_end (fun h => by cases h; exact V_zret (Or.inl rfl) dX2_hasUnit_17)
    · refine T_iconst (v := 1) dX2_hasUnit_12 (by decide) ?_
      refine T_goto (tgt := 17) dX2_hasUnit_13 (by decide) ?_
      exact T_end (fun h => by cases h; exact V_zret (Or.inr rfl) dX2_hasUnit_17)
set_option maxHeartbeats 4000000 in
set_option maxRecDepth 100000 in
theorem mX2_kindOf (G : Gw) (l : Launch) (o0 : Nat) (ho0 : shp o0 = 2) (x1 : Int32) (M : Mem) (a : Int32) (h : fX2_kindOf o0 x1 M = some a) : CtP G l yX2_kindOf cX2_kindOf 2 (some .int) 1 21 [.ref (adr G o0), .int x1] M (some (.int a)) M := by
  refine CtP.ofV (by decide) (Nat.le_of_ble_eq_true rfl) ?_
  refine (?_ : T G l RX2 cX2_kindOf 2 (some .int) (rmOf 1 21) 0 0 (FinM G (some (.int a)) M) (fun x => x = a) 0 [(0, .ref (adr G o0)), (1, .int x1)] [] M (fX2_kindOf o0 x1 M)) a h rfl
  clear h
  unfold fX2_kindOf
  refine T_aload_n (q := 0) dX2_kindOf_0 rfl rfl ?_
  refine T_iload_n (q := 1) dX2_kindOf_1 rfl rfl ?_
  refine T_callVi (As := [.int x1]) (st := []) mv_X2_40 (by decide) dX2_kindOf_2 ho0 (fun b hb => mX2_hasUnit G l o0 ho0 x1 M b hb) rfl rfl (Nat.le_of_ble_eq_true rfl) (fun b1 => ?_)
  refine T_if_eq (tgt := 17) dX2_kindOf_5 (by decide) (fun hc2 => ?_) (fun hc2 => ?_)
  · refine T_iconst (v := -1) dX2_kindOf_17 (by decide) ?_
    exact T_end (fun h => by cases h; exact V_iret dX2_kindOf_18)
  · refine T_aload_n (q := 0) dX2_kindOf_8 rfl rfl ?_
    refine T_getR cf2 fr_X2_9 dX2_kindOf_9 ho0 rfl ?_
    refine T_iload_n (q := 1) dX2_kindOf_12 rfl rfl ?_
    refine T_iald dX2_kindOf_13 (sf_2_0 ho0) ?_
    refine T_goto (tgt := 18) dX2_kindOf_14 (by decide) ?_
    exact T_end (fun h => by cases h; exact V_iret dX2_kindOf_18)
set_option maxHeartbeats 4000000 in
set_option maxRecDepth 100000 in
theorem mX2_performSwallow (G : Gw) (l : Launch) (o0 : Nat) (ho0 : shp o0 = 2) (o1 : Nat) (ho1 : shp o1 = 0) (o2 : Nat) (ho2 : shp o2 = 3) (M : Mem) (a : Int32 × Mem) (h : fX2_performSwallow o0 o1 o2 M = some a) : CtP G l yX2_performSwallow cX2_performSwallow 3 (some .boolean) 2 44 [.ref (adr G o0), .ref (adr G o1), .ref (adr G o2)] M (some (.int a.1)) a.2 := by
  refine CtP.ofV (by decide) (Nat.le_of_ble_eq_true rfl) ?_
  refine (?_ : T G l RX2 cX2_performSwallow 3 (some .boolean) (rmOf 2 44) 0 0 (FinM G (some (.int a.1)) a.2) (fun x => x = a) 0 [(0, .ref (adr G o0)), (1, .ref (adr G o1)), (2, .ref (adr G o2))] [] M (fX2_performSwallow o0 o1 o2 M)) a h rfl
  clear h
  unfold fX2_performSwallow
  refine T_aload_n (q := 2) dX2_performSwallow_0 rfl rfl ?_
  refine T_aload_n (q := 1) dX2_performSwallow_1 rfl rfl ?_
  refine T_getI cf0 fr_X2_59 dX2_performSwallow_2 ho1 rfl ?_
  refine T_callVi (As := [.int (M.1 o1 2)]) (st := []) mv_X2_126 (by decide) dX2_performSwallow_5 ho2 (fun b hb => mX4_isThere G l o2 ho2 (M.1 o1 2) M b hb) rfl rfl (Nat.le_of_ble_eq_true rfl) (fun b1 => ?_)
  refine T_if_eq (tgt := 34) dX2_performSwallow_8 (by decide) (fun hc2 => ?_) (fun hc2 => ?_)
  · refine T_iconst (v := 0) dX2_performSwallow_34 (by decide) ?_
    exact T_end (fun h => by cases h; exact V_zret (Or.inl rfl) dX2_performSwallow_35)
  · refine T_aload_n (q := 2) dX2_performSwallow_11 rfl rfl ?_
    refine T_aload_n (q := 1) dX2_performSwallow_12 rfl rfl ?_
    refine T_getI cf0 fr_X2_62 dX2_performSwallow_13 ho1 rfl ?_
    refine T_callVi (As := [.int (M.1 o1 3)]) (st := []) mv_X2_126 (by decide) dX2_performSwallow_16 ho2 (fun b hb => mX4_isThere G l o2 ho2 (M.1 o1 3) M b hb) rfl rfl (Nat.le_of_ble_eq_true rfl) (fun b3 => ?_)
    refine T_if_eq (tgt := 34) dX2_performSwallow_19 (by decide) (fun hc4 => ?_) (fun hc4 => ?_)
    · refine T_iconst (v := 0) dX2_performSwallow_34 (by decide) ?_
      exact T_end (fun h => by cases h; exact V_zret (Or.inl rfl) dX2_performSwallow_35)
    · refine T_aload_n (q := 0) dX2_performSwallow_22 rfl rfl ?_
      refine T_aload_n (q := 1) dX2_performSwallow_23 rfl rfl ?_
      refine T_getI cf0 fr_X2_59 dX2_performSwallow_24 ho1 rfl ?_
      refine T_callVi (As := [.int (M.1 o1 2)]) (st := []) mv_X2_44 (by decide) dX2_performSwallow_27 ho0 (fun b hb => mX2_kindOf G l o0 ho0 (M.1 o1 2) M b hb) rfl rfl (Nat.le_of_ble_eq_true rfl) (fun b5 => ?_)
      refine T_iconst (v := 2) dX2_performSwallow_30 (by decide) ?_
      refine T_icmp_ne (tgt := 36) dX2_performSwallow_31 (by decide) (fun hc6 => ?_) (fun hc6 => ?_)
      · refine T_iconst (v := 0) dX2_performSwallow_34 (by decide) ?_
        exact T_end (fun h => by cases h; exact V_zret (Or.inl rfl) dX2_performSwallow_35)
      · refine T_aload_n (q := 1) dX2_performSwallow_36 rfl rfl ?_
        refine T_aload_n (q := 2) dX2_performSwallow_37 rfl rfl ?_
        refine T_aload_n (q := 1) dX2_performSwallow_38 rfl rfl ?_
        refine T_getI cf0 fr_X2_59 dX2_performSwallow_39 ho1 rfl ?_
        refine T_callVl (As := [.int (M.1 o1 2)]) (st := [.ref (adr G o1)]) mv_X2_132 (by decide) dX2_performSwallow_42 ho2 (fun b hb => mX4_heldBy G l o2 ho2 (M.1 o1 2) M b hb) rfl rfl (Nat.le_of_ble_eq_true rfl) (fun b7 => ?_)
        refine T_putL cf0 fr_X2_100 pt_0_7 dX2_performSwallow_45 ho1 rfl (fun M8 => ?_)
        refine T_aload_n (q := 2) dX2_performSwallow_48 rfl rfl ?_
        refine T_aload_n (q := 1) dX2_performSwallow_49 rfl rfl ?_
        refine T_getL cf0 fr_X2_100 dX2_performSwallow_50 ho1 rfl ?_
        refine T_aload_n (q := 1) dX2_performSwallow_53 rfl rfl ?_
        refine T_getI cf0 fr_X2_62 dX2_performSwallow_54 ho1 rfl ?_
        refine T_callVvw (As := [.long (M8.2 o1 7), .int (M8.1 o1 3)]) (st := []) mv_X2_138 (by decide) dX2_performSwallow_57 ho2 (fun b hb => mX4_give G l o2 ho2 (M8.2 o1 7) (M8.1 o1 3) M8 b hb) rfl rfl (Nat.le_of_ble_eq_true rfl) (fun b9 => ?_)
        refine T_aload_n (q := 2) dX2_performSwallow_60 rfl rfl ?_
        refine T_aload_n (q := 1) dX2_performSwallow_61 rfl rfl ?_
        refine T_getI cf0 fr_X2_59 dX2_performSwallow_62 ho1 rfl ?_
        refine T_callVvw (As := [.int (b9.1 o1 2)]) (st := []) mv_X2_142 (by decide) dX2_performSwallow_65 ho2 (fun b hb => mX4_leave G l o2 ho2 (b9.1 o1 2) b9 b hb) rfl rfl (Nat.le_of_ble_eq_true rfl) (fun b10 => ?_)
        refine T_iconst (v := 1) dX2_performSwallow_68 (by decide) ?_
        exact T_end (fun h => by cases h; exact V_zret (Or.inr rfl) dX2_performSwallow_69)
set_option maxHeartbeats 4000000 in
set_option maxRecDepth 100000 in
theorem mX2_performBack (G : Gw) (l : Launch) (o0 : Nat) (ho0 : shp o0 = 2) (o1 : Nat) (ho1 : shp o1 = 0) (o2 : Nat) (ho2 : shp o2 = 3) (M : Mem) (a : Int32 × Mem) (h : fX2_performBack o0 o1 o2 M = some a) : CtP G l yX2_performBack cX2_performBack 10 (some .boolean) 2 44 [.ref (adr G o0), .ref (adr G o1), .ref (adr G o2)] M (some (.int a.1)) a.2 := by
  refine CtP.ofV (by decide) (Nat.le_of_ble_eq_true rfl) ?_
  refine (?_ : T G l RX2 cX2_performBack 10 (some .boolean) (rmOf 2 44) 0 0 (FinM G (some (.int a.1)) a.2) (fun x => x = a) 0 [(0, .ref (adr G o0)), (1, .ref (adr G o1)), (2, .ref (adr G o2))] [] M (fX2_performBack o0 o1 o2 M)) a h rfl
  clear h
  unfold fX2_performBack
  refine T_aload_n (q := 0) dX2_performBack_0 rfl rfl ?_
  refine T_aload_n (q := 1) dX2_performBack_1 rfl rfl ?_
  refine T_getI cf0 fr_X2_59 dX2_performBack_2 ho1 rfl ?_
  refine T_callVi (As := [.int (M.1 o1 2)]) (st := []) mv_X2_145 (by decide) dX2_performBack_5 ho0 (fun b hb => mX2_hasAct G l o0 ho0 (M.1 o1 2) M b hb) rfl rfl (Nat.le_of_ble_eq_true rfl) (fun b1 => ?_)
  refine T_if_ne (tgt := 13) dX2_performBack_8 (by decide) (fun hc2 => ?_) (fun hc2 => ?_)
  · refine T_iconst (v := 0) dX2_performBack_11 (by decide) ?_
    exact T_end (fun h => by cases h; exact V_zret (Or.inl rfl) dX2_performBack_12)
  · refine T_aload_n (q := 0) dX2_performBack_13 rfl rfl ?_
    refine T_getR cf2 fr_X2_17 dX2_performBack_14 ho0 rfl ?_
    refine T_aload_n (q := 1) dX2_performBack_17 rfl rfl ?_
    refine T_getI cf0 fr_X2_59 dX2_performBack_18 ho1 rfl ?_
    refine T_aald dX2_performBack_21 ⟨by have := (sf_2_1 ho0); omega, by have := (sf_2_1 ho0); omega⟩ (fun hi3 => ?_)
    refine T_astore_n_G (lv' := fun o4 => [(3, .ref (adr G o4)), (0, .ref (adr G o0)), (1, .ref (adr G o1)), (2, .ref (adr G o2))]) (sa_12 (sf_2_1 ho0) hi3) dX2_performBack_22 rfl (by decide) (fun _ => rfl) (fun o4 ho4 => ?_)
    refine T_aload_n (q := 1) dX2_performBack_23 rfl rfl ?_
    refine T_aload_n (q := 0) dX2_performBack_24 rfl rfl ?_
    refine T_getI cf0 fr_X2_97 dX2_performBack_25 ho4 rfl ?_
    refine T_callVr (As := [.int (M.1 o4 5)]) (st := []) mv_X2_89 (by decide) dX2_performBack_28 ho0 (fun b hb => mX2_momentBehind G l o0 ho0 (M.1 o4 5) M b hb) rfl rfl (Nat.le_of_ble_eq_true rfl) (fun b5 => ?_)
    refine T_gd (fun hg6 => ?_)
    refine T_astore_G (lv' := fun o7 => [(4, .ref (adr G o7)), (3, .ref (adr G o4)), (0, .ref (adr G o0)), (1, .ref (adr G o1)), (2, .ref (adr G o2))]) hg6 dX2_performBack_31 (by decide) (fun _ => rfl) (fun o7 ho7 => ?_)
    refine T_aload_n (q := 1) dX2_performBack_33 rfl rfl ?_
    refine T_getL cf0 fr_X2_100 dX2_performBack_34 ho4 rfl ?_
    refine T_aload_n (q := 4) dX2_performBack_37 rfl rfl ?_
    refine T_aload_n (q := 1) dX2_performBack_38 rfl rfl ?_
    refine T_callVi (As := []) (st := [.ref (adr G o2), .long (M.2 o4 7)]) mv_X2_148 (by decide) dX2_performBack_39 ho4 (fun b hb => mX0_receiver G l o4 ho4 M b hb) rfl rfl (Nat.le_of_ble_eq_true rfl) (fun b8 => ?_)
    refine T_callVl (As := [.int b8]) (st := [.long (M.2 o4 7)]) mv_X2_132 (by decide) dX2_performBack_42 ho2 (fun b hb => mX4_heldBy G l o2 ho2 b8 M b hb) rfl rfl (Nat.le_of_ble_eq_true rfl) (fun b9 => ?_)
    refine T_land dX2_performBack_45 ?_
    refine T_lstore_G (lv' := fun v10 => [(5, .long v10), (4, .ref (adr G o7)), (3, .ref (adr G o4)), (0, .ref (adr G o0)), (1, .ref (adr G o1)), (2, .ref (adr G o2))]) dX2_performBack_46 (by decide) (fun _ => rfl) (fun v10 => ?_)
    refine T_iconst (v := 0) dX2_performBack_48 (by decide) ?_
    refine T_istore (lv' := [(7, .int (0 : Int32)), (5, .long v10), (4, .ref (adr G o7)), (3, .ref (adr G o4)), (0, .ref (adr G o0)), (1, .ref (adr G o1)), (2, .ref (adr G o2))]) dX2_performBack_49 (by decide) rfl ?_
    refine T_bind (X := fun r27 => V G l RX2 cX2_performBack 10 (some .boolean) (rmOf 2 44) 0 0 (FinM G (some (.int a.1)) a.2) 118 [(7, .int r27.1), (5, .long v10), (4, .ref (adr G o7)), (3, .ref (adr G o4)), (0, .ref (adr G o0)), (1, .ref (adr G o1)), (2, .ref (adr G o2))] [] r27.2) (T_loop (fun s11 => [(7, .int s11.1), (5, .long v10), (4, .ref (adr G o7)), (3, .ref (adr G o4)), (0, .ref (adr G o0)), (1, .ref (adr G o1)), (2, .ref (adr G o2))]) (fun s11 => s11.2) (fun s11 => ?_) ((0 : Int32), M)) (fun r27 => ?_)
    · unfold wX2_performBack_51
      refine T_iload (q := 0) dX2_performBack_51 rfl ?_
      refine T_bipush (v := 11) dX2_performBack_53 (by decide) ?_
      refine T_icmp_ge (tgt := 118) dX2_performBack_55 (by decide) (fun hc12 => ?_) (fun hc12 => ?_)
      · exact T_end (fun h => V_sub [0, 1, 2, 3, 4, 5, 6] rfl h)
      · refine T_lload (q := 1) dX2_performBack_58 rfl ?_
        refine T_aload (q := 2) dX2_performBack_60 rfl ?_
        refine T_iload (q := 0) dX2_performBack_62 rfl ?_
        refine T_callVl (As := [.int s11.1]) (st := [.long v10]) mv_X2_132 (by decide) dX2_performBack_64 ho7 (fun b hb => mX4_heldBy G l o7 ho7 s11.1 s11.2 b hb) rfl rfl (Nat.le_of_ble_eq_true rfl) (fun b13 => ?_)
        refine T_land dX2_performBack_67 ?_
        refine T_lstore_G (lv' := fun v14 => [(8, .long v14), (7, .int s11.1), (5, .long v10), (4, .ref (adr G o7)), (3, .ref (adr G o4)), (0, .ref (adr G o0)), (1, .ref (adr G o1)), (2, .ref (adr G o2))]) dX2_performBack_68 (by decide) (fun _ => rfl) (fun v14 => ?_)
        refine T_lload (q := 0) dX2_performBack_70 rfl ?_
        refine T_lconst (v := 0) dX2_performBack_72 (by decide) ?_
        refine T_lcmp dX2_performBack_73 ?_
        refine T_if_eq (tgt := 112) dX2_performBack_74 (by decide) (fun hc15 => ?_) (fun hc15 => ?_)
        · refine T_iinc_G (q := 1) (y := s11.1 + 1) (lv' := fun v16 => [(7, .int v16), (8, .long v14), (5, .long v10), (4, .ref (adr G o7)), (3, .ref (adr G o4)), (0, .ref (adr G o0)), (1, .ref (adr G o1)), (2, .ref (adr G o2))]) dX2_performBack_112 rfl rfl (by decide) (fun _ => rfl) (fun v16 => ?_)
          refine T_goto (tgt := 51) dX2_performBack_115 (by decide) ?_
          exact T_end (fun h => V_sub [0, 2, 3, 4, 5, 6, 7] rfl h)
        · refine T_iload (q := 1) dX2_performBack_77 rfl ?_
          refine T_bipush (v := 10) dX2_performBack_79 (by decide) ?_
          refine T_icmp_eq (tgt := 93) dX2_performBack_81 (by decide) (fun hc17 => ?_) (fun hc17 => ?_)
          · refine T_aload_n (q := 6) dX2_performBack_93 rfl rfl ?_
            refine T_dup dX2_performBack_94 rfl ?_
            refine T_getL cf0 fr_X2_100 dX2_performBack_95 ho1 rfl ?_
            refine T_lload (q := 0) dX2_performBack_98 rfl ?_
            refine T_lor dX2_performBack_100 ?_
            refine T_putL cf0 fr_X2_100 pt_0_7 dX2_performBack_101 ho1 rfl (fun M18 => ?_)
            refine T_aload_n (q := 7) dX2_performBack_104 rfl rfl ?_
            refine T_lload (q := 0) dX2_performBack_105 rfl ?_
            refine T_iload (q := 1) dX2_performBack_107 rfl ?_
            refine T_callVvw (As := [.long v14, .int s11.1]) (st := []) mv_X2_138 (by decide) dX2_performBack_109 ho2 (fun b hb => mX4_give G l o2 ho2 v14 s11.1 M18 b hb) rfl rfl (Nat.le_of_ble_eq_true rfl) (fun b19 => ?_)
            refine T_iinc_G (q := 1) (y := s11.1 + 1) (lv' := fun v20 => [(7, .int v20), (8, .long v14), (5, .long v10), (4, .ref (adr G o7)), (3, .ref (adr G o4)), (0, .ref (adr G o0)), (1, .ref (adr G o1)), (2, .ref (adr G o2))]) dX2_performBack_112 rfl rfl (by decide) (fun _ => rfl) (fun v20 => ?_)
            refine T_goto (tgt := 51) dX2_performBack_115 (by decide) ?_
            exact T_end (fun h => V_sub [0, 2, 3, 4, 5, 6, 7] rfl h)
          · refine T_aload_n (q := 7) dX2_performBack_84 rfl rfl ?_
            refine T_iload (q := 1) dX2_performBack_85 rfl ?_
            refine T_callVi (As := [.int s11.1]) (st := []) mv_X2_126 (by decide) dX2_performBack_87 ho2 (fun b hb => mX4_isThere G l o2 ho2 s11.1 s11.2 b hb) rfl rfl (Nat.le_of_ble_eq_true rfl) (fun b21 => ?_)
            refine T_if_eq (tgt := 112) dX2_performBack_90 (by decide) (fun hc22 => ?_) (fun hc22 => ?_)
            · refine T_iinc_G (q := 1) (y := s11.1 + 1) (lv' := fun v23 => [(7, .int v23), (8, .long v14), (5, .long v10), (4, .ref (adr G o7)), (3, .ref (adr G o4)), (0, .ref (adr G o0)), (1, .ref (adr G o1)), (2, .ref (adr G o2))]) dX2_performBack_112 rfl rfl (by decide) (fun _ => rfl) (fun v23 => ?_)
              refine T_goto (tgt := 51) dX2_performBack_115 (by decide) ?_
              exact T_end (fun h => V_sub [0, 2, 3, 4, 5, 6, 7] rfl h)
            · refine T_aload_n (q := 6) dX2_performBack_93 rfl rfl ?_
              refine T_dup dX2_performBack_94 rfl ?_
              refine T_getL cf0 fr_X2_100 dX2_performBack_95 ho1 rfl ?_
              refine T_lload (q := 0) dX2_performBack_98 rfl ?_
              refine T_lor dX2_performBack_100 ?_
              refine T_putL cf0 fr_X2_100 pt_0_7 dX2_performBack_101 ho1 rfl (fun M24 => ?_)
              refine T_aload_n (q := 7) dX2_performBack_104 rfl rfl ?_
              refine T_lload (q := 0) dX2_performBack_105 rfl ?_
              refine T_iload (q := 1) dX2_performBack_107 rfl ?_
              refine T_callVvw (As := [.long v14, .int s11.1]) (st := []) mv_X2_138 (by decide) dX2_performBack_109 ho2 (fun b hb => mX4_give G l o2 ho2 v14 s11.1 M24 b hb) rfl rfl (Nat.le_of_ble_eq_true rfl) (fun b25 => ?_)
              refine T_iinc_G (q := 1) (y := s11.1 + 1) (lv' := fun v26 => [(7, .int v26), (8, .long v14), (5, .long v10), (4, .ref (adr G o7)), (3, .ref (adr G o4)), (0, .ref (adr G o0)), (1, .ref (adr G o1)), (2, .ref (adr G o2))]) dX2_performBack_112 rfl rfl (by decide) (fun _ => rfl) (fun v26 => ?_)
              refine T_goto (tgt := 51) dX2_performBack_115 (by decide) ?_
              exact T_end (fun h => V_sub [0, 2, 3, 4, 5, 6, 7] rfl h)
    · change T G l RX2 cX2_performBack 10 (some .boolean) (rmOf 2 44) 0 0 (FinM G (some (.int a.1)) a.2) _ 118 [(7, .int r27.1), (5, .long v10), (4, .ref (adr G o7)), (3, .ref (adr G o4)), (0, .ref (adr G o0)), (1, .ref (adr G o1)), (2, .ref (adr G o2))] [] r27.2 _
      refine T_aload_n (q := 5) dX2_performBack_118 rfl rfl ?_
      refine T_getL cf0 fr_X2_100 dX2_performBack_119 ho1 rfl ?_
      refine T_lconst (v := 0) dX2_performBack_122 (by decide) ?_
      refine T_lcmp dX2_performBack_123 ?_
      refine T_if_eq (tgt := 131) dX2_performBack_124 (by decide) (fun hc28 => ?_) (fun hc28 => ?_)
      · refine T_iconst (v := 0) dX2_performBack_131 (by decide) ?_
        exact T_end (fun h => by cases h; exact V_zret (Or.inl rfl) dX2_performBack_132)
      · refine T_iconst (v := 1) dX2_performBack_127 (by decide) ?_
        refine T_goto (tgt := 132) dX2_performBack_128 (by decide) ?_
        exact T_end (fun h => by cases h; exact V_zret (Or.inr rfl) dX2_performBack_132)
set_option maxHeartbeats 4000000 in
set_option maxRecDepth 100000 in
theorem mX2_performJoin (G : Gw) (l : Launch) (o0 : Nat) (ho0 : shp o0 = 0) (o1 : Nat) (ho1 : shp o1 = 3) (M : Mem) (a : Int32 × Mem) (h : fX2_performJoin o0 o1 M = some a) : CtP G l yX2_performJoin cX2_performJoin 2 (some .boolean) 2 42 [.ref (adr G o0), .ref (adr G o1)] M (some (.int a.1)) a.2 := by
  refine CtP.ofV (by decide) (Nat.le_of_ble_eq_true rfl) ?_
  refine (?_ : T G l RX2 cX2_performJoin 2 (some .boolean) (rmOf 2 42) 0 0 (FinM G (some (.int a.1)) a.2) (fun x => x = a) 0 [(0, .ref (adr G o0)), (1, .ref (adr G o1))] [] M (fX2_performJoin o0 o1 M)) a h rfl
  clear h
  unfold fX2_performJoin
  refine T_aload_n (q := 1) dX2_performJoin_0 rfl rfl ?_
  refine T_aload_n (q := 0) dX2_performJoin_1 rfl rfl ?_
  refine T_getI cf0 fr_X2_59 dX2_performJoin_2 ho0 rfl ?_
  refine T_callVi (As := [.int (M.1 o0 2)]) (st := []) mv_X2_126 (by decide) dX2_performJoin_5 ho1 (fun b hb => mX4_isThere G l o1 ho1 (M.1 o0 2) M b hb) rfl rfl (Nat.le_of_ble_eq_true rfl) (fun b1 => ?_)
  refine T_if_ne (tgt := 13) dX2_performJoin_8 (by decide) (fun hc2 => ?_) (fun hc2 => ?_)
  · refine T_iconst (v := 0) dX2_performJoin_11 (by decide) ?_
    exact T_end (fun h => by cases h; exact V_zret (Or.inl rfl) dX2_performJoin_12)
  · refine T_aload_n (q := 1) dX2_performJoin_13 rfl rfl ?_
    refine T_aload_n (q := 0) dX2_performJoin_14 rfl rfl ?_
    refine T_getI cf0 fr_X2_59 dX2_performJoin_15 ho0 rfl ?_
    refine T_aload_n (q := 0) dX2_performJoin_18 rfl rfl ?_
    refine T_getI cf0 fr_X2_62 dX2_performJoin_19 ho0 rfl ?_
    refine T_callVvw (As := [.int (M.1 o0 2), .int (M.1 o0 3)]) (st := []) mv_X2_152 (by decide) dX2_performJoin_22 ho1 (fun b hb => mX4_putUnder G l o1 ho1 (M.1 o0 2) (M.1 o0 3) M b hb) rfl rfl (Nat.le_of_ble_eq_true rfl) (fun b3 => ?_)
    refine T_iconst (v := 1) dX2_performJoin_25 (by decide) ?_
    exact T_end (fun h => by cases h; exact V_zret (Or.inr rfl) dX2_performJoin_26)
set_option maxHeartbeats 4000000 in
set_option maxRecDepth 100000 in
theorem mX2_perform (G : Gw) (l : Launch) (o0 : Nat) (ho0 : shp o0 = 2) (o1 : Nat) (ho1 : shp o1 = 0) (o2 : Nat) (ho2 : shp o2 = 3) (M : Mem) (a : Int32 × Mem) (h : fX2_perform o0 o1 o2 M = some a) : CtP G l yX2_perform cX2_perform 3 (some .boolean) 3 73 [.ref (adr G o0), .ref (adr G o1), .ref (adr G o2)] M (some (.int a.1)) a.2 := by
  refine CtP.ofV (by decide) (Nat.le_of_ble_eq_true rfl) ?_
  refine (?_ : T G l RX2 cX2_perform 3 (some .boolean) (rmOf 3 73) 0 0 (FinM G (some (.int a.1)) a.2) (fun x => x = a) 0 [(0, .ref (adr G o0)), (1, .ref (adr G o1)), (2, .ref (adr G o2))] [] M (fX2_perform o0 o1 o2 M)) a h rfl
  clear h
  unfold fX2_perform
  refine T_aload_n (q := 1) dX2_perform_0 rfl rfl ?_
  refine T_getI cf0 fr_X2_56 dX2_perform_1 ho1 rfl ?_
  refine T_split (fun hs1 => ?_) (fun hs1 => ?_)
  · refine T_tswIn (off := 32) (tgt := 36) dX2_perform_4 (by rw [hs1]; decide) (by rw [hs1]; decide) (by rw [hs1]; rfl) (by decide) ?_
    refine T_aload_n (q := 1) dX2_perform_36 rfl rfl ?_
    refine T_aload_n (q := 2) dX2_perform_37 rfl rfl ?_
    refine T_callSiw (As := [.ref (adr G o1), .ref (adr G o2)]) (st := []) ms_X2_111 (by decide) dX2_perform_38 (fun b hb => mX2_performFound G l o1 ho1 o2 ho2 M b hb) rfl rfl (Nat.le_of_ble_eq_true rfl) (fun b5 => ?_)
    refine T_gb (fun hz6 => ?_)
    exact T_end (fun h => by cases h; exact V_zret hz6 dX2_perform_41)
  · skip
    refine T_split (fun hs2 => ?_) (fun hs2 => ?_)
    · refine T_tswIn (off := 38) (tgt := 42) dX2_perform_4 (by rw [hs2]; decide) (by rw [hs2]; decide) (by rw [hs2]; rfl) (by decide) ?_
      refine T_aload_n (q := 1) dX2_perform_42 rfl rfl ?_
      refine T_aload_n (q := 2) dX2_perform_43 rfl rfl ?_
      refine T_callSiw (As := [.ref (adr G o1), .ref (adr G o2)]) (st := []) ms_X2_114 (by decide) dX2_perform_44 (fun b hb => mX2_performMove G l o1 ho1 o2 ho2 M b hb) rfl rfl (Nat.le_of_ble_eq_true rfl) (fun b7 => ?_)
      refine T_gb (fun hz8 => ?_)
      exact T_end (fun h => by cases h; exact V_zret hz8 dX2_perform_47)
    · skip
      refine T_split (fun hs3 => ?_) (fun hs3 => ?_)
      · refine T_tswIn (off := 44) (tgt := 48) dX2_perform_4 (by rw [hs3]; decide) (by rw [hs3]; decide) (by rw [hs3]; rfl) (by decide) ?_
        refine T_aload_n (q := 0) dX2_perform_48 rfl rfl ?_
        refine T_aload_n (q := 1) dX2_perform_49 rfl rfl ?_
        refine T_aload_n (q := 2) dX2_perform_50 rfl rfl ?_
        refine T_callViw (As := [.ref (adr G o1), .ref (adr G o2)]) (st := []) mv_X2_117 (by decide) dX2_perform_51 ho0 (fun b hb => mX2_performSwallow G l o0 ho0 o1 ho1 o2 ho2 M b hb) rfl rfl (Nat.le_of_ble_eq_true rfl) (fun b9 => ?_)
        refine T_gb (fun hz10 => ?_)
        exact T_end (fun h => by cases h; exact V_zret hz10 dX2_perform_54)
      · skip
        refine T_split (fun hs4 => ?_) (fun hs4 => ?_)
        · refine T_tswIn (off := 51) (tgt := 55) dX2_perform_4 (by rw [hs4]; decide) (by rw [hs4]; decide) (by rw [hs4]; rfl) (by decide) ?_
          refine T_aload_n (q := 0) dX2_perform_55 rfl rfl ?_
          refine T_aload_n (q := 1) dX2_perform_56 rfl rfl ?_
          refine T_aload_n (q := 2) dX2_perform_57 rfl rfl ?_
          refine T_callViw (As := [.ref (adr G o1), .ref (adr G o2)]) (st := []) mv_X2_120 (by decide) dX2_perform_58 ho0 (fun b hb => mX2_performBack G l o0 ho0 o1 ho1 o2 ho2 M b hb) rfl rfl (Nat.le_of_ble_eq_true rfl) (fun b11 => ?_)
          refine T_gb (fun hz12 => ?_)
          exact T_end (fun h => by cases h; exact V_zret hz12 dX2_perform_61)
        · skip
          refine T_tswOut (tgt := 62) dX2_perform_4 (by have hz := tsw0 (x := M.1 o1 0) (n := 4) (by decide) (fun j hj => by match j, hj with | 0, _ => exact hs1 | 1, _ => exact hs2 | 2, _ => exact hs3 | 3, _ => exact hs4); exact hz) (by decide) ?_
          refine T_aload_n (q := 1) dX2_perform_62 rfl rfl ?_
          refine T_aload_n (q := 2) dX2_perform_63 rfl rfl ?_
          refine T_callSiw (As := [.ref (adr G o1), .ref (adr G o2)]) (st := []) ms_X2_123 (by decide) dX2_perform_64 (fun b hb => mX2_performJoin G l o1 ho1 o2 ho2 M b hb) rfl rfl (Nat.le_of_ble_eq_true rfl) (fun b13 => ?_)
          refine T_gb (fun hz14 => ?_)
          exact T_end (fun h => by cases h; exact V_zret hz14 dX2_perform_67)
set_option maxHeartbeats 4000000 in
set_option maxRecDepth 100000 in
theorem mX2_redoFrom (G : Gw) (l : Launch) (o0 : Nat) (ho0 : shp o0 = 2) (x1 : Int32) (M : Mem) (a : Mem) (h : fX2_redoFrom o0 x1 M = some a) : CtP G l yX2_redoFrom cX2_redoFrom 5 none 4 95 [.ref (adr G o0), .int x1] M (none) a := by
  refine CtP.ofV (by decide) (Nat.le_of_ble_eq_true rfl) ?_
  refine (?_ : T G l RX2 cX2_redoFrom 5 none (rmOf 4 95) 0 0 (FinM G (none) a) (fun x => x = a) 0 [(0, .ref (adr G o0)), (1, .int x1)] [] M (fX2_redoFrom o0 x1 M)) a h rfl
  clear h
  unfold fX2_redoFrom
  refine T_iload_n (q := 1) dX2_redoFrom_0 rfl rfl ?_
  refine T_istore_n (lv' := [(2, .int x1), (0, .ref (adr G o0)), (1, .int x1)]) dX2_redoFrom_1 rfl (by decide) rfl ?_
  refine T_bind (X := fun r20 => V G l RX2 cX2_redoFrom 5 none (rmOf 4 95) 0 0 (FinM G (none) a) 70 [(2, .int r20.1), (0, .ref (adr G o0)), (1, .int x1)] [] r20.2) (T_loop (fun s1 => [(2, .int s1.1), (0, .ref (adr G o0)), (1, .int x1)]) (fun s1 => s1.2) (fun s1 => ?_) (x1, M)) (fun r20 => ?_)
  · unfold wX2_redoFrom_2
    refine T_iload_n (q := 0) dX2_redoFrom_2 rfl rfl ?_
    refine T_aload_n (q := 1) dX2_redoFrom_3 rfl rfl ?_
    refine T_getI cf2 fr_X2_48 dX2_redoFrom_4 ho0 rfl ?_
    refine T_icmp_ge (tgt := 70) dX2_redoFrom_7 (by decide) (fun hc2 => ?_) (fun hc2 => ?_)
    · exact T_end (fun h => V_sub [0, 1, 2] rfl h)
    · refine T_aload_n (q := 1) dX2_redoFrom_10 rfl rfl ?_
      refine T_iload_n (q := 0) dX2_redoFrom_11 rfl rfl ?_
      refine T_callVr (As := [.int s1.1]) (st := []) mv_X2_85 (by decide) dX2_redoFrom_12 ho0 (fun b hb => mX2_actAt G l o0 ho0 s1.1 s1.2 b hb) rfl rfl (Nat.le_of_ble_eq_true rfl) (fun b3 => ?_)
      refine T_gd (fun hg4 => ?_)
      refine T_astore_n_G (lv' := fun o5 => [(3, .ref (adr G o5)), (2, .int s1.1), (0, .ref (adr G o0)), (1, .int x1)]) hg4 dX2_redoFrom_15 rfl (by decide) (fun _ => rfl) (fun o5 ho5 => ?_)
      refine T_aload_n (q := 2) dX2_redoFrom_16 rfl rfl ?_
      refine T_iload_n (q := 1) dX2_redoFrom_17 rfl rfl ?_
      refine T_iconst (v := 1) dX2_redoFrom_18 (by decide) ?_
      refine T_iadd dX2_redoFrom_19 ?_
      refine T_callVr (As := [.int (s1.1 + (1 : Int32))]) (st := []) mv_X2_89 (by decide) dX2_redoFrom_20 ho0 (fun b hb => mX2_momentBehind G l o0 ho0 (s1.1 + (1 : Int32)) s1.2 b hb) rfl rfl (Nat.le_of_ble_eq_true rfl) (fun b6 => ?_)
      refine T_gd (fun hg7 => ?_)
      refine T_astore_G (lv' := fun o8 => [(4, .ref (adr G o8)), (3, .ref (adr G o5)), (2, .int s1.1), (0, .ref (adr G o0)), (1, .int x1)]) hg7 dX2_redoFrom_23 (by decide) (fun _ => rfl) (fun o8 ho8 => ?_)
      refine T_aload (q := 0) dX2_redoFrom_25 rfl ?_
      refine T_aload_n (q := 3) dX2_redoFrom_27 rfl rfl ?_
      refine T_iload_n (q := 2) dX2_redoFrom_28 rfl rfl ?_
      refine T_callVr (As := [.int s1.1]) (st := [.ref (adr G o8)]) mv_X2_89 (by decide) dX2_redoFrom_29 ho0 (fun b hb => mX2_momentBehind G l o0 ho0 s1.1 s1.2 b hb) rfl rfl (Nat.le_of_ble_eq_true rfl) (fun b9 => ?_)
      refine T_gd (fun hg10 => ?_)
      refine T_callVvw (As := [.ref (adr G b9)]) (st := []) mv_X2_93 (by decide) dX2_redoFrom_32 ho8 (fun b hb => mX4_becomeLike G l o8 ho8 b9 hg10 s1.2 b hb) rfl rfl (Nat.le_of_ble_eq_true rfl) (fun b11 => ?_)
      refine T_aload_n (q := 1) dX2_redoFrom_35 rfl rfl ?_
      refine T_iload_n (q := 2) dX2_redoFrom_36 rfl rfl ?_
      refine T_putI cf0 fr_X2_97 pt_0_5 dX2_redoFrom_37 ho5 rfl (fun M12 => ?_)
      refine T_aload_n (q := 1) dX2_redoFrom_40 rfl rfl ?_
      refine T_lconst (v := 0) dX2_redoFrom_41 (by decide) ?_
      refine T_putL cf0 fr_X2_100 pt_0_7 dX2_redoFrom_42 ho5 rfl (fun M13 => ?_)
      refine T_aload_n (q := 1) dX2_redoFrom_45 rfl rfl ?_
      refine T_aload_n (q := 3) dX2_redoFrom_46 rfl rfl ?_
      refine T_aload_n (q := 1) dX2_redoFrom_47 rfl rfl ?_
      refine T_aload (q := 0) dX2_redoFrom_48 rfl ?_
      refine T_callViw (As := [.ref (adr G o5), .ref (adr G o8)]) (st := [.ref (adr G o5)]) mv_X2_103 (by decide) dX2_redoFrom_50 ho0 (fun b hb => mX2_perform G l o0 ho0 o5 ho5 o8 ho8 M13 b hb) rfl rfl (Nat.le_of_ble_eq_true rfl) (fun b14 => ?_)
      refine T_if_ne (tgt := 60) dX2_redoFrom_53 (by decide) (fun hc15 => ?_) (fun hc15 => ?_)
      · refine T_iconst (v := 1) dX2_redoFrom_56 (by decide) ?_
        refine T_goto (tgt := 61) dX2_redoFrom_57 (by decide) ?_
        refine T_putZ cf0 fr_X2_107 pt_0_6 dX2_redoFrom_61 ho5 rfl (fun M16 => ?_)
        refine T_iinc_G (q := 2) (y := s1.1 + 1) (lv' := fun v17 => [(2, .int v17), (4, .ref (adr G o8)), (3, .ref (adr G o5)), (0, .ref (adr G o0)), (1, .int x1)]) dX2_redoFrom_64 rfl rfl (by decide) (fun _ => rfl) (fun v17 => ?_)
        refine T_goto (tgt := 2) dX2_redoFrom_67 (by decide) ?_
        exact T_end (fun h => V_sub [0, 3, 4] rfl h)
      · refine T_iconst (v := 0) dX2_redoFrom_60 (by decide) ?_
        refine T_putZ cf0 fr_X2_107 pt_0_6 dX2_redoFrom_61 ho5 rfl (fun M18 => ?_)
        refine T_iinc_G (q := 2) (y := s1.1 + 1) (lv' := fun v19 => [(2, .int v19), (4, .ref (adr G o8)), (3, .ref (adr G o5)), (0, .ref (adr G o0)), (1, .int x1)]) dX2_redoFrom_64 rfl rfl (by decide) (fun _ => rfl) (fun v19 => ?_)
        refine T_goto (tgt := 2) dX2_redoFrom_67 (by decide) ?_
        exact T_end (fun h => V_sub [0, 3, 4] rfl h)
  · change T G l RX2 cX2_redoFrom 5 none (rmOf 4 95) 0 0 (FinM G (none) a) _ 70 [(2, .int r20.1), (0, .ref (adr G o0)), (1, .int x1)] [] r20.2 _
    exact T_end (fun h => by cases h; exact V_vret dX2_redoFrom_70)
set_option maxHeartbeats 4000000 in
set_option maxRecDepth 100000 in
theorem mX2_dropLatest (G : Gw) (l : Launch) (o0 : Nat) (ho0 : shp o0 = 2) (M : Mem) (a : Mem) (h : fX2_dropLatest o0 M = some a) : CtP G l yX2_dropLatest cX2_dropLatest 2 none 5 119 [.ref (adr G o0)] M (none) a := by
  refine CtP.ofV (by decide) (Nat.le_of_ble_eq_true rfl) ?_
  refine (?_ : T G l RX2 cX2_dropLatest 2 none (rmOf 5 119) 0 0 (FinM G (none) a) (fun x => x = a) 0 [(0, .ref (adr G o0))] [] M (fX2_dropLatest o0 M)) a h rfl
  clear h
  unfold fX2_dropLatest
  refine T_aload_n (q := 0) dX2_dropLatest_0 rfl rfl ?_
  refine T_getI cf2 fr_X2_48 dX2_dropLatest_1 ho0 rfl ?_
  refine T_if_le (tgt := 60) dX2_dropLatest_4 (by decide) (fun hc1 => ?_) (fun hc1 => ?_)
  · exact T_end (fun h => by cases h; exact V_vret dX2_dropLatest_60)
  · refine T_aload_n (q := 0) dX2_dropLatest_7 rfl rfl ?_
    refine T_dup dX2_dropLatest_8 rfl ?_
    refine T_getI cf2 fr_X2_48 dX2_dropLatest_9 ho0 rfl ?_
    refine T_iconst (v := 1) dX2_dropLatest_12 (by decide) ?_
    refine T_isub dX2_dropLatest_13 ?_
    refine T_putI cf2 fr_X2_48 pt_2_5 dX2_dropLatest_14 ho0 rfl (fun M2 => ?_)
    refine T_aload_n (q := 0) dX2_dropLatest_17 rfl rfl ?_
    refine T_aload_n (q := 0) dX2_dropLatest_18 rfl rfl ?_
    refine T_getR cf2 fr_X2_17 dX2_dropLatest_19 ho0 rfl ?_
    refine T_aload_n (q := 0) dX2_dropLatest_22 rfl rfl ?_
    refine T_getI cf2 fr_X2_48 dX2_dropLatest_23 ho0 rfl ?_
    refine T_aald dX2_dropLatest_26 ⟨by have := (sf_2_1 ho0); omega, by have := (sf_2_1 ho0); omega⟩ (fun hi3 => ?_)
    refine T_getI cf0 fr_X2_65 dX2_dropLatest_27 (sa_12 (sf_2_1 ho0) hi3) rfl ?_
    refine T_callVi (As := [.int (M2.1 (ra (rf o0 1) (M2.1 o0 5).toNatClampNeg) 1)]) (st := []) mv_X2_72 (by decide) dX2_dropLatest_30 ho0 (fun b hb => mX2_doneUpTo G l o0 ho0 (M2.1 (ra (rf o0 1) (M2.1 o0 5).toNatClampNeg) 1) M2 b hb) rfl rfl (Nat.le_of_ble_eq_true rfl) (fun b4 => ?_)
    refine T_istore_n (lv' := [(1, .int b4), (0, .ref (adr G o0))]) dX2_dropLatest_33 rfl (by decide) rfl ?_
    refine T_aload_n (q := 1) dX2_dropLatest_34 rfl rfl ?_
    refine T_getR cf2 fr_X2_21 dX2_dropLatest_35 ho0 rfl ?_
    refine T_iload_n (q := 0) dX2_dropLatest_38 rfl rfl ?_
    refine T_iconst (v := 1) dX2_dropLatest_39 (by decide) ?_
    refine T_iadd dX2_dropLatest_40 ?_
    refine T_aload_n (q := 1) dX2_dropLatest_41 rfl rfl ?_
    refine T_getR cf2 fr_X2_21 dX2_dropLatest_42 ho0 rfl ?_
    refine T_iload_n (q := 0) dX2_dropLatest_45 rfl rfl ?_
    refine T_aload_n (q := 1) dX2_dropLatest_46 rfl rfl ?_
    refine T_getI cf2 fr_X2_48 dX2_dropLatest_47 ho0 rfl ?_
    refine T_iload_n (q := 0) dX2_dropLatest_50 rfl rfl ?_
    refine T_isub dX2_dropLatest_51 ?_
    refine T_cpi aw_X2_75 ⟨by decide, Nat.le_of_ble_eq_true rfl⟩ dX2_dropLatest_52 (sf_2_2 ho0) (sf_2_2 ho0) (fun M5 => ?_)
    refine T_aload_n (q := 1) dX2_dropLatest_55 rfl rfl ?_
    refine T_iload_n (q := 0) dX2_dropLatest_56 rfl rfl ?_
    refine T_callVvw (As := [.int b4]) (st := []) mv_X2_81 (by decide) dX2_dropLatest_57 ho0 (fun b hb => mX2_redoFrom G l o0 ho0 b4 M5 b hb) rfl rfl (Nat.le_of_ble_eq_true rfl) (fun b6 => ?_)
    exact T_end (fun h => by cases h; exact V_vret dX2_dropLatest_60)
set_option maxHeartbeats 4000000 in
set_option maxRecDepth 100000 in
theorem mX2_momentAt (G : Gw) (l : Launch) (o0 : Nat) (ho0 : shp o0 = 2) (x1 : Int32) (M : Mem) (a : Nat) (h : fX2_momentAt o0 x1 M = some a) : CtP G l yX2_momentAt cX2_momentAt 2 (some (.object "ShireLines$Moment")) 1 23 [.ref (adr G o0), .int x1] M (some (.ref (adr G a))) M := by
  refine CtP.ofV (by decide) (Nat.le_of_ble_eq_true rfl) ?_
  refine (?_ : T G l RX2 cX2_momentAt 2 (some (.object "ShireLines$Moment")) (rmOf 1 23) 0 0 (FinM G (some (.ref (adr G a))) M) (fun x => x = a) 0 [(0, .ref (adr G o0)), (1, .int x1)] [] M (fX2_momentAt o0 x1 M)) a h rfl
  clear h
  unfold fX2_momentAt
  refine T_aload_n (q := 0) dX2_momentAt_0 rfl rfl ?_
  refine T_aload_n (q := 0) dX2_momentAt_1 rfl rfl ?_
  refine T_iload_n (q := 1) dX2_momentAt_2 rfl rfl ?_
  refine T_callVi (As := [.int x1]) (st := [.ref (adr G o0)]) mv_X2_72 (by decide) dX2_momentAt_3 ho0 (fun b hb => mX2_doneUpTo G l o0 ho0 x1 M b hb) rfl rfl (Nat.le_of_ble_eq_true rfl) (fun b1 => ?_)
  refine T_callVr (As := [.int b1]) (st := []) mv_X2_89 (by decide) dX2_momentAt_6 ho0 (fun b hb => mX2_momentBehind G l o0 ho0 b1 M b hb) rfl rfl (Nat.le_of_ble_eq_true rfl) (fun b2 => ?_)
  refine T_gd (fun hg3 => ?_)
  exact T_end (fun h => by cases h; exact V_aret dX2_momentAt_9)
set_option maxHeartbeats 4000000 in
set_option maxRecDepth 100000 in
theorem mX2_isHundred (G : Gw) (l : Launch) (o0 : Nat) (ho0 : shp o0 = 2) (x1 : Int32) (M : Mem) (a : Int32) (h : fX2_isHundred o0 x1 M = some a) : CtP G l yX2_isHundred cX2_isHundred 2 (some .boolean) 2 42 [.ref (adr G o0), .int x1] M (some (.int a)) M := by
  refine CtP.ofV (by decide) (Nat.le_of_ble_eq_true rfl) ?_
  refine (?_ : T G l RX2 cX2_isHundred 2 (some .boolean) (rmOf 2 42) 0 0 (FinM G (some (.int a)) M) (fun x => x = a) 0 [(0, .ref (adr G o0)), (1, .int x1)] [] M (fX2_isHundred o0 x1 M)) a h rfl
  clear h
  unfold fX2_isHundred
  refine T_aload_n (q := 0) dX2_isHundred_0 rfl rfl ?_
  refine T_iload_n (q := 1) dX2_isHundred_1 rfl rfl ?_
  refine T_callVi (As := [.int x1]) (st := []) mv_X2_44 (by decide) dX2_isHundred_2 ho0 (fun b hb => mX2_kindOf G l o0 ho0 x1 M b hb) rfl rfl (Nat.le_of_ble_eq_true rfl) (fun b1 => ?_)
  refine T_iconst (v := 3) dX2_isHundred_5 (by decide) ?_
  refine T_icmp_ne (tgt := 13) dX2_isHundred_6 (by decide) (fun hc2 => ?_) (fun hc2 => ?_)
  · refine T_iconst (v := 1) dX2_isHundred_9 (by decide) ?_
    refine T_goto (tgt := 14) dX2_isHundred_10 (by decide) ?_
    exact T_end (fun h => by cases h; exact V_zret (Or.inr rfl) dX2_isHundred_14)
  · refine T_iconst (v := 0) dX2_isHundred_13 (by decide) ?_
    exact T_end (fun h => by cases h; exact V_zret (Or.inl rfl) dX2_isHundred_14)
set_option maxHeartbeats 4000000 in
set_option maxRecDepth 100000 in
theorem mX2_heldAt (G : Gw) (l : Launch) (o0 : Nat) (ho0 : shp o0 = 2) (x1 : Int32) (x2 : Int32) (M : Mem) (a : Int64) (h : fX2_heldAt o0 x1 x2 M = some a) : CtP G l yX2_heldAt cX2_heldAt 4 (some .long) 3 63 [.ref (adr G o0), .int x1, .int x2] M (some (.long a)) M := by
  refine CtP.ofV (by decide) (Nat.le_of_ble_eq_true rfl) ?_
  refine (?_ : T G l RX2 cX2_heldAt 4 (some .long) (rmOf 3 63) 0 0 (FinM G (some (.long a)) M) (fun x => x = a) 0 [(0, .ref (adr G o0)), (1, .int x1), (2, .int x2)] [] M (fX2_heldAt o0 x1 x2 M)) a h rfl
  clear h
  unfold fX2_heldAt
  refine T_aload_n (q := 0) dX2_heldAt_0 rfl rfl ?_
  refine T_iload_n (q := 2) dX2_heldAt_1 rfl rfl ?_
  refine T_callVr (As := [.int x2]) (st := []) mv_X2_156 (by decide) dX2_heldAt_2 ho0 (fun b hb => mX2_momentAt G l o0 ho0 x2 M b hb) rfl rfl (Nat.le_of_ble_eq_true rfl) (fun b1 => ?_)
  refine T_gd (fun hg2 => ?_)
  refine T_astore_n_G (lv' := fun o3 => [(3, .ref (adr G o3)), (0, .ref (adr G o0)), (1, .int x1), (2, .int x2)]) hg2 dX2_heldAt_5 rfl (by decide) (fun _ => rfl) (fun o3 ho3 => ?_)
  refine T_aload_n (q := 1) dX2_heldAt_6 rfl rfl ?_
  refine T_iload_n (q := 2) dX2_heldAt_7 rfl rfl ?_
  refine T_callVi (As := [.int x1]) (st := []) mv_X2_159 (by decide) dX2_heldAt_8 ho0 (fun b hb => mX2_isHundred G l o0 ho0 x1 M b hb) rfl rfl (Nat.le_of_ble_eq_true rfl) (fun b4 => ?_)
  refine T_if_eq (tgt := 22) dX2_heldAt_11 (by decide) (fun hc5 => ?_) (fun hc5 => ?_)
  · refine T_aload_n (q := 0) dX2_heldAt_22 rfl rfl ?_
    refine T_iload_n (q := 2) dX2_heldAt_23 rfl rfl ?_
    refine T_callVl (As := [.int x1]) (st := []) mv_X2_132 (by decide) dX2_heldAt_24 ho3 (fun b hb => mX4_heldBy G l o3 ho3 x1 M b hb) rfl rfl (Nat.le_of_ble_eq_true rfl) (fun b6 => ?_)
    exact T_end (fun h => by cases h; exact V_lret dX2_heldAt_27)
  · refine T_aload_n (q := 0) dX2_heldAt_14 rfl rfl ?_
    refine T_iload_n (q := 2) dX2_heldAt_15 rfl rfl ?_
    refine T_callVl (As := [.int x1]) (st := []) mv_X2_162 (by decide) dX2_heldAt_16 ho3 (fun b hb => mX4_heldUnder G l o3 ho3 x1 M b hb) rfl rfl (Nat.le_of_ble_eq_true rfl) (fun b7 => ?_)
    refine T_goto (tgt := 27) dX2_heldAt_19 (by decide) ?_
    exact T_end (fun h => by cases h; exact V_lret dX2_heldAt_27)
set_option maxHeartbeats 4000000 in
set_option maxRecDepth 100000 in
theorem mX2_firstChange (G : Gw) (l : Launch) (o0 : Nat) (ho0 : shp o0 = 2) (x1 : Int32) (x2 : Int32) (M : Mem) (a : Int32) (h : fX2_firstChange o0 x1 x2 M = some a) : CtP G l yX2_firstChange cX2_firstChange 5 (some .int) 4 86 [.ref (adr G o0), .int x1, .int x2] M (some (.int a)) M := by
  refine CtP.ofV (by decide) (Nat.le_of_ble_eq_true rfl) ?_
  refine (?_ : T G l RX2 cX2_firstChange 5 (some .int) (rmOf 4 86) 0 0 (FinM G (some (.int a)) M) (fun x => x = a) 0 [(0, .ref (adr G o0)), (1, .int x1), (2, .int x2)] [] M (fX2_firstChange o0 x1 x2 M)) a h rfl
  clear h
  unfold fX2_firstChange
  refine T_iconst (v := 0) dX2_firstChange_0 (by decide) ?_
  refine T_istore_n (lv' := [(3, .int (0 : Int32)), (0, .ref (adr G o0)), (1, .int x1), (2, .int x2)]) dX2_firstChange_1 rfl (by decide) rfl ?_
  refine T_loop (fun s1 => [(3, .int s1), (0, .ref (adr G o0)), (1, .int x1), (2, .int x2)]) (fun s1 => M) (fun s1 => ?_) (0 : Int32)
  unfold wX2_firstChange_2
  refine T_iload_n (q := 0) dX2_firstChange_2 rfl rfl ?_
  refine T_aload_n (q := 1) dX2_firstChange_3 rfl rfl ?_
  refine T_getI cf2 fr_X2_48 dX2_firstChange_4 ho0 rfl ?_
  refine T_icmp_ge (tgt := 55) dX2_firstChange_7 (by decide) (fun hc2 => ?_) (fun hc2 => ?_)
  · refine T_iconst (v := -1) dX2_firstChange_55 (by decide) ?_
    exact T_end (fun h => by cases h; exact V_iret dX2_firstChange_56)
  · refine T_aload_n (q := 1) dX2_firstChange_10 rfl rfl ?_
    refine T_iload_n (q := 0) dX2_firstChange_11 rfl rfl ?_
    refine T_callVr (As := [.int s1]) (st := []) mv_X2_85 (by decide) dX2_firstChange_12 ho0 (fun b hb => mX2_actAt G l o0 ho0 s1 M b hb) rfl rfl (Nat.le_of_ble_eq_true rfl) (fun b3 => ?_)
    refine T_gd (fun hg4 => ?_)
    refine T_getI cf0 fr_X2_65 dX2_firstChange_15 hg4 rfl ?_
    refine T_istore_G (lv' := fun v5 => [(4, .int v5), (3, .int s1), (0, .ref (adr G o0)), (1, .int x1), (2, .int x2)]) dX2_firstChange_18 (by decide) (fun _ => rfl) (fun v5 => ?_)
    refine T_iload (q := 0) dX2_firstChange_20 rfl ?_
    refine T_iload_n (q := 4) dX2_firstChange_22 rfl rfl ?_
    refine T_icmp_lt (tgt := 49) dX2_firstChange_23 (by decide) (fun hc6 => ?_) (fun hc6 => ?_)
    · refine T_iinc_G (q := 1) (y := s1 + 1) (lv' := fun v7 => [(3, .int v7), (4, .int v5), (0, .ref (adr G o0)), (1, .int x1), (2, .int x2)]) dX2_firstChange_49 rfl rfl (by decide) (fun _ => rfl) (fun v7 => ?_)
      refine T_goto (tgt := 2) dX2_firstChange_52 (by decide) ?_
      exact T_end (fun h => V_sub [0, 2, 3, 4] rfl h)
    · refine T_aload_n (q := 2) dX2_firstChange_26 rfl rfl ?_
      refine T_iload_n (q := 3) dX2_firstChange_27 rfl rfl ?_
      refine T_iload (q := 0) dX2_firstChange_28 rfl ?_
      refine T_callVl (As := [.int x1, .int v5]) (st := []) mv_X2_169 (by decide) dX2_firstChange_30 ho0 (fun b hb => mX2_heldAt G l o0 ho0 x1 v5 M b hb) rfl rfl (Nat.le_of_ble_eq_true rfl) (fun b8 => ?_)
      refine T_aload_n (q := 2) dX2_firstChange_33 rfl rfl ?_
      refine T_iload_n (q := 3) dX2_firstChange_34 rfl rfl ?_
      refine T_iload (q := 0) dX2_firstChange_35 rfl ?_
      refine T_iconst (v := 1) dX2_firstChange_37 (by decide) ?_
      refine T_isub dX2_firstChange_38 ?_
      refine T_callVl (As := [.int x1, .int (v5 - (1 : Int32))]) (st := [.long b8]) mv_X2_169 (by decide) dX2_firstChange_39 ho0 (fun b hb => mX2_heldAt G l o0 ho0 x1 (v5 - (1 : Int32)) M b hb) rfl rfl (Nat.le_of_ble_eq_true rfl) (fun b9 => ?_)
      refine T_lcmp dX2_firstChange_42 ?_
      refine T_if_eq (tgt := 49) dX2_firstChange_43 (by decide) (fun hc10 => ?_) (fun hc10 => ?_)
      · refine T_iinc_G (q := 1) (y := s1 + 1) (lv' := fun v11 => [(3, .int v11), (4, .int v5), (0, .ref (adr G o0)), (1, .int x1), (2, .int x2)]) dX2_firstChange_49 rfl rfl (by decide) (fun _ => rfl) (fun v11 => ?_)
        refine T_goto (tgt := 2) dX2_firstChange_52 (by decide) ?_
        exact T_end (fun h => V_sub [0, 2, 3, 4] rfl h)
      · refine T_iload (q := 0) dX2_firstChange_46 rfl ?_
        exact T_end (fun h => by cases h; exact V_iret dX2_firstChange_48)
set_option maxHeartbeats 4000000 in
set_option maxRecDepth 100000 in
theorem mX2_hasAllActs (G : Gw) (l : Launch) (o0 : Nat) (ho0 : shp o0 = 2) (M : Mem) (a : Int32) (h : fX2_hasAllActs o0 M = some a) : CtP G l yX2_hasAllActs cX2_hasAllActs 1 (some .boolean) 0 0 [.ref (adr G o0)] M (some (.int a)) M := by
  refine CtP.ofV (by decide) (Nat.le_of_ble_eq_true rfl) ?_
  refine (?_ : T G l RX2 cX2_hasAllActs 1 (some .boolean) (rmOf 0 0) 0 0 (FinM G (some (.int a)) M) (fun x => x = a) 0 [(0, .ref (adr G o0))] [] M (fX2_hasAllActs o0 M)) a h rfl
  clear h
  unfold fX2_hasAllActs
  refine T_aload_n (q := 0) dX2_hasAllActs_0 rfl rfl ?_
  refine T_getI cf2 fr_X2_48 dX2_hasAllActs_1 ho0 rfl ?_
  refine T_bipush (v := 30) dX2_hasAllActs_4 (by decide) ?_
  refine T_icmp_lt (tgt := 13) dX2_hasAllActs_6 (by decide) (fun hc1 => ?_) (fun hc1 => ?_)
  · refine T_iconst (v := 0) dX2_hasAllActs_13 (by decide) ?_
    exact T_end (fun h => by cases h; exact V_zret (Or.inl rfl) dX2_hasAllActs_14)
  · refine T_iconst (v := 1) dX2_hasAllActs_9 (by decide) ?_
    refine T_goto (tgt := 14) dX2_hasAllActs_10 (by decide) ?_
    exact T_end (fun h => by cases h; exact V_zret (Or.inr rfl) dX2_hasAllActs_14)
set_option maxHeartbeats 4000000 in
set_option maxRecDepth 100000 in
theorem mX2_makerOfBorder (G : Gw) (l : Launch) (o0 : Nat) (ho0 : shp o0 = 2) (x1 : Int32) (x2 : Int32) (x3 : Int32) (M : Mem) (a : Int32) (h : fX2_makerOfBorder o0 x1 x2 x3 M = some a) : CtP G l yX2_makerOfBorder cX2_makerOfBorder 6 (some .int) 3 66 [.ref (adr G o0), .int x1, .int x2, .int x3] M (some (.int a)) M := by
  refine CtP.ofV (by decide) (Nat.le_of_ble_eq_true rfl) ?_
  refine (?_ : T G l RX2 cX2_makerOfBorder 6 (some .int) (rmOf 3 66) 0 0 (FinM G (some (.int a)) M) (fun x => x = a) 0 [(0, .ref (adr G o0)), (1, .int x1), (2, .int x2), (3, .int x3)] [] M (fX2_makerOfBorder o0 x1 x2 x3 M)) a h rfl
  clear h
  unfold fX2_makerOfBorder
  refine T_aload_n (q := 0) dX2_makerOfBorder_0 rfl rfl ?_
  refine T_iload_n (q := 3) dX2_makerOfBorder_1 rfl rfl ?_
  refine T_callVi (As := [.int x3]) (st := []) mv_X2_72 (by decide) dX2_makerOfBorder_2 ho0 (fun b hb => mX2_doneUpTo G l o0 ho0 x3 M b hb) rfl rfl (Nat.le_of_ble_eq_true rfl) (fun b1 => ?_)
  refine T_istore (lv' := [(4, .int b1), (0, .ref (adr G o0)), (1, .int x1), (2, .int x2), (3, .int x3)]) dX2_makerOfBorder_5 (by decide) rfl ?_
  refine T_aload_n (q := 1) dX2_makerOfBorder_7 rfl rfl ?_
  refine T_iload (q := 0) dX2_makerOfBorder_8 rfl ?_
  refine T_callVr (As := [.int b1]) (st := []) mv_X2_89 (by decide) dX2_makerOfBorder_10 ho0 (fun b hb => mX2_momentBehind G l o0 ho0 b1 M b hb) rfl rfl (Nat.le_of_ble_eq_true rfl) (fun b2 => ?_)
  refine T_gd (fun hg3 => ?_)
  refine T_iload_n (q := 2) dX2_makerOfBorder_13 rfl rfl ?_
  refine T_iload_n (q := 3) dX2_makerOfBorder_14 rfl rfl ?_
  refine T_callVi (As := [.int x1, .int x2]) (st := []) mv_X2_165 (by decide) dX2_makerOfBorder_15 hg3 (fun b hb => mX4_hasBorder G l b2 hg3 x1 x2 M b hb) rfl rfl (Nat.le_of_ble_eq_true rfl) (fun b4 => ?_)
  refine T_if_ne (tgt := 23) dX2_makerOfBorder_18 (by decide) (fun hc5 => ?_) (fun hc5 => ?_)
  · refine T_iconst (v := -1) dX2_makerOfBorder_21 (by decide) ?_
    exact T_end (fun h => by cases h; exact V_iret dX2_makerOfBorder_22)
  · refine T_iload (q := 0) dX2_makerOfBorder_23 rfl ?_
    refine T_iconst (v := 1) dX2_makerOfBorder_25 (by decide) ?_
    refine T_isub dX2_makerOfBorder_26 ?_
    refine T_istore_G (lv' := fun v6 => [(5, .int v6), (4, .int b1), (0, .ref (adr G o0)), (1, .int x1), (2, .int x2), (3, .int x3)]) dX2_makerOfBorder_27 (by decide) (fun _ => rfl) (fun v6 => ?_)
    refine T_loop (fun s7 => [(5, .int s7), (4, .int b1), (0, .ref (adr G o0)), (1, .int x1), (2, .int x2), (3, .int x3)]) (fun s7 => M) (fun s7 => ?_) v6
    unfold wX2_makerOfBorder_29
    refine T_iload (q := 0) dX2_makerOfBorder_29 rfl ?_
    refine T_if_lt (tgt := 62) dX2_makerOfBorder_31 (by decide) (fun hc8 => ?_) (fun hc8 => ?_)
    · refine T_iconst (v := -1) dX2_makerOfBorder_62 (by decide) ?_
      exact T_end (fun h => by cases h; exact V_iret dX2_makerOfBorder_63)
    · refine T_aload_n (q := 2) dX2_makerOfBorder_34 rfl rfl ?_
      refine T_iload (q := 0) dX2_makerOfBorder_35 rfl ?_
      refine T_callVr (As := [.int s7]) (st := []) mv_X2_89 (by decide) dX2_makerOfBorder_37 ho0 (fun b hb => mX2_momentBehind G l o0 ho0 s7 M b hb) rfl rfl (Nat.le_of_ble_eq_true rfl) (fun b9 => ?_)
      refine T_gd (fun hg10 => ?_)
      refine T_iload_n (q := 3) dX2_makerOfBorder_40 rfl rfl ?_
      refine T_iload_n (q := 4) dX2_makerOfBorder_41 rfl rfl ?_
      refine T_callVi (As := [.int x1, .int x2]) (st := []) mv_X2_165 (by decide) dX2_makerOfBorder_42 hg10 (fun b hb => mX4_hasBorder G l b9 hg10 x1 x2 M b hb) rfl rfl (Nat.le_of_ble_eq_true rfl) (fun b11 => ?_)
      refine T_if_ne (tgt := 56) dX2_makerOfBorder_45 (by decide) (fun hc12 => ?_) (fun hc12 => ?_)
      · refine T_aload_n (q := 2) dX2_makerOfBorder_48 rfl rfl ?_
        refine T_getR cf2 fr_X2_21 dX2_makerOfBorder_49 ho0 rfl ?_
        refine T_iload (q := 0) dX2_makerOfBorder_52 rfl ?_
        refine T_iald dX2_makerOfBorder_54 (sf_2_2 ho0) ?_
        exact T_end (fun h => by cases h; exact V_iret dX2_makerOfBorder_55)
      · refine T_iinc_G (q := 0) (y := s7 + (-1)) (lv' := fun v13 => [(5, .int v13), (4, .int b1), (0, .ref (adr G o0)), (1, .int x1), (2, .int x2), (3, .int x3)]) dX2_makerOfBorder_56 rfl rfl (by decide) (fun _ => rfl) (fun v13 => ?_)
        refine T_goto (tgt := 29) dX2_makerOfBorder_59 (by decide) ?_
        exact T_end (fun h => V_sub [0, 1, 2, 3, 4, 5] rfl h)
set_option maxHeartbeats 4000000 in
set_option maxRecDepth 100000 in
theorem mX2_tell (G : Gw) (l : Launch) (o0 : Nat) (ho0 : shp o0 = 2) (x1 : Int32) (x2 : Int32) (x3 : Int32) (x4 : Int32) (x5 : Int64) (M : Mem) (a : Int64 × Mem) (h : fX2_tell o0 x1 x2 x3 x4 x5 M = some a) : CtP G l yX2_tell cX2_tell 10 (some .long) 5 119 [.ref (adr G o0), .int x1, .int x2, .int x3, .int x4, .long x5] M (some (.long a.1)) a.2 := by
  refine CtP.ofV (by decide) (Nat.le_of_ble_eq_true rfl) ?_
  refine (?_ : T G l RX2 cX2_tell 10 (some .long) (rmOf 5 119) 0 0 (FinM G (some (.long a.1)) a.2) (fun x => x = a) 0 [(0, .ref (adr G o0)), (1, .int x1), (2, .int x2), (3, .int x3), (4, .int x4), (5, .long x5)] [] M (fX2_tell o0 x1 x2 x3 x4 x5 M)) a h rfl
  clear h
  unfold fX2_tell
  refine T_aload_n (q := 0) dX2_tell_0 rfl rfl ?_
  refine T_callVi (As := []) (st := []) mv_X2_51 (by decide) dX2_tell_1 ho0 (fun b hb => mX2_hasAllActs G l o0 ho0 M b hb) rfl rfl (Nat.le_of_ble_eq_true rfl) (fun b1 => ?_)
  refine T_if_eq (tgt := 11) dX2_tell_4 (by decide) (fun hc2 => ?_) (fun hc2 => ?_)
  · refine T_aload_n (q := 0) dX2_tell_11 rfl rfl ?_
    refine T_getI cf2 fr_X2_48 dX2_tell_12 ho0 rfl ?_
    refine T_istore_G (lv' := fun v3 => [(7, .int v3), (0, .ref (adr G o0)), (1, .int x1), (2, .int x2), (3, .int x3), (4, .int x4), (5, .long x5)]) dX2_tell_15 (by decide) (fun _ => rfl) (fun v3 => ?_)
    refine T_aload_n (q := 1) dX2_tell_17 rfl rfl ?_
    refine T_getR cf2 fr_X2_17 dX2_tell_18 ho0 rfl ?_
    refine T_iload (q := 0) dX2_tell_21 rfl ?_
    refine T_aald dX2_tell_23 ⟨by have := (sf_2_1 ho0); omega, by have := (sf_2_1 ho0); omega⟩ (fun hi4 => ?_)
    refine T_astore_G (lv' := fun o5 => [(8, .ref (adr G o5)), (7, .int v3), (0, .ref (adr G o0)), (1, .int x1), (2, .int x2), (3, .int x3), (4, .int x4), (5, .long x5)]) (sa_12 (sf_2_1 ho0) hi4) dX2_tell_24 (by decide) (fun _ => rfl) (fun o5 ho5 => ?_)
    refine T_aload (q := 0) dX2_tell_26 rfl ?_
    refine T_iload_n (q := 3) dX2_tell_28 rfl rfl ?_
    refine T_putI cf0 fr_X2_56 pt_0_0 dX2_tell_29 ho5 rfl (fun M6 => ?_)
    refine T_aload (q := 0) dX2_tell_32 rfl ?_
    refine T_iload_n (q := 4) dX2_tell_34 rfl rfl ?_
    refine T_putI cf0 fr_X2_59 pt_0_2 dX2_tell_35 ho5 rfl (fun M7 => ?_)
    refine T_aload (q := 0) dX2_tell_38 rfl ?_
    refine T_iload_n (q := 5) dX2_tell_40 rfl rfl ?_
    refine T_putI cf0 fr_X2_62 pt_0_3 dX2_tell_41 ho5 rfl (fun M8 => ?_)
    refine T_aload (q := 0) dX2_tell_44 rfl ?_
    refine T_iload (q := 6) dX2_tell_46 rfl ?_
    refine T_putI cf0 fr_X2_65 pt_0_1 dX2_tell_48 ho5 rfl (fun M9 => ?_)
    refine T_aload (q := 0) dX2_tell_51 rfl ?_
    refine T_lload (q := 7) dX2_tell_53 rfl ?_
    refine T_putL cf0 fr_X2_68 pt_0_4 dX2_tell_55 ho5 rfl (fun M10 => ?_)
    refine T_aload_n (q := 2) dX2_tell_58 rfl rfl ?_
    refine T_iload (q := 6) dX2_tell_59 rfl ?_
    refine T_callVi (As := [.int x4]) (st := []) mv_X2_72 (by decide) dX2_tell_61 ho0 (fun b hb => mX2_doneUpTo G l o0 ho0 x4 M10 b hb) rfl rfl (Nat.le_of_ble_eq_true rfl) (fun b11 => ?_)
    refine T_istore (lv' := [(9, .int b11), (8, .ref (adr G o5)), (7, .int v3), (0, .ref (adr G o0)), (1, .int x1), (2, .int x2), (3, .int x3), (4, .int x4), (5, .long x5)]) dX2_tell_64 (by decide) rfl ?_
    refine T_aload_n (q := 3) dX2_tell_66 rfl rfl ?_
    refine T_getR cf2 fr_X2_21 dX2_tell_67 ho0 rfl ?_
    refine T_iload (q := 0) dX2_tell_70 rfl ?_
    refine T_aload_n (q := 3) dX2_tell_72 rfl rfl ?_
    refine T_getR cf2 fr_X2_21 dX2_tell_73 ho0 rfl ?_
    refine T_iload (q := 0) dX2_tell_76 rfl ?_
    refine T_iconst (v := 1) dX2_tell_78 (by decide) ?_
    refine T_iadd dX2_tell_79 ?_
    refine T_aload_n (q := 3) dX2_tell_80 rfl rfl ?_
    refine T_getI cf2 fr_X2_48 dX2_tell_81 ho0 rfl ?_
    refine T_iload (q := 0) dX2_tell_84 rfl ?_
    refine T_isub dX2_tell_86 ?_
    refine T_cpi aw_X2_75 ⟨by decide, Nat.le_of_ble_eq_true rfl⟩ dX2_tell_87 (sf_2_2 ho0) (sf_2_2 ho0) (fun M12 => ?_)
    refine T_aload_n (q := 3) dX2_tell_90 rfl rfl ?_
    refine T_getR cf2 fr_X2_21 dX2_tell_91 ho0 rfl ?_
    refine T_iload (q := 0) dX2_tell_94 rfl ?_
    refine T_iload (q := 2) dX2_tell_96 rfl ?_
    refine T_iast dX2_tell_98 (sf_2_2 ho0) (fun M13 => ?_)
    refine T_aload_n (q := 3) dX2_tell_99 rfl rfl ?_
    refine T_dup dX2_tell_100 rfl ?_
    refine T_getI cf2 fr_X2_48 dX2_tell_101 ho0 rfl ?_
    refine T_iconst (v := 1) dX2_tell_104 (by decide) ?_
    refine T_iadd dX2_tell_105 ?_
    refine T_putI cf2 fr_X2_48 pt_2_5 dX2_tell_106 ho0 rfl (fun M14 => ?_)
    refine T_aload_n (q := 3) dX2_tell_109 rfl rfl ?_
    refine T_iload (q := 0) dX2_tell_110 rfl ?_
    refine T_callVvw (As := [.int b11]) (st := []) mv_X2_81 (by decide) dX2_tell_112 ho0 (fun b hb => mX2_redoFrom G l o0 ho0 b11 M14 b hb) rfl rfl (Nat.le_of_ble_eq_true rfl) (fun b15 => ?_)
    refine T_iload (q := 2) dX2_tell_115 rfl ?_
    refine T_i2l dX2_tell_117 ?_
    exact T_end (fun h => by cases h; exact V_lret dX2_tell_118)
  · refine T_ldc2 dX2_tell_7 kcl_X2_54 ?_
    exact T_end (fun h => by cases h; exact V_lret dX2_tell_10)
set_option maxHeartbeats 4000000 in
set_option maxRecDepth 100000 in
theorem mX2_voidActs (G : Gw) (l : Launch) (o0 : Nat) (ho0 : shp o0 = 2) (M : Mem) (a : Int32) (h : fX2_voidActs o0 M = some a) : CtP G l yX2_voidActs cX2_voidActs 3 (some .int) 0 0 [.ref (adr G o0)] M (some (.int a)) M := by
  refine CtP.ofV (by decide) (Nat.le_of_ble_eq_true rfl) ?_
  refine (?_ : T G l RX2 cX2_voidActs 3 (some .int) (rmOf 0 0) 0 0 (FinM G (some (.int a)) M) (fun x => x = a) 0 [(0, .ref (adr G o0))] [] M (fX2_voidActs o0 M)) a h rfl
  clear h
  unfold fX2_voidActs
  refine T_iconst (v := 0) dX2_voidActs_0 (by decide) ?_
  refine T_istore_n (lv' := [(1, .int (0 : Int32)), (0, .ref (adr G o0))]) dX2_voidActs_1 rfl (by decide) rfl ?_
  refine T_iconst (v := 0) dX2_voidActs_2 (by decide) ?_
  refine T_istore_n (lv' := [(2, .int (0 : Int32)), (1, .int (0 : Int32)), (0, .ref (adr G o0))]) dX2_voidActs_3 rfl (by decide) rfl ?_
  refine T_bind (X := fun r8 => V G l RX2 cX2_voidActs 3 (some .int) (rmOf 0 0) 0 0 (FinM G (some (.int a)) M) 33 [(2, .int r8.2), (1, .int r8.1), (0, .ref (adr G o0))] [] M) (T_loop (fun s1 => [(2, .int s1.2), (1, .int s1.1), (0, .ref (adr G o0))]) (fun s1 => M) (fun s1 => ?_) ((0 : Int32), (0 : Int32))) (fun r8 => ?_)
  · unfold wX2_voidActs_4
    refine T_iload_n (q := 0) dX2_voidActs_4 rfl rfl ?_
    refine T_aload_n (q := 2) dX2_voidActs_5 rfl rfl ?_
    refine T_getI cf2 fr_X2_48 dX2_voidActs_6 ho0 rfl ?_
    refine T_icmp_ge (tgt := 33) dX2_voidActs_9 (by decide) (fun hc2 => ?_) (fun hc2 => ?_)
    · exact T_end (fun h => V_sub [0, 1, 2] rfl h)
    · refine T_aload_n (q := 2) dX2_voidActs_12 rfl rfl ?_
      refine T_getR cf2 fr_X2_17 dX2_voidActs_13 ho0 rfl ?_
      refine T_iload_n (q := 0) dX2_voidActs_16 rfl rfl ?_
      refine T_aald dX2_voidActs_17 ⟨by have := (sf_2_1 ho0); omega, by have := (sf_2_1 ho0); omega⟩ (fun hi3 => ?_)
      refine T_getI cf0 fr_X2_107 dX2_voidActs_18 (sa_12 (sf_2_1 ho0) hi3) rfl ?_
      refine T_if_eq (tgt := 27) dX2_voidActs_21 (by decide) (fun hc4 => ?_) (fun hc4 => ?_)
      · refine T_iinc_G (q := 0) (y := s1.2 + 1) (lv' := fun v5 => [(2, .int v5), (1, .int s1.1), (0, .ref (adr G o0))]) dX2_voidActs_27 rfl rfl (by decide) (fun _ => rfl) (fun v5 => ?_)
        refine T_goto (tgt := 4) dX2_voidActs_30 (by decide) ?_
        exact T_end (fun h => V_sub [0, 1, 2] rfl h)
      · refine T_iinc_G (q := 1) (y := s1.1 + 1) (lv' := fun v6 => [(1, .int v6), (2, .int s1.2), (0, .ref (adr G o0))]) dX2_voidActs_24 rfl rfl (by decide) (fun _ => rfl) (fun v6 => ?_)
        refine T_iinc_G (q := 1) (y := s1.2 + 1) (lv' := fun v7 => [(2, .int v7), (1, .int v6), (0, .ref (adr G o0))]) dX2_voidActs_27 rfl rfl (by decide) (fun _ => rfl) (fun v7 => ?_)
        refine T_goto (tgt := 4) dX2_voidActs_30 (by decide) ?_
        exact T_end (fun h => V_sub [0, 1, 2] rfl h)
  · change T G l RX2 cX2_voidActs 3 (some .int) (rmOf 0 0) 0 0 (FinM G (some (.int a)) M) _ 33 [(2, .int r8.2), (1, .int r8.1), (0, .ref (adr G o0))] [] M _
    refine T_iload_n (q := 1) dX2_voidActs_33 rfl rfl ?_
    exact T_end (fun h => by cases h; exact V_iret dX2_voidActs_34)
