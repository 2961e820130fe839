set_option maxHeartbeats 4000000 in
set_option maxRecDepth 100000 in
theorem mX8_in (G : Gw) (l : Launch) (x0 : Int64) (x2 : Int64) (x4 : Int64) (M : Mem) (a : Int32) (h : fX8_in x0 x2 x4 = some a) : CtP G l yX8_in cX8_in 6 (some .boolean) 0 0 [.long x0, .long x2, .long x4] M (some (.int a)) M := by
  refine CtP.ofV (by decide) (Nat.le_of_ble_eq_true rfl) ?_
  refine (?_ : T G l RX8 cX8_in 6 (some .boolean) (rmOf 0 0) 0 0 (FinM G (some (.int a)) M) (fun x => x = a) 0 [(0, .long x0), (2, .long x2), (4, .long x4)] [] M (fX8_in x0 x2 x4)) a h rfl
  clear h
  unfold fX8_in
  refine T_lload_n (q := 0) dX8_in_0 rfl rfl ?_
  refine T_lload_n (q := 1) dX8_in_1 rfl rfl ?_
  refine T_lcmp dX8_in_2 ?_
  refine T_if_lt (tgt := 17) dX8_in_3 (by decide) (fun hc1 => ?_) (fun hc1 => ?_)
  · refine T_iconst (v := 0) dX8_in_17 (by decide) ?_
    exact T_end (fun h => by cases h; exact V_zret (Or.inl rfl) dX8_in_18)
  · refine T_lload_n (q := 0) dX8_in_6 rfl rfl ?_
    refine T_lload (q := 2) dX8_in_7 rfl ?_
    refine T_lcmp dX8_in_9 ?_
    refine T_if_gt (tgt := 17) dX8_in_10 (by decide) (fun hc2 => ?_) (fun hc2 => ?_)
    · refine T_iconst (v := 0) dX8_in_17 (by decide) ?_
      exact T_end (fun h => by cases h; exact V_zret (Or.inl rfl) dX8_in_18)
    · refine T_iconst (v := 1) dX8_in_13 (by decide) ?_
      refine T_goto (tgt := 18) dX8_in_14 (by decide) ?_
      exact T_end (fun h => by cases h; exact V_zret (Or.inr rfl) dX8_in_18)
set_option maxHeartbeats 4000000 in
set_option maxRecDepth 100000 in
theorem mX8_told0 (G : Gw) (l : Launch) (o0 : Nat) (ho0 : shp o0 = 7) (x1 : Int64) (M : Mem) (a : Int64 × Mem) (h : fX8_told0 o0 x1 M = some a) : CtP G l yX8_told0 cX8_told0 3 (some .long) 0 0 [.ref (adr G o0), .long x1] M (some (.long a.1)) a.2 := by
  refine CtP.ofV (by decide) (Nat.le_of_ble_eq_true rfl) ?_
  refine (?_ : T G l RX8 cX8_told0 3 (some .long) (rmOf 0 0) 0 0 (FinM G (some (.long a.1)) a.2) (fun x => x = a) 0 [(0, .ref (adr G o0)), (1, .long x1)] [] M (fX8_told0 o0 x1 M)) a h rfl
  clear h
  unfold fX8_told0
  refine T_aload_n (q := 0) dX8_told0_0 rfl rfl ?_
  refine T_dup dX8_told0_1 rfl ?_
  refine T_getL cf7 fr_X8_78 dX8_told0_2 ho0 rfl ?_
  refine T_lconst (v := 1) dX8_told0_5 (by decide) ?_
  refine T_ladd dX8_told0_6 ?_
  refine T_putL cf7 fr_X8_78 pt_7_3 dX8_told0_7 ho0 rfl (fun M1 => ?_)
  refine T_lload_n (q := 1) dX8_told0_10 rfl rfl ?_
  exact T_end (fun h => by cases h; exact V_lret dX8_told0_11)
set_option maxHeartbeats 4000000 in
set_option maxRecDepth 100000 in
theorem mX8_gives (G : Gw) (l : Launch) (o0 : Nat) (ho0 : shp o0 = 7) (x1 : Int32) (x2 : Int32) (x3 : Int32) (x4 : Int64) (M : Mem) (a : Int32 × Mem) (h : fX8_gives o0 x1 x2 x3 x4 M = some a) : CtP G l yX8_gives cX8_gives 8 (some .int) 0 0 [.ref (adr G o0), .int x1, .int x2, .int x3, .long x4] M (some (.int a.1)) a.2 := by
  refine CtP.ofV (by decide) (Nat.le_of_ble_eq_true rfl) ?_
  refine (?_ : T G l RX8 cX8_gives 8 (some .int) (rmOf 0 0) 0 0 (FinM G (some (.int a.1)) a.2) (fun x => x = a) 0 [(0, .ref (adr G o0)), (1, .int x1), (2, .int x2), (3, .int x3), (4, .long x4)] [] M (fX8_gives o0 x1 x2 x3 x4 M)) a h rfl
  clear h
  unfold fX8_gives
  refine T_iconst (v := 0) dX8_gives_0 (by decide) ?_
  refine T_istore (lv' := [(6, .int (0 : Int32)), (0, .ref (adr G o0)), (1, .int x1), (2, .int x2), (3, .int x3), (4, .long x4)]) dX8_gives_1 (by decide) rfl ?_
  refine T_iconst (v := 0) dX8_gives_3 (by decide) ?_
  refine T_istore (lv' := [(7, .int (0 : Int32)), (6, .int (0 : Int32)), (0, .ref (adr G o0)), (1, .int x1), (2, .int x2), (3, .int x3), (4, .long x4)]) dX8_gives_4 (by decide) rfl ?_
  refine T_bind (X := fun r10 => V G l RX8 cX8_gives 8 (some .int) (rmOf 0 0) 0 0 (FinM G (some (.int a.1)) a.2) 66 [(7, .int r10.2.1), (6, .int r10.1), (0, .ref (adr G o0)), (1, .int x1), (2, .int x2), (3, .int x3), (4, .long x4)] [] r10.2.2) (T_loop (fun s1 => [(7, .int s1.2.1), (6, .int s1.1), (0, .ref (adr G o0)), (1, .int x1), (2, .int x2), (3, .int x3), (4, .long x4)]) (fun s1 => s1.2.2) (fun s1 => ?_) ((0 : Int32), (0 : Int32), M)) (fun r10 => ?_)
  · unfold wX8_gives_6
    refine T_iload (q := 0) dX8_gives_6 rfl ?_
    refine T_bipush (v := 36) dX8_gives_8 (by decide) ?_
    refine T_icmp_ge (tgt := 66) dX8_gives_10 (by decide) (fun hc2 => ?_) (fun hc2 => ?_)
    · exact T_end (fun h => V_sub [0, 1, 2, 3, 4, 5, 6] rfl h)
    · refine T_aload_n (q := 2) dX8_gives_13 rfl rfl ?_
      refine T_getR cf7 fr_X8_59 dX8_gives_14 ho0 rfl ?_
      refine T_bipush (v := 36) dX8_gives_17 (by decide) ?_
      refine T_iload_n (q := 3) dX8_gives_19 rfl rfl ?_
      refine T_imul dX8_gives_20 ?_
      refine T_iload (q := 0) dX8_gives_21 rfl ?_
      refine T_iadd dX8_gives_23 ?_
      refine T_iald dX8_gives_24 (sf_7_20 ho0) ?_
      refine T_iload_n (q := 4) dX8_gives_25 rfl rfl ?_
      refine T_icmp_ne (tgt := 60) dX8_gives_26 (by decide) (fun hc3 => ?_) (fun hc3 => ?_)
      · refine T_lload (q := 6) dX8_gives_29 rfl ?_
        refine T_iload (q := 0) dX8_gives_31 rfl ?_
        refine T_lshr dX8_gives_33 ?_
        refine T_lconst (v := 1) dX8_gives_34 (by decide) ?_
        refine T_land dX8_gives_35 ?_
        refine T_lconst (v := 0) dX8_gives_36 (by decide) ?_
        refine T_lcmp dX8_gives_37 ?_
        refine T_if_ne (tgt := 44) dX8_gives_38 (by decide) (fun hc4 => ?_) (fun hc4 => ?_)
        · refine T_goto (tgt := 60) dX8_gives_41 (by decide) ?_
          refine T_iinc_G (q := 0) (y := s1.2.1 + 1) (lv' := fun v5 => [(7, .int v5), (6, .int s1.1), (0, .ref (adr G o0)), (1, .int x1), (2, .int x2), (3, .int x3), (4, .long x4)]) dX8_gives_60 rfl rfl (by decide) (fun _ => rfl) (fun v5 => ?_)
          refine T_goto (tgt := 6) dX8_gives_63 (by decide) ?_
          exact T_end (fun h => V_sub [0, 1, 2, 3, 4, 5, 6] rfl h)
        · refine T_aload_n (q := 2) dX8_gives_44 rfl rfl ?_
          refine T_getR cf7 fr_X8_59 dX8_gives_45 ho0 rfl ?_
          refine T_bipush (v := 36) dX8_gives_48 (by decide) ?_
          refine T_iload_n (q := 3) dX8_gives_50 rfl rfl ?_
          refine T_imul dX8_gives_51 ?_
          refine T_iload (q := 0) dX8_gives_52 rfl ?_
          refine T_iadd dX8_gives_54 ?_
          refine T_iload_n (q := 5) dX8_gives_55 rfl rfl ?_
          refine T_iast dX8_gives_56 (sf_7_20 ho0) (fun M6 => ?_)
          refine T_iinc_G (q := 1) (y := s1.1 + 1) (lv' := fun v7 => [(6, .int v7), (7, .int s1.2.1), (0, .ref (adr G o0)), (1, .int x1), (2, .int x2), (3, .int x3), (4, .long x4)]) dX8_gives_57 rfl rfl (by decide) (fun _ => rfl) (fun v7 => ?_)
          refine T_iinc_G (q := 1) (y := s1.2.1 + 1) (lv' := fun v8 => [(7, .int v8), (6, .int v7), (0, .ref (adr G o0)), (1, .int x1), (2, .int x2), (3, .int x3), (4, .long x4)]) dX8_gives_60 rfl rfl (by decide) (fun _ => rfl) (fun v8 => ?_)
          refine T_goto (tgt := 6) dX8_gives_63 (by decide) ?_
          exact T_end (fun h => V_sub [0, 1, 2, 3, 4, 5, 6] rfl h)
      · refine T_iinc_G (q := 0) (y := s1.2.1 + 1) (lv' := fun v9 => [(7, .int v9), (6, .int s1.1), (0, .ref (adr G o0)), (1, .int x1), (2, .int x2), (3, .int x3), (4, .long x4)]) dX8_gives_60 rfl rfl (by decide) (fun _ => rfl) (fun v9 => ?_)
        refine T_goto (tgt := 6) dX8_gives_63 (by decide) ?_
        exact T_end (fun h => V_sub [0, 1, 2, 3, 4, 5, 6] rfl h)
  · change T G l RX8 cX8_gives 8 (some .int) (rmOf 0 0) 0 0 (FinM G (some (.int a.1)) a.2) _ 66 [(7, .int r10.2.1), (6, .int r10.1), (0, .ref (adr G o0)), (1, .int x1), (2, .int x2), (3, .int x3), (4, .long x4)] [] r10.2.2 _
    refine T_iload (q := 1) dX8_gives_66 rfl ?_
    exact T_end (fun h => by cases h; exact V_iret dX8_gives_68)
set_option maxHeartbeats 4000000 in
set_option maxRecDepth 100000 in
theorem mX8_turnsBack (G : Gw) (l : Launch) (o0 : Nat) (ho0 : shp o0 = 7) (x1 : Int32) (x2 : Int32) (M : Mem) (a : Int32 × Mem) (h : fX8_turnsBack o0 x1 x2 M = some a) : CtP G l yX8_turnsBack cX8_turnsBack 7 (some .boolean) 0 0 [.ref (adr G o0), .int x1, .int x2] M (some (.int a.1)) a.2 := by
  refine CtP.ofV (by decide) (Nat.le_of_ble_eq_true rfl) ?_
  refine (?_ : T G l RX8 cX8_turnsBack 7 (some .boolean) (rmOf 0 0) 0 0 (FinM G (some (.int a.1)) a.2) (fun x => x = a) 0 [(0, .ref (adr G o0)), (1, .int x1), (2, .int x2)] [] M (fX8_turnsBack o0 x1 x2 M)) a h rfl
  clear h
  unfold fX8_turnsBack
  refine T_iconst (v := 0) dX8_turnsBack_0 (by decide) ?_
  refine T_istore_n (lv' := [(3, .int (0 : Int32)), (0, .ref (adr G o0)), (1, .int x1), (2, .int x2)]) dX8_turnsBack_1 rfl (by decide) rfl ?_
  refine T_iconst (v := 0) dX8_turnsBack_2 (by decide) ?_
  refine T_istore (lv' := [(4, .int (0 : Int32)), (3, .int (0 : Int32)), (0, .ref (adr G o0)), (1, .int x1), (2, .int x2)]) dX8_turnsBack_3 (by decide) rfl ?_
  refine T_bind (X := fun r16 => V G l RX8 cX8_turnsBack 7 (some .boolean) (rmOf 0 0) 0 0 (FinM G (some (.int a.1)) a.2) 113 [(4, .int r16.2.1), (3, .int r16.1), (0, .ref (adr G o0)), (1, .int x1), (2, .int x2)] [] r16.2.2) (T_loop (fun s1 => [(4, .int s1.2.1), (3, .int s1.1), (0, .ref (adr G o0)), (1, .int x1), (2, .int x2)]) (fun s1 => s1.2.2) (fun s1 => ?_) ((0 : Int32), (0 : Int32), M)) (fun r16 => ?_)
  · unfold wX8_turnsBack_5
    refine T_iload (q := 0) dX8_turnsBack_5 rfl ?_
    refine T_bipush (v := 36) dX8_turnsBack_7 (by decide) ?_
    refine T_icmp_ge (tgt := 113) dX8_turnsBack_9 (by decide) (fun hc2 => ?_) (fun hc2 => ?_)
    · exact T_end (fun h => V_sub [0, 1, 2, 3, 4] rfl h)
    · refine T_aload_n (q := 2) dX8_turnsBack_12 rfl rfl ?_
      refine T_getR cf7 fr_X8_59 dX8_turnsBack_13 ho0 rfl ?_
      refine T_bipush (v := 36) dX8_turnsBack_16 (by decide) ?_
      refine T_iload_n (q := 3) dX8_turnsBack_18 rfl rfl ?_
      refine T_imul dX8_turnsBack_19 ?_
      refine T_iload (q := 0) dX8_turnsBack_20 rfl ?_
      refine T_iadd dX8_turnsBack_22 ?_
      refine T_iald dX8_turnsBack_23 (sf_7_20 ho0) ?_
      refine T_istore_G (lv' := fun v3 => [(5, .int v3), (4, .int s1.2.1), (3, .int s1.1), (0, .ref (adr G o0)), (1, .int x1), (2, .int x2)]) dX8_turnsBack_24 (by decide) (fun _ => rfl) (fun v3 => ?_)
      refine T_aload_n (q := 3) dX8_turnsBack_26 rfl rfl ?_
      refine T_getR cf7 fr_X8_59 dX8_turnsBack_27 ho0 rfl ?_
      refine T_bipush (v := 36) dX8_turnsBack_30 (by decide) ?_
      refine T_iload_n (q := 4) dX8_turnsBack_32 rfl rfl ?_
      refine T_iconst (v := 1) dX8_turnsBack_33 (by decide) ?_
      refine T_iadd dX8_turnsBack_34 ?_
      refine T_imul dX8_turnsBack_35 ?_
      refine T_iload (q := 1) dX8_turnsBack_36 rfl ?_
      refine T_iadd dX8_turnsBack_38 ?_
      refine T_iald dX8_turnsBack_39 (sf_7_20 ho0) ?_
      refine T_istore_G (lv' := fun v4 => [(6, .int v4), (5, .int v3), (4, .int s1.2.1), (3, .int s1.1), (0, .ref (adr G o0)), (1, .int x1), (2, .int x2)]) dX8_turnsBack_40 (by decide) (fun _ => rfl) (fun v4 => ?_)
      refine T_iload (q := 1) dX8_turnsBack_42 rfl ?_
      refine T_iload (q := 0) dX8_turnsBack_44 rfl ?_
      refine T_icmp_eq (tgt := 107) dX8_turnsBack_46 (by decide) (fun hc5 => ?_) (fun hc5 => ?_)
      · refine T_iinc_G (q := 2) (y := s1.2.1 + 1) (lv' := fun v6 => [(4, .int v6), (6, .int v4), (5, .int v3), (3, .int s1.1), (0, .ref (adr G o0)), (1, .int x1), (2, .int x2)]) dX8_turnsBack_107 rfl rfl (by decide) (fun _ => rfl) (fun v6 => ?_)
        refine T_goto (tgt := 5) dX8_turnsBack_110 (by decide) ?_
        exact T_end (fun h => V_sub [0, 3, 4, 5, 6] rfl h)
      · refine T_aload_n (q := 4) dX8_turnsBack_49 rfl rfl ?_
        refine T_getR cf7 fr_X8_59 dX8_turnsBack_50 ho0 rfl ?_
        refine T_bipush (v := 36) dX8_turnsBack_53 (by decide) ?_
        refine T_iload_n (q := 6) dX8_turnsBack_55 rfl rfl ?_
        refine T_imul dX8_turnsBack_56 ?_
        refine T_iload (q := 2) dX8_turnsBack_57 rfl ?_
        refine T_iadd dX8_turnsBack_59 ?_
        refine T_iald dX8_turnsBack_60 (sf_7_20 ho0) ?_
        refine T_iload (q := 0) dX8_turnsBack_61 rfl ?_
        refine T_icmp_ne (tgt := 107) dX8_turnsBack_63 (by decide) (fun hc7 => ?_) (fun hc7 => ?_)
        · refine T_iload (q := 1) dX8_turnsBack_66 rfl ?_
          refine T_bipush (v := 10) dX8_turnsBack_68 (by decide) ?_
          refine T_icmp_eq (tgt := 91) dX8_turnsBack_70 (by decide) (fun hc8 => ?_) (fun hc8 => ?_)
          · refine T_aload_n (q := 4) dX8_turnsBack_91 rfl rfl ?_
            refine T_getR cf7 fr_X8_59 dX8_turnsBack_92 ho0 rfl ?_
            refine T_bipush (v := 36) dX8_turnsBack_95 (by decide) ?_
            refine T_iload_n (q := 6) dX8_turnsBack_97 rfl rfl ?_
            refine T_imul dX8_turnsBack_98 ?_
            refine T_iload (q := 2) dX8_turnsBack_99 rfl ?_
            refine T_iadd dX8_turnsBack_101 ?_
            refine T_iload (q := 1) dX8_turnsBack_102 rfl ?_
            refine T_iast dX8_turnsBack_104 (sf_7_20 ho0) (fun M9 => ?_)
            refine T_iconst (v := 1) dX8_turnsBack_105 (by decide) ?_
            refine T_istore_n (lv' := [(3, .int (1 : Int32)), (6, .int v4), (5, .int v3), (4, .int s1.2.1), (0, .ref (adr G o0)), (1, .int x1), (2, .int x2)]) dX8_turnsBack_106 rfl (by decide) rfl ?_
            refine T_iinc_G (q := 3) (y := s1.2.1 + 1) (lv' := fun v10 => [(4, .int v10), (3, .int (1 : Int32)), (6, .int v4), (5, .int v3), (0, .ref (adr G o0)), (1, .int x1), (2, .int x2)]) dX8_turnsBack_107 rfl rfl (by decide) (fun _ => rfl) (fun v10 => ?_)
            refine T_goto (tgt := 5) dX8_turnsBack_110 (by decide) ?_
            exact T_end (fun h => V_sub [0, 1, 4, 5, 6] rfl h)
          · refine T_aload_n (q := 4) dX8_turnsBack_73 rfl rfl ?_
            refine T_getR cf7 fr_X8_68 dX8_turnsBack_74 ho0 rfl ?_
            refine T_bipush (v := 10) dX8_turnsBack_77 (by decide) ?_
            refine T_iload_n (q := 6) dX8_turnsBack_79 rfl rfl ?_
            refine T_imul dX8_turnsBack_80 ?_
            refine T_iload (q := 1) dX8_turnsBack_81 rfl ?_
            refine T_iadd dX8_turnsBack_83 ?_
            refine T_zald dX8_turnsBack_84 (sf_7_23 ho0) ?_
            refine T_if_ne (tgt := 91) dX8_turnsBack_85 (by decide) (fun hc11 => ?_) (fun hc11 => ?_)
            · refine T_goto (tgt := 107) dX8_turnsBack_88 (by decide) ?_
              refine T_iinc_G (q := 2) (y := s1.2.1 + 1) (lv' := fun v12 => [(4, .int v12), (6, .int v4), (5, .int v3), (3, .int s1.1), (0, .ref (adr G o0)), (1, .int x1), (2, .int x2)]) dX8_turnsBack_107 rfl rfl (by decide) (fun _ => rfl) (fun v12 => ?_)
              refine T_goto (tgt := 5) dX8_turnsBack_110 (by decide) ?_
              exact T_end (fun h => V_sub [0, 3, 4, 5, 6] rfl h)
            · refine T_aload_n (q := 4) dX8_turnsBack_91 rfl rfl ?_
              refine T_getR cf7 fr_X8_59 dX8_turnsBack_92 ho0 rfl ?_
              refine T_bipush (v := 36) dX8_turnsBack_95 (by decide) ?_
              refine T_iload_n (q := 6) dX8_turnsBack_97 rfl rfl ?_
              refine T_imul dX8_turnsBack_98 ?_
              refine T_iload (q := 2) dX8_turnsBack_99 rfl ?_
              refine T_iadd dX8_turnsBack_101 ?_
              refine T_iload (q := 1) dX8_turnsBack_102 rfl ?_
              refine T_iast dX8_turnsBack_104 (sf_7_20 ho0) (fun M13 => ?_)
              refine T_iconst (v := 1) dX8_turnsBack_105 (by decide) ?_
              refine T_istore_n (lv' := [(3, .int (1 : Int32)), (6, .int v4), (5, .int v3), (4, .int s1.2.1), (0, .ref (adr G o0)), (1, .int x1), (2, .int x2)]) dX8_turnsBack_106 rfl (by decide) rfl ?_
              refine T_iinc_G (q := 3) (y := s1.2.1 + 1) (lv' := fun v14 => [(4, .int v14), (3, .int (1 : Int32)), (6, .int v4), (5, .int v3), (0, .ref (adr G o0)), (1, .int x1), (2, .int x2)]) dX8_turnsBack_107 rfl rfl (by decide) (fun _ => rfl) (fun v14 => ?_)
              refine T_goto (tgt := 5) dX8_turnsBack_110 (by decide) ?_
              exact T_end (fun h => V_sub [0, 1, 4, 5, 6] rfl h)
        · refine T_iinc_G (q := 2) (y := s1.2.1 + 1) (lv' := fun v15 => [(4, .int v15), (6, .int v4), (5, .int v3), (3, .int s1.1), (0, .ref (adr G o0)), (1, .int x1), (2, .int x2)]) dX8_turnsBack_107 rfl rfl (by decide) (fun _ => rfl) (fun v15 => ?_)
          refine T_goto (tgt := 5) dX8_turnsBack_110 (by decide) ?_
          exact T_end (fun h => V_sub [0, 3, 4, 5, 6] rfl h)
  · change T G l RX8 cX8_turnsBack 7 (some .boolean) (rmOf 0 0) 0 0 (FinM G (some (.int a.1)) a.2) _ 113 [(4, .int r16.2.1), (3, .int r16.1), (0, .ref (adr G o0)), (1, .int x1), (2, .int x2)] [] r16.2.2 _
    refine T_iload_n (q := 1) dX8_turnsBack_113 rfl rfl ?_
    refine T_gb (fun hz17 => ?_)
    exact T_end (fun h => by cases h; exact V_zret hz17 dX8_turnsBack_114)
set_option maxHeartbeats 4000000 in
set_option maxRecDepth 100000 in
theorem mX8_does (G : Gw) (l : Launch) (o0 : Nat) (ho0 : shp o0 = 7) (x1 : Int32) (x2 : Int32) (M : Mem) (a : Int32 × Mem) (h : fX8_does o0 x1 x2 M = some a) : CtP G l yX8_does cX8_does 6 (some .boolean) 1 27 [.ref (adr G o0), .int x1, .int x2] M (some (.int a.1)) a.2 := by
  refine CtP.ofV (by decide) (Nat.le_of_ble_eq_true rfl) ?_
  refine (?_ : T G l RX8 cX8_does 6 (some .boolean) (rmOf 1 27) 0 0 (FinM G (some (.int a.1)) a.2) (fun x => x = a) 0 [(0, .ref (adr G o0)), (1, .int x1), (2, .int x2)] [] M (fX8_does o0 x1 x2 M)) a h rfl
  clear h
  unfold fX8_does
  refine T_aload_n (q := 0) dX8_does_0 rfl rfl ?_
  refine T_getR cf7 fr_X8_19 dX8_does_1 ho0 rfl ?_
  refine T_iload_n (q := 1) dX8_does_4 rfl rfl ?_
  refine T_iald dX8_does_5 (sf_7_7 ho0) ?_
  refine T_istore_n_G (lv' := fun v1 => [(3, .int v1), (0, .ref (adr G o0)), (1, .int x1), (2, .int x2)]) dX8_does_6 rfl (by decide) (fun _ => rfl) (fun v1 => ?_)
  refine T_aload_n (q := 1) dX8_does_7 rfl rfl ?_
  refine T_getR cf7 fr_X8_22 dX8_does_8 ho0 rfl ?_
  refine T_iload_n (q := 2) dX8_does_11 rfl rfl ?_
  refine T_iald dX8_does_12 (sf_7_8 ho0) ?_
  refine T_istore_G (lv' := fun v2 => [(4, .int v2), (3, .int v1), (0, .ref (adr G o0)), (1, .int x1), (2, .int x2)]) dX8_does_13 (by decide) (fun _ => rfl) (fun v2 => ?_)
  refine T_aload_n (q := 2) dX8_does_15 rfl rfl ?_
  refine T_getR cf7 fr_X8_13 dX8_does_16 ho0 rfl ?_
  refine T_iload_n (q := 3) dX8_does_19 rfl rfl ?_
  refine T_iald dX8_does_20 (sf_7_5 ho0) ?_
  refine T_split (fun hs3 => ?_) (fun hs3 => ?_)
  · refine T_tswIn (off := 31) (tgt := 52) dX8_does_21 (by rw [hs3]; decide) (by rw [hs3]; decide) (by rw [hs3]; rfl) (by decide) ?_
    refine T_aload_n (q := 2) dX8_does_52 rfl rfl ?_
    refine T_getR cf7 fr_X8_68 dX8_does_53 ho0 rfl ?_
    refine T_bipush (v := 10) dX8_does_56 (by decide) ?_
    refine T_iload_n (q := 4) dX8_does_58 rfl rfl ?_
    refine T_imul dX8_does_59 ?_
    refine T_iload_n (q := 1) dX8_does_60 rfl rfl ?_
    refine T_iadd dX8_does_61 ?_
    refine T_zald dX8_does_62 (sf_7_23 ho0) ?_
    refine T_if_eq (tgt := 68) dX8_does_63 (by decide) (fun hc7 => ?_) (fun hc7 => ?_)
    · refine T_aload_n (q := 2) dX8_does_68 rfl rfl ?_
      refine T_getR cf7 fr_X8_68 dX8_does_69 ho0 rfl ?_
      refine T_bipush (v := 10) dX8_does_72 (by decide) ?_
      refine T_iload_n (q := 4) dX8_does_74 rfl rfl ?_
      refine T_imul dX8_does_75 ?_
      refine T_iload_n (q := 1) dX8_does_76 rfl rfl ?_
      refine T_iadd dX8_does_77 ?_
      refine T_iconst (v := 1) dX8_does_78 (by decide) ?_
      refine T_zast dX8_does_79 (sf_7_23 ho0) (fun M8 => ?_)
      refine T_iconst (v := 0) dX8_does_80 (by decide) ?_
      refine T_istore (lv' := [(5, .int (0 : Int32)), (4, .int v2), (3, .int v1), (0, .ref (adr G o0)), (1, .int x1), (2, .int x2)]) dX8_does_81 (by decide) rfl ?_
      refine T_bind (X := fun r15 => V G l RX8 cX8_does 6 (some .boolean) (rmOf 1 27) 0 0 (FinM G (some (.int a.1)) a.2) 125 [(5, .int r15.1), (4, .int v2), (3, .int v1), (0, .ref (adr G o0)), (1, .int x1), (2, .int x2)] [] r15.2) (T_loop (fun s9 => [(5, .int s9.1), (4, .int v2), (3, .int v1), (0, .ref (adr G o0)), (1, .int x1), (2, .int x2)]) (fun s9 => s9.2) (fun s9 => ?_) ((0 : Int32), M8)) (fun r15 => ?_)
      · unfold wX8_does_83
        refine T_iload (q := 0) dX8_does_83 rfl ?_
        refine T_bipush (v := 36) dX8_does_85 (by decide) ?_
        refine T_icmp_ge (tgt := 125) dX8_does_87 (by decide) (fun hc10 => ?_) (fun hc10 => ?_)
        · exact T_end (fun h => V_sub [0, 1, 2, 3, 4, 5] rfl h)
        · refine T_aload_n (q := 3) dX8_does_90 rfl rfl ?_
          refine T_getR cf7 fr_X8_25 dX8_does_91 ho0 rfl ?_
          refine T_iload_n (q := 4) dX8_does_94 rfl rfl ?_
          refine T_lald dX8_does_95 (sf_7_9 ho0) ?_
          refine T_iload (q := 0) dX8_does_96 rfl ?_
          refine T_lshr dX8_does_98 ?_
          refine T_lconst (v := 1) dX8_does_99 (by decide) ?_
          refine T_land dX8_does_100 ?_
          refine T_lconst (v := 1) dX8_does_101 (by decide) ?_
          refine T_lcmp dX8_does_102 ?_
          refine T_if_ne (tgt := 119) dX8_does_103 (by decide) (fun hc11 => ?_) (fun hc11 => ?_)
          · refine T_aload_n (q := 3) dX8_does_106 rfl rfl ?_
            refine T_getR cf7 fr_X8_59 dX8_does_107 ho0 rfl ?_
            refine T_bipush (v := 36) dX8_does_110 (by decide) ?_
            refine T_iload_n (q := 5) dX8_does_112 rfl rfl ?_
            refine T_imul dX8_does_113 ?_
            refine T_iload (q := 0) dX8_does_114 rfl ?_
            refine T_iadd dX8_does_116 ?_
            refine T_iload_n (q := 2) dX8_does_117 rfl rfl ?_
            refine T_iast dX8_does_118 (sf_7_20 ho0) (fun M12 => ?_)
            refine T_iinc_G (q := 0) (y := s9.1 + 1) (lv' := fun v13 => [(5, .int v13), (4, .int v2), (3, .int v1), (0, .ref (adr G o0)), (1, .int x1), (2, .int x2)]) dX8_does_119 rfl rfl (by decide) (fun _ => rfl) (fun v13 => ?_)
            refine T_goto (tgt := 83) dX8_does_122 (by decide) ?_
            exact T_end (fun h => V_sub [0, 1, 2, 3, 4, 5] rfl h)
          · refine T_iinc_G (q := 0) (y := s9.1 + 1) (lv' := fun v14 => [(5, .int v14), (4, .int v2), (3, .int v1), (0, .ref (adr G o0)), (1, .int x1), (2, .int x2)]) dX8_does_119 rfl rfl (by decide) (fun _ => rfl) (fun v14 => ?_)
            refine T_goto (tgt := 83) dX8_does_122 (by decide) ?_
            exact T_end (fun h => V_sub [0, 1, 2, 3, 4, 5] rfl h)
      · change T G l RX8 cX8_does 6 (some .boolean) (rmOf 1 27) 0 0 (FinM G (some (.int a.1)) a.2) _ 125 [(5, .int r15.1), (4, .int v2), (3, .int v1), (0, .ref (adr G o0)), (1, .int x1), (2, .int x2)] [] r15.2 _
        refine T_iconst (v := 1) dX8_does_125 (by decide) ?_
        exact T_end (fun h => by cases h; exact V_zret (Or.inr rfl) dX8_does_126)
    · refine T_iconst (v := 0) dX8_does_66 (by decide) ?_
      exact T_end (fun h => by cases h; exact V_zret (Or.inl rfl) dX8_does_67)
  · skip
    refine T_split (fun hs4 => ?_) (fun hs4 => ?_)
    · refine T_tswIn (off := 106) (tgt := 127) dX8_does_21 (by rw [hs4]; decide) (by rw [hs4]; decide) (by rw [hs4]; rfl) (by decide) ?_
      refine T_aload_n (q := 2) dX8_does_127 rfl rfl ?_
      refine T_getR cf7 fr_X8_68 dX8_does_128 ho0 rfl ?_
      refine T_bipush (v := 10) dX8_does_131 (by decide) ?_
      refine T_iload_n (q := 4) dX8_does_133 rfl rfl ?_
      refine T_imul dX8_does_134 ?_
      refine T_iload_n (q := 1) dX8_does_135 rfl rfl ?_
      refine T_iadd dX8_does_136 ?_
      refine T_zald dX8_does_137 (sf_7_23 ho0) ?_
      refine T_if_eq (tgt := 177) dX8_does_138 (by decide) (fun hc16 => ?_) (fun hc16 => ?_)
      · refine T_iconst (v := 0) dX8_does_177 (by decide) ?_
        exact T_end (fun h => by cases h; exact V_zret (Or.inl rfl) dX8_does_178)
      · refine T_aload_n (q := 2) dX8_does_141 rfl rfl ?_
        refine T_getR cf7 fr_X8_68 dX8_does_142 ho0 rfl ?_
        refine T_bipush (v := 10) dX8_does_145 (by decide) ?_
        refine T_iload_n (q := 4) dX8_does_147 rfl rfl ?_
        refine T_imul dX8_does_148 ?_
        refine T_iload (q := 0) dX8_does_149 rfl ?_
        refine T_iadd dX8_does_151 ?_
        refine T_zald dX8_does_152 (sf_7_23 ho0) ?_
        refine T_if_eq (tgt := 177) dX8_does_153 (by decide) (fun hc17 => ?_) (fun hc17 => ?_)
        · refine T_iconst (v := 0) dX8_does_177 (by decide) ?_
          exact T_end (fun h => by cases h; exact V_zret (Or.inl rfl) dX8_does_178)
        · refine T_aload_n (q := 2) dX8_does_156 rfl rfl ?_
          refine T_iload_n (q := 4) dX8_does_157 rfl rfl ?_
          refine T_iload_n (q := 1) dX8_does_158 rfl rfl ?_
          refine T_iload (q := 0) dX8_does_159 rfl ?_
          refine T_aload_n (q := 2) dX8_does_161 rfl rfl ?_
          refine T_getR cf7 fr_X8_25 dX8_does_162 ho0 rfl ?_
          refine T_iload_n (q := 3) dX8_does_165 rfl rfl ?_
          refine T_lald dX8_does_166 (sf_7_9 ho0) ?_
          refine T_callViw (As := [.int x2, .int v1, .int v2, .long (M.2 (rf o0 9) x1.toNatClampNeg)]) (st := []) mv_X8_131 (by decide) dX8_does_167 ho0 (fun b hb => mX8_gives G l o0 ho0 x2 v1 v2 (M.2 (rf o0 9) x1.toNatClampNeg) M b hb) rfl rfl (Nat.le_of_ble_eq_true rfl) (fun b18 => ?_)
          refine T_if_le (tgt := 177) dX8_does_170 (by decide) (fun hc19 => ?_) (fun hc19 => ?_)
          · refine T_iconst (v := 0) dX8_does_177 (by decide) ?_
            exact T_end (fun h => by cases h; exact V_zret (Or.inl rfl) dX8_does_178)
          · refine T_iconst (v := 1) dX8_does_173 (by decide) ?_
            refine T_goto (tgt := 178) dX8_does_174 (by decide) ?_
            exact T_end (fun h => by cases h; exact V_zret (Or.inr rfl) dX8_does_178)
    · skip
      refine T_split (fun hs5 => ?_) (fun hs5 => ?_)
      · refine T_tswIn (off := 158) (tgt := 179) dX8_does_21 (by rw [hs5]; decide) (by rw [hs5]; decide) (by rw [hs5]; rfl) (by decide) ?_
        refine T_aload_n (q := 2) dX8_does_179 rfl rfl ?_
        refine T_getR cf7 fr_X8_68 dX8_does_180 ho0 rfl ?_
        refine T_bipush (v := 10) dX8_does_183 (by decide) ?_
        refine T_iload_n (q := 4) dX8_does_185 rfl rfl ?_
        refine T_imul dX8_does_186 ?_
        refine T_iload_n (q := 1) dX8_does_187 rfl rfl ?_
        refine T_iadd dX8_does_188 ?_
        refine T_zald dX8_does_189 (sf_7_23 ho0) ?_
        refine T_if_eq (tgt := 218) dX8_does_190 (by decide) (fun hc20 => ?_) (fun hc20 => ?_)
        · refine T_iconst (v := 0) dX8_does_218 (by decide) ?_
          exact T_end (fun h => by cases h; exact V_zret (Or.inl rfl) dX8_does_219)
        · refine T_aload_n (q := 2) dX8_does_193 rfl rfl ?_
          refine T_getR cf7 fr_X8_68 dX8_does_194 ho0 rfl ?_
          refine T_bipush (v := 10) dX8_does_197 (by decide) ?_
          refine T_iload_n (q := 4) dX8_does_199 rfl rfl ?_
          refine T_imul dX8_does_200 ?_
          refine T_iload (q := 0) dX8_does_201 rfl ?_
          refine T_iadd dX8_does_203 ?_
          refine T_zald dX8_does_204 (sf_7_23 ho0) ?_
          refine T_if_eq (tgt := 218) dX8_does_205 (by decide) (fun hc21 => ?_) (fun hc21 => ?_)
          · refine T_iconst (v := 0) dX8_does_218 (by decide) ?_
            exact T_end (fun h => by cases h; exact V_zret (Or.inl rfl) dX8_does_219)
          · refine T_aload_n (q := 2) dX8_does_208 rfl rfl ?_
            refine T_getR cf7 fr_X8_9 dX8_does_209 ho0 rfl ?_
            refine T_iload_n (q := 1) dX8_does_212 rfl rfl ?_
            refine T_iald dX8_does_213 (sf_7_4 ho0) ?_
            refine T_iconst (v := 2) dX8_does_214 (by decide) ?_
            refine T_icmp_ne (tgt := 220) dX8_does_215 (by decide) (fun hc22 => ?_) (fun hc22 => ?_)
            · refine T_iconst (v := 0) dX8_does_218 (by decide) ?_
              exact T_end (fun h => by cases h; exact V_zret (Or.inl rfl) dX8_does_219)
            · refine T_aload_n (q := 2) dX8_does_220 rfl rfl ?_
              refine T_iload_n (q := 4) dX8_does_221 rfl rfl ?_
              refine T_iload_n (q := 1) dX8_does_222 rfl rfl ?_
              refine T_iload (q := 0) dX8_does_223 rfl ?_
              refine T_ldc2 dX8_does_225 kcl_X8_135 ?_
              refine T_callViw (As := [.int x2, .int v1, .int v2, .long (-1 : Int64)]) (st := []) mv_X8_131 (by decide) dX8_does_228 ho0 (fun b hb => mX8_gives G l o0 ho0 x2 v1 v2 (-1 : Int64) M b hb) rfl rfl (Nat.le_of_ble_eq_true rfl) (fun b23 => ?_)
              refine T_istore (lv' := [(5, .int b23.1), (4, .int v2), (3, .int v1), (0, .ref (adr G o0)), (1, .int x1), (2, .int x2)]) dX8_does_231 (by decide) rfl ?_
              refine T_aload_n (q := 3) dX8_does_233 rfl rfl ?_
              refine T_getR cf7 fr_X8_68 dX8_does_234 ho0 rfl ?_
              refine T_bipush (v := 10) dX8_does_237 (by decide) ?_
              refine T_iload_n (q := 5) dX8_does_239 rfl rfl ?_
              refine T_imul dX8_does_240 ?_
              refine T_iload_n (q := 2) dX8_does_241 rfl rfl ?_
              refine T_iadd dX8_does_242 ?_
              refine T_iconst (v := 0) dX8_does_243 (by decide) ?_
              refine T_zast dX8_does_244 (sf_7_23 ho0) (fun M24 => ?_)
              refine T_aload_n (q := 3) dX8_does_245 rfl rfl ?_
              refine T_getR cf7 fr_X8_62 dX8_does_246 ho0 rfl ?_
              refine T_bipush (v := 10) dX8_does_249 (by decide) ?_
              refine T_iload_n (q := 5) dX8_does_251 rfl rfl ?_
              refine T_imul dX8_does_252 ?_
              refine T_iload_n (q := 2) dX8_does_253 rfl rfl ?_
              refine T_iadd dX8_does_254 ?_
              refine T_iconst (v := -1) dX8_does_255 (by decide) ?_
              refine T_iast dX8_does_256 (sf_7_21 ho0) (fun M25 => ?_)
              refine T_iconst (v := 1) dX8_does_257 (by decide) ?_
              exact T_end (fun h => by cases h; exact V_zret (Or.inr rfl) dX8_does_258)
      · skip
        refine T_split (fun hs6 => ?_) (fun hs6 => ?_)
        · refine T_tswIn (off := 238) (tgt := 259) dX8_does_21 (by rw [hs6]; decide) (by rw [hs6]; decide) (by rw [hs6]; rfl) (by decide) ?_
          refine T_aload_n (q := 2) dX8_does_259 rfl rfl ?_
          refine T_aload_n (q := 2) dX8_does_260 rfl rfl ?_
          refine T_getR cf7 fr_X8_56 dX8_does_261 ho0 rfl ?_
          refine T_iload_n (q := 1) dX8_does_264 rfl rfl ?_
          refine T_iald dX8_does_265 (sf_7_19 ho0) ?_
          refine T_iload_n (q := 4) dX8_does_266 rfl rfl ?_
          refine T_callViw (As := [.int (M.1 (rf o0 19) v1.toNatClampNeg), .int x2]) (st := []) mv_X8_137 (by decide) dX8_does_267 ho0 (fun b hb => mX8_turnsBack G l o0 ho0 (M.1 (rf o0 19) v1.toNatClampNeg) x2 M b hb) rfl rfl (Nat.le_of_ble_eq_true rfl) (fun b26 => ?_)
          refine T_gb (fun hz27 => ?_)
          exact T_end (fun h => by cases h; exact V_zret hz27 dX8_does_270)
        · skip
          refine T_tswOut (tgt := 271) dX8_does_21 (by have hz := tsw0 (x := M.1 (rf o0 5) x1.toNatClampNeg) (n := 4) (by decide) (fun j hj => by match j, hj with | 0, _ => exact hs3 | 1, _ => exact hs4 | 2, _ => exact hs5 | 3, _ => exact hs6); exact hz) (by decide) ?_
          refine T_aload_n (q := 2) dX8_does_271 rfl rfl ?_
          refine T_getR cf7 fr_X8_68 dX8_does_272 ho0 rfl ?_
          refine T_bipush (v := 10) dX8_does_275 (by decide) ?_
          refine T_iload_n (q := 4) dX8_does_277 rfl rfl ?_
          refine T_imul dX8_does_278 ?_
          refine T_iload_n (q := 1) dX8_does_279 rfl rfl ?_
          refine T_iadd dX8_does_280 ?_
          refine T_zald dX8_does_281 (sf_7_23 ho0) ?_
          refine T_if_ne (tgt := 287) dX8_does_282 (by decide) (fun hc28 => ?_) (fun hc28 => ?_)
          · refine T_iconst (v := 0) dX8_does_285 (by decide) ?_
            exact T_end (fun h => by cases h; exact V_zret (Or.inl rfl) dX8_does_286)
          · refine T_aload_n (q := 2) dX8_does_287 rfl rfl ?_
            refine T_getR cf7 fr_X8_62 dX8_does_288 ho0 rfl ?_
            refine T_bipush (v := 10) dX8_does_291 (by decide) ?_
            refine T_iload_n (q := 4) dX8_does_293 rfl rfl ?_
            refine T_imul dX8_does_294 ?_
            refine T_iload_n (q := 1) dX8_does_295 rfl rfl ?_
            refine T_iadd dX8_does_296 ?_
            refine T_iload (q := 0) dX8_does_297 rfl ?_
            refine T_iast dX8_does_299 (sf_7_21 ho0) (fun M29 => ?_)
            refine T_iconst (v := 1) dX8_does_300 (by decide) ?_
            exact T_end (fun h => by cases h; exact V_zret (Or.inr rfl) dX8_does_301)
set_option maxHeartbeats 4000000 in
set_option maxRecDepth 100000 in
theorem mX8_done (G : Gw) (l : Launch) (o0 : Nat) (ho0 : shp o0 = 7) (M : Mem) (a : Mem) (h : fX8_done o0 M = some a) : CtP G l yX8_done cX8_done 4 none 2 52 [.ref (adr G o0)] M (none) a := by
  refine CtP.ofV (by decide) (Nat.le_of_ble_eq_true rfl) ?_
  refine (?_ : T G l RX8 cX8_done 4 none (rmOf 2 52) 0 0 (FinM G (none) a) (fun x => x = a) 0 [(0, .ref (adr G o0))] [] M (fX8_done o0 M)) a h rfl
  clear h
  unfold fX8_done
  refine T_iconst (v := 0) dX8_done_0 (by decide) ?_
  refine T_istore_n (lv' := [(1, .int (0 : Int32)), (0, .ref (adr G o0))]) dX8_done_1 rfl (by decide) rfl ?_
  refine T_bind (X := fun r20 => V G l RX8 cX8_done 4 none (rmOf 2 52) 0 0 (FinM G (none) a) 91 [(1, .int r20.1), (0, .ref (adr G o0))] [] r20.2) (T_loop (fun s1 => [(1, .int s1.1), (0, .ref (adr G o0))]) (fun s1 => s1.2) (fun s1 => ?_) ((0 : Int32), M)) (fun r20 => ?_)
  · unfold wX8_done_2
    refine T_iload_n (q := 0) dX8_done_2 rfl rfl ?_
    refine T_aload_n (q := 1) dX8_done_3 rfl rfl ?_
    refine T_getI cf7 fr_X8_112 dX8_done_4 ho0 rfl ?_
    refine T_icmp_ge (tgt := 91) dX8_done_7 (by decide) (fun hc2 => ?_) (fun hc2 => ?_)
    · exact T_end (fun h => V_sub [0, 1] rfl h)
    · refine T_iconst (v := 0) dX8_done_10 (by decide) ?_
      refine T_istore_n (lv' := [(2, .int (0 : Int32)), (1, .int s1.1), (0, .ref (adr G o0))]) dX8_done_11 rfl (by decide) rfl ?_
      refine T_iconst (v := 0) dX8_done_12 (by decide) ?_
      refine T_istore_n (lv' := [(3, .int (0 : Int32)), (2, .int (0 : Int32)), (1, .int s1.1), (0, .ref (adr G o0))]) dX8_done_13 rfl (by decide) rfl ?_
      refine T_bind (X := fun r16 => V G l RX8 cX8_done 4 none (rmOf 2 52) 0 0 (FinM G (none) a) 71 [(3, .int r16.2), (2, .int r16.1), (1, .int s1.1), (0, .ref (adr G o0))] [] s1.2) (T_loop (fun s3 => [(3, .int s3.2), (2, .int s3.1), (1, .int s1.1), (0, .ref (adr G o0))]) (fun s3 => s1.2) (fun s3 => ?_) ((0 : Int32), (0 : Int32))) (fun r16 => ?_)
      · unfold wX8_done_14
        refine T_iload_n (q := 0) dX8_done_14 rfl rfl ?_
        refine T_aload_n (q := 3) dX8_done_15 rfl rfl ?_
        refine T_getI cf7 fr_X8_112 dX8_done_16 ho0 rfl ?_
        refine T_icmp_ge (tgt := 71) dX8_done_19 (by decide) (fun hc4 => ?_) (fun hc4 => ?_)
        · exact T_end (fun h => V_sub [0, 1, 2, 3] rfl h)
        · refine T_iload_n (q := 1) dX8_done_22 rfl rfl ?_
          refine T_aload_n (q := 3) dX8_done_23 rfl rfl ?_
          refine T_getR cf7 fr_X8_16 dX8_done_24 ho0 rfl ?_
          refine T_iload_n (q := 0) dX8_done_27 rfl rfl ?_
          refine T_iald dX8_done_28 (sf_7_6 ho0) ?_
          refine T_aload_n (q := 3) dX8_done_29 rfl rfl ?_
          refine T_getR cf7 fr_X8_16 dX8_done_30 ho0 rfl ?_
          refine T_iload_n (q := 2) dX8_done_33 rfl rfl ?_
          refine T_iald dX8_done_34 (sf_7_6 ho0) ?_
          refine T_icmp_lt (tgt := 58) dX8_done_35 (by decide) (fun hc5 => ?_) (fun hc5 => ?_)
          · refine T_iconst (v := 1) dX8_done_58 (by decide) ?_
            refine T_goto (tgt := 63) dX8_done_59 (by decide) ?_
            refine T_iadd dX8_done_63 ?_
            refine T_istore_n_G (lv' := fun v6 => [(2, .int v6), (3, .int s3.2), (1, .int s1.1), (0, .ref (adr G o0))]) dX8_done_64 rfl (by decide) (fun _ => rfl) (fun v6 => ?_)
            refine T_iinc_G (q := 1) (y := s3.2 + 1) (lv' := fun v7 => [(3, .int v7), (2, .int v6), (1, .int s1.1), (0, .ref (adr G o0))]) dX8_done_65 rfl rfl (by decide) (fun _ => rfl) (fun v7 => ?_)
            refine T_goto (tgt := 14) dX8_done_68 (by decide) ?_
            exact T_end (fun h => V_sub [0, 1, 2, 3] rfl h)
          · refine T_aload_n (q := 3) dX8_done_38 rfl rfl ?_
            refine T_getR cf7 fr_X8_16 dX8_done_39 ho0 rfl ?_
            refine T_iload_n (q := 0) dX8_done_42 rfl rfl ?_
            refine T_iald dX8_done_43 (sf_7_6 ho0) ?_
            refine T_aload_n (q := 3) dX8_done_44 rfl rfl ?_
            refine T_getR cf7 fr_X8_16 dX8_done_45 ho0 rfl ?_
            refine T_iload_n (q := 2) dX8_done_48 rfl rfl ?_
            refine T_iald dX8_done_49 (sf_7_6 ho0) ?_
            refine T_icmp_ne (tgt := 62) dX8_done_50 (by decide) (fun hc8 => ?_) (fun hc8 => ?_)
            · refine T_iload_n (q := 0) dX8_done_53 rfl rfl ?_
              refine T_iload_n (q := 2) dX8_done_54 rfl rfl ?_
              refine T_icmp_ge (tgt := 62) dX8_done_55 (by decide) (fun hc9 => ?_) (fun hc9 => ?_)
              · refine T_iconst (v := 0) dX8_done_62 (by decide) ?_
                refine T_iadd dX8_done_63 ?_
                refine T_istore_n_G (lv' := fun v10 => [(2, .int v10), (3, .int s3.2), (1, .int s1.1), (0, .ref (adr G o0))]) dX8_done_64 rfl (by decide) (fun _ => rfl) (fun v10 => ?_)
                refine T_iinc_G (q := 1) (y := s3.2 + 1) (lv' := fun v11 => [(3, .int v11), (2, .int v10), (1, .int s1.1), (0, .ref (adr G o0))]) dX8_done_65 rfl rfl (by decide) (fun _ => rfl) (fun v11 => ?_)
                refine T_goto (tgt := 14) dX8_done_68 (by decide) ?_
                exact T_end (fun h => V_sub [0, 1, 2, 3] rfl h)
              · refine T_iconst (v := 1) dX8_done_58 (by decide) ?_
                refine T_goto (tgt := 63) dX8_done_59 (by decide) ?_
                refine T_iadd dX8_done_63 ?_
                refine T_istore_n_G (lv' := fun v12 => [(2, .int v12), (3, .int s3.2), (1, .int s1.1), (0, .ref (adr G o0))]) dX8_done_64 rfl (by decide) (fun _ => rfl) (fun v12 => ?_)
                refine T_iinc_G (q := 1) (y := s3.2 + 1) (lv' := fun v13 => [(3, .int v13), (2, .int v12), (1, .int s1.1), (0, .ref (adr G o0))]) dX8_done_65 rfl rfl (by decide) (fun _ => rfl) (fun v13 => ?_)
                refine T_goto (tgt := 14) dX8_done_68 (by decide) ?_
                exact T_end (fun h => V_sub [0, 1, 2, 3] rfl h)
            · refine T_iconst (v := 0) dX8_done_62 (by decide) ?_
              refine T_iadd dX8_done_63 ?_
              refine T_istore_n_G (lv' := fun v14 => [(2, .int v14), (3, .int s3.2), (1, .int s1.1), (0, .ref (adr G o0))]) dX8_done_64 rfl (by decide) (fun _ => rfl) (fun v14 => ?_)
              refine T_iinc_G (q := 1) (y := s3.2 + 1) (lv' := fun v15 => [(3, .int v15), (2, .int v14), (1, .int s1.1), (0, .ref (adr G o0))]) dX8_done_65 rfl rfl (by decide) (fun _ => rfl) (fun v15 => ?_)
              refine T_goto (tgt := 14) dX8_done_68 (by decide) ?_
              exact T_end (fun h => V_sub [0, 1, 2, 3] rfl h)
      · change T G l RX8 cX8_done 4 none (rmOf 2 52) 0 0 (FinM G (none) a) _ 71 [(3, .int r16.2), (2, .int r16.1), (1, .int s1.1), (0, .ref (adr G o0))] [] s1.2 _
        refine T_aload_n (q := 3) dX8_done_71 rfl rfl ?_
        refine T_getR cf7 fr_X8_53 dX8_done_72 ho0 rfl ?_
        refine T_iload_n (q := 1) dX8_done_75 rfl rfl ?_
        refine T_iload_n (q := 2) dX8_done_76 rfl rfl ?_
        refine T_iast dX8_done_77 (sf_7_18 ho0) (fun M17 => ?_)
        refine T_aload_n (q := 3) dX8_done_78 rfl rfl ?_
        refine T_getR cf7 fr_X8_56 dX8_done_79 ho0 rfl ?_
        refine T_iload_n (q := 2) dX8_done_82 rfl rfl ?_
        refine T_iload_n (q := 1) dX8_done_83 rfl rfl ?_
        refine T_iast dX8_done_84 (sf_7_19 ho0) (fun M18 => ?_)
        refine T_iinc_G (q := 2) (y := s1.1 + 1) (lv' := fun v19 => [(1, .int v19), (3, .int r16.2), (2, .int r16.1), (0, .ref (adr G o0))]) dX8_done_85 rfl rfl (by decide) (fun _ => rfl) (fun v19 => ?_)
        refine T_goto (tgt := 2) dX8_done_88 (by decide) ?_
        exact T_end (fun h => V_sub [0, 3] rfl h)
  · change T G l RX8 cX8_done 4 none (rmOf 2 52) 0 0 (FinM G (none) a) _ 91 [(1, .int r20.1), (0, .ref (adr G o0))] [] r20.2 _
    refine T_iconst (v := 0) dX8_done_91 (by decide) ?_
    refine T_istore_n (lv' := [(1, .int (0 : Int32)), (0, .ref (adr G o0))]) dX8_done_92 rfl (by decide) rfl ?_
    refine T_bind (X := fun r25 => V G l RX8 cX8_done 4 none (rmOf 2 52) 0 0 (FinM G (none) a) 113 [(1, .int r25.1), (0, .ref (adr G o0))] [] r25.2) (T_loop (fun s21 => [(1, .int s21.1), (0, .ref (adr G o0))]) (fun s21 => s21.2) (fun s21 => ?_) ((0 : Int32), r20.2)) (fun r25 => ?_)
    · unfold wX8_done_93
      refine T_iload_n (q := 0) dX8_done_93 rfl rfl ?_
      refine T_bipush (v := 36) dX8_done_94 (by decide) ?_
      refine T_icmp_ge (tgt := 113) dX8_done_96 (by decide) (fun hc22 => ?_) (fun hc22 => ?_)
      · exact T_end (fun h => V_sub [0, 1] rfl h)
      · refine T_aload_n (q := 1) dX8_done_99 rfl rfl ?_
        refine T_getR cf7 fr_X8_59 dX8_done_100 ho0 rfl ?_
        refine T_iload_n (q := 0) dX8_done_103 rfl rfl ?_
        refine T_bipush (v := 10) dX8_done_104 (by decide) ?_
        refine T_iast dX8_done_106 (sf_7_20 ho0) (fun M23 => ?_)
        refine T_iinc_G (q := 0) (y := s21.1 + 1) (lv' := fun v24 => [(1, .int v24), (0, .ref (adr G o0))]) dX8_done_107 rfl rfl (by decide) (fun _ => rfl) (fun v24 => ?_)
        refine T_goto (tgt := 93) dX8_done_110 (by decide) ?_
        exact T_end (fun h => V_sub [0, 1] rfl h)
    · change T G l RX8 cX8_done 4 none (rmOf 2 52) 0 0 (FinM G (none) a) _ 113 [(1, .int r25.1), (0, .ref (adr G o0))] [] r25.2 _
      refine T_iconst (v := 0) dX8_done_113 (by decide) ?_
      refine T_istore_n (lv' := [(1, .int (0 : Int32)), (0, .ref (adr G o0))]) dX8_done_114 rfl (by decide) rfl ?_
      refine T_bind (X := fun r31 => V G l RX8 cX8_done 4 none (rmOf 2 52) 0 0 (FinM G (none) a) 141 [(1, .int r31.1), (0, .ref (adr G o0))] [] r31.2) (T_loop (fun s26 => [(1, .int s26.1), (0, .ref (adr G o0))]) (fun s26 => s26.2) (fun s26 => ?_) ((0 : Int32), r25.2)) (fun r31 => ?_)
      · unfold wX8_done_115
        refine T_iload_n (q := 0) dX8_done_115 rfl rfl ?_
        refine T_bipush (v := 10) dX8_done_116 (by decide) ?_
        refine T_icmp_ge (tgt := 141) dX8_done_118 (by decide) (fun hc27 => ?_) (fun hc27 => ?_)
        · exact T_end (fun h => V_sub [0, 1] rfl h)
        · refine T_aload_n (q := 1) dX8_done_121 rfl rfl ?_
          refine T_getR cf7 fr_X8_68 dX8_done_122 ho0 rfl ?_
          refine T_iload_n (q := 0) dX8_done_125 rfl rfl ?_
          refine T_iconst (v := 0) dX8_done_126 (by decide) ?_
          refine T_zast dX8_done_127 (sf_7_23 ho0) (fun M28 => ?_)
          refine T_aload_n (q := 1) dX8_done_128 rfl rfl ?_
          refine T_getR cf7 fr_X8_62 dX8_done_129 ho0 rfl ?_
          refine T_iload_n (q := 0) dX8_done_132 rfl rfl ?_
          refine T_iconst (v := -1) dX8_done_133 (by decide) ?_
          refine T_iast dX8_done_134 (sf_7_21 ho0) (fun M29 => ?_)
          refine T_iinc_G (q := 0) (y := s26.1 + 1) (lv' := fun v30 => [(1, .int v30), (0, .ref (adr G o0))]) dX8_done_135 rfl rfl (by decide) (fun _ => rfl) (fun v30 => ?_)
          refine T_goto (tgt := 115) dX8_done_138 (by decide) ?_
          exact T_end (fun h => V_sub [0, 1] rfl h)
      · change T G l RX8 cX8_done 4 none (rmOf 2 52) 0 0 (FinM G (none) a) _ 141 [(1, .int r31.1), (0, .ref (adr G o0))] [] r31.2 _
        refine T_iconst (v := 0) dX8_done_141 (by decide) ?_
        refine T_istore_n (lv' := [(1, .int (0 : Int32)), (0, .ref (adr G o0))]) dX8_done_142 rfl (by decide) rfl ?_
        refine T_bind (X := fun r60 => V G l RX8 cX8_done 4 none (rmOf 2 52) 0 0 (FinM G (none) a) 348 [(1, .int r60.1), (0, .ref (adr G o0))] [] r60.2) (T_loop (fun s32 => [(1, .int s32.1), (0, .ref (adr G o0))]) (fun s32 => s32.2) (fun s32 => ?_) ((0 : Int32), r31.2)) (fun r60 => ?_)
        · unfold wX8_done_143
          refine T_iload_n (q := 0) dX8_done_143 rfl rfl ?_
          refine T_aload_n (q := 1) dX8_done_144 rfl rfl ?_
          refine T_getI cf7 fr_X8_112 dX8_done_145 ho0 rfl ?_
          refine T_icmp_ge (tgt := 348) dX8_done_148 (by decide) (fun hc33 => ?_) (fun hc33 => ?_)
          · exact T_end (fun h => V_sub [0, 1] rfl h)
          · refine T_iconst (v := 0) dX8_done_151 (by decide) ?_
            refine T_istore_n (lv' := [(2, .int (0 : Int32)), (1, .int s32.1), (0, .ref (adr G o0))]) dX8_done_152 rfl (by decide) rfl ?_
            refine T_bind (X := fun r38 => V G l RX8 cX8_done 4 none (rmOf 2 52) 0 0 (FinM G (none) a) 189 [(2, .int r38.1), (1, .int s32.1), (0, .ref (adr G o0))] [] r38.2) (T_loop (fun s34 => [(2, .int s34.1), (1, .int s32.1), (0, .ref (adr G o0))]) (fun s34 => s34.2) (fun s34 => ?_) ((0 : Int32), s32.2)) (fun r38 => ?_)
            · unfold wX8_done_153
              refine T_iload_n (q := 0) dX8_done_153 rfl rfl ?_
              refine T_bipush (v := 36) dX8_done_154 (by decide) ?_
              refine T_icmp_ge (tgt := 189) dX8_done_156 (by decide) (fun hc35 => ?_) (fun hc35 => ?_)
              · exact T_end (fun h => V_sub [0, 1, 2] rfl h)
              · refine T_aload_n (q := 2) dX8_done_159 rfl rfl ?_
                refine T_getR cf7 fr_X8_59 dX8_done_160 ho0 rfl ?_
                refine T_bipush (v := 36) dX8_done_163 (by decide) ?_
                refine T_iload_n (q := 1) dX8_done_165 rfl rfl ?_
                refine T_iconst (v := 1) dX8_done_166 (by decide) ?_
                refine T_iadd dX8_done_167 ?_
                refine T_imul dX8_done_168 ?_
                refine T_iload_n (q := 0) dX8_done_169 rfl rfl ?_
                refine T_iadd dX8_done_170 ?_
                refine T_aload_n (q := 2) dX8_done_171 rfl rfl ?_
                refine T_getR cf7 fr_X8_59 dX8_done_172 ho0 rfl ?_
                refine T_bipush (v := 36) dX8_done_175 (by decide) ?_
                refine T_iload_n (q := 1) dX8_done_177 rfl rfl ?_
                refine T_imul dX8_done_178 ?_
                refine T_iload_n (q := 0) dX8_done_179 rfl rfl ?_
                refine T_iadd dX8_done_180 ?_
                refine T_iald dX8_done_181 (sf_7_20 ho0) ?_
                refine T_iast dX8_done_182 (sf_7_20 ho0) (fun M36 => ?_)
                refine T_iinc_G (q := 0) (y := s34.1 + 1) (lv' := fun v37 => [(2, .int v37), (1, .int s32.1), (0, .ref (adr G o0))]) dX8_done_183 rfl rfl (by decide) (fun _ => rfl) (fun v37 => ?_)
                refine T_goto (tgt := 153) dX8_done_186 (by decide) ?_
                exact T_end (fun h => V_sub [0, 1, 2] rfl h)
            · change T G l RX8 cX8_done 4 none (rmOf 2 52) 0 0 (FinM G (none) a) _ 189 [(2, .int r38.1), (1, .int s32.1), (0, .ref (adr G o0))] [] r38.2 _
              refine T_iconst (v := 0) dX8_done_189 (by decide) ?_
              refine T_istore_n (lv' := [(2, .int (0 : Int32)), (1, .int s32.1), (0, .ref (adr G o0))]) dX8_done_190 rfl (by decide) rfl ?_
              refine T_bind (X := fun r44 => V G l RX8 cX8_done 4 none (rmOf 2 52) 0 0 (FinM G (none) a) 251 [(2, .int r44.1), (1, .int s32.1), (0, .ref (adr G o0))] [] r44.2) (T_loop (fun s39 => [(2, .int s39.1), (1, .int s32.1), (0, .ref (adr G o0))]) (fun s39 => s39.2) (fun s39 => ?_) ((0 : Int32), r38.2)) (fun r44 => ?_)
              · unfold wX8_done_191
                refine T_iload_n (q := 0) dX8_done_191 rfl rfl ?_
                refine T_bipush (v := 10) dX8_done_192 (by decide) ?_
                refine T_icmp_ge (tgt := 251) dX8_done_194 (by decide) (fun hc40 => ?_) (fun hc40 => ?_)
                · exact T_end (fun h => V_sub [0, 1, 2] rfl h)
                · refine T_aload_n (q := 2) dX8_done_197 rfl rfl ?_
                  refine T_getR cf7 fr_X8_68 dX8_done_198 ho0 rfl ?_
                  refine T_bipush (v := 10) dX8_done_201 (by decide) ?_
                  refine T_iload_n (q := 1) dX8_done_203 rfl rfl ?_
                  refine T_iconst (v := 1) dX8_done_204 (by decide) ?_
                  refine T_iadd dX8_done_205 ?_
                  refine T_imul dX8_done_206 ?_
                  refine T_iload_n (q := 0) dX8_done_207 rfl rfl ?_
                  refine T_iadd dX8_done_208 ?_
                  refine T_aload_n (q := 2) dX8_done_209 rfl rfl ?_
                  refine T_getR cf7 fr_X8_68 dX8_done_210 ho0 rfl ?_
                  refine T_bipush (v := 10) dX8_done_213 (by decide) ?_
                  refine T_iload_n (q := 1) dX8_done_215 rfl rfl ?_
                  refine T_imul dX8_done_216 ?_
                  refine T_iload_n (q := 0) dX8_done_217 rfl rfl ?_
                  refine T_iadd dX8_done_218 ?_
                  refine T_zald dX8_done_219 (sf_7_23 ho0) ?_
                  refine T_zast dX8_done_220 (sf_7_23 ho0) (fun M41 => ?_)
                  refine T_aload_n (q := 2) dX8_done_221 rfl rfl ?_
                  refine T_getR cf7 fr_X8_62 dX8_done_222 ho0 rfl ?_
                  refine T_bipush (v := 10) dX8_done_225 (by decide) ?_
                  refine T_iload_n (q := 1) dX8_done_227 rfl rfl ?_
                  refine T_iconst (v := 1) dX8_done_228 (by decide) ?_
                  refine T_iadd dX8_done_229 ?_
                  refine T_imul dX8_done_230 ?_
                  refine T_iload_n (q := 0) dX8_done_231 rfl rfl ?_
                  refine T_iadd dX8_done_232 ?_
                  refine T_aload_n (q := 2) dX8_done_233 rfl rfl ?_
                  refine T_getR cf7 fr_X8_62 dX8_done_234 ho0 rfl ?_
                  refine T_bipush (v := 10) dX8_done_237 (by decide) ?_
                  refine T_iload_n (q := 1) dX8_done_239 rfl rfl ?_
                  refine T_imul dX8_done_240 ?_
                  refine T_iload_n (q := 0) dX8_done_241 rfl rfl ?_
                  refine T_iadd dX8_done_242 ?_
                  refine T_iald dX8_done_243 (sf_7_21 ho0) ?_
                  refine T_iast dX8_done_244 (sf_7_21 ho0) (fun M42 => ?_)
                  refine T_iinc_G (q := 0) (y := s39.1 + 1) (lv' := fun v43 => [(2, .int v43), (1, .int s32.1), (0, .ref (adr G o0))]) dX8_done_245 rfl rfl (by decide) (fun _ => rfl) (fun v43 => ?_)
                  refine T_goto (tgt := 191) dX8_done_248 (by decide) ?_
                  exact T_end (fun h => V_sub [0, 1, 2] rfl h)
              · change T G l RX8 cX8_done 4 none (rmOf 2 52) 0 0 (FinM G (none) a) _ 251 [(2, .int r44.1), (1, .int s32.1), (0, .ref (adr G o0))] [] r44.2 _
                refine T_aload_n (q := 2) dX8_done_251 rfl rfl ?_
                refine T_getR cf7 fr_X8_53 dX8_done_252 ho0 rfl ?_
                refine T_iload_n (q := 1) dX8_done_255 rfl rfl ?_
                refine T_iald dX8_done_256 (sf_7_18 ho0) ?_
                refine T_istore_n_G (lv' := fun v45 => [(2, .int v45), (1, .int s32.1), (0, .ref (adr G o0))]) dX8_done_257 rfl (by decide) (fun _ => rfl) (fun v45 => ?_)
                refine T_aload_n (q := 2) dX8_done_258 rfl rfl ?_
                refine T_getR cf7 fr_X8_72 dX8_done_259 ho0 rfl ?_
                refine T_iload_n (q := 0) dX8_done_262 rfl rfl ?_
                refine T_aload_n (q := 2) dX8_done_263 rfl rfl ?_
                refine T_iload_n (q := 0) dX8_done_264 rfl rfl ?_
                refine T_iload_n (q := 1) dX8_done_265 rfl rfl ?_
                refine T_iconst (v := 1) dX8_done_266 (by decide) ?_
                refine T_iadd dX8_done_267 ?_
                refine T_callViw (As := [.int v45, .int (s32.1 + (1 : Int32))]) (st := [.int v45, .ref (adr G (rf o0 24))]) mv_X8_127 (by decide) dX8_done_268 ho0 (fun b hb => mX8_does G l o0 ho0 v45 (s32.1 + (1 : Int32)) r44.2 b hb) rfl rfl (Nat.le_of_ble_eq_true rfl) (fun b46 => ?_)
                refine T_bind (X := fun j47 => V G l RX8 cX8_done 4 none (rmOf 2 52) 0 0 (FinM G (none) a) 279 [(2, .int v45), (1, .int s32.1), (0, .ref (adr G o0))] [.int j47, .int v45, .ref (adr G (rf o0 24))] b46.2) ?_ (fun j47 => ?_)
                · refine T_if_ne (tgt := 278) dX8_done_271 (by decide) (fun hc48 => ?_) (fun hc48 => ?_)
                  · refine T_iconst (v := 1) dX8_done_274 (by decide) ?_
                    refine T_goto (tgt := 279) dX8_done_275 (by decide) ?_
                    exact T_end (fun h => V_sub [0, 1, 2] rfl h)
                  · refine T_iconst (v := 0) dX8_done_278 (by decide) ?_
                    exact T_end (fun h => V_sub [0, 1, 2] rfl h)
                · change T G l RX8 cX8_done 4 none (rmOf 2 52) 0 0 (FinM G (none) a) _ 279 [(2, .int v45), (1, .int s32.1), (0, .ref (adr G o0))] [.int j47, .int v45, .ref (adr G (rf o0 24))] b46.2 _
                  refine T_zast dX8_done_279 (sf_7_24 ho0) (fun M49 => ?_)
                  refine T_aload_n (q := 2) dX8_done_280 rfl rfl ?_
                  refine T_getR cf7 fr_X8_65 dX8_done_281 ho0 rfl ?_
                  refine T_iload_n (q := 0) dX8_done_284 rfl rfl ?_
                  refine T_iconst (v := 0) dX8_done_285 (by decide) ?_
                  refine T_iast dX8_done_286 (sf_7_22 ho0) (fun M50 => ?_)
                  refine T_iconst (v := 0) dX8_done_287 (by decide) ?_
                  refine T_istore_n (lv' := [(3, .int (0 : Int32)), (2, .int v45), (1, .int s32.1), (0, .ref (adr G o0))]) dX8_done_288 rfl (by decide) rfl ?_
                  refine T_bind (X := fun r58 => V G l RX8 cX8_done 4 none (rmOf 2 52) 0 0 (FinM G (none) a) 342 [(3, .int r58.1), (2, .int v45), (1, .int s32.1), (0, .ref (adr G o0))] [] r58.2) (T_loop (fun s51 => [(3, .int s51.1), (2, .int v45), (1, .int s32.1), (0, .ref (adr G o0))]) (fun s51 => s51.2) (fun s51 => ?_) ((0 : Int32), M50)) (fun r58 => ?_)
                  · unfold wX8_done_289
                    refine T_iload_n (q := 0) dX8_done_289 rfl rfl ?_
                    refine T_bipush (v := 36) dX8_done_290 (by decide) ?_
                    refine T_icmp_ge (tgt := 342) dX8_done_292 (by decide) (fun hc52 => ?_) (fun hc52 => ?_)
                    · exact T_end (fun h => V_sub [0, 1, 2, 3] rfl h)
                    · refine T_aload_n (q := 3) dX8_done_295 rfl rfl ?_
                      refine T_getR cf7 fr_X8_65 dX8_done_296 ho0 rfl ?_
                      refine T_iload_n (q := 1) dX8_done_299 rfl rfl ?_
                      refine T_dup2_11 dX8_done_300 rfl rfl ?_
                      refine T_iald dX8_done_301 (sf_7_22 ho0) ?_
                      refine T_aload_n (q := 3) dX8_done_302 rfl rfl ?_
                      refine T_getR cf7 fr_X8_59 dX8_done_303 ho0 rfl ?_
                      refine T_bipush (v := 36) dX8_done_306 (by decide) ?_
                      refine T_iload_n (q := 2) dX8_done_308 rfl rfl ?_
                      refine T_iconst (v := 1) dX8_done_309 (by decide) ?_
                      refine T_iadd dX8_done_310 ?_
                      refine T_imul dX8_done_311 ?_
                      refine T_iload_n (q := 0) dX8_done_312 rfl rfl ?_
                      refine T_iadd dX8_done_313 ?_
                      refine T_iald dX8_done_314 (sf_7_20 ho0) ?_
                      refine T_aload_n (q := 3) dX8_done_315 rfl rfl ?_
                      refine T_getR cf7 fr_X8_59 dX8_done_316 ho0 rfl ?_
                      refine T_bipush (v := 36) dX8_done_319 (by decide) ?_
                      refine T_iload_n (q := 2) dX8_done_321 rfl rfl ?_
                      refine T_imul dX8_done_322 ?_
                      refine T_iload_n (q := 0) dX8_done_323 rfl rfl ?_
                      refine T_iadd dX8_done_324 ?_
                      refine T_iald dX8_done_325 (sf_7_20 ho0) ?_
                      refine T_icmp_eq (tgt := 333) dX8_done_326 (by decide) (fun hc53 => ?_) (fun hc53 => ?_)
                      · refine T_iconst (v := 0) dX8_done_333 (by decide) ?_
                        refine T_iadd dX8_done_334 ?_
                        refine T_iast dX8_done_335 (sf_7_22 ho0) (fun M54 => ?_)
                        refine T_iinc_G (q := 0) (y := s51.1 + 1) (lv' := fun v55 => [(3, .int v55), (2, .int v45), (1, .int s32.1), (0, .ref (adr G o0))]) dX8_done_336 rfl rfl (by decide) (fun _ => rfl) (fun v55 => ?_)
                        refine T_goto (tgt := 289) dX8_done_339 (by decide) ?_
                        exact T_end (fun h => V_sub [0, 1, 2, 3] rfl h)
                      · refine T_iconst (v := 1) dX8_done_329 (by decide) ?_
                        refine T_goto (tgt := 334) dX8_done_330 (by decide) ?_
                        refine T_iadd dX8_done_334 ?_
                        refine T_iast dX8_done_335 (sf_7_22 ho0) (fun M56 => ?_)
                        refine T_iinc_G (q := 0) (y := s51.1 + 1) (lv' := fun v57 => [(3, .int v57), (2, .int v45), (1, .int s32.1), (0, .ref (adr G o0))]) dX8_done_336 rfl rfl (by decide) (fun _ => rfl) (fun v57 => ?_)
                        refine T_goto (tgt := 289) dX8_done_339 (by decide) ?_
                        exact T_end (fun h => V_sub [0, 1, 2, 3] rfl h)
                  · change T G l RX8 cX8_done 4 none (rmOf 2 52) 0 0 (FinM G (none) a) _ 342 [(3, .int r58.1), (2, .int v45), (1, .int s32.1), (0, .ref (adr G o0))] [] r58.2 _
                    refine T_iinc_G (q := 2) (y := s32.1 + 1) (lv' := fun v59 => [(1, .int v59), (3, .int r58.1), (2, .int v45), (0, .ref (adr G o0))]) dX8_done_342 rfl rfl (by decide) (fun _ => rfl) (fun v59 => ?_)
                    refine T_goto (tgt := 143) dX8_done_345 (by decide) ?_
                    exact T_end (fun h => V_sub [0, 3] rfl h)
        · change T G l RX8 cX8_done 4 none (rmOf 2 52) 0 0 (FinM G (none) a) _ 348 [(1, .int r60.1), (0, .ref (adr G o0))] [] r60.2 _
          exact T_end (fun h => by cases h; exact V_vret dX8_done_348)
set_option maxHeartbeats 4000000 in
set_option maxRecDepth 100000 in
theorem mX8_act (G : Gw) (l : Launch) (o0 : Nat) (ho0 : shp o0 = 7) (x1 : Int32) (x2 : Int32) (M : Mem) (a : Int64 × Mem) (h : fX8_act o0 x1 x2 M = some a) : CtP G l yX8_act cX8_act 3 (some .long) 3 75 [.ref (adr G o0), .int x1, .int x2] M (some (.long a.1)) a.2 := by
  refine CtP.ofV (by decide) (Nat.le_of_ble_eq_true rfl) ?_
  refine (?_ : T G l RX8 cX8_act 3 (some .long) (rmOf 3 75) 0 0 (FinM G (some (.long a.1)) a.2) (fun x => x = a) 0 [(0, .ref (adr G o0)), (1, .int x1), (2, .int x2)] [] M (fX8_act o0 x1 x2 M)) a h rfl
  clear h
  unfold fX8_act
  refine T_iload_n (q := 1) dX8_act_0 rfl rfl ?_
  refine T_i2l dX8_act_1 ?_
  refine T_lconst (v := 0) dX8_act_2 (by decide) ?_
  refine T_aload_n (q := 0) dX8_act_3 rfl rfl ?_
  refine T_getI cf7 fr_X8_112 dX8_act_4 ho0 rfl ?_
  refine T_iconst (v := 1) dX8_act_7 (by decide) ?_
  refine T_isub dX8_act_8 ?_
  refine T_i2l dX8_act_9 ?_
  refine T_callSi (As := [.long x1.toInt64, .long (0 : Int64), .long (((M.1 o0 1) - (1 : Int32)).toInt64)]) (st := []) ms_X8_86 (by decide) dX8_act_10 (fun b hb => mX8_in G l x1.toInt64 (0 : Int64) (((M.1 o0 1) - (1 : Int32)).toInt64) M b hb) rfl rfl (Nat.le_of_ble_eq_true rfl) (fun b1 => ?_)
  refine T_if_eq (tgt := 28) dX8_act_13 (by decide) (fun hc2 => ?_) (fun hc2 => ?_)
  · refine T_aload_n (q := 0) dX8_act_28 rfl rfl ?_
    refine T_ldc2 dX8_act_29 kcl_X8_98 ?_
    refine T_callVlw (As := [.long (-1000000000000000001 : Int64)]) (st := []) mv_X8_100 (by decide) dX8_act_32 ho0 (fun b hb => mX8_told0 G l o0 ho0 (-1000000000000000001 : Int64) M b hb) rfl rfl (Nat.le_of_ble_eq_true rfl) (fun b3 => ?_)
    exact T_end (fun h => by cases h; exact V_lret dX8_act_35)
  · refine T_iload_n (q := 2) dX8_act_16 rfl rfl ?_
    refine T_i2l dX8_act_17 ?_
    refine T_lconst (v := 0) dX8_act_18 (by decide) ?_
    refine T_ldc2 dX8_act_19 kcl_X8_140 ?_
    refine T_callSi (As := [.long x2.toInt64, .long (0 : Int64), .long (4 : Int64)]) (st := []) ms_X8_86 (by decide) dX8_act_22 (fun b hb => mX8_in G l x2.toInt64 (0 : Int64) (4 : Int64) M b hb) rfl rfl (Nat.le_of_ble_eq_true rfl) (fun b4 => ?_)
    refine T_if_ne (tgt := 36) dX8_act_25 (by decide) (fun hc5 => ?_) (fun hc5 => ?_)
    · refine T_aload_n (q := 0) dX8_act_28 rfl rfl ?_
      refine T_ldc2 dX8_act_29 kcl_X8_98 ?_
      refine T_callVlw (As := [.long (-1000000000000000001 : Int64)]) (st := []) mv_X8_100 (by decide) dX8_act_32 ho0 (fun b hb => mX8_told0 G l o0 ho0 (-1000000000000000001 : Int64) M b hb) rfl rfl (Nat.le_of_ble_eq_true rfl) (fun b6 => ?_)
      exact T_end (fun h => by cases h; exact V_lret dX8_act_35)
    · refine T_aload_n (q := 0) dX8_act_36 rfl rfl ?_
      refine T_callVvw (As := []) (st := []) mv_X8_142 (by decide) dX8_act_37 ho0 (fun b hb => mX8_done G l o0 ho0 M b hb) rfl rfl (Nat.le_of_ble_eq_true rfl) (fun b7 => ?_)
      refine T_iload_n (q := 2) dX8_act_40 rfl rfl ?_
      refine T_split (fun hs8 => ?_) (fun hs8 => ?_)
      · refine T_tswIn (off := 31) (tgt := 72) dX8_act_41 (by rw [hs8]; decide) (by rw [hs8]; decide) (by rw [hs8]; rfl) (by decide) ?_
        refine T_aload_n (q := 0) dX8_act_72 rfl rfl ?_
        refine T_getR cf7 fr_X8_13 dX8_act_73 ho0 rfl ?_
        refine T_iload_n (q := 1) dX8_act_76 rfl rfl ?_
        refine T_iald dX8_act_77 (sf_7_5 ho0) ?_
        refine T_i2l dX8_act_78 ?_
        exact T_end (fun h => by cases h; exact V_lret dX8_act_79)
      · skip
        refine T_split (fun hs9 => ?_) (fun hs9 => ?_)
        · refine T_tswIn (off := 39) (tgt := 80) dX8_act_41 (by rw [hs9]; decide) (by rw [hs9]; decide) (by rw [hs9]; rfl) (by decide) ?_
          refine T_aload_n (q := 0) dX8_act_80 rfl rfl ?_
          refine T_getR cf7 fr_X8_16 dX8_act_81 ho0 rfl ?_
          refine T_iload_n (q := 1) dX8_act_84 rfl rfl ?_
          refine T_iald dX8_act_85 (sf_7_6 ho0) ?_
          refine T_i2l dX8_act_86 ?_
          exact T_end (fun h => by cases h; exact V_lret dX8_act_87)
        · skip
          refine T_split (fun hs10 => ?_) (fun hs10 => ?_)
          · refine T_tswIn (off := 47) (tgt := 88) dX8_act_41 (by rw [hs10]; decide) (by rw [hs10]; decide) (by rw [hs10]; rfl) (by decide) ?_
            refine T_aload_n (q := 0) dX8_act_88 rfl rfl ?_
            refine T_getR cf7 fr_X8_72 dX8_act_89 ho0 rfl ?_
            refine T_iload_n (q := 1) dX8_act_92 rfl rfl ?_
            refine T_zald dX8_act_93 (sf_7_24 ho0) ?_
            refine T_if_eq (tgt := 101) dX8_act_94 (by decide) (fun hc12 => ?_) (fun hc12 => ?_)
            · refine T_lconst (v := 0) dX8_act_101 (by decide) ?_
              exact T_end (fun h => by cases h; exact V_lret dX8_act_102)
            · refine T_lconst (v := 1) dX8_act_97 (by decide) ?_
              refine T_goto (tgt := 102) dX8_act_98 (by decide) ?_
              exact T_end (fun h => by cases h; exact V_lret dX8_act_102)
          · skip
            refine T_split (fun hs11 => ?_) (fun hs11 => ?_)
            · refine T_tswIn (off := 62) (tgt := 103) dX8_act_41 (by rw [hs11]; decide) (by rw [hs11]; decide) (by rw [hs11]; rfl) (by decide) ?_
              refine T_aload_n (q := 0) dX8_act_103 rfl rfl ?_
              refine T_getR cf7 fr_X8_65 dX8_act_104 ho0 rfl ?_
              refine T_iload_n (q := 1) dX8_act_107 rfl rfl ?_
              refine T_iald dX8_act_108 (sf_7_22 ho0) ?_
              refine T_i2l dX8_act_109 ?_
              exact T_end (fun h => by cases h; exact V_lret dX8_act_110)
            · skip
              refine T_tswOut (tgt := 111) dX8_act_41 (by have hz := tsw0 (x := x2) (n := 4) (by decide) (fun j hj => by match j, hj with | 0, _ => exact hs8 | 1, _ => exact hs9 | 2, _ => exact hs10 | 3, _ => exact hs11); exact hz) (by decide) ?_
              refine T_aload_n (q := 0) dX8_act_111 rfl rfl ?_
              refine T_getR cf7 fr_X8_56 dX8_act_112 ho0 rfl ?_
              refine T_iload_n (q := 1) dX8_act_115 rfl rfl ?_
              refine T_iald dX8_act_116 (sf_7_19 ho0) ?_
              refine T_i2l dX8_act_117 ?_
              exact T_end (fun h => by cases h; exact V_lret dX8_act_118)
set_option maxHeartbeats 4000000 in
set_option maxRecDepth 100000 in
theorem mX8_add (G : Gw) (l : Launch) (o0 : Nat) (ho0 : shp o0 = 7) (x1 : Int32) (x2 : Int32) (x3 : Int32) (x4 : Int32) (x5 : Int64) (M : Mem) (a : Int64 × Mem) (h : fX8_add o0 x1 x2 x3 x4 x5 M = some a) : CtP G l yX8_add cX8_add 7 (some .long) 1 22 [.ref (adr G o0), .int x1, .int x2, .int x3, .int x4, .long x5] M (some (.long a.1)) a.2 := by
  refine CtP.ofV (by decide) (Nat.le_of_ble_eq_true rfl) ?_
  refine (?_ : T G l RX8 cX8_add 7 (some .long) (rmOf 1 22) 0 0 (FinM G (some (.long a.1)) a.2) (fun x => x = a) 0 [(0, .ref (adr G o0)), (1, .int x1), (2, .int x2), (3, .int x3), (4, .int x4), (5, .long x5)] [] M (fX8_add o0 x1 x2 x3 x4 x5 M)) a h rfl
  clear h
  unfold fX8_add
  refine T_aload_n (q := 0) dX8_add_0 rfl rfl ?_
  refine T_getI cf7 fr_X8_112 dX8_add_1 ho0 rfl ?_
  refine T_bipush (v := 30) dX8_add_4 (by decide) ?_
  refine T_icmp_ne (tgt := 17) dX8_add_6 (by decide) (fun hc1 => ?_) (fun hc1 => ?_)
  · refine T_aload_n (q := 0) dX8_add_9 rfl rfl ?_
    refine T_ldc2 dX8_add_10 kcl_X8_104 ?_
    refine T_callVlw (As := [.long (-1000000000000000005 : Int64)]) (st := []) mv_X8_100 (by decide) dX8_add_13 ho0 (fun b hb => mX8_told0 G l o0 ho0 (-1000000000000000005 : Int64) M b hb) rfl rfl (Nat.le_of_ble_eq_true rfl) (fun b2 => ?_)
    exact T_end (fun h => by cases h; exact V_lret dX8_add_16)
  · refine T_aload_n (q := 0) dX8_add_17 rfl rfl ?_
    refine T_getR cf7 fr_X8_13 dX8_add_18 ho0 rfl ?_
    refine T_aload_n (q := 0) dX8_add_21 rfl rfl ?_
    refine T_getI cf7 fr_X8_112 dX8_add_22 ho0 rfl ?_
    refine T_iload_n (q := 1) dX8_add_25 rfl rfl ?_
    refine T_iast dX8_add_26 (sf_7_5 ho0) (fun M3 => ?_)
    refine T_aload_n (q := 0) dX8_add_27 rfl rfl ?_
    refine T_getR cf7 fr_X8_16 dX8_add_28 ho0 rfl ?_
    refine T_aload_n (q := 0) dX8_add_31 rfl rfl ?_
    refine T_getI cf7 fr_X8_112 dX8_add_32 ho0 rfl ?_
    refine T_iload_n (q := 2) dX8_add_35 rfl rfl ?_
    refine T_iast dX8_add_36 (sf_7_6 ho0) (fun M4 => ?_)
    refine T_aload_n (q := 0) dX8_add_37 rfl rfl ?_
    refine T_getR cf7 fr_X8_19 dX8_add_38 ho0 rfl ?_
    refine T_aload_n (q := 0) dX8_add_41 rfl rfl ?_
    refine T_getI cf7 fr_X8_112 dX8_add_42 ho0 rfl ?_
    refine T_iload_n (q := 3) dX8_add_45 rfl rfl ?_
    refine T_iast dX8_add_46 (sf_7_7 ho0) (fun M5 => ?_)
    refine T_aload_n (q := 0) dX8_add_47 rfl rfl ?_
    refine T_getR cf7 fr_X8_22 dX8_add_48 ho0 rfl ?_
    refine T_aload_n (q := 0) dX8_add_51 rfl rfl ?_
    refine T_getI cf7 fr_X8_112 dX8_add_52 ho0 rfl ?_
    refine T_iload (q := 4) dX8_add_55 rfl ?_
    refine T_iast dX8_add_57 (sf_7_8 ho0) (fun M6 => ?_)
    refine T_aload_n (q := 0) dX8_add_58 rfl rfl ?_
    refine T_getR cf7 fr_X8_25 dX8_add_59 ho0 rfl ?_
    refine T_aload_n (q := 0) dX8_add_62 rfl rfl ?_
    refine T_getI cf7 fr_X8_112 dX8_add_63 ho0 rfl ?_
    refine T_lload (q := 5) dX8_add_66 rfl ?_
    refine T_last dX8_add_68 (sf_7_9 ho0) (fun M7 => ?_)
    refine T_aload_n (q := 0) dX8_add_69 rfl rfl ?_
    refine T_dup dX8_add_70 rfl ?_
    refine T_getI cf7 fr_X8_112 dX8_add_71 ho0 rfl ?_
    refine T_iconst (v := 1) dX8_add_74 (by decide) ?_
    refine T_iadd dX8_add_75 ?_
    refine T_putI cf7 fr_X8_112 pt_7_1 dX8_add_76 ho0 rfl (fun M8 => ?_)
    refine T_aload_n (q := 0) dX8_add_79 rfl rfl ?_
    refine T_getI cf7 fr_X8_112 dX8_add_80 ho0 rfl ?_
    refine T_iconst (v := 1) dX8_add_83 (by decide) ?_
    refine T_isub dX8_add_84 ?_
    refine T_i2l dX8_add_85 ?_
    exact T_end (fun h => by cases h; exact V_lret dX8_add_86)
set_option maxHeartbeats 4000000 in
set_option maxRecDepth 100000 in
theorem mX8_agrees (G : Gw) (l : Launch) (o0 : Nat) (ho0 : shp o0 = 7) (x1 : Int32) (x2 : Int32) (M : Mem) (a : Int32) (h : fX8_agrees o0 x1 x2 M = some a) : CtP G l yX8_agrees cX8_agrees 5 (some .int) 0 0 [.ref (adr G o0), .int x1, .int x2] M (some (.int a)) M := by
  refine CtP.ofV (by decide) (Nat.le_of_ble_eq_true rfl) ?_
  refine (?_ : T G l RX8 cX8_agrees 5 (some .int) (rmOf 0 0) 0 0 (FinM G (some (.int a)) M) (fun x => x = a) 0 [(0, .ref (adr G o0)), (1, .int x1), (2, .int x2)] [] M (fX8_agrees o0 x1 x2 M)) a h rfl
  clear h
  unfold fX8_agrees
  refine T_iconst (v := 0) dX8_agrees_0 (by decide) ?_
  refine T_istore_n (lv' := [(3, .int (0 : Int32)), (0, .ref (adr G o0)), (1, .int x1), (2, .int x2)]) dX8_agrees_1 rfl (by decide) rfl ?_
  refine T_iconst (v := 0) dX8_agrees_2 (by decide) ?_
  refine T_istore (lv' := [(4, .int (0 : Int32)), (3, .int (0 : Int32)), (0, .ref (adr G o0)), (1, .int x1), (2, .int x2)]) dX8_agrees_3 (by decide) rfl ?_
  refine T_bind (X := fun r8 => V G l RX8 cX8_agrees 5 (some .int) (rmOf 0 0) 0 0 (FinM G (some (.int a)) M) 53 [(4, .int r8.2), (3, .int r8.1), (0, .ref (adr G o0)), (1, .int x1), (2, .int x2)] [] M) (T_loop (fun s1 => [(4, .int s1.2), (3, .int s1.1), (0, .ref (adr G o0)), (1, .int x1), (2, .int x2)]) (fun s1 => M) (fun s1 => ?_) ((0 : Int32), (0 : Int32))) (fun r8 => ?_)
  · unfold wX8_agrees_5
    refine T_iload (q := 0) dX8_agrees_5 rfl ?_
    refine T_bipush (v := 36) dX8_agrees_7 (by decide) ?_
    refine T_icmp_ge (tgt := 53) dX8_agrees_9 (by decide) (fun hc2 => ?_) (fun hc2 => ?_)
    · exact T_end (fun h => V_sub [0, 1, 2, 3, 4] rfl h)
    · refine T_iload_n (q := 1) dX8_agrees_12 rfl rfl ?_
      refine T_aload_n (q := 2) dX8_agrees_13 rfl rfl ?_
      refine T_getR cf7 fr_X8_32 dX8_agrees_14 ho0 rfl ?_
      refine T_bipush (v := 36) dX8_agrees_17 (by decide) ?_
      refine T_iload_n (q := 3) dX8_agrees_19 rfl rfl ?_
      refine T_imul dX8_agrees_20 ?_
      refine T_iload (q := 0) dX8_agrees_21 rfl ?_
      refine T_iadd dX8_agrees_23 ?_
      refine T_iald dX8_agrees_24 (sf_7_11 ho0) ?_
      refine T_aload_n (q := 2) dX8_agrees_25 rfl rfl ?_
      refine T_getR cf7 fr_X8_59 dX8_agrees_26 ho0 rfl ?_
      refine T_bipush (v := 36) dX8_agrees_29 (by decide) ?_
      refine T_iload_n (q := 4) dX8_agrees_31 rfl rfl ?_
      refine T_imul dX8_agrees_32 ?_
      refine T_iload (q := 0) dX8_agrees_33 rfl ?_
      refine T_iadd dX8_agrees_35 ?_
      refine T_iald dX8_agrees_36 (sf_7_20 ho0) ?_
      refine T_icmp_ne (tgt := 44) dX8_agrees_37 (by decide) (fun hc3 => ?_) (fun hc3 => ?_)
      · refine T_iconst (v := 1) dX8_agrees_40 (by decide) ?_
        refine T_goto (tgt := 45) dX8_agrees_41 (by decide) ?_
        refine T_iadd dX8_agrees_45 ?_
        refine T_istore_n_G (lv' := fun v4 => [(3, .int v4), (4, .int s1.2), (0, .ref (adr G o0)), (1, .int x1), (2, .int x2)]) dX8_agrees_46 rfl (by decide) (fun _ => rfl) (fun v4 => ?_)
        refine T_iinc_G (q := 1) (y := s1.2 + 1) (lv' := fun v5 => [(4, .int v5), (3, .int v4), (0, .ref (adr G o0)), (1, .int x1), (2, .int x2)]) dX8_agrees_47 rfl rfl (by decide) (fun _ => rfl) (fun v5 => ?_)
        refine T_goto (tgt := 5) dX8_agrees_50 (by decide) ?_
        exact T_end (fun h => V_sub [0, 1, 2, 3, 4] rfl h)
      · refine T_iconst (v := 0) dX8_agrees_44 (by decide) ?_
        refine T_iadd dX8_agrees_45 ?_
        refine T_istore_n_G (lv' := fun v6 => [(3, .int v6), (4, .int s1.2), (0, .ref (adr G o0)), (1, .int x1), (2, .int x2)]) dX8_agrees_46 rfl (by decide) (fun _ => rfl) (fun v6 => ?_)
        refine T_iinc_G (q := 1) (y := s1.2 + 1) (lv' := fun v7 => [(4, .int v7), (3, .int v6), (0, .ref (adr G o0)), (1, .int x1), (2, .int x2)]) dX8_agrees_47 rfl rfl (by decide) (fun _ => rfl) (fun v7 => ?_)
        refine T_goto (tgt := 5) dX8_agrees_50 (by decide) ?_
        exact T_end (fun h => V_sub [0, 1, 2, 3, 4] rfl h)
  · change T G l RX8 cX8_agrees 5 (some .int) (rmOf 0 0) 0 0 (FinM G (some (.int a)) M) _ 53 [(4, .int r8.2), (3, .int r8.1), (0, .ref (adr G o0)), (1, .int x1), (2, .int x2)] [] M _
    refine T_iload_n (q := 1) dX8_agrees_53 rfl rfl ?_
    exact T_end (fun h => by cases h; exact V_iret dX8_agrees_54)
set_option maxHeartbeats 4000000 in
set_option maxRecDepth 100000 in
theorem mX8_beside (G : Gw) (l : Launch) (x0 : Int32) (x1 : Int32) (M : Mem) (a : Int32) (h : fX8_beside x0 x1 = some a) : CtP G l yX8_beside cX8_beside 4 (some .int) 1 25 [.int x0, .int x1] M (some (.int a)) M := by
  refine CtP.ofV (by decide) (Nat.le_of_ble_eq_true rfl) ?_
  refine (?_ : T G l RX8 cX8_beside 4 (some .int) (rmOf 1 25) 0 0 (FinM G (some (.int a)) M) (fun x => x = a) 0 [(0, .int x0), (1, .int x1)] [] M (fX8_beside x0 x1)) a h rfl
  clear h
  unfold fX8_beside
  refine T_iload_n (q := 0) dX8_beside_0 rfl rfl ?_
  refine T_bipush (v := 6) dX8_beside_1 (by decide) ?_
  refine T_idiv dX8_beside_3 ?_
  refine T_iload_n (q := 1) dX8_beside_4 rfl rfl ?_
  refine T_bind (X := fun j1 => V G l RX8 cX8_beside 4 (some .int) (rmOf 1 25) 0 0 (FinM G (some (.int a)) M) 22 [(0, .int x0), (1, .int x1)] [.int j1, .int (x0 / (6 : Int32))] M) ?_ (fun j1 => ?_)
  · refine T_if_ne (tgt := 12) dX8_beside_5 (by decide) (fun hc2 => ?_) (fun hc2 => ?_)
    · refine T_iconst (v := -1) dX8_beside_8 (by decide) ?_
      refine T_goto (tgt := 22) dX8_beside_9 (by decide) ?_
      exact T_end (fun h => V_sub [0, 1] rfl h)
    · refine T_iload_n (q := 1) dX8_beside_12 rfl rfl ?_
      refine T_iconst (v := 1) dX8_beside_13 (by decide) ?_
      refine T_icmp_ne (tgt := 21) dX8_beside_14 (by decide) (fun hc3 => ?_) (fun hc3 => ?_)
      · refine T_iconst (v := 1) dX8_beside_17 (by decide) ?_
        refine T_goto (tgt := 22) dX8_beside_18 (by decide) ?_
        exact T_end (fun h => V_sub [0, 1] rfl h)
      · refine T_iconst (v := 0) dX8_beside_21 (by decide) ?_
        exact T_end (fun h => V_sub [0, 1] rfl h)
  · change T G l RX8 cX8_beside 4 (some .int) (rmOf 1 25) 0 0 (FinM G (some (.int a)) M) _ 22 [(0, .int x0), (1, .int x1)] [.int j1, .int (x0 / (6 : Int32))] M _
    refine T_iadd dX8_beside_22 ?_
    refine T_istore_n_G (lv' := fun v4 => [(2, .int v4), (0, .int x0), (1, .int x1)]) dX8_beside_23 rfl (by decide) (fun _ => rfl) (fun v4 => ?_)
    refine T_iload_n (q := 1) dX8_beside_24 rfl rfl ?_
    refine T_bipush (v := 6) dX8_beside_25 (by decide) ?_
    refine T_irem dX8_beside_27 ?_
    refine T_iload_n (q := 2) dX8_beside_28 rfl rfl ?_
    refine T_iconst (v := 2) dX8_beside_29 (by decide) ?_
    refine T_bind (X := fun j5 => V G l RX8 cX8_beside 4 (some .int) (rmOf 1 25) 0 0 (FinM G (some (.int a)) M) 47 [(2, .int v4), (0, .int x0), (1, .int x1)] [.int j5, .int (x0 - x0 / (6 : Int32) * (6 : Int32))] M) ?_ (fun j5 => ?_)
    · refine T_icmp_ne (tgt := 37) dX8_beside_30 (by decide) (fun hc6 => ?_) (fun hc6 => ?_)
      · refine T_iconst (v := -1) dX8_beside_33 (by decide) ?_
        refine T_goto (tgt := 47) dX8_beside_34 (by decide) ?_
        exact T_end (fun h => V_sub [0, 1, 2] rfl h)
      · refine T_iload_n (q := 2) dX8_beside_37 rfl rfl ?_
        refine T_iconst (v := 3) dX8_beside_38 (by decide) ?_
        refine T_icmp_ne (tgt := 46) dX8_beside_39 (by decide) (fun hc7 => ?_) (fun hc7 => ?_)
        · refine T_iconst (v := 1) dX8_beside_42 (by decide) ?_
          refine T_goto (tgt := 47) dX8_beside_43 (by decide) ?_
          exact T_end (fun h => V_sub [0, 1, 2] rfl h)
        · refine T_iconst (v := 0) dX8_beside_46 (by decide) ?_
          exact T_end (fun h => V_sub [0, 1, 2] rfl h)
    · change T G l RX8 cX8_beside 4 (some .int) (rmOf 1 25) 0 0 (FinM G (some (.int a)) M) _ 47 [(2, .int v4), (0, .int x0), (1, .int x1)] [.int j5, .int (x0 - x0 / (6 : Int32) * (6 : Int32))] M _
      refine T_iadd dX8_beside_47 ?_
      refine T_istore_n_G (lv' := fun v8 => [(3, .int v8), (2, .int v4), (0, .int x0), (1, .int x1)]) dX8_beside_48 rfl (by decide) (fun _ => rfl) (fun v8 => ?_)
      refine T_iload_n (q := 1) dX8_beside_49 rfl rfl ?_
      refine T_i2l dX8_beside_50 ?_
      refine T_lconst (v := 0) dX8_beside_51 (by decide) ?_
      refine T_ldc2 dX8_beside_52 kcl_X8_158 ?_
      refine T_callSi (As := [.long v4.toInt64, .long (0 : Int64), .long (5 : Int64)]) (st := []) ms_X8_86 (by decide) dX8_beside_55 (fun b hb => mX8_in G l v4.toInt64 (0 : Int64) (5 : Int64) M b hb) rfl rfl (Nat.le_of_ble_eq_true rfl) (fun b9 => ?_)
      refine T_if_eq (tgt := 82) dX8_beside_58 (by decide) (fun hc10 => ?_) (fun hc10 => ?_)
      · refine T_iconst (v := -1) dX8_beside_82 (by decide) ?_
        exact T_end (fun h => by cases h; exact V_iret dX8_beside_83)
      · refine T_iload_n (q := 0) dX8_beside_61 rfl rfl ?_
        refine T_i2l dX8_beside_62 ?_
        refine T_lconst (v := 0) dX8_beside_63 (by decide) ?_
        refine T_ldc2 dX8_beside_64 kcl_X8_158 ?_
        refine T_callSi (As := [.long v8.toInt64, .long (0 : Int64), .long (5 : Int64)]) (st := []) ms_X8_86 (by decide) dX8_beside_67 (fun b hb => mX8_in G l v8.toInt64 (0 : Int64) (5 : Int64) M b hb) rfl rfl (Nat.le_of_ble_eq_true rfl) (fun b11 => ?_)
        refine T_if_eq (tgt := 82) dX8_beside_70 (by decide) (fun hc12 => ?_) (fun hc12 => ?_)
        · refine T_iconst (v := -1) dX8_beside_82 (by decide) ?_
          exact T_end (fun h => by cases h; exact V_iret dX8_beside_83)
        · refine T_bipush (v := 6) dX8_beside_73 (by decide) ?_
          refine T_iload_n (q := 1) dX8_beside_75 rfl rfl ?_
          refine T_imul dX8_beside_76 ?_
          refine T_iload_n (q := 0) dX8_beside_77 rfl rfl ?_
          refine T_iadd dX8_beside_78 ?_
          refine T_goto (tgt := 83) dX8_beside_79 (by decide) ?_
          exact T_end (fun h => by cases h; exact V_iret dX8_beside_83)
set_option maxHeartbeats 4000000 in
set_option maxRecDepth 100000 in
theorem mX8_areBeside (G : Gw) (l : Launch) (x0 : Int32) (x1 : Int32) (M : Mem) (a : Int32) (h : fX8_areBeside x0 x1 = some a) : CtP G l yX8_areBeside cX8_areBeside 3 (some .boolean) 2 48 [.int x0, .int x1] M (some (.int a)) M := by
  refine CtP.ofV (by decide) (Nat.le_of_ble_eq_true rfl) ?_
  refine (?_ : T G l RX8 cX8_areBeside 3 (some .boolean) (rmOf 2 48) 0 0 (FinM G (some (.int a)) M) (fun x => x = a) 0 [(0, .int x0), (1, .int x1)] [] M (fX8_areBeside x0 x1)) a h rfl
  clear h
  unfold fX8_areBeside
  refine T_iconst (v := 0) dX8_areBeside_0 (by decide) ?_
  refine T_istore_n (lv' := [(2, .int (0 : Int32)), (0, .int x0), (1, .int x1)]) dX8_areBeside_1 rfl (by decide) rfl ?_
  refine T_loop (fun s1 => [(2, .int s1), (0, .int x0), (1, .int x1)]) (fun s1 => M) (fun s1 => ?_) (0 : Int32)
  unfold wX8_areBeside_2
  refine T_iload_n (q := 0) dX8_areBeside_2 rfl rfl ?_
  refine T_iconst (v := 4) dX8_areBeside_3 (by decide) ?_
  refine T_icmp_ge (tgt := 24) dX8_areBeside_4 (by decide) (fun hc2 => ?_) (fun hc2 => ?_)
  · refine T_iconst (v := 0) dX8_areBeside_24 (by decide) ?_
    exact T_end (fun h => by cases h; exact V_zret (Or.inl rfl) dX8_areBeside_25)
  · refine T_iload_n (q := 1) dX8_areBeside_7 rfl rfl ?_
    refine T_iload_n (q := 0) dX8_areBeside_8 rfl rfl ?_
    refine T_callSi (As := [.int x0, .int s1]) (st := []) ms_X8_164 (by decide) dX8_areBeside_9 (fun b hb => mX8_beside G l x0 s1 M b hb) rfl rfl (Nat.le_of_ble_eq_true rfl) (fun b3 => ?_)
    refine T_iload_n (q := 2) dX8_areBeside_12 rfl rfl ?_
    refine T_icmp_ne (tgt := 18) dX8_areBeside_13 (by decide) (fun hc4 => ?_) (fun hc4 => ?_)
    · refine T_iconst (v := 1) dX8_areBeside_16 (by decide) ?_
      exact T_end (fun h => by cases h; exact V_zret (Or.inr rfl) dX8_areBeside_17)
    · refine T_iinc_G (q := 0) (y := s1 + 1) (lv' := fun v5 => [(2, .int v5), (0, .int x0), (1, .int x1)]) dX8_areBeside_18 rfl rfl (by decide) (fun _ => rfl) (fun v5 => ?_)
      refine T_goto (tgt := 2) dX8_areBeside_21 (by decide) ?_
      exact T_end (fun h => V_sub [0, 1, 2] rfl h)
set_option maxHeartbeats 4000000 in
set_option maxRecDepth 100000 in
theorem mX8_areUnlike (G : Gw) (l : Launch) (o0 : Nat) (ho0 : shp o0 = 7) (x1 : Int32) (x2 : Int32) (x3 : Int32) (M : Mem) (a : Int32) (h : fX8_areUnlike o0 x1 x2 x3 M = some a) : CtP G l yX8_areUnlike cX8_areUnlike 4 (some .boolean) 0 0 [.ref (adr G o0), .int x1, .int x2, .int x3] M (some (.int a)) M := by
  refine CtP.ofV (by decide) (Nat.le_of_ble_eq_true rfl) ?_
  refine (?_ : T G l RX8 cX8_areUnlike 4 (some .boolean) (rmOf 0 0) 0 0 (FinM G (some (.int a)) M) (fun x => x = a) 0 [(0, .ref (adr G o0)), (1, .int x1), (2, .int x2), (3, .int x3)] [] M (fX8_areUnlike o0 x1 x2 x3 M)) a h rfl
  clear h
  unfold fX8_areUnlike
  refine T_aload_n (q := 0) dX8_areUnlike_0 rfl rfl ?_
  refine T_getR cf7 fr_X8_59 dX8_areUnlike_1 ho0 rfl ?_
  refine T_bipush (v := 36) dX8_areUnlike_4 (by decide) ?_
  refine T_iload_n (q := 1) dX8_areUnlike_6 rfl rfl ?_
  refine T_imul dX8_areUnlike_7 ?_
  refine T_iload_n (q := 2) dX8_areUnlike_8 rfl rfl ?_
  refine T_iadd dX8_areUnlike_9 ?_
  refine T_iald dX8_areUnlike_10 (sf_7_20 ho0) ?_
  refine T_aload_n (q := 0) dX8_areUnlike_11 rfl rfl ?_
  refine T_getR cf7 fr_X8_59 dX8_areUnlike_12 ho0 rfl ?_
  refine T_bipush (v := 36) dX8_areUnlike_15 (by decide) ?_
  refine T_iload_n (q := 1) dX8_areUnlike_17 rfl rfl ?_
  refine T_imul dX8_areUnlike_18 ?_
  refine T_iload_n (q := 3) dX8_areUnlike_19 rfl rfl ?_
  refine T_iadd dX8_areUnlike_20 ?_
  refine T_iald dX8_areUnlike_21 (sf_7_20 ho0) ?_
  refine T_icmp_eq (tgt := 29) dX8_areUnlike_22 (by decide) (fun hc1 => ?_) (fun hc1 => ?_)
  · refine T_iconst (v := 0) dX8_areUnlike_29 (by decide) ?_
    exact T_end (fun h => by cases h; exact V_zret (Or.inl rfl) dX8_areUnlike_30)
  · refine T_iconst (v := 1) dX8_areUnlike_25 (by decide) ?_
    refine T_goto (tgt := 30) dX8_areUnlike_26 (by decide) ?_
    exact T_end (fun h => by cases h; exact V_zret (Or.inr rfl) dX8_areUnlike_30)
set_option maxHeartbeats 4000000 in
set_option maxRecDepth 100000 in
theorem mX8_isUnit (G : Gw) (l : Launch) (o0 : Nat) (ho0 : shp o0 = 7) (x1 : Int32) (M : Mem) (a : Int32) (h : fX8_isUnit o0 x1 M = some a) : CtP G l yX8_isUnit cX8_isUnit 2 (some .boolean) 1 25 [.ref (adr G o0), .int x1] M (some (.int a)) M := by
  refine CtP.ofV (by decide) (Nat.le_of_ble_eq_true rfl) ?_
  refine (?_ : T G l RX8 cX8_isUnit 2 (some .boolean) (rmOf 1 25) 0 0 (FinM G (some (.int a)) M) (fun x => x = a) 0 [(0, .ref (adr G o0)), (1, .int x1)] [] M (fX8_isUnit o0 x1 M)) a h rfl
  clear h
  unfold fX8_isUnit
  refine T_iload_n (q := 1) dX8_isUnit_0 rfl rfl ?_
  refine T_i2l dX8_isUnit_1 ?_
  refine T_lconst (v := 0) dX8_isUnit_2 (by decide) ?_
  refine T_aload_n (q := 0) dX8_isUnit_3 rfl rfl ?_
  refine T_getI cf7 fr_X8_82 dX8_isUnit_4 ho0 rfl ?_
  refine T_iconst (v := 1) dX8_isUnit_7 (by decide) ?_
  refine T_isub dX8_isUnit_8 ?_
  refine T_i2l dX8_isUnit_9 ?_
  refine T_callSi (As := [.long x1.toInt64, .long (0 : Int64), .long (((M.1 o0 0) - (1 : Int32)).toInt64)]) (st := []) ms_X8_86 (by decide) dX8_isUnit_10 (fun b hb => mX8_in G l x1.toInt64 (0 : Int64) (((M.1 o0 0) - (1 : Int32)).toInt64) M b hb) rfl rfl (Nat.le_of_ble_eq_true rfl) (fun b1 => ?_)
  refine T_gb (fun hz2 => ?_)
  exact T_end (fun h => by cases h; exact V_zret hz2 dX8_isUnit_13)
set_option maxHeartbeats 4000000 in
set_option maxRecDepth 100000 in
theorem mX8_as (G : Gw) (l : Launch) (o0 : Nat) (ho0 : shp o0 = 7) (x1 : Int32) (x2 : Int32) (M : Mem) (a : Int64 × Mem) (h : fX8_as o0 x1 x2 M = some a) : CtP G l yX8_as cX8_as 5 (some .long) 2 46 [.ref (adr G o0), .int x1, .int x2] M (some (.long a.1)) a.2 := by
  refine CtP.ofV (by decide) (Nat.le_of_ble_eq_true rfl) ?_
  refine (?_ : T G l RX8 cX8_as 5 (some .long) (rmOf 2 46) 0 0 (FinM G (some (.long a.1)) a.2) (fun x => x = a) 0 [(0, .ref (adr G o0)), (1, .int x1), (2, .int x2)] [] M (fX8_as o0 x1 x2 M)) a h rfl
  clear h
  unfold fX8_as
  refine T_aload_n (q := 0) dX8_as_0 rfl rfl ?_
  refine T_iload_n (q := 1) dX8_as_1 rfl rfl ?_
  refine T_callVi (As := [.int x1]) (st := []) mv_X8_106 (by decide) dX8_as_2 ho0 (fun b hb => mX8_isUnit G l o0 ho0 x1 M b hb) rfl rfl (Nat.le_of_ble_eq_true rfl) (fun b1 => ?_)
  refine T_if_eq (tgt := 20) dX8_as_5 (by decide) (fun hc2 => ?_) (fun hc2 => ?_)
  · refine T_aload_n (q := 0) dX8_as_20 rfl rfl ?_
    refine T_ldc2 dX8_as_21 kcl_X8_98 ?_
    refine T_callVlw (As := [.long (-1000000000000000001 : Int64)]) (st := []) mv_X8_100 (by decide) dX8_as_24 ho0 (fun b hb => mX8_told0 G l o0 ho0 (-1000000000000000001 : Int64) M b hb) rfl rfl (Nat.le_of_ble_eq_true rfl) (fun b3 => ?_)
    exact T_end (fun h => by cases h; exact V_lret dX8_as_27)
  · refine T_iload_n (q := 2) dX8_as_8 rfl rfl ?_
    refine T_i2l dX8_as_9 ?_
    refine T_lconst (v := 0) dX8_as_10 (by decide) ?_
    refine T_ldc2 dX8_as_11 kcl_X8_96 ?_
    refine T_callSi (As := [.long x2.toInt64, .long (0 : Int64), .long (3 : Int64)]) (st := []) ms_X8_86 (by decide) dX8_as_14 (fun b hb => mX8_in G l x2.toInt64 (0 : Int64) (3 : Int64) M b hb) rfl rfl (Nat.le_of_ble_eq_true rfl) (fun b4 => ?_)
    refine T_if_ne (tgt := 28) dX8_as_17 (by decide) (fun hc5 => ?_) (fun hc5 => ?_)
    · refine T_aload_n (q := 0) dX8_as_20 rfl rfl ?_
      refine T_ldc2 dX8_as_21 kcl_X8_98 ?_
      refine T_callVlw (As := [.long (-1000000000000000001 : Int64)]) (st := []) mv_X8_100 (by decide) dX8_as_24 ho0 (fun b hb => mX8_told0 G l o0 ho0 (-1000000000000000001 : Int64) M b hb) rfl rfl (Nat.le_of_ble_eq_true rfl) (fun b6 => ?_)
      exact T_end (fun h => by cases h; exact V_lret dX8_as_27)
    · refine T_aload_n (q := 0) dX8_as_28 rfl rfl ?_
      refine T_getR cf7 fr_X8_9 dX8_as_29 ho0 rfl ?_
      refine T_iload_n (q := 1) dX8_as_32 rfl rfl ?_
      refine T_iald dX8_as_33 (sf_7_4 ho0) ?_
      refine T_istore_n_G (lv' := fun v7 => [(3, .int v7), (0, .ref (adr G o0)), (1, .int x1), (2, .int x2)]) dX8_as_34 rfl (by decide) (fun _ => rfl) (fun v7 => ?_)
      refine T_iload_n (q := 3) dX8_as_35 rfl rfl ?_
      refine T_if_eq (tgt := 54) dX8_as_36 (by decide) (fun hc8 => ?_) (fun hc8 => ?_)
      · refine T_iconst (v := 1) dX8_as_54 (by decide) ?_
        refine T_goto (tgt := 59) dX8_as_55 (by decide) ?_
        refine T_istore (lv' := [(4, .int (1 : Int32)), (3, .int v7), (0, .ref (adr G o0)), (1, .int x1), (2, .int x2)]) dX8_as_59 (by decide) rfl ?_
        refine T_iload (q := 0) dX8_as_61 rfl ?_
        refine T_if_eq (tgt := 71) dX8_as_63 (by decide) (fun hc9 => ?_) (fun hc9 => ?_)
        · refine T_aload_n (q := 2) dX8_as_71 rfl rfl ?_
          refine T_ldc2 dX8_as_72 kcl_X8_110 ?_
          refine T_callVlw (As := [.long (-1000000000000000004 : Int64)]) (st := []) mv_X8_100 (by decide) dX8_as_75 ho0 (fun b hb => mX8_told0 G l o0 ho0 (-1000000000000000004 : Int64) M b hb) rfl rfl (Nat.le_of_ble_eq_true rfl) (fun b10 => ?_)
          exact T_end (fun h => by cases h; exact V_lret dX8_as_78)
        · refine T_iload_n (q := 3) dX8_as_66 rfl rfl ?_
          refine T_i2l dX8_as_67 ?_
          refine T_goto (tgt := 78) dX8_as_68 (by decide) ?_
          exact T_end (fun h => by cases h; exact V_lret dX8_as_78)
      · refine T_iload_n (q := 3) dX8_as_39 rfl rfl ?_
        refine T_iload_n (q := 0) dX8_as_40 rfl rfl ?_
        refine T_icmp_eq (tgt := 54) dX8_as_41 (by decide) (fun hc11 => ?_) (fun hc11 => ?_)
        · refine T_iconst (v := 1) dX8_as_54 (by decide) ?_
          refine T_goto (tgt := 59) dX8_as_55 (by decide) ?_
          refine T_istore (lv' := [(4, .int (1 : Int32)), (3, .int v7), (0, .ref (adr G o0)), (1, .int x1), (2, .int x2)]) dX8_as_59 (by decide) rfl ?_
          refine T_iload (q := 0) dX8_as_61 rfl ?_
          refine T_if_eq (tgt := 71) dX8_as_63 (by decide) (fun hc12 => ?_) (fun hc12 => ?_)
          · refine T_aload_n (q := 2) dX8_as_71 rfl rfl ?_
            refine T_ldc2 dX8_as_72 kcl_X8_110 ?_
            refine T_callVlw (As := [.long (-1000000000000000004 : Int64)]) (st := []) mv_X8_100 (by decide) dX8_as_75 ho0 (fun b hb => mX8_told0 G l o0 ho0 (-1000000000000000004 : Int64) M b hb) rfl rfl (Nat.le_of_ble_eq_true rfl) (fun b13 => ?_)
            exact T_end (fun h => by cases h; exact V_lret dX8_as_78)
          · refine T_iload_n (q := 3) dX8_as_66 rfl rfl ?_
            refine T_i2l dX8_as_67 ?_
            refine T_goto (tgt := 78) dX8_as_68 (by decide) ?_
            exact T_end (fun h => by cases h; exact V_lret dX8_as_78)
        · refine T_iload_n (q := 3) dX8_as_44 rfl rfl ?_
          refine T_iconst (v := 1) dX8_as_45 (by decide) ?_
          refine T_icmp_ne (tgt := 58) dX8_as_46 (by decide) (fun hc14 => ?_) (fun hc14 => ?_)
          · refine T_iload_n (q := 0) dX8_as_49 rfl rfl ?_
            refine T_iconst (v := 2) dX8_as_50 (by decide) ?_
            refine T_icmp_ne (tgt := 58) dX8_as_51 (by decide) (fun hc15 => ?_) (fun hc15 => ?_)
            · refine T_iconst (v := 1) dX8_as_54 (by decide) ?_
              refine T_goto (tgt := 59) dX8_as_55 (by decide) ?_
              refine T_istore (lv' := [(4, .int (1 : Int32)), (3, .int v7), (0, .ref (adr G o0)), (1, .int x1), (2, .int x2)]) dX8_as_59 (by decide) rfl ?_
              refine T_iload (q := 0) dX8_as_61 rfl ?_
              refine T_if_eq (tgt := 71) dX8_as_63 (by decide) (fun hc16 => ?_) (fun hc16 => ?_)
              · refine T_aload_n (q := 2) dX8_as_71 rfl rfl ?_
                refine T_ldc2 dX8_as_72 kcl_X8_110 ?_
                refine T_callVlw (As := [.long (-1000000000000000004 : Int64)]) (st := []) mv_X8_100 (by decide) dX8_as_75 ho0 (fun b hb => mX8_told0 G l o0 ho0 (-1000000000000000004 : Int64) M b hb) rfl rfl (Nat.le_of_ble_eq_true rfl) (fun b17 => ?_)
                exact T_end (fun h => by cases h; exact V_lret dX8_as_78)
              · refine T_iload_n (q := 3) dX8_as_66 rfl rfl ?_
                refine T_i2l dX8_as_67 ?_
                refine T_goto (tgt := 78) dX8_as_68 (by decide) ?_
                exact T_end (fun h => by cases h; exact V_lret dX8_as_78)
            · refine T_iconst (v := 0) dX8_as_58 (by decide) ?_
              refine T_istore (lv' := [(4, .int (0 : Int32)), (3, .int v7), (0, .ref (adr G o0)), (1, .int x1), (2, .int x2)]) dX8_as_59 (by decide) rfl ?_
              refine T_iload (q := 0) dX8_as_61 rfl ?_
              refine T_if_eq (tgt := 71) dX8_as_63 (by decide) (fun hc18 => ?_) (fun hc18 => ?_)
              · refine T_aload_n (q := 2) dX8_as_71 rfl rfl ?_
                refine T_ldc2 dX8_as_72 kcl_X8_110 ?_
                refine T_callVlw (As := [.long (-1000000000000000004 : Int64)]) (st := []) mv_X8_100 (by decide) dX8_as_75 ho0 (fun b hb => mX8_told0 G l o0 ho0 (-1000000000000000004 : Int64) M b hb) rfl rfl (Nat.le_of_ble_eq_true rfl) (fun b19 => ?_)
                exact T_end (fun h => by cases h; exact V_lret dX8_as_78)
              · refine T_iload_n (q := 3) dX8_as_66 rfl rfl ?_
                refine T_i2l dX8_as_67 ?_
                refine T_goto (tgt := 78) dX8_as_68 (by decide) ?_
                exact T_end (fun h => by cases h; exact V_lret dX8_as_78)
          · refine T_iconst (v := 0) dX8_as_58 (by decide) ?_
            refine T_istore (lv' := [(4, .int (0 : Int32)), (3, .int v7), (0, .ref (adr G o0)), (1, .int x1), (2, .int x2)]) dX8_as_59 (by decide) rfl ?_
            refine T_iload (q := 0) dX8_as_61 rfl ?_
            refine T_if_eq (tgt := 71) dX8_as_63 (by decide) (fun hc20 => ?_) (fun hc20 => ?_)
            · refine T_aload_n (q := 2) dX8_as_71 rfl rfl ?_
              refine T_ldc2 dX8_as_72 kcl_X8_110 ?_
              refine T_callVlw (As := [.long (-1000000000000000004 : Int64)]) (st := []) mv_X8_100 (by decide) dX8_as_75 ho0 (fun b hb => mX8_told0 G l o0 ho0 (-1000000000000000004 : Int64) M b hb) rfl rfl (Nat.le_of_ble_eq_true rfl) (fun b21 => ?_)
              exact T_end (fun h => by cases h; exact V_lret dX8_as_78)
            · refine T_iload_n (q := 3) dX8_as_66 rfl rfl ?_
              refine T_i2l dX8_as_67 ?_
              refine T_goto (tgt := 78) dX8_as_68 (by decide) ?_
              exact T_end (fun h => by cases h; exact V_lret dX8_as_78)
set_option maxHeartbeats 4000000 in
set_option maxRecDepth 100000 in
theorem mX8_isYear (G : Gw) (l : Launch) (x0 : Int32) (M : Mem) (a : Int32) (h : fX8_isYear x0 = some a) : CtP G l yX8_isYear cX8_isYear 1 (some .boolean) 1 25 [.int x0] M (some (.int a)) M := by
  refine CtP.ofV (by decide) (Nat.le_of_ble_eq_true rfl) ?_
  refine (?_ : T G l RX8 cX8_isYear 1 (some .boolean) (rmOf 1 25) 0 0 (FinM G (some (.int a)) M) (fun x => x = a) 0 [(0, .int x0)] [] M (fX8_isYear x0)) a h rfl
  clear h
  unfold fX8_isYear
  refine T_iload_n (q := 0) dX8_isYear_0 rfl rfl ?_
  refine T_i2l dX8_isYear_1 ?_
  refine T_ldc2 dX8_isYear_2 kcl_X8_90 ?_
  refine T_ldc2 dX8_isYear_5 kcl_X8_92 ?_
  refine T_callSi (As := [.long x0.toInt64, .long (1000 : Int64), .long (1999 : Int64)]) (st := []) ms_X8_86 (by decide) dX8_isYear_8 (fun b hb => mX8_in G l x0.toInt64 (1000 : Int64) (1999 : Int64) M b hb) rfl rfl (Nat.le_of_ble_eq_true rfl) (fun b1 => ?_)
  refine T_gb (fun hz2 => ?_)
  exact T_end (fun h => by cases h; exact V_zret hz2 dX8_isYear_11)
set_option maxHeartbeats 4000000 in
set_option maxRecDepth 100000 in
theorem mX8_back (G : Gw) (l : Launch) (o0 : Nat) (ho0 : shp o0 = 7) (x1 : Int32) (x2 : Int32) (M : Mem) (a : Int64 × Mem) (h : fX8_back o0 x1 x2 M = some a) : CtP G l yX8_back cX8_back 3 (some .long) 2 48 [.ref (adr G o0), .int x1, .int x2] M (some (.long a.1)) a.2 := by
  refine CtP.ofV (by decide) (Nat.le_of_ble_eq_true rfl) ?_
  refine (?_ : T G l RX8 cX8_back 3 (some .long) (rmOf 2 48) 0 0 (FinM G (some (.long a.1)) a.2) (fun x => x = a) 0 [(0, .ref (adr G o0)), (1, .int x1), (2, .int x2)] [] M (fX8_back o0 x1 x2 M)) a h rfl
  clear h
  unfold fX8_back
  refine T_iload_n (q := 1) dX8_back_0 rfl rfl ?_
  refine T_i2l dX8_back_1 ?_
  refine T_lconst (v := 0) dX8_back_2 (by decide) ?_
  refine T_aload_n (q := 0) dX8_back_3 rfl rfl ?_
  refine T_getI cf7 fr_X8_112 dX8_back_4 ho0 rfl ?_
  refine T_iconst (v := 1) dX8_back_7 (by decide) ?_
  refine T_isub dX8_back_8 ?_
  refine T_i2l dX8_back_9 ?_
  refine T_callSi (As := [.long x1.toInt64, .long (0 : Int64), .long (((M.1 o0 1) - (1 : Int32)).toInt64)]) (st := []) ms_X8_86 (by decide) dX8_back_10 (fun b hb => mX8_in G l x1.toInt64 (0 : Int64) (((M.1 o0 1) - (1 : Int32)).toInt64) M b hb) rfl rfl (Nat.le_of_ble_eq_true rfl) (fun b1 => ?_)
  refine T_if_eq (tgt := 33) dX8_back_13 (by decide) (fun hc2 => ?_) (fun hc2 => ?_)
  · refine T_aload_n (q := 0) dX8_back_33 rfl rfl ?_
    refine T_ldc2 dX8_back_34 kcl_X8_98 ?_
    refine T_callVlw (As := [.long (-1000000000000000001 : Int64)]) (st := []) mv_X8_100 (by decide) dX8_back_37 ho0 (fun b hb => mX8_told0 G l o0 ho0 (-1000000000000000001 : Int64) M b hb) rfl rfl (Nat.le_of_ble_eq_true rfl) (fun b3 => ?_)
    exact T_end (fun h => by cases h; exact V_lret dX8_back_40)
  · refine T_iload_n (q := 2) dX8_back_16 rfl rfl ?_
    refine T_callSi (As := [.int x2]) (st := []) ms_X8_115 (by decide) dX8_back_17 (fun b hb => mX8_isYear G l x2 M b hb) rfl rfl (Nat.le_of_ble_eq_true rfl) (fun b4 => ?_)
    refine T_if_eq (tgt := 33) dX8_back_20 (by decide) (fun hc5 => ?_) (fun hc5 => ?_)
    · refine T_aload_n (q := 0) dX8_back_33 rfl rfl ?_
      refine T_ldc2 dX8_back_34 kcl_X8_98 ?_
      refine T_callVlw (As := [.long (-1000000000000000001 : Int64)]) (st := []) mv_X8_100 (by decide) dX8_back_37 ho0 (fun b hb => mX8_told0 G l o0 ho0 (-1000000000000000001 : Int64) M b hb) rfl rfl (Nat.le_of_ble_eq_true rfl) (fun b6 => ?_)
      exact T_end (fun h => by cases h; exact V_lret dX8_back_40)
    · refine T_iload_n (q := 2) dX8_back_23 rfl rfl ?_
      refine T_aload_n (q := 0) dX8_back_24 rfl rfl ?_
      refine T_getR cf7 fr_X8_16 dX8_back_25 ho0 rfl ?_
      refine T_iload_n (q := 1) dX8_back_28 rfl rfl ?_
      refine T_iald dX8_back_29 (sf_7_6 ho0) ?_
      refine T_icmp_ge (tgt := 41) dX8_back_30 (by decide) (fun hc7 => ?_) (fun hc7 => ?_)
      · refine T_aload_n (q := 0) dX8_back_41 rfl rfl ?_
        refine T_getR cf7 fr_X8_13 dX8_back_42 ho0 rfl ?_
        refine T_iload_n (q := 1) dX8_back_45 rfl rfl ?_
        refine T_iald dX8_back_46 (sf_7_5 ho0) ?_
        refine T_iconst (v := 2) dX8_back_47 (by decide) ?_
        refine T_icmp_le (tgt := 61) dX8_back_48 (by decide) (fun hc8 => ?_) (fun hc8 => ?_)
        · refine T_aload_n (q := 0) dX8_back_61 rfl rfl ?_
          refine T_iconst (v := 3) dX8_back_62 (by decide) ?_
          refine T_iload_n (q := 2) dX8_back_63 rfl rfl ?_
          refine T_iload_n (q := 1) dX8_back_64 rfl rfl ?_
          refine T_iconst (v := -1) dX8_back_65 (by decide) ?_
          refine T_lconst (v := 0) dX8_back_66 (by decide) ?_
          refine T_callVlw (As := [.int (3 : Int32), .int x2, .int x1, .int (-1 : Int32), .long (0 : Int64)]) (st := []) mv_X8_121 (by decide) dX8_back_67 ho0 (fun b hb => mX8_add G l o0 ho0 (3 : Int32) x2 x1 (-1 : Int32) (0 : Int64) M b hb) rfl rfl (Nat.le_of_ble_eq_true rfl) (fun b9 => ?_)
          exact T_end (fun h => by cases h; exact V_lret dX8_back_70)
        · refine T_aload_n (q := 0) dX8_back_51 rfl rfl ?_
          refine T_ldc2 dX8_back_52 kcl_X8_110 ?_
          refine T_callVlw (As := [.long (-1000000000000000004 : Int64)]) (st := []) mv_X8_100 (by decide) dX8_back_55 ho0 (fun b hb => mX8_told0 G l o0 ho0 (-1000000000000000004 : Int64) M b hb) rfl rfl (Nat.le_of_ble_eq_true rfl) (fun b10 => ?_)
          refine T_goto (tgt := 70) dX8_back_58 (by decide) ?_
          exact T_end (fun h => by cases h; exact V_lret dX8_back_70)
      · refine T_aload_n (q := 0) dX8_back_33 rfl rfl ?_
        refine T_ldc2 dX8_back_34 kcl_X8_98 ?_
        refine T_callVlw (As := [.long (-1000000000000000001 : Int64)]) (st := []) mv_X8_100 (by decide) dX8_back_37 ho0 (fun b hb => mX8_told0 G l o0 ho0 (-1000000000000000001 : Int64) M b hb) rfl rfl (Nat.le_of_ble_eq_true rfl) (fun b11 => ?_)
        exact T_end (fun h => by cases h; exact V_lret dX8_back_40)
set_option maxHeartbeats 4000000 in
set_option maxRecDepth 100000 in
theorem mX8_isMap (G : Gw) (l : Launch) (x0 : Int32) (M : Mem) (a : Int32) (h : fX8_isMap x0 = some a) : CtP G l yX8_isMap cX8_isMap 1 (some .boolean) 1 25 [.int x0] M (some (.int a)) M := by
  refine CtP.ofV (by decide) (Nat.le_of_ble_eq_true rfl) ?_
  refine (?_ : T G l RX8 cX8_isMap 1 (some .boolean) (rmOf 1 25) 0 0 (FinM G (some (.int a)) M) (fun x => x = a) 0 [(0, .int x0)] [] M (fX8_isMap x0)) a h rfl
  clear h
  unfold fX8_isMap
  refine T_iload_n (q := 0) dX8_isMap_0 rfl rfl ?_
  refine T_i2l dX8_isMap_1 ?_
  refine T_lconst (v := 0) dX8_isMap_2 (by decide) ?_
  refine T_ldc2 dX8_isMap_3 kcl_X8_96 ?_
  refine T_callSi (As := [.long x0.toInt64, .long (0 : Int64), .long (3 : Int64)]) (st := []) ms_X8_86 (by decide) dX8_isMap_6 (fun b hb => mX8_in G l x0.toInt64 (0 : Int64) (3 : Int64) M b hb) rfl rfl (Nat.le_of_ble_eq_true rfl) (fun b1 => ?_)
  refine T_gb (fun hz2 => ?_)
  exact T_end (fun h => by cases h; exact V_zret hz2 dX8_isMap_9)
set_option maxHeartbeats 4000000 in
set_option maxRecDepth 100000 in
theorem mX8_until (G : Gw) (l : Launch) (o0 : Nat) (ho0 : shp o0 = 7) (x1 : Int32) (M : Mem) (a : Int32) (h : fX8_until o0 x1 M = some a) : CtP G l yX8_until cX8_until 4 (some .int) 0 0 [.ref (adr G o0), .int x1] M (some (.int a)) M := by
  refine CtP.ofV (by decide) (Nat.le_of_ble_eq_true rfl) ?_
  refine (?_ : T G l RX8 cX8_until 4 (some .int) (rmOf 0 0) 0 0 (FinM G (some (.int a)) M) (fun x => x = a) 0 [(0, .ref (adr G o0)), (1, .int x1)] [] M (fX8_until o0 x1 M)) a h rfl
  clear h
  unfold fX8_until
  refine T_iconst (v := 0) dX8_until_0 (by decide) ?_
  refine T_istore_n (lv' := [(2, .int (0 : Int32)), (0, .ref (adr G o0)), (1, .int x1)]) dX8_until_1 rfl (by decide) rfl ?_
  refine T_iconst (v := 0) dX8_until_2 (by decide) ?_
  refine T_istore_n (lv' := [(3, .int (0 : Int32)), (2, .int (0 : Int32)), (0, .ref (adr G o0)), (1, .int x1)]) dX8_until_3 rfl (by decide) rfl ?_
  refine T_bind (X := fun r8 => V G l RX8 cX8_until 4 (some .int) (rmOf 0 0) 0 0 (FinM G (some (.int a)) M) 36 [(3, .int r8.2), (2, .int r8.1), (0, .ref (adr G o0)), (1, .int x1)] [] M) (T_loop (fun s1 => [(3, .int s1.2), (2, .int s1.1), (0, .ref (adr G o0)), (1, .int x1)]) (fun s1 => M) (fun s1 => ?_) ((0 : Int32), (0 : Int32))) (fun r8 => ?_)
  · unfold wX8_until_4
    refine T_iload_n (q := 0) dX8_until_4 rfl rfl ?_
    refine T_aload_n (q := 2) dX8_until_5 rfl rfl ?_
    refine T_getI cf7 fr_X8_112 dX8_until_6 ho0 rfl ?_
    refine T_icmp_ge (tgt := 36) dX8_until_9 (by decide) (fun hc2 => ?_) (fun hc2 => ?_)
    · exact T_end (fun h => V_sub [0, 1, 2, 3] rfl h)
    · refine T_iload_n (q := 1) dX8_until_12 rfl rfl ?_
      refine T_aload_n (q := 2) dX8_until_13 rfl rfl ?_
      refine T_getR cf7 fr_X8_16 dX8_until_14 ho0 rfl ?_
      refine T_iload_n (q := 0) dX8_until_17 rfl rfl ?_
      refine T_iald dX8_until_18 (sf_7_6 ho0) ?_
      refine T_iload_n (q := 3) dX8_until_19 rfl rfl ?_
      refine T_icmp_gt (tgt := 27) dX8_until_20 (by decide) (fun hc3 => ?_) (fun hc3 => ?_)
      · refine T_iconst (v := 0) dX8_until_27 (by decide) ?_
        refine T_iadd dX8_until_28 ?_
        refine T_istore_n_G (lv' := fun v4 => [(2, .int v4), (3, .int s1.2), (0, .ref (adr G o0)), (1, .int x1)]) dX8_until_29 rfl (by decide) (fun _ => rfl) (fun v4 => ?_)
        refine T_iinc_G (q := 1) (y := s1.2 + 1) (lv' := fun v5 => [(3, .int v5), (2, .int v4), (0, .ref (adr G o0)), (1, .int x1)]) dX8_until_30 rfl rfl (by decide) (fun _ => rfl) (fun v5 => ?_)
        refine T_goto (tgt := 4) dX8_until_33 (by decide) ?_
        exact T_end (fun h => V_sub [0, 1, 2, 3] rfl h)
      · refine T_iconst (v := 1) dX8_until_23 (by decide) ?_
        refine T_goto (tgt := 28) dX8_until_24 (by decide) ?_
        refine T_iadd dX8_until_28 ?_
        refine T_istore_n_G (lv' := fun v6 => [(2, .int v6), (3, .int s1.2), (0, .ref (adr G o0)), (1, .int x1)]) dX8_until_29 rfl (by decide) (fun _ => rfl) (fun v6 => ?_)
        refine T_iinc_G (q := 1) (y := s1.2 + 1) (lv' := fun v7 => [(3, .int v7), (2, .int v6), (0, .ref (adr G o0)), (1, .int x1)]) dX8_until_30 rfl rfl (by decide) (fun _ => rfl) (fun v7 => ?_)
        refine T_goto (tgt := 4) dX8_until_33 (by decide) ?_
        exact T_end (fun h => V_sub [0, 1, 2, 3] rfl h)
  · change T G l RX8 cX8_until 4 (some .int) (rmOf 0 0) 0 0 (FinM G (some (.int a)) M) _ 36 [(3, .int r8.2), (2, .int r8.1), (0, .ref (adr G o0)), (1, .int x1)] [] M _
    refine T_iload_n (q := 1) dX8_until_36 rfl rfl ?_
    exact T_end (fun h => by cases h; exact V_iret dX8_until_37)
set_option maxHeartbeats 4000000 in
set_option maxRecDepth 100000 in
theorem mX8_best (G : Gw) (l : Launch) (o0 : Nat) (ho0 : shp o0 = 7) (x1 : Int32) (x2 : Int32) (x3 : Int32) (M : Mem) (a : Int64 × Mem) (h : fX8_best o0 x1 x2 x3 M = some a) : CtP G l yX8_best cX8_best 8 (some .long) 3 75 [.ref (adr G o0), .int x1, .int x2, .int x3] M (some (.long a.1)) a.2 := by
  refine CtP.ofV (by decide) (Nat.le_of_ble_eq_true rfl) ?_
  refine (?_ : T G l RX8 cX8_best 8 (some .long) (rmOf 3 75) 0 0 (FinM G (some (.long a.1)) a.2) (fun x => x = a) 0 [(0, .ref (adr G o0)), (1, .int x1), (2, .int x2), (3, .int x3)] [] M (fX8_best o0 x1 x2 x3 M)) a h rfl
  clear h
  unfold fX8_best
  refine T_iload_n (q := 1) dX8_best_0 rfl rfl ?_
  refine T_callSi (As := [.int x1]) (st := []) ms_X8_187 (by decide) dX8_best_1 (fun b hb => mX8_isMap G l x1 M b hb) rfl rfl (Nat.le_of_ble_eq_true rfl) (fun b1 => ?_)
  refine T_if_eq (tgt := 26) dX8_best_4 (by decide) (fun hc2 => ?_) (fun hc2 => ?_)
  · refine T_aload_n (q := 0) dX8_best_26 rfl rfl ?_
    refine T_ldc2 dX8_best_27 kcl_X8_98 ?_
    refine T_callVlw (As := [.long (-1000000000000000001 : Int64)]) (st := []) mv_X8_100 (by decide) dX8_best_30 ho0 (fun b hb => mX8_told0 G l o0 ho0 (-1000000000000000001 : Int64) M b hb) rfl rfl (Nat.le_of_ble_eq_true rfl) (fun b3 => ?_)
    exact T_end (fun h => by cases h; exact V_lret dX8_best_33)
  · refine T_iload_n (q := 2) dX8_best_7 rfl rfl ?_
    refine T_callSi (As := [.int x2]) (st := []) ms_X8_115 (by decide) dX8_best_8 (fun b hb => mX8_isYear G l x2 M b hb) rfl rfl (Nat.le_of_ble_eq_true rfl) (fun b4 => ?_)
    refine T_if_eq (tgt := 26) dX8_best_11 (by decide) (fun hc5 => ?_) (fun hc5 => ?_)
    · refine T_aload_n (q := 0) dX8_best_26 rfl rfl ?_
      refine T_ldc2 dX8_best_27 kcl_X8_98 ?_
      refine T_callVlw (As := [.long (-1000000000000000001 : Int64)]) (st := []) mv_X8_100 (by decide) dX8_best_30 ho0 (fun b hb => mX8_told0 G l o0 ho0 (-1000000000000000001 : Int64) M b hb) rfl rfl (Nat.le_of_ble_eq_true rfl) (fun b6 => ?_)
      exact T_end (fun h => by cases h; exact V_lret dX8_best_33)
    · refine T_iload_n (q := 3) dX8_best_14 rfl rfl ?_
      refine T_callSi (As := [.int x3]) (st := []) ms_X8_115 (by decide) dX8_best_15 (fun b hb => mX8_isYear G l x3 M b hb) rfl rfl (Nat.le_of_ble_eq_true rfl) (fun b7 => ?_)
      refine T_if_eq (tgt := 26) dX8_best_18 (by decide) (fun hc8 => ?_) (fun hc8 => ?_)
      · refine T_aload_n (q := 0) dX8_best_26 rfl rfl ?_
        refine T_ldc2 dX8_best_27 kcl_X8_98 ?_
        refine T_callVlw (As := [.long (-1000000000000000001 : Int64)]) (st := []) mv_X8_100 (by decide) dX8_best_30 ho0 (fun b hb => mX8_told0 G l o0 ho0 (-1000000000000000001 : Int64) M b hb) rfl rfl (Nat.le_of_ble_eq_true rfl) (fun b9 => ?_)
        exact T_end (fun h => by cases h; exact V_lret dX8_best_33)
      · refine T_iload_n (q := 2) dX8_best_21 rfl rfl ?_
        refine T_iload_n (q := 3) dX8_best_22 rfl rfl ?_
        refine T_icmp_le (tgt := 34) dX8_best_23 (by decide) (fun hc10 => ?_) (fun hc10 => ?_)
        · refine T_aload_n (q := 0) dX8_best_34 rfl rfl ?_
          refine T_callVvw (As := []) (st := []) mv_X8_142 (by decide) dX8_best_35 ho0 (fun b hb => mX8_done G l o0 ho0 M b hb) rfl rfl (Nat.le_of_ble_eq_true rfl) (fun b11 => ?_)
          refine T_iload_n (q := 2) dX8_best_38 rfl rfl ?_
          refine T_istore (lv' := [(4, .int x2), (0, .ref (adr G o0)), (1, .int x1), (2, .int x2), (3, .int x3)]) dX8_best_39 (by decide) rfl ?_
          refine T_aload_n (q := 1) dX8_best_41 rfl rfl ?_
          refine T_iload_n (q := 2) dX8_best_42 rfl rfl ?_
          refine T_aload_n (q := 1) dX8_best_43 rfl rfl ?_
          refine T_iload_n (q := 3) dX8_best_44 rfl rfl ?_
          refine T_callVi (As := [.int x2]) (st := [.int x1, .ref (adr G o0)]) mv_X8_150 (by decide) dX8_best_45 ho0 (fun b hb => mX8_until G l o0 ho0 x2 b11 b hb) rfl rfl (Nat.le_of_ble_eq_true rfl) (fun b12 => ?_)
          refine T_callVi (As := [.int x1, .int b12]) (st := []) mv_X8_193 (by decide) dX8_best_48 ho0 (fun b hb => mX8_agrees G l o0 ho0 x1 b12 b11 b hb) rfl rfl (Nat.le_of_ble_eq_true rfl) (fun b13 => ?_)
          refine T_istore (lv' := [(5, .int b13), (4, .int x2), (0, .ref (adr G o0)), (1, .int x1), (2, .int x2), (3, .int x3)]) dX8_best_51 (by decide) rfl ?_
          refine T_iload_n (q := 4) dX8_best_53 rfl rfl ?_
          refine T_istore (lv' := [(6, .int x2), (5, .int b13), (4, .int x2), (0, .ref (adr G o0)), (1, .int x1), (2, .int x2), (3, .int x3)]) dX8_best_54 (by decide) rfl ?_
          refine T_bind (X := fun r21 => V G l RX8 cX8_best 8 (some .long) (rmOf 3 75) 0 0 (FinM G (some (.long a.1)) a.2) 99 [(6, .int r21.2.2), (5, .int r21.2.1), (4, .int r21.1), (0, .ref (adr G o0)), (1, .int x1), (2, .int x2), (3, .int x3)] [] b11) (T_loop (fun s14 => [(6, .int s14.2.2), (5, .int s14.2.1), (4, .int s14.1), (0, .ref (adr G o0)), (1, .int x1), (2, .int x2), (3, .int x3)]) (fun s14 => b11) (fun s14 => ?_) (x2, b13, x2)) (fun r21 => ?_)
          · unfold wX8_best_56
            refine T_iload (q := 0) dX8_best_56 rfl ?_
            refine T_iload_n (q := 6) dX8_best_58 rfl rfl ?_
            refine T_icmp_gt (tgt := 99) dX8_best_59 (by decide) (fun hc15 => ?_) (fun hc15 => ?_)
            · exact T_end (fun h => V_sub [0, 1, 2, 3, 4, 5, 6] rfl h)
            · refine T_aload_n (q := 3) dX8_best_62 rfl rfl ?_
              refine T_iload_n (q := 4) dX8_best_63 rfl rfl ?_
              refine T_aload_n (q := 3) dX8_best_64 rfl rfl ?_
              refine T_iload (q := 0) dX8_best_65 rfl ?_
              refine T_callVi (As := [.int s14.2.2]) (st := [.int x1, .ref (adr G o0)]) mv_X8_150 (by decide) dX8_best_67 ho0 (fun b hb => mX8_until G l o0 ho0 s14.2.2 b11 b hb) rfl rfl (Nat.le_of_ble_eq_true rfl) (fun b16 => ?_)
              refine T_callVi (As := [.int x1, .int b16]) (st := []) mv_X8_193 (by decide) dX8_best_70 ho0 (fun b hb => mX8_agrees G l o0 ho0 x1 b16 b11 b hb) rfl rfl (Nat.le_of_ble_eq_true rfl) (fun b17 => ?_)
              refine T_istore (lv' := [(7, .int b17), (6, .int s14.2.2), (5, .int s14.2.1), (4, .int s14.1), (0, .ref (adr G o0)), (1, .int x1), (2, .int x2), (3, .int x3)]) dX8_best_73 (by decide) rfl ?_
              refine T_iload (q := 0) dX8_best_75 rfl ?_
              refine T_iload (q := 2) dX8_best_77 rfl ?_
              refine T_icmp_gt (tgt := 85) dX8_best_79 (by decide) (fun hc18 => ?_) (fun hc18 => ?_)
              · refine T_iload (q := 0) dX8_best_85 rfl ?_
                refine T_istore (lv' := [(5, .int b17), (7, .int b17), (6, .int s14.2.2), (4, .int s14.1), (0, .ref (adr G o0)), (1, .int x1), (2, .int x2), (3, .int x3)]) dX8_best_87 (by decide) rfl ?_
                refine T_iload (q := 2) dX8_best_89 rfl ?_
                refine T_istore (lv' := [(4, .int s14.2.2), (5, .int b17), (7, .int b17), (6, .int s14.2.2), (0, .ref (adr G o0)), (1, .int x1), (2, .int x2), (3, .int x3)]) dX8_best_91 (by decide) rfl ?_
                refine T_iinc_G (q := 3) (y := s14.2.2 + 1) (lv' := fun v19 => [(6, .int v19), (4, .int s14.2.2), (5, .int b17), (7, .int b17), (0, .ref (adr G o0)), (1, .int x1), (2, .int x2), (3, .int x3)]) dX8_best_93 rfl rfl (by decide) (fun _ => rfl) (fun v19 => ?_)
                refine T_goto (tgt := 56) dX8_best_96 (by decide) ?_
                exact T_end (fun h => V_sub [0, 2, 1, 4, 5, 6, 7] rfl h)
              · refine T_goto (tgt := 93) dX8_best_82 (by decide) ?_
                refine T_iinc_G (q := 1) (y := s14.2.2 + 1) (lv' := fun v20 => [(6, .int v20), (7, .int b17), (5, .int s14.2.1), (4, .int s14.1), (0, .ref (adr G o0)), (1, .int x1), (2, .int x2), (3, .int x3)]) dX8_best_93 rfl rfl (by decide) (fun _ => rfl) (fun v20 => ?_)
                refine T_goto (tgt := 56) dX8_best_96 (by decide) ?_
                exact T_end (fun h => V_sub [0, 2, 3, 4, 5, 6, 7] rfl h)
          · change T G l RX8 cX8_best 8 (some .long) (rmOf 3 75) 0 0 (FinM G (some (.long a.1)) a.2) _ 99 [(6, .int r21.2.2), (5, .int r21.2.1), (4, .int r21.1), (0, .ref (adr G o0)), (1, .int x1), (2, .int x2), (3, .int x3)] [] b11 _
            refine T_iload (q := 2) dX8_best_99 rfl ?_
            refine T_i2l dX8_best_101 ?_
            exact T_end (fun h => by cases h; exact V_lret dX8_best_102)
        · refine T_aload_n (q := 0) dX8_best_26 rfl rfl ?_
          refine T_ldc2 dX8_best_27 kcl_X8_98 ?_
          refine T_callVlw (As := [.long (-1000000000000000001 : Int64)]) (st := []) mv_X8_100 (by decide) dX8_best_30 ho0 (fun b hb => mX8_told0 G l o0 ho0 (-1000000000000000001 : Int64) M b hb) rfl rfl (Nat.le_of_ble_eq_true rfl) (fun b22 => ?_)
          exact T_end (fun h => by cases h; exact V_lret dX8_best_33)
set_option maxHeartbeats 4000000 in
set_option maxRecDepth 100000 in
theorem mX8_borders (G : Gw) (l : Launch) (o0 : Nat) (ho0 : shp o0 = 7) (x1 : Int32) (M : Mem) (a : Int64 × Mem) (h : fX8_borders o0 x1 M = some a) : CtP G l yX8_borders cX8_borders 7 (some .long) 3 75 [.ref (adr G o0), .int x1] M (some (.long a.1)) a.2 := by
  refine CtP.ofV (by decide) (Nat.le_of_ble_eq_true rfl) ?_
  refine (?_ : T G l RX8 cX8_borders 7 (some .long) (rmOf 3 75) 0 0 (FinM G (some (.long a.1)) a.2) (fun x => x = a) 0 [(0, .ref (adr G o0)), (1, .int x1)] [] M (fX8_borders o0 x1 M)) a h rfl
  clear h
  unfold fX8_borders
  refine T_iload_n (q := 1) dX8_borders_0 rfl rfl ?_
  refine T_callSi (As := [.int x1]) (st := []) ms_X8_115 (by decide) dX8_borders_1 (fun b hb => mX8_isYear G l x1 M b hb) rfl rfl (Nat.le_of_ble_eq_true rfl) (fun b1 => ?_)
  refine T_if_ne (tgt := 15) dX8_borders_4 (by decide) (fun hc2 => ?_) (fun hc2 => ?_)
  · refine T_aload_n (q := 0) dX8_borders_7 rfl rfl ?_
    refine T_ldc2 dX8_borders_8 kcl_X8_98 ?_
    refine T_callVlw (As := [.long (-1000000000000000001 : Int64)]) (st := []) mv_X8_100 (by decide) dX8_borders_11 ho0 (fun b hb => mX8_told0 G l o0 ho0 (-1000000000000000001 : Int64) M b hb) rfl rfl (Nat.le_of_ble_eq_true rfl) (fun b3 => ?_)
    exact T_end (fun h => by cases h; exact V_lret dX8_borders_14)
  · refine T_aload_n (q := 0) dX8_borders_15 rfl rfl ?_
    refine T_callVvw (As := []) (st := []) mv_X8_142 (by decide) dX8_borders_16 ho0 (fun b hb => mX8_done G l o0 ho0 M b hb) rfl rfl (Nat.le_of_ble_eq_true rfl) (fun b4 => ?_)
    refine T_aload_n (q := 0) dX8_borders_19 rfl rfl ?_
    refine T_iload_n (q := 1) dX8_borders_20 rfl rfl ?_
    refine T_callVi (As := [.int x1]) (st := []) mv_X8_150 (by decide) dX8_borders_21 ho0 (fun b hb => mX8_until G l o0 ho0 x1 b4 b hb) rfl rfl (Nat.le_of_ble_eq_true rfl) (fun b5 => ?_)
    refine T_istore_n (lv' := [(2, .int b5), (0, .ref (adr G o0)), (1, .int x1)]) dX8_borders_24 rfl (by decide) rfl ?_
    refine T_iconst (v := 0) dX8_borders_25 (by decide) ?_
    refine T_istore_n (lv' := [(3, .int (0 : Int32)), (2, .int b5), (0, .ref (adr G o0)), (1, .int x1)]) dX8_borders_26 rfl (by decide) rfl ?_
    refine T_iconst (v := 0) dX8_borders_27 (by decide) ?_
    refine T_istore (lv' := [(4, .int (0 : Int32)), (3, .int (0 : Int32)), (2, .int b5), (0, .ref (adr G o0)), (1, .int x1)]) dX8_borders_28 (by decide) rfl ?_
    refine T_bind (X := fun r22 => V G l RX8 cX8_borders 7 (some .long) (rmOf 3 75) 0 0 (FinM G (some (.long a.1)) a.2) 92 [(4, .int r22.2), (3, .int r22.1), (2, .int b5), (0, .ref (adr G o0)), (1, .int x1)] [] b4) (T_loop (fun s6 => [(4, .int s6.2), (3, .int s6.1), (2, .int b5), (0, .ref (adr G o0)), (1, .int x1)]) (fun s6 => b4) (fun s6 => ?_) ((0 : Int32), (0 : Int32))) (fun r22 => ?_)
    · unfold wX8_borders_30
      refine T_iload (q := 0) dX8_borders_30 rfl ?_
      refine T_bipush (v := 36) dX8_borders_32 (by decide) ?_
      refine T_icmp_ge (tgt := 92) dX8_borders_34 (by decide) (fun hc7 => ?_) (fun hc7 => ?_)
      · exact T_end (fun h => V_sub [0, 1, 2, 3, 4] rfl h)
      · refine T_iconst (v := 1) dX8_borders_37 (by decide) ?_
        refine T_istore (lv' := [(5, .int (1 : Int32)), (4, .int s6.2), (3, .int s6.1), (2, .int b5), (0, .ref (adr G o0)), (1, .int x1)]) dX8_borders_38 (by decide) rfl ?_
        refine T_bind (X := fun r20 => V G l RX8 cX8_borders 7 (some .long) (rmOf 3 75) 0 0 (FinM G (some (.long a.1)) a.2) 86 [(5, .int r20.2), (4, .int s6.2), (3, .int r20.1), (2, .int b5), (0, .ref (adr G o0)), (1, .int x1)] [] b4) (T_loop (fun s8 => [(5, .int s8.2), (4, .int s6.2), (3, .int s8.1), (2, .int b5), (0, .ref (adr G o0)), (1, .int x1)]) (fun s8 => b4) (fun s8 => ?_) (s6.1, (1 : Int32))) (fun r20 => ?_)
        · unfold wX8_borders_40
          refine T_iload (q := 0) dX8_borders_40 rfl ?_
          refine T_iconst (v := 4) dX8_borders_42 (by decide) ?_
          refine T_icmp_ge (tgt := 86) dX8_borders_43 (by decide) (fun hc9 => ?_) (fun hc9 => ?_)
          · exact T_end (fun h => V_sub [0, 1, 2, 3, 4, 5] rfl h)
          · refine T_iload (q := 1) dX8_borders_46 rfl ?_
            refine T_iload (q := 0) dX8_borders_48 rfl ?_
            refine T_callSi (As := [.int s6.2, .int s8.2]) (st := []) ms_X8_164 (by decide) dX8_borders_50 (fun b hb => mX8_beside G l s6.2 s8.2 b4 b hb) rfl rfl (Nat.le_of_ble_eq_true rfl) (fun b10 => ?_)
            refine T_istore (lv' := [(6, .int b10), (5, .int s8.2), (4, .int s6.2), (3, .int s8.1), (2, .int b5), (0, .ref (adr G o0)), (1, .int x1)]) dX8_borders_53 (by decide) rfl ?_
            refine T_iload_n (q := 3) dX8_borders_55 rfl rfl ?_
            refine T_iload (q := 0) dX8_borders_56 rfl ?_
            refine T_if_lt (tgt := 77) dX8_borders_58 (by decide) (fun hc11 => ?_) (fun hc11 => ?_)
            · refine T_iconst (v := 0) dX8_borders_77 (by decide) ?_
              refine T_iadd dX8_borders_78 ?_
              refine T_istore_n_G (lv' := fun v12 => [(3, .int v12), (6, .int b10), (5, .int s8.2), (4, .int s6.2), (2, .int b5), (0, .ref (adr G o0)), (1, .int x1)]) dX8_borders_79 rfl (by decide) (fun _ => rfl) (fun v12 => ?_)
              refine T_iinc_G (q := 2) (y := s8.2 + 2) (lv' := fun v13 => [(5, .int v13), (3, .int v12), (6, .int b10), (4, .int s6.2), (2, .int b5), (0, .ref (adr G o0)), (1, .int x1)]) dX8_borders_80 rfl rfl (by decide) (fun _ => rfl) (fun v13 => ?_)
              refine T_goto (tgt := 40) dX8_borders_83 (by decide) ?_
              exact T_end (fun h => V_sub [0, 3, 1, 4, 5, 6] rfl h)
            · refine T_aload_n (q := 5) dX8_borders_61 rfl rfl ?_
              refine T_iload_n (q := 4) dX8_borders_62 rfl rfl ?_
              refine T_iload (q := 2) dX8_borders_63 rfl ?_
              refine T_iload (q := 0) dX8_borders_65 rfl ?_
              refine T_callVi (As := [.int b5, .int s6.2, .int b10]) (st := [.int s8.1]) mv_X8_183 (by decide) dX8_borders_67 ho0 (fun b hb => mX8_areUnlike G l o0 ho0 b5 s6.2 b10 b4 b hb) rfl rfl (Nat.le_of_ble_eq_true rfl) (fun b14 => ?_)
              refine T_if_eq (tgt := 77) dX8_borders_70 (by decide) (fun hc15 => ?_) (fun hc15 => ?_)
              · refine T_iconst (v := 0) dX8_borders_77 (by decide) ?_
                refine T_iadd dX8_borders_78 ?_
                refine T_istore_n_G (lv' := fun v16 => [(3, .int v16), (6, .int b10), (5, .int s8.2), (4, .int s6.2), (2, .int b5), (0, .ref (adr G o0)), (1, .int x1)]) dX8_borders_79 rfl (by decide) (fun _ => rfl) (fun v16 => ?_)
                refine T_iinc_G (q := 2) (y := s8.2 + 2) (lv' := fun v17 => [(5, .int v17), (3, .int v16), (6, .int b10), (4, .int s6.2), (2, .int b5), (0, .ref (adr G o0)), (1, .int x1)]) dX8_borders_80 rfl rfl (by decide) (fun _ => rfl) (fun v17 => ?_)
                refine T_goto (tgt := 40) dX8_borders_83 (by decide) ?_
                exact T_end (fun h => V_sub [0, 3, 1, 4, 5, 6] rfl h)
              · refine T_iconst (v := 1) dX8_borders_73 (by decide) ?_
                refine T_goto (tgt := 78) dX8_borders_74 (by decide) ?_
                refine T_iadd dX8_borders_78 ?_
                refine T_istore_n_G (lv' := fun v18 => [(3, .int v18), (6, .int b10), (5, .int s8.2), (4, .int s6.2), (2, .int b5), (0, .ref (adr G o0)), (1, .int x1)]) dX8_borders_79 rfl (by decide) (fun _ => rfl) (fun v18 => ?_)
                refine T_iinc_G (q := 2) (y := s8.2 + 2) (lv' := fun v19 => [(5, .int v19), (3, .int v18), (6, .int b10), (4, .int s6.2), (2, .int b5), (0, .ref (adr G o0)), (1, .int x1)]) dX8_borders_80 rfl rfl (by decide) (fun _ => rfl) (fun v19 => ?_)
                refine T_goto (tgt := 40) dX8_borders_83 (by decide) ?_
                exact T_end (fun h => V_sub [0, 3, 1, 4, 5, 6] rfl h)
        · change T G l RX8 cX8_borders 7 (some .long) (rmOf 3 75) 0 0 (FinM G (some (.long a.1)) a.2) _ 86 [(5, .int r20.2), (4, .int s6.2), (3, .int r20.1), (2, .int b5), (0, .ref (adr G o0)), (1, .int x1)] [] b4 _
          refine T_iinc_G (q := 1) (y := s6.2 + 1) (lv' := fun v21 => [(4, .int v21), (5, .int r20.2), (3, .int r20.1), (2, .int b5), (0, .ref (adr G o0)), (1, .int x1)]) dX8_borders_86 rfl rfl (by decide) (fun _ => rfl) (fun v21 => ?_)
          refine T_goto (tgt := 30) dX8_borders_89 (by decide) ?_
          exact T_end (fun h => V_sub [0, 2, 3, 4, 5] rfl h)
    · change T G l RX8 cX8_borders 7 (some .long) (rmOf 3 75) 0 0 (FinM G (some (.long a.1)) a.2) _ 92 [(4, .int r22.2), (3, .int r22.1), (2, .int b5), (0, .ref (adr G o0)), (1, .int x1)] [] b4 _
      refine T_iload_n (q := 1) dX8_borders_92 rfl rfl ?_
      refine T_i2l dX8_borders_93 ?_
      exact T_end (fun h => by cases h; exact V_lret dX8_borders_94)
set_option maxHeartbeats 4000000 in
set_option maxRecDepth 100000 in
theorem mX8_isHundred (G : Gw) (l : Launch) (o0 : Nat) (ho0 : shp o0 = 7) (x1 : Int32) (M : Mem) (a : Int32) (h : fX8_isHundred o0 x1 M = some a) : CtP G l yX8_isHundred cX8_isHundred 2 (some .boolean) 0 0 [.ref (adr G o0), .int x1] M (some (.int a)) M := by
  refine CtP.ofV (by decide) (Nat.le_of_ble_eq_true rfl) ?_
  refine (?_ : T G l RX8 cX8_isHundred 2 (some .boolean) (rmOf 0 0) 0 0 (FinM G (some (.int a)) M) (fun x => x = a) 0 [(0, .ref (adr G o0)), (1, .int x1)] [] M (fX8_isHundred o0 x1 M)) a h rfl
  clear h
  unfold fX8_isHundred
  refine T_aload_n (q := 0) dX8_isHundred_0 rfl rfl ?_
  refine T_getR cf7 fr_X8_9 dX8_isHundred_1 ho0 rfl ?_
  refine T_iload_n (q := 1) dX8_isHundred_4 rfl rfl ?_
  refine T_iald dX8_isHundred_5 (sf_7_4 ho0) ?_
  refine T_iconst (v := 3) dX8_isHundred_6 (by decide) ?_
  refine T_icmp_ne (tgt := 14) dX8_isHundred_7 (by decide) (fun hc1 => ?_) (fun hc1 => ?_)
  · refine T_iconst (v := 1) dX8_isHundred_10 (by decide) ?_
    refine T_goto (tgt := 15) dX8_isHundred_11 (by decide) ?_
    exact T_end (fun h => by cases h; exact V_zret (Or.inr rfl) dX8_isHundred_15)
  · refine T_iconst (v := 0) dX8_isHundred_14 (by decide) ?_
    exact T_end (fun h => by cases h; exact V_zret (Or.inl rfl) dX8_isHundred_15)
set_option maxHeartbeats 4000000 in
set_option maxRecDepth 100000 in
theorem mX8_held (G : Gw) (l : Launch) (o0 : Nat) (ho0 : shp o0 = 7) (x1 : Int32) (x2 : Int32) (M : Mem) (a : Int64) (h : fX8_held o0 x1 x2 M = some a) : CtP G l yX8_held cX8_held 8 (some .long) 1 21 [.ref (adr G o0), .int x1, .int x2] M (some (.long a)) M := by
  refine CtP.ofV (by decide) (Nat.le_of_ble_eq_true rfl) ?_
  refine (?_ : T G l RX8 cX8_held 8 (some .long) (rmOf 1 21) 0 0 (FinM G (some (.long a)) M) (fun x => x = a) 0 [(0, .ref (adr G o0)), (1, .int x1), (2, .int x2)] [] M (fX8_held o0 x1 x2 M)) a h rfl
  clear h
  unfold fX8_held
  refine T_lconst (v := 0) dX8_held_0 (by decide) ?_
  refine T_lstore_n (lv' := [(3, .long (0 : Int64)), (0, .ref (adr G o0)), (1, .int x1), (2, .int x2)]) dX8_held_1 rfl (by decide) rfl ?_
  refine T_iconst (v := 0) dX8_held_2 (by decide) ?_
  refine T_istore (lv' := [(5, .int (0 : Int32)), (3, .long (0 : Int64)), (0, .ref (adr G o0)), (1, .int x1), (2, .int x2)]) dX8_held_3 (by decide) rfl ?_
  refine T_bind (X := fun r15 => V G l RX8 cX8_held 8 (some .long) (rmOf 1 21) 0 0 (FinM G (some (.long a)) M) 92 [(5, .int r15.2), (3, .long r15.1), (0, .ref (adr G o0)), (1, .int x1), (2, .int x2)] [] M) (T_loop (fun s1 => [(5, .int s1.2), (3, .long s1.1), (0, .ref (adr G o0)), (1, .int x1), (2, .int x2)]) (fun s1 => M) (fun s1 => ?_) ((0 : Int64), (0 : Int32))) (fun r15 => ?_)
  · unfold wX8_held_5
    refine T_iload (q := 0) dX8_held_5 rfl ?_
    refine T_bipush (v := 36) dX8_held_7 (by decide) ?_
    refine T_icmp_ge (tgt := 92) dX8_held_9 (by decide) (fun hc2 => ?_) (fun hc2 => ?_)
    · exact T_end (fun h => V_sub [0, 1, 2, 3, 4] rfl h)
    · refine T_aload_n (q := 2) dX8_held_12 rfl rfl ?_
      refine T_getR cf7 fr_X8_59 dX8_held_13 ho0 rfl ?_
      refine T_bipush (v := 36) dX8_held_16 (by decide) ?_
      refine T_iload_n (q := 4) dX8_held_18 rfl rfl ?_
      refine T_imul dX8_held_19 ?_
      refine T_iload (q := 0) dX8_held_20 rfl ?_
      refine T_iadd dX8_held_22 ?_
      refine T_iald dX8_held_23 (sf_7_20 ho0) ?_
      refine T_istore_G (lv' := fun v3 => [(6, .int v3), (5, .int s1.2), (3, .long s1.1), (0, .ref (adr G o0)), (1, .int x1), (2, .int x2)]) dX8_held_24 (by decide) (fun _ => rfl) (fun v3 => ?_)
      refine T_iload (q := 0) dX8_held_26 rfl ?_
      refine T_iload_n (q := 4) dX8_held_28 rfl rfl ?_
      refine T_bind (X := fun j4 => V G l RX8 cX8_held 8 (some .long) (rmOf 1 21) 0 0 (FinM G (some (.long a)) M) 68 [(6, .int v3), (5, .int s1.2), (3, .long s1.1), (0, .ref (adr G o0)), (1, .int x1), (2, .int x2)] [.int j4] M) ?_ (fun j4 => ?_)
      · refine T_icmp_eq (tgt := 63) dX8_held_29 (by decide) (fun hc5 => ?_) (fun hc5 => ?_)
        · refine T_iconst (v := 1) dX8_held_63 (by decide) ?_
          refine T_goto (tgt := 68) dX8_held_64 (by decide) ?_
          exact T_end (fun h => V_sub [0, 1, 2, 3, 4, 5] rfl h)
        · refine T_iload (q := 0) dX8_held_32 rfl ?_
          refine T_bipush (v := 10) dX8_held_34 (by decide) ?_
          refine T_icmp_eq (tgt := 67) dX8_held_36 (by decide) (fun hc6 => ?_) (fun hc6 => ?_)
          · refine T_iconst (v := 0) dX8_held_67 (by decide) ?_
            exact T_end (fun h => V_sub [0, 1, 2, 3, 4, 5] rfl h)
          · refine T_aload_n (q := 3) dX8_held_39 rfl rfl ?_
            refine T_iload_n (q := 4) dX8_held_40 rfl rfl ?_
            refine T_callVi (As := [.int x1]) (st := []) mv_X8_118 (by decide) dX8_held_41 ho0 (fun b hb => mX8_isHundred G l o0 ho0 x1 M b hb) rfl rfl (Nat.le_of_ble_eq_true rfl) (fun b7 => ?_)
            refine T_if_eq (tgt := 67) dX8_held_44 (by decide) (fun hc8 => ?_) (fun hc8 => ?_)
            · refine T_iconst (v := 0) dX8_held_67 (by decide) ?_
              exact T_end (fun h => V_sub [0, 1, 2, 3, 4, 5] rfl h)
            · refine T_aload_n (q := 3) dX8_held_47 rfl rfl ?_
              refine T_getR cf7 fr_X8_62 dX8_held_48 ho0 rfl ?_
              refine T_bipush (v := 10) dX8_held_51 (by decide) ?_
              refine T_iload_n (q := 5) dX8_held_53 rfl rfl ?_
              refine T_imul dX8_held_54 ?_
              refine T_iload (q := 0) dX8_held_55 rfl ?_
              refine T_iadd dX8_held_57 ?_
              refine T_iald dX8_held_58 (sf_7_21 ho0) ?_
              refine T_iload_n (q := 4) dX8_held_59 rfl rfl ?_
              refine T_icmp_ne (tgt := 67) dX8_held_60 (by decide) (fun hc9 => ?_) (fun hc9 => ?_)
              · refine T_iconst (v := 1) dX8_held_63 (by decide) ?_
                refine T_goto (tgt := 68) dX8_held_64 (by decide) ?_
                exact T_end (fun h => V_sub [0, 1, 2, 3, 4, 5] rfl h)
              · refine T_iconst (v := 0) dX8_held_67 (by decide) ?_
                exact T_end (fun h => V_sub [0, 1, 2, 3, 4, 5] rfl h)
      · change T G l RX8 cX8_held 8 (some .long) (rmOf 1 21) 0 0 (FinM G (some (.long a)) M) _ 68 [(6, .int v3), (5, .int s1.2), (3, .long s1.1), (0, .ref (adr G o0)), (1, .int x1), (2, .int x2)] [.int j4] M _
        refine T_istore (lv' := [(7, .int j4), (6, .int v3), (5, .int s1.2), (3, .long s1.1), (0, .ref (adr G o0)), (1, .int x1), (2, .int x2)]) dX8_held_68 (by decide) rfl ?_
        refine T_lload_n (q := 3) dX8_held_70 rfl rfl ?_
        refine T_iload (q := 0) dX8_held_71 rfl ?_
        refine T_if_eq (tgt := 83) dX8_held_73 (by decide) (fun hc10 => ?_) (fun hc10 => ?_)
        · refine T_lconst (v := 0) dX8_held_83 (by decide) ?_
          refine T_lor dX8_held_84 ?_
          refine T_lstore_n_G (lv' := fun v11 => [(3, .long v11), (7, .int j4), (6, .int v3), (5, .int s1.2), (0, .ref (adr G o0)), (1, .int x1), (2, .int x2)]) dX8_held_85 rfl (by decide) (fun _ => rfl) (fun v11 => ?_)
          refine T_iinc_G (q := 3) (y := s1.2 + 1) (lv' := fun v12 => [(5, .int v12), (3, .long v11), (7, .int j4), (6, .int v3), (0, .ref (adr G o0)), (1, .int x1), (2, .int x2)]) dX8_held_86 rfl rfl (by decide) (fun _ => rfl) (fun v12 => ?_)
          refine T_goto (tgt := 5) dX8_held_89 (by decide) ?_
          exact T_end (fun h => V_sub [0, 1, 4, 5, 6] rfl h)
        · refine T_lconst (v := 1) dX8_held_76 (by decide) ?_
          refine T_iload (q := 2) dX8_held_77 rfl ?_
          refine T_lshl dX8_held_79 ?_
          refine T_goto (tgt := 84) dX8_held_80 (by decide) ?_
          refine T_lor dX8_held_84 ?_
          refine T_lstore_n_G (lv' := fun v13 => [(3, .long v13), (7, .int j4), (6, .int v3), (5, .int s1.2), (0, .ref (adr G o0)), (1, .int x1), (2, .int x2)]) dX8_held_85 rfl (by decide) (fun _ => rfl) (fun v13 => ?_)
          refine T_iinc_G (q := 3) (y := s1.2 + 1) (lv' := fun v14 => [(5, .int v14), (3, .long v13), (7, .int j4), (6, .int v3), (0, .ref (adr G o0)), (1, .int x1), (2, .int x2)]) dX8_held_86 rfl rfl (by decide) (fun _ => rfl) (fun v14 => ?_)
          refine T_goto (tgt := 5) dX8_held_89 (by decide) ?_
          exact T_end (fun h => V_sub [0, 1, 4, 5, 6] rfl h)
  · change T G l RX8 cX8_held 8 (some .long) (rmOf 1 21) 0 0 (FinM G (some (.long a)) M) _ 92 [(5, .int r15.2), (3, .long r15.1), (0, .ref (adr G o0)), (1, .int x1), (2, .int x2)] [] M _
    refine T_lload_n (q := 1) dX8_held_92 rfl rfl ?_
    exact T_end (fun h => by cases h; exact V_lret dX8_held_93)
set_option maxHeartbeats 4000000 in
set_option maxRecDepth 100000 in
theorem mX8_latest (G : Gw) (l : Launch) (o0 : Nat) (ho0 : shp o0 = 7) (x1 : Int32) (x2 : Int32) (M : Mem) (a : Int32) (h : fX8_latest o0 x1 x2 M = some a) : CtP G l yX8_latest cX8_latest 4 (some .int) 0 0 [.ref (adr G o0), .int x1, .int x2] M (some (.int a)) M := by
  refine CtP.ofV (by decide) (Nat.le_of_ble_eq_true rfl) ?_
  refine (?_ : T G l RX8 cX8_latest 4 (some .int) (rmOf 0 0) 0 0 (FinM G (some (.int a)) M) (fun x => x = a) 0 [(0, .ref (adr G o0)), (1, .int x1), (2, .int x2)] [] M (fX8_latest o0 x1 x2 M)) a h rfl
  clear h
  unfold fX8_latest
  refine T_aload_n (q := 0) dX8_latest_0 rfl rfl ?_
  refine T_getI cf7 fr_X8_198 dX8_latest_1 ho0 rfl ?_
  refine T_iconst (v := 1) dX8_latest_4 (by decide) ?_
  refine T_isub dX8_latest_5 ?_
  refine T_istore_n_G (lv' := fun v1 => [(3, .int v1), (0, .ref (adr G o0)), (1, .int x1), (2, .int x2)]) dX8_latest_6 rfl (by decide) (fun _ => rfl) (fun v1 => ?_)
  refine T_loop (fun s2 => [(3, .int s2), (0, .ref (adr G o0)), (1, .int x1), (2, .int x2)]) (fun s2 => M) (fun s2 => ?_) v1
  unfold wX8_latest_7
  refine T_iload_n (q := 0) dX8_latest_7 rfl rfl ?_
  refine T_if_lt (tgt := 44) dX8_latest_8 (by decide) (fun hc3 => ?_) (fun hc3 => ?_)
  · refine T_iconst (v := -1) dX8_latest_44 (by decide) ?_
    exact T_end (fun h => by cases h; exact V_iret dX8_latest_45)
  · refine T_aload_n (q := 1) dX8_latest_11 rfl rfl ?_
    refine T_getR cf7 fr_X8_35 dX8_latest_12 ho0 rfl ?_
    refine T_iload_n (q := 0) dX8_latest_15 rfl rfl ?_
    refine T_iald dX8_latest_16 (sf_7_12 ho0) ?_
    refine T_iload_n (q := 2) dX8_latest_17 rfl rfl ?_
    refine T_icmp_ne (tgt := 38) dX8_latest_18 (by decide) (fun hc4 => ?_) (fun hc4 => ?_)
    · refine T_aload_n (q := 1) dX8_latest_21 rfl rfl ?_
      refine T_getR cf7 fr_X8_38 dX8_latest_22 ho0 rfl ?_
      refine T_iload_n (q := 0) dX8_latest_25 rfl rfl ?_
      refine T_iald dX8_latest_26 (sf_7_13 ho0) ?_
      refine T_iload_n (q := 3) dX8_latest_27 rfl rfl ?_
      refine T_icmp_ne (tgt := 38) dX8_latest_28 (by decide) (fun hc5 => ?_) (fun hc5 => ?_)
      · refine T_aload_n (q := 1) dX8_latest_31 rfl rfl ?_
        refine T_getR cf7 fr_X8_41 dX8_latest_32 ho0 rfl ?_
        refine T_iload_n (q := 0) dX8_latest_35 rfl rfl ?_
        refine T_iald dX8_latest_36 (sf_7_14 ho0) ?_
        exact T_end (fun h => by cases h; exact V_iret dX8_latest_37)
      · refine T_iinc_G (q := 0) (y := s2 + (-1)) (lv' := fun v6 => [(3, .int v6), (0, .ref (adr G o0)), (1, .int x1), (2, .int x2)]) dX8_latest_38 rfl rfl (by decide) (fun _ => rfl) (fun v6 => ?_)
        refine T_goto (tgt := 7) dX8_latest_41 (by decide) ?_
        exact T_end (fun h => V_sub [0, 1, 2, 3] rfl h)
    · refine T_iinc_G (q := 0) (y := s2 + (-1)) (lv' := fun v7 => [(3, .int v7), (0, .ref (adr G o0)), (1, .int x1), (2, .int x2)]) dX8_latest_38 rfl rfl (by decide) (fun _ => rfl) (fun v7 => ?_)
      refine T_goto (tgt := 7) dX8_latest_41 (by decide) ?_
      exact T_end (fun h => V_sub [0, 1, 2, 3] rfl h)
set_option maxHeartbeats 4000000 in
set_option maxRecDepth 100000 in
theorem mX8_cellsIn (G : Gw) (l : Launch) (x0 : Int64) (M : Mem) (a : Int32) (h : fX8_cellsIn x0 = some a) : CtP G l yX8_cellsIn cX8_cellsIn 4 (some .int) 0 0 [.long x0] M (some (.int a)) M := by
  refine CtP.ofV (by decide) (Nat.le_of_ble_eq_true rfl) ?_
  refine (?_ : T G l RX8 cX8_cellsIn 4 (some .int) (rmOf 0 0) 0 0 (FinM G (some (.int a)) M) (fun x => x = a) 0 [(0, .long x0)] [] M (fX8_cellsIn x0)) a h rfl
  clear h
  unfold fX8_cellsIn
  refine T_iconst (v := 0) dX8_cellsIn_0 (by decide) ?_
  refine T_istore_n (lv' := [(2, .int (0 : Int32)), (0, .long x0)]) dX8_cellsIn_1 rfl (by decide) rfl ?_
  refine T_iconst (v := 0) dX8_cellsIn_2 (by decide) ?_
  refine T_istore_n (lv' := [(3, .int (0 : Int32)), (2, .int (0 : Int32)), (0, .long x0)]) dX8_cellsIn_3 rfl (by decide) rfl ?_
  refine T_bind (X := fun r5 => V G l RX8 cX8_cellsIn 4 (some .int) (rmOf 0 0) 0 0 (FinM G (some (.int a)) M) 25 [(3, .int r5.2), (2, .int r5.1), (0, .long x0)] [] M) (T_loop (fun s1 => [(3, .int s1.2), (2, .int s1.1), (0, .long x0)]) (fun s1 => M) (fun s1 => ?_) ((0 : Int32), (0 : Int32))) (fun r5 => ?_)
  · unfold wX8_cellsIn_4
    refine T_iload_n (q := 0) dX8_cellsIn_4 rfl rfl ?_
    refine T_bipush (v := 36) dX8_cellsIn_5 (by decide) ?_
    refine T_icmp_ge (tgt := 25) dX8_cellsIn_7 (by decide) (fun hc2 => ?_) (fun hc2 => ?_)
    · exact T_end (fun h => V_sub [0, 1, 2] rfl h)
    · refine T_iload_n (q := 1) dX8_cellsIn_10 rfl rfl ?_
      refine T_lload_n (q := 2) dX8_cellsIn_11 rfl rfl ?_
      refine T_iload_n (q := 0) dX8_cellsIn_12 rfl rfl ?_
      refine T_lshr dX8_cellsIn_13 ?_
      refine T_lconst (v := 1) dX8_cellsIn_14 (by decide) ?_
      refine T_land dX8_cellsIn_15 ?_
      refine T_l2i dX8_cellsIn_16 ?_
      refine T_iadd dX8_cellsIn_17 ?_
      refine T_istore_n_G (lv' := fun v3 => [(2, .int v3), (3, .int s1.2), (0, .long x0)]) dX8_cellsIn_18 rfl (by decide) (fun _ => rfl) (fun v3 => ?_)
      refine T_iinc_G (q := 1) (y := s1.2 + 1) (lv' := fun v4 => [(3, .int v4), (2, .int v3), (0, .long x0)]) dX8_cellsIn_19 rfl rfl (by decide) (fun _ => rfl) (fun v4 => ?_)
      refine T_goto (tgt := 4) dX8_cellsIn_22 (by decide) ?_
      exact T_end (fun h => V_sub [0, 1, 2] rfl h)
  · change T G l RX8 cX8_cellsIn 4 (some .int) (rmOf 0 0) 0 0 (FinM G (some (.int a)) M) _ 25 [(3, .int r5.2), (2, .int r5.1), (0, .long x0)] [] M _
    refine T_iload_n (q := 1) dX8_cellsIn_25 rfl rfl ?_
    exact T_end (fun h => by cases h; exact V_iret dX8_cellsIn_26)
set_option maxHeartbeats 4000000 in
set_option maxRecDepth 100000 in
theorem mX8_common (G : Gw) (l : Launch) (x0 : Int64) (x2 : Int64) (M : Mem) (a : Int64) (h : fX8_common x0 x2 = some a) : CtP G l yX8_common cX8_common 10 (some .long) 0 0 [.long x0, .long x2] M (some (.long a)) M := by
  refine CtP.ofV (by decide) (Nat.le_of_ble_eq_true rfl) ?_
  refine (?_ : T G l RX8 cX8_common 10 (some .long) (rmOf 0 0) 0 0 (FinM G (some (.long a)) M) (fun x => x = a) 0 [(0, .long x0), (2, .long x2)] [] M (fX8_common x0 x2)) a h rfl
  clear h
  unfold fX8_common
  refine T_lload_n (q := 0) dX8_common_0 rfl rfl ?_
  refine T_lstore (lv' := [(4, .long x0), (0, .long x0), (2, .long x2)]) dX8_common_1 (by decide) rfl ?_
  refine T_lload_n (q := 2) dX8_common_3 rfl rfl ?_
  refine T_lstore (lv' := [(6, .long x2), (4, .long x0), (0, .long x0), (2, .long x2)]) dX8_common_4 (by decide) rfl ?_
  refine T_bind (X := fun r4 => V G l RX8 cX8_common 10 (some .long) (rmOf 0 0) 0 0 (FinM G (some (.long a)) M) 31 [(6, .long r4.2), (4, .long r4.1), (0, .long x0), (2, .long x2)] [] M) (T_loop (fun s1 => [(6, .long s1.2), (4, .long s1.1), (0, .long x0), (2, .long x2)]) (fun s1 => M) (fun s1 => ?_) (x0, x2)) (fun r4 => ?_)
  · unfold wX8_common_6
    refine T_lload (q := 0) dX8_common_6 rfl ?_
    refine T_lconst (v := 0) dX8_common_8 (by decide) ?_
    refine T_lcmp dX8_common_9 ?_
    refine T_if_eq (tgt := 31) dX8_common_10 (by decide) (fun hc2 => ?_) (fun hc2 => ?_)
    · exact T_end (fun h => V_sub [0, 1, 2, 3] rfl h)
    · refine T_lload (q := 1) dX8_common_13 rfl ?_
      refine T_lload (q := 0) dX8_common_15 rfl ?_
      refine T_lrem dX8_common_17 ?_
      refine T_lstore_G (lv' := fun v3 => [(8, .long v3), (6, .long s1.2), (4, .long s1.1), (0, .long x0), (2, .long x2)]) dX8_common_18 (by decide) (fun _ => rfl) (fun v3 => ?_)
      refine T_lload (q := 1) dX8_common_20 rfl ?_
      refine T_lstore (lv' := [(4, .long s1.2), (8, .long v3), (6, .long s1.2), (0, .long x0), (2, .long x2)]) dX8_common_22 (by decide) rfl ?_
      refine T_lload (q := 1) dX8_common_24 rfl ?_
      refine T_lstore (lv' := [(6, .long v3), (4, .long s1.2), (8, .long v3), (0, .long x0), (2, .long x2)]) dX8_common_26 (by decide) rfl ?_
      refine T_goto (tgt := 6) dX8_common_28 (by decide) ?_
      exact T_end (fun h => V_sub [0, 1, 3, 4] rfl h)
  · change T G l RX8 cX8_common 10 (some .long) (rmOf 0 0) 0 0 (FinM G (some (.long a)) M) _ 31 [(6, .long r4.2), (4, .long r4.1), (0, .long x0), (2, .long x2)] [] M _
    refine T_lload (q := 1) dX8_common_31 rfl ?_
    exact T_end (fun h => by cases h; exact V_lret dX8_common_33)
set_option maxHeartbeats 4000000 in
set_option maxRecDepth 100000 in
theorem mX8_carried (G : Gw) (l : Launch) (o0 : Nat) (ho0 : shp o0 = 7) (x1 : Int32) (x2 : Int32) (x3 : Int32) (x4 : Int32) (M : Mem) (a : Int64 × Mem) (h : fX8_carried o0 x1 x2 x3 x4 M = some a) : CtP G l yX8_carried cX8_carried 21 (some .long) 3 75 [.ref (adr G o0), .int x1, .int x2, .int x3, .int x4] M (some (.long a.1)) a.2 := by
  refine CtP.ofV (by decide) (Nat.le_of_ble_eq_true rfl) ?_
  refine (?_ : T G l RX8 cX8_carried 21 (some .long) (rmOf 3 75) 0 0 (FinM G (some (.long a.1)) a.2) (fun x => x = a) 0 [(0, .ref (adr G o0)), (1, .int x1), (2, .int x2), (3, .int x3), (4, .int x4)] [] M (fX8_carried o0 x1 x2 x3 x4 M)) a h rfl
  clear h
  unfold fX8_carried
  refine T_iload_n (q := 1) dX8_carried_0 rfl rfl ?_
  refine T_callSi (As := [.int x1]) (st := []) ms_X8_115 (by decide) dX8_carried_1 (fun b hb => mX8_isYear G l x1 M b hb) rfl rfl (Nat.le_of_ble_eq_true rfl) (fun b1 => ?_)
  refine T_if_eq (tgt := 22) dX8_carried_4 (by decide) (fun hc2 => ?_) (fun hc2 => ?_)
  · refine T_aload_n (q := 0) dX8_carried_22 rfl rfl ?_
    refine T_ldc2 dX8_carried_23 kcl_X8_98 ?_
    refine T_callVlw (As := [.long (-1000000000000000001 : Int64)]) (st := []) mv_X8_100 (by decide) dX8_carried_26 ho0 (fun b hb => mX8_told0 G l o0 ho0 (-1000000000000000001 : Int64) M b hb) rfl rfl (Nat.le_of_ble_eq_true rfl) (fun b3 => ?_)
    exact T_end (fun h => by cases h; exact V_lret dX8_carried_29)
  · refine T_aload_n (q := 0) dX8_carried_7 rfl rfl ?_
    refine T_iload_n (q := 2) dX8_carried_8 rfl rfl ?_
    refine T_callVi (As := [.int x2]) (st := []) mv_X8_106 (by decide) dX8_carried_9 ho0 (fun b hb => mX8_isUnit G l o0 ho0 x2 M b hb) rfl rfl (Nat.le_of_ble_eq_true rfl) (fun b4 => ?_)
    refine T_if_eq (tgt := 22) dX8_carried_12 (by decide) (fun hc5 => ?_) (fun hc5 => ?_)
    · refine T_aload_n (q := 0) dX8_carried_22 rfl rfl ?_
      refine T_ldc2 dX8_carried_23 kcl_X8_98 ?_
      refine T_callVlw (As := [.long (-1000000000000000001 : Int64)]) (st := []) mv_X8_100 (by decide) dX8_carried_26 ho0 (fun b hb => mX8_told0 G l o0 ho0 (-1000000000000000001 : Int64) M b hb) rfl rfl (Nat.le_of_ble_eq_true rfl) (fun b6 => ?_)
      exact T_end (fun h => by cases h; exact V_lret dX8_carried_29)
    · refine T_iload_n (q := 3) dX8_carried_15 rfl rfl ?_
      refine T_callSi (As := [.int x3]) (st := []) ms_X8_115 (by decide) dX8_carried_16 (fun b hb => mX8_isYear G l x3 M b hb) rfl rfl (Nat.le_of_ble_eq_true rfl) (fun b7 => ?_)
      refine T_if_ne (tgt := 30) dX8_carried_19 (by decide) (fun hc8 => ?_) (fun hc8 => ?_)
      · refine T_aload_n (q := 0) dX8_carried_22 rfl rfl ?_
        refine T_ldc2 dX8_carried_23 kcl_X8_98 ?_
        refine T_callVlw (As := [.long (-1000000000000000001 : Int64)]) (st := []) mv_X8_100 (by decide) dX8_carried_26 ho0 (fun b hb => mX8_told0 G l o0 ho0 (-1000000000000000001 : Int64) M b hb) rfl rfl (Nat.le_of_ble_eq_true rfl) (fun b9 => ?_)
        exact T_end (fun h => by cases h; exact V_lret dX8_carried_29)
      · refine T_aload_n (q := 0) dX8_carried_30 rfl rfl ?_
        refine T_callVvw (As := []) (st := []) mv_X8_142 (by decide) dX8_carried_31 ho0 (fun b hb => mX8_done G l o0 ho0 M b hb) rfl rfl (Nat.le_of_ble_eq_true rfl) (fun b10 => ?_)
        refine T_aload_n (q := 0) dX8_carried_34 rfl rfl ?_
        refine T_iload_n (q := 2) dX8_carried_35 rfl rfl ?_
        refine T_aload_n (q := 0) dX8_carried_36 rfl rfl ?_
        refine T_iload_n (q := 3) dX8_carried_37 rfl rfl ?_
        refine T_callVi (As := [.int x3]) (st := [.int x2, .ref (adr G o0)]) mv_X8_150 (by decide) dX8_carried_38 ho0 (fun b hb => mX8_until G l o0 ho0 x3 b10 b hb) rfl rfl (Nat.le_of_ble_eq_true rfl) (fun b11 => ?_)
        refine T_callVl (As := [.int x2, .int b11]) (st := []) mv_X8_154 (by decide) dX8_carried_41 ho0 (fun b hb => mX8_held G l o0 ho0 x2 b11 b10 b hb) rfl rfl (Nat.le_of_ble_eq_true rfl) (fun b12 => ?_)
        refine T_lstore (lv' := [(5, .long b12), (0, .ref (adr G o0)), (1, .int x1), (2, .int x2), (3, .int x3), (4, .int x4)]) dX8_carried_44 (by decide) rfl ?_
        refine T_lconst (v := 0) dX8_carried_46 (by decide) ?_
        refine T_lstore (lv' := [(7, .long (0 : Int64)), (5, .long b12), (0, .ref (adr G o0)), (1, .int x1), (2, .int x2), (3, .int x3), (4, .int x4)]) dX8_carried_47 (by decide) rfl ?_
        refine T_lconst (v := 1) dX8_carried_49 (by decide) ?_
        refine T_lstore (lv' := [(9, .long (1 : Int64)), (7, .long (0 : Int64)), (5, .long b12), (0, .ref (adr G o0)), (1, .int x1), (2, .int x2), (3, .int x3), (4, .int x4)]) dX8_carried_50 (by decide) rfl ?_
        refine T_iconst (v := 0) dX8_carried_52 (by decide) ?_
        refine T_istore (lv' := [(11, .int (0 : Int32)), (9, .long (1 : Int64)), (7, .long (0 : Int64)), (5, .long b12), (0, .ref (adr G o0)), (1, .int x1), (2, .int x2), (3, .int x3), (4, .int x4)]) dX8_carried_53 (by decide) rfl ?_
        refine T_bind (X := fun r35 => V G l RX8 cX8_carried 21 (some .long) (rmOf 3 75) 0 0 (FinM G (some (.long a.1)) a.2) 182 [(11, .int r35.2.2), (9, .long r35.2.1), (7, .long r35.1), (5, .long b12), (0, .ref (adr G o0)), (1, .int x1), (2, .int x2), (3, .int x3), (4, .int x4)] [] b10) (T_loop (fun s13 => [(11, .int s13.2.2), (9, .long s13.2.1), (7, .long s13.1), (5, .long b12), (0, .ref (adr G o0)), (1, .int x1), (2, .int x2), (3, .int x3), (4, .int x4)]) (fun s13 => b10) (fun s13 => ?_) ((0 : Int64), (1 : Int64), (0 : Int32))) (fun r35 => ?_)
        · unfold wX8_carried_55
          refine T_iload (q := 0) dX8_carried_55 rfl ?_
          refine T_aload_n (q := 4) dX8_carried_57 rfl rfl ?_
          refine T_getI cf7 fr_X8_82 dX8_carried_58 ho0 rfl ?_
          refine T_icmp_ge (tgt := 182) dX8_carried_61 (by decide) (fun hc14 => ?_) (fun hc14 => ?_)
          · exact T_end (fun h => V_sub [0, 1, 2, 3, 4, 5, 6, 7, 8] rfl h)
          · refine T_aload_n (q := 4) dX8_carried_64 rfl rfl ?_
            refine T_iload (q := 0) dX8_carried_65 rfl ?_
            refine T_iload_n (q := 5) dX8_carried_67 rfl rfl ?_
            refine T_callVi (As := [.int s13.2.2, .int x1]) (st := []) mv_X8_201 (by decide) dX8_carried_68 ho0 (fun b hb => mX8_latest G l o0 ho0 s13.2.2 x1 b10 b hb) rfl rfl (Nat.le_of_ble_eq_true rfl) (fun b15 => ?_)
            refine T_istore (lv' := [(12, .int b15), (11, .int s13.2.2), (9, .long s13.2.1), (7, .long s13.1), (5, .long b12), (0, .ref (adr G o0)), (1, .int x1), (2, .int x2), (3, .int x3), (4, .int x4)]) dX8_carried_71 (by decide) rfl ?_
            refine T_aload_n (q := 5) dX8_carried_73 rfl rfl ?_
            refine T_iload (q := 1) dX8_carried_74 rfl ?_
            refine T_aload_n (q := 5) dX8_carried_76 rfl rfl ?_
            refine T_iload_n (q := 6) dX8_carried_77 rfl rfl ?_
            refine T_callVi (As := [.int x1]) (st := [.int s13.2.2, .ref (adr G o0)]) mv_X8_150 (by decide) dX8_carried_78 ho0 (fun b hb => mX8_until G l o0 ho0 x1 b10 b hb) rfl rfl (Nat.le_of_ble_eq_true rfl) (fun b16 => ?_)
            refine T_callVl (As := [.int s13.2.2, .int b16]) (st := []) mv_X8_154 (by decide) dX8_carried_81 ho0 (fun b hb => mX8_held G l o0 ho0 s13.2.2 b16 b10 b hb) rfl rfl (Nat.le_of_ble_eq_true rfl) (fun b17 => ?_)
            refine T_lstore (lv' := [(13, .long b17), (12, .int b15), (11, .int s13.2.2), (9, .long s13.2.1), (7, .long s13.1), (5, .long b12), (0, .ref (adr G o0)), (1, .int x1), (2, .int x2), (3, .int x3), (4, .int x4)]) dX8_carried_84 (by decide) rfl ?_
            refine T_iload (q := 1) dX8_carried_86 rfl ?_
            refine T_if_lt (tgt := 176) dX8_carried_88 (by decide) (fun hc18 => ?_) (fun hc18 => ?_)
            · refine T_iinc_G (q := 2) (y := s13.2.2 + 1) (lv' := fun v19 => [(11, .int v19), (13, .long b17), (12, .int b15), (9, .long s13.2.1), (7, .long s13.1), (5, .long b12), (0, .ref (adr G o0)), (1, .int x1), (2, .int x2), (3, .int x3), (4, .int x4)]) dX8_carried_176 rfl rfl (by decide) (fun _ => rfl) (fun v19 => ?_)
              refine T_goto (tgt := 55) dX8_carried_179 (by decide) ?_
              exact T_end (fun h => V_sub [0, 3, 4, 5, 6, 7, 8, 9, 10] rfl h)
            · refine T_aload_n (q := 6) dX8_carried_91 rfl rfl ?_
              refine T_iload (q := 2) dX8_carried_92 rfl ?_
              refine T_callVi (As := [.int s13.2.2]) (st := []) mv_X8_118 (by decide) dX8_carried_94 ho0 (fun b hb => mX8_isHundred G l o0 ho0 s13.2.2 b10 b hb) rfl rfl (Nat.le_of_ble_eq_true rfl) (fun b20 => ?_)
              refine T_if_ne (tgt := 176) dX8_carried_97 (by decide) (fun hc21 => ?_) (fun hc21 => ?_)
              · refine T_lload (q := 0) dX8_carried_100 rfl ?_
                refine T_lconst (v := 0) dX8_carried_102 (by decide) ?_
                refine T_lcmp dX8_carried_103 ?_
                refine T_if_ne (tgt := 110) dX8_carried_104 (by decide) (fun hc22 => ?_) (fun hc22 => ?_)
                · refine T_goto (tgt := 176) dX8_carried_107 (by decide) ?_
                  refine T_iinc_G (q := 2) (y := s13.2.2 + 1) (lv' := fun v23 => [(11, .int v23), (13, .long b17), (12, .int b15), (9, .long s13.2.1), (7, .long s13.1), (5, .long b12), (0, .ref (adr G o0)), (1, .int x1), (2, .int x2), (3, .int x3), (4, .int x4)]) dX8_carried_176 rfl rfl (by decide) (fun _ => rfl) (fun v23 => ?_)
                  refine T_goto (tgt := 55) dX8_carried_179 (by decide) ?_
                  exact T_end (fun h => V_sub [0, 3, 4, 5, 6, 7, 8, 9, 10] rfl h)
                · refine T_iload (q := 1) dX8_carried_110 rfl ?_
                  refine T_i2l dX8_carried_112 ?_
                  refine T_lload (q := 0) dX8_carried_113 rfl ?_
                  refine T_lload (q := 5) dX8_carried_115 rfl ?_
                  refine T_land dX8_carried_117 ?_
                  refine T_callSi (As := [.long (b17 &&& b12)]) (st := [.long b15.toInt64]) ms_X8_170 (by decide) dX8_carried_118 (fun b hb => mX8_cellsIn G l (b17 &&& b12) b10 b hb) rfl rfl (Nat.le_of_ble_eq_true rfl) (fun b24 => ?_)
                  refine T_i2l dX8_carried_121 ?_
                  refine T_lmul dX8_carried_122 ?_
                  refine T_lstore_G (lv' := fun v25 => [(15, .long v25), (13, .long b17), (12, .int b15), (11, .int s13.2.2), (9, .long s13.2.1), (7, .long s13.1), (5, .long b12), (0, .ref (adr G o0)), (1, .int x1), (2, .int x2), (3, .int x3), (4, .int x4)]) dX8_carried_123 (by decide) (fun _ => rfl) (fun v25 => ?_)
                  refine T_lload (q := 1) dX8_carried_125 rfl ?_
                  refine T_callSi (As := [.long b17]) (st := []) ms_X8_170 (by decide) dX8_carried_127 (fun b hb => mX8_cellsIn G l b17 b10 b hb) rfl rfl (Nat.le_of_ble_eq_true rfl) (fun b26 => ?_)
                  refine T_i2l dX8_carried_130 ?_
                  refine T_lstore_G (lv' := fun v27 => [(17, .long v27), (15, .long v25), (13, .long b17), (12, .int b15), (11, .int s13.2.2), (9, .long s13.2.1), (7, .long s13.1), (5, .long b12), (0, .ref (adr G o0)), (1, .int x1), (2, .int x2), (3, .int x3), (4, .int x4)]) dX8_carried_131 (by decide) (fun _ => rfl) (fun v27 => ?_)
                  refine T_lload (q := 6) dX8_carried_133 rfl ?_
                  refine T_lload (q := 0) dX8_carried_135 rfl ?_
                  refine T_lmul dX8_carried_137 ?_
                  refine T_lload (q := 1) dX8_carried_138 rfl ?_
                  refine T_lload (q := 5) dX8_carried_140 rfl ?_
                  refine T_lmul dX8_carried_142 ?_
                  refine T_ladd dX8_carried_143 ?_
                  refine T_lstore_G (lv' := fun v28 => [(7, .long v28), (17, .long v27), (15, .long v25), (13, .long b17), (12, .int b15), (11, .int s13.2.2), (9, .long s13.2.1), (5, .long b12), (0, .ref (adr G o0)), (1, .int x1), (2, .int x2), (3, .int x3), (4, .int x4)]) dX8_carried_144 (by decide) (fun _ => rfl) (fun v28 => ?_)
                  refine T_lload (q := 6) dX8_carried_146 rfl ?_
                  refine T_lload (q := 1) dX8_carried_148 rfl ?_
                  refine T_lmul dX8_carried_150 ?_
                  refine T_lstore_G (lv' := fun v29 => [(9, .long v29), (7, .long v28), (17, .long v27), (15, .long v25), (13, .long b17), (12, .int b15), (11, .int s13.2.2), (5, .long b12), (0, .ref (adr G o0)), (1, .int x1), (2, .int x2), (3, .int x3), (4, .int x4)]) dX8_carried_151 (by decide) (fun _ => rfl) (fun v29 => ?_)
                  refine T_lload (q := 1) dX8_carried_153 rfl ?_
                  refine T_lload (q := 0) dX8_carried_155 rfl ?_
                  refine T_callSl (As := [.long v28, .long v29]) (st := []) ms_X8_204 (by decide) dX8_carried_157 (fun b hb => mX8_common G l v28 v29 b10 b hb) rfl rfl (Nat.le_of_ble_eq_true rfl) (fun b30 => ?_)
                  refine T_lstore (lv' := [(19, .long b30), (9, .long v29), (7, .long v28), (17, .long v27), (15, .long v25), (13, .long b17), (12, .int b15), (11, .int s13.2.2), (5, .long b12), (0, .ref (adr G o0)), (1, .int x1), (2, .int x2), (3, .int x3), (4, .int x4)]) dX8_carried_160 (by decide) rfl ?_
                  refine T_lload (q := 2) dX8_carried_162 rfl ?_
                  refine T_lload (q := 0) dX8_carried_164 rfl ?_
                  refine T_ldiv dX8_carried_166 ?_
                  refine T_lstore_G (lv' := fun v31 => [(7, .long v31), (19, .long b30), (9, .long v29), (17, .long v27), (15, .long v25), (13, .long b17), (12, .int b15), (11, .int s13.2.2), (5, .long b12), (0, .ref (adr G o0)), (1, .int x1), (2, .int x2), (3, .int x3), (4, .int x4)]) dX8_carried_167 (by decide) (fun _ => rfl) (fun v31 => ?_)
                  refine T_lload (q := 2) dX8_carried_169 rfl ?_
                  refine T_lload (q := 1) dX8_carried_171 rfl ?_
                  refine T_ldiv dX8_carried_173 ?_
                  refine T_lstore_G (lv' := fun v32 => [(9, .long v32), (7, .long v31), (19, .long b30), (17, .long v27), (15, .long v25), (13, .long b17), (12, .int b15), (11, .int s13.2.2), (5, .long b12), (0, .ref (adr G o0)), (1, .int x1), (2, .int x2), (3, .int x3), (4, .int x4)]) dX8_carried_174 (by decide) (fun _ => rfl) (fun v32 => ?_)
                  refine T_iinc_G (q := 7) (y := s13.2.2 + 1) (lv' := fun v33 => [(11, .int v33), (9, .long v32), (7, .long v31), (19, .long b30), (17, .long v27), (15, .long v25), (13, .long b17), (12, .int b15), (5, .long b12), (0, .ref (adr G o0)), (1, .int x1), (2, .int x2), (3, .int x3), (4, .int x4)]) dX8_carried_176 rfl rfl (by decide) (fun _ => rfl) (fun v33 => ?_)
                  refine T_goto (tgt := 55) dX8_carried_179 (by decide) ?_
                  exact T_end (fun h => V_sub [0, 1, 2, 8, 9, 10, 11, 12, 13] rfl h)
              · refine T_iinc_G (q := 2) (y := s13.2.2 + 1) (lv' := fun v34 => [(11, .int v34), (13, .long b17), (12, .int b15), (9, .long s13.2.1), (7, .long s13.1), (5, .long b12), (0, .ref (adr G o0)), (1, .int x1), (2, .int x2), (3, .int x3), (4, .int x4)]) dX8_carried_176 rfl rfl (by decide) (fun _ => rfl) (fun v34 => ?_)
                refine T_goto (tgt := 55) dX8_carried_179 (by decide) ?_
                exact T_end (fun h => V_sub [0, 3, 4, 5, 6, 7, 8, 9, 10] rfl h)
        · change T G l RX8 cX8_carried 21 (some .long) (rmOf 3 75) 0 0 (FinM G (some (.long a.1)) a.2) _ 182 [(11, .int r35.2.2), (9, .long r35.2.1), (7, .long r35.1), (5, .long b12), (0, .ref (adr G o0)), (1, .int x1), (2, .int x2), (3, .int x3), (4, .int x4)] [] b10 _
          refine T_iload (q := 8) dX8_carried_182 rfl ?_
          refine T_if_eq (tgt := 192) dX8_carried_184 (by decide) (fun hc36 => ?_) (fun hc36 => ?_)
          · refine T_lload (q := 2) dX8_carried_192 rfl ?_
            exact T_end (fun h => by cases h; exact V_lret dX8_carried_194)
          · refine T_lload (q := 1) dX8_carried_187 rfl ?_
            refine T_goto (tgt := 194) dX8_carried_189 (by decide) ?_
            exact T_end (fun h => by cases h; exact V_lret dX8_carried_194)
set_option maxHeartbeats 4000000 in
set_option maxRecDepth 100000 in
theorem mX8_cells (G : Gw) (l : Launch) (o0 : Nat) (ho0 : shp o0 = 7) (x1 : Int32) (x2 : Int32) (M : Mem) (a : Int64 × Mem) (h : fX8_cells o0 x1 x2 M = some a) : CtP G l yX8_cells cX8_cells 3 (some .long) 3 75 [.ref (adr G o0), .int x1, .int x2] M (some (.long a.1)) a.2 := by
  refine CtP.ofV (by decide) (Nat.le_of_ble_eq_true rfl) ?_
  refine (?_ : T G l RX8 cX8_cells 3 (some .long) (rmOf 3 75) 0 0 (FinM G (some (.long a.1)) a.2) (fun x => x = a) 0 [(0, .ref (adr G o0)), (1, .int x1), (2, .int x2)] [] M (fX8_cells o0 x1 x2 M)) a h rfl
  clear h
  unfold fX8_cells
  refine T_aload_n (q := 0) dX8_cells_0 rfl rfl ?_
  refine T_iload_n (q := 1) dX8_cells_1 rfl rfl ?_
  refine T_callVi (As := [.int x1]) (st := []) mv_X8_106 (by decide) dX8_cells_2 ho0 (fun b hb => mX8_isUnit G l o0 ho0 x1 M b hb) rfl rfl (Nat.le_of_ble_eq_true rfl) (fun b1 => ?_)
  refine T_if_eq (tgt := 15) dX8_cells_5 (by decide) (fun hc2 => ?_) (fun hc2 => ?_)
  · refine T_aload_n (q := 0) dX8_cells_15 rfl rfl ?_
    refine T_ldc2 dX8_cells_16 kcl_X8_98 ?_
    refine T_callVlw (As := [.long (-1000000000000000001 : Int64)]) (st := []) mv_X8_100 (by decide) dX8_cells_19 ho0 (fun b hb => mX8_told0 G l o0 ho0 (-1000000000000000001 : Int64) M b hb) rfl rfl (Nat.le_of_ble_eq_true rfl) (fun b3 => ?_)
    exact T_end (fun h => by cases h; exact V_lret dX8_cells_22)
  · refine T_iload_n (q := 2) dX8_cells_8 rfl rfl ?_
    refine T_callSi (As := [.int x2]) (st := []) ms_X8_115 (by decide) dX8_cells_9 (fun b hb => mX8_isYear G l x2 M b hb) rfl rfl (Nat.le_of_ble_eq_true rfl) (fun b4 => ?_)
    refine T_if_ne (tgt := 23) dX8_cells_12 (by decide) (fun hc5 => ?_) (fun hc5 => ?_)
    · refine T_aload_n (q := 0) dX8_cells_15 rfl rfl ?_
      refine T_ldc2 dX8_cells_16 kcl_X8_98 ?_
      refine T_callVlw (As := [.long (-1000000000000000001 : Int64)]) (st := []) mv_X8_100 (by decide) dX8_cells_19 ho0 (fun b hb => mX8_told0 G l o0 ho0 (-1000000000000000001 : Int64) M b hb) rfl rfl (Nat.le_of_ble_eq_true rfl) (fun b6 => ?_)
      exact T_end (fun h => by cases h; exact V_lret dX8_cells_22)
    · refine T_aload_n (q := 0) dX8_cells_23 rfl rfl ?_
      refine T_callVvw (As := []) (st := []) mv_X8_142 (by decide) dX8_cells_24 ho0 (fun b hb => mX8_done G l o0 ho0 M b hb) rfl rfl (Nat.le_of_ble_eq_true rfl) (fun b7 => ?_)
      refine T_aload_n (q := 0) dX8_cells_27 rfl rfl ?_
      refine T_iload_n (q := 1) dX8_cells_28 rfl rfl ?_
      refine T_aload_n (q := 0) dX8_cells_29 rfl rfl ?_
      refine T_iload_n (q := 2) dX8_cells_30 rfl rfl ?_
      refine T_callVi (As := [.int x2]) (st := [.int x1, .ref (adr G o0)]) mv_X8_150 (by decide) dX8_cells_31 ho0 (fun b hb => mX8_until G l o0 ho0 x2 b7 b hb) rfl rfl (Nat.le_of_ble_eq_true rfl) (fun b8 => ?_)
      refine T_callVl (As := [.int x1, .int b8]) (st := []) mv_X8_154 (by decide) dX8_cells_34 ho0 (fun b hb => mX8_held G l o0 ho0 x1 b8 b7 b hb) rfl rfl (Nat.le_of_ble_eq_true rfl) (fun b9 => ?_)
      exact T_end (fun h => by cases h; exact V_lret dX8_cells_37)
set_option maxHeartbeats 4000000 in
set_option maxRecDepth 100000 in
theorem mX8_changes (G : Gw) (l : Launch) (o0 : Nat) (ho0 : shp o0 = 7) (x1 : Int32) (x2 : Int32) (M : Mem) (a : Int64 × Mem) (h : fX8_changes o0 x1 x2 M = some a) : CtP G l yX8_changes cX8_changes 8 (some .long) 3 75 [.ref (adr G o0), .int x1, .int x2] M (some (.long a.1)) a.2 := by
  refine CtP.ofV (by decide) (Nat.le_of_ble_eq_true rfl) ?_
  refine (?_ : T G l RX8 cX8_changes 8 (some .long) (rmOf 3 75) 0 0 (FinM G (some (.long a.1)) a.2) (fun x => x = a) 0 [(0, .ref (adr G o0)), (1, .int x1), (2, .int x2)] [] M (fX8_changes o0 x1 x2 M)) a h rfl
  clear h
  unfold fX8_changes
  refine T_aload_n (q := 0) dX8_changes_0 rfl rfl ?_
  refine T_iload_n (q := 1) dX8_changes_1 rfl rfl ?_
  refine T_callVi (As := [.int x1]) (st := []) mv_X8_106 (by decide) dX8_changes_2 ho0 (fun b hb => mX8_isUnit G l o0 ho0 x1 M b hb) rfl rfl (Nat.le_of_ble_eq_true rfl) (fun b1 => ?_)
  refine T_if_eq (tgt := 15) dX8_changes_5 (by decide) (fun hc2 => ?_) (fun hc2 => ?_)
  · refine T_aload_n (q := 0) dX8_changes_15 rfl rfl ?_
    refine T_ldc2 dX8_changes_16 kcl_X8_98 ?_
    refine T_callVlw (As := [.long (-1000000000000000001 : Int64)]) (st := []) mv_X8_100 (by decide) dX8_changes_19 ho0 (fun b hb => mX8_told0 G l o0 ho0 (-1000000000000000001 : Int64) M b hb) rfl rfl (Nat.le_of_ble_eq_true rfl) (fun b3 => ?_)
    exact T_end (fun h => by cases h; exact V_lret dX8_changes_22)
  · refine T_iload_n (q := 2) dX8_changes_8 rfl rfl ?_
    refine T_callSi (As := [.int x2]) (st := []) ms_X8_115 (by decide) dX8_changes_9 (fun b hb => mX8_isYear G l x2 M b hb) rfl rfl (Nat.le_of_ble_eq_true rfl) (fun b4 => ?_)
    refine T_if_ne (tgt := 23) dX8_changes_12 (by decide) (fun hc5 => ?_) (fun hc5 => ?_)
    · refine T_aload_n (q := 0) dX8_changes_15 rfl rfl ?_
      refine T_ldc2 dX8_changes_16 kcl_X8_98 ?_
      refine T_callVlw (As := [.long (-1000000000000000001 : Int64)]) (st := []) mv_X8_100 (by decide) dX8_changes_19 ho0 (fun b hb => mX8_told0 G l o0 ho0 (-1000000000000000001 : Int64) M b hb) rfl rfl (Nat.le_of_ble_eq_true rfl) (fun b6 => ?_)
      exact T_end (fun h => by cases h; exact V_lret dX8_changes_22)
    · refine T_aload_n (q := 0) dX8_changes_23 rfl rfl ?_
      refine T_callVvw (As := []) (st := []) mv_X8_142 (by decide) dX8_changes_24 ho0 (fun b hb => mX8_done G l o0 ho0 M b hb) rfl rfl (Nat.le_of_ble_eq_true rfl) (fun b7 => ?_)
      refine T_iload_n (q := 2) dX8_changes_27 rfl rfl ?_
      refine T_sipush (v := 1000) dX8_changes_28 (by decide) ?_
      refine T_bind (X := fun j8 => V G l RX8 cX8_changes 8 (some .long) (rmOf 3 75) 0 0 (FinM G (some (.long a.1)) a.2) 50 [(0, .ref (adr G o0)), (1, .int x1), (2, .int x2)] [.long j8] b7) ?_ (fun j8 => ?_)
      · refine T_icmp_ne (tgt := 38) dX8_changes_31 (by decide) (fun hc9 => ?_) (fun hc9 => ?_)
        · refine T_lconst (v := 0) dX8_changes_34 (by decide) ?_
          refine T_goto (tgt := 50) dX8_changes_35 (by decide) ?_
          exact T_end (fun h => V_sub [0, 1, 2] rfl h)
        · refine T_aload_n (q := 0) dX8_changes_38 rfl rfl ?_
          refine T_iload_n (q := 1) dX8_changes_39 rfl rfl ?_
          refine T_aload_n (q := 0) dX8_changes_40 rfl rfl ?_
          refine T_iload_n (q := 2) dX8_changes_41 rfl rfl ?_
          refine T_iconst (v := 1) dX8_changes_42 (by decide) ?_
          refine T_isub dX8_changes_43 ?_
          refine T_callVi (As := [.int (x2 - (1 : Int32))]) (st := [.int x1, .ref (adr G o0)]) mv_X8_150 (by decide) dX8_changes_44 ho0 (fun b hb => mX8_until G l o0 ho0 (x2 - (1 : Int32)) b7 b hb) rfl rfl (Nat.le_of_ble_eq_true rfl) (fun b10 => ?_)
          refine T_callVl (As := [.int x1, .int b10]) (st := []) mv_X8_154 (by decide) dX8_changes_47 ho0 (fun b hb => mX8_held G l o0 ho0 x1 b10 b7 b hb) rfl rfl (Nat.le_of_ble_eq_true rfl) (fun b11 => ?_)
          exact T_end (fun h => V_sub [0, 1, 2] rfl h)
      · change T G l RX8 cX8_changes 8 (some .long) (rmOf 3 75) 0 0 (FinM G (some (.long a.1)) a.2) _ 50 [(0, .ref (adr G o0)), (1, .int x1), (2, .int x2)] [.long j8] b7 _
        refine T_lstore_n (lv' := [(3, .long j8), (0, .ref (adr G o0)), (1, .int x1), (2, .int x2)]) dX8_changes_50 rfl (by decide) rfl ?_
        refine T_iload_n (q := 3) dX8_changes_51 rfl rfl ?_
        refine T_istore (lv' := [(5, .int x2), (3, .long j8), (0, .ref (adr G o0)), (1, .int x1), (2, .int x2)]) dX8_changes_52 (by decide) rfl ?_
        refine T_loop (fun s12 => [(5, .int s12), (3, .long j8), (0, .ref (adr G o0)), (1, .int x1), (2, .int x2)]) (fun s12 => b7) (fun s12 => ?_) x2
        unfold wX8_changes_54
        refine T_iload (q := 0) dX8_changes_54 rfl ?_
        refine T_sipush (v := 2000) dX8_changes_56 (by decide) ?_
        refine T_icmp_ge (tgt := 92) dX8_changes_59 (by decide) (fun hc13 => ?_) (fun hc13 => ?_)
        · refine T_aload_n (q := 2) dX8_changes_92 rfl rfl ?_
          refine T_ldc2 dX8_changes_93 kcl_X8_145 ?_
          refine T_callVlw (As := [.long (-1000000000000000006 : Int64)]) (st := []) mv_X8_100 (by decide) dX8_changes_96 ho0 (fun b hb => mX8_told0 G l o0 ho0 (-1000000000000000006 : Int64) b7 b hb) rfl rfl (Nat.le_of_ble_eq_true rfl) (fun b14 => ?_)
          exact T_end (fun h => by cases h; exact V_lret dX8_changes_99)
        · refine T_aload_n (q := 2) dX8_changes_62 rfl rfl ?_
          refine T_iload_n (q := 3) dX8_changes_63 rfl rfl ?_
          refine T_aload_n (q := 2) dX8_changes_64 rfl rfl ?_
          refine T_iload (q := 0) dX8_changes_65 rfl ?_
          refine T_callVi (As := [.int s12]) (st := [.int x1, .ref (adr G o0)]) mv_X8_150 (by decide) dX8_changes_67 ho0 (fun b hb => mX8_until G l o0 ho0 s12 b7 b hb) rfl rfl (Nat.le_of_ble_eq_true rfl) (fun b15 => ?_)
          refine T_callVl (As := [.int x1, .int b15]) (st := []) mv_X8_154 (by decide) dX8_changes_70 ho0 (fun b hb => mX8_held G l o0 ho0 x1 b15 b7 b hb) rfl rfl (Nat.le_of_ble_eq_true rfl) (fun b16 => ?_)
          refine T_lstore (lv' := [(6, .long b16), (5, .int s12), (3, .long j8), (0, .ref (adr G o0)), (1, .int x1), (2, .int x2)]) dX8_changes_73 (by decide) rfl ?_
          refine T_lload (q := 0) dX8_changes_75 rfl ?_
          refine T_lload_n (q := 2) dX8_changes_77 rfl rfl ?_
          refine T_lcmp dX8_changes_78 ?_
          refine T_if_eq (tgt := 86) dX8_changes_79 (by decide) (fun hc17 => ?_) (fun hc17 => ?_)
          · refine T_iinc_G (q := 1) (y := s12 + 1) (lv' := fun v18 => [(5, .int v18), (6, .long b16), (3, .long j8), (0, .ref (adr G o0)), (1, .int x1), (2, .int x2)]) dX8_changes_86 rfl rfl (by decide) (fun _ => rfl) (fun v18 => ?_)
            refine T_goto (tgt := 54) dX8_changes_89 (by decide) ?_
            exact T_end (fun h => V_sub [0, 2, 3, 4, 5] rfl h)
          · refine T_iload (q := 1) dX8_changes_82 rfl ?_
            refine T_i2l dX8_changes_84 ?_
            exact T_end (fun h => by cases h; exact V_lret dX8_changes_85)
set_option maxHeartbeats 4000000 in
set_option maxRecDepth 100000 in
theorem mX8_isCell (G : Gw) (l : Launch) (x0 : Int32) (M : Mem) (a : Int32) (h : fX8_isCell x0 = some a) : CtP G l yX8_isCell cX8_isCell 1 (some .boolean) 1 25 [.int x0] M (some (.int a)) M := by
  refine CtP.ofV (by decide) (Nat.le_of_ble_eq_true rfl) ?_
  refine (?_ : T G l RX8 cX8_isCell 1 (some .boolean) (rmOf 1 25) 0 0 (FinM G (some (.int a)) M) (fun x => x = a) 0 [(0, .int x0)] [] M (fX8_isCell x0)) a h rfl
  clear h
  unfold fX8_isCell
  refine T_iload_n (q := 0) dX8_isCell_0 rfl rfl ?_
  refine T_i2l dX8_isCell_1 ?_
  refine T_lconst (v := 0) dX8_isCell_2 (by decide) ?_
  refine T_ldc2 dX8_isCell_3 kcl_X8_94 ?_
  refine T_callSi (As := [.long x0.toInt64, .long (0 : Int64), .long (35 : Int64)]) (st := []) ms_X8_86 (by decide) dX8_isCell_6 (fun b hb => mX8_in G l x0.toInt64 (0 : Int64) (35 : Int64) M b hb) rfl rfl (Nat.le_of_ble_eq_true rfl) (fun b1 => ?_)
  refine T_gb (fun hz2 => ?_)
  exact T_end (fun h => by cases h; exact V_zret hz2 dX8_isCell_9)
set_option maxHeartbeats 4000000 in
set_option maxRecDepth 100000 in
theorem mX8_claim (G : Gw) (l : Launch) (o0 : Nat) (ho0 : shp o0 = 7) (x1 : Int32) (x2 : Int32) (x3 : Int32) (M : Mem) (a : Int64 × Mem) (h : fX8_claim o0 x1 x2 x3 M = some a) : CtP G l yX8_claim cX8_claim 5 (some .long) 2 46 [.ref (adr G o0), .int x1, .int x2, .int x3] M (some (.long a.1)) a.2 := by
  refine CtP.ofV (by decide) (Nat.le_of_ble_eq_true rfl) ?_
  refine (?_ : T G l RX8 cX8_claim 5 (some .long) (rmOf 2 46) 0 0 (FinM G (some (.long a.1)) a.2) (fun x => x = a) 0 [(0, .ref (adr G o0)), (1, .int x1), (2, .int x2), (3, .int x3)] [] M (fX8_claim o0 x1 x2 x3 M)) a h rfl
  clear h
  unfold fX8_claim
  refine T_iload_n (q := 1) dX8_claim_0 rfl rfl ?_
  refine T_callSi (As := [.int x1]) (st := []) ms_X8_187 (by decide) dX8_claim_1 (fun b hb => mX8_isMap G l x1 M b hb) rfl rfl (Nat.le_of_ble_eq_true rfl) (fun b1 => ?_)
  refine T_if_eq (tgt := 33) dX8_claim_4 (by decide) (fun hc2 => ?_) (fun hc2 => ?_)
  · refine T_aload_n (q := 0) dX8_claim_33 rfl rfl ?_
    refine T_ldc2 dX8_claim_34 kcl_X8_98 ?_
    refine T_callVlw (As := [.long (-1000000000000000001 : Int64)]) (st := []) mv_X8_100 (by decide) dX8_claim_37 ho0 (fun b hb => mX8_told0 G l o0 ho0 (-1000000000000000001 : Int64) M b hb) rfl rfl (Nat.le_of_ble_eq_true rfl) (fun b3 => ?_)
    exact T_end (fun h => by cases h; exact V_lret dX8_claim_40)
  · refine T_iload_n (q := 2) dX8_claim_7 rfl rfl ?_
    refine T_callSi (As := [.int x2]) (st := []) ms_X8_147 (by decide) dX8_claim_8 (fun b hb => mX8_isCell G l x2 M b hb) rfl rfl (Nat.le_of_ble_eq_true rfl) (fun b4 => ?_)
    refine T_if_eq (tgt := 33) dX8_claim_11 (by decide) (fun hc5 => ?_) (fun hc5 => ?_)
    · refine T_aload_n (q := 0) dX8_claim_33 rfl rfl ?_
      refine T_ldc2 dX8_claim_34 kcl_X8_98 ?_
      refine T_callVlw (As := [.long (-1000000000000000001 : Int64)]) (st := []) mv_X8_100 (by decide) dX8_claim_37 ho0 (fun b hb => mX8_told0 G l o0 ho0 (-1000000000000000001 : Int64) M b hb) rfl rfl (Nat.le_of_ble_eq_true rfl) (fun b6 => ?_)
      exact T_end (fun h => by cases h; exact V_lret dX8_claim_40)
    · refine T_iload_n (q := 3) dX8_claim_14 rfl rfl ?_
      refine T_iconst (v := -1) dX8_claim_15 (by decide) ?_
      refine T_icmp_eq (tgt := 41) dX8_claim_16 (by decide) (fun hc7 => ?_) (fun hc7 => ?_)
      · refine T_aload_n (q := 0) dX8_claim_41 rfl rfl ?_
        refine T_iload_n (q := 3) dX8_claim_42 rfl rfl ?_
        refine T_callVi (As := [.int x3]) (st := []) mv_X8_106 (by decide) dX8_claim_43 ho0 (fun b hb => mX8_isUnit G l o0 ho0 x3 M b hb) rfl rfl (Nat.le_of_ble_eq_true rfl) (fun b8 => ?_)
        refine T_if_eq (tgt := 65) dX8_claim_46 (by decide) (fun hc9 => ?_) (fun hc9 => ?_)
        · refine T_aload_n (q := 0) dX8_claim_65 rfl rfl ?_
          refine T_getR cf7 fr_X8_32 dX8_claim_66 ho0 rfl ?_
          refine T_bipush (v := 36) dX8_claim_69 (by decide) ?_
          refine T_iload_n (q := 1) dX8_claim_71 rfl rfl ?_
          refine T_imul dX8_claim_72 ?_
          refine T_iload_n (q := 2) dX8_claim_73 rfl rfl ?_
          refine T_iadd dX8_claim_74 ?_
          refine T_iald dX8_claim_75 (sf_7_11 ho0) ?_
          refine T_istore_G (lv' := fun v10 => [(4, .int v10), (0, .ref (adr G o0)), (1, .int x1), (2, .int x2), (3, .int x3)]) dX8_claim_76 (by decide) (fun _ => rfl) (fun v10 => ?_)
          refine T_aload_n (q := 1) dX8_claim_78 rfl rfl ?_
          refine T_getR cf7 fr_X8_32 dX8_claim_79 ho0 rfl ?_
          refine T_bipush (v := 36) dX8_claim_82 (by decide) ?_
          refine T_iload_n (q := 2) dX8_claim_84 rfl rfl ?_
          refine T_imul dX8_claim_85 ?_
          refine T_iload_n (q := 3) dX8_claim_86 rfl rfl ?_
          refine T_iadd dX8_claim_87 ?_
          refine T_iload_n (q := 4) dX8_claim_88 rfl rfl ?_
          refine T_iast dX8_claim_89 (sf_7_11 ho0) (fun M11 => ?_)
          refine T_iload (q := 0) dX8_claim_90 rfl ?_
          refine T_if_ge (tgt := 99) dX8_claim_92 (by decide) (fun hc12 => ?_) (fun hc12 => ?_)
          · refine T_lconst (v := 1) dX8_claim_99 (by decide) ?_
            exact T_end (fun h => by cases h; exact V_lret dX8_claim_100)
          · refine T_lconst (v := 0) dX8_claim_95 (by decide) ?_
            refine T_goto (tgt := 100) dX8_claim_96 (by decide) ?_
            exact T_end (fun h => by cases h; exact V_lret dX8_claim_100)
        · refine T_aload_n (q := 0) dX8_claim_49 rfl rfl ?_
          refine T_iload_n (q := 3) dX8_claim_50 rfl rfl ?_
          refine T_callVi (As := [.int x3]) (st := []) mv_X8_118 (by decide) dX8_claim_51 ho0 (fun b hb => mX8_isHundred G l o0 ho0 x3 M b hb) rfl rfl (Nat.le_of_ble_eq_true rfl) (fun b13 => ?_)
          refine T_if_eq (tgt := 65) dX8_claim_54 (by decide) (fun hc14 => ?_) (fun hc14 => ?_)
          · refine T_aload_n (q := 0) dX8_claim_65 rfl rfl ?_
            refine T_getR cf7 fr_X8_32 dX8_claim_66 ho0 rfl ?_
            refine T_bipush (v := 36) dX8_claim_69 (by decide) ?_
            refine T_iload_n (q := 1) dX8_claim_71 rfl rfl ?_
            refine T_imul dX8_claim_72 ?_
            refine T_iload_n (q := 2) dX8_claim_73 rfl rfl ?_
            refine T_iadd dX8_claim_74 ?_
            refine T_iald dX8_claim_75 (sf_7_11 ho0) ?_
            refine T_istore_G (lv' := fun v15 => [(4, .int v15), (0, .ref (adr G o0)), (1, .int x1), (2, .int x2), (3, .int x3)]) dX8_claim_76 (by decide) (fun _ => rfl) (fun v15 => ?_)
            refine T_aload_n (q := 1) dX8_claim_78 rfl rfl ?_
            refine T_getR cf7 fr_X8_32 dX8_claim_79 ho0 rfl ?_
            refine T_bipush (v := 36) dX8_claim_82 (by decide) ?_
            refine T_iload_n (q := 2) dX8_claim_84 rfl rfl ?_
            refine T_imul dX8_claim_85 ?_
            refine T_iload_n (q := 3) dX8_claim_86 rfl rfl ?_
            refine T_iadd dX8_claim_87 ?_
            refine T_iload_n (q := 4) dX8_claim_88 rfl rfl ?_
            refine T_iast dX8_claim_89 (sf_7_11 ho0) (fun M16 => ?_)
            refine T_iload (q := 0) dX8_claim_90 rfl ?_
            refine T_if_ge (tgt := 99) dX8_claim_92 (by decide) (fun hc17 => ?_) (fun hc17 => ?_)
            · refine T_lconst (v := 1) dX8_claim_99 (by decide) ?_
              exact T_end (fun h => by cases h; exact V_lret dX8_claim_100)
            · refine T_lconst (v := 0) dX8_claim_95 (by decide) ?_
              refine T_goto (tgt := 100) dX8_claim_96 (by decide) ?_
              exact T_end (fun h => by cases h; exact V_lret dX8_claim_100)
          · refine T_aload_n (q := 0) dX8_claim_57 rfl rfl ?_
            refine T_ldc2 dX8_claim_58 kcl_X8_110 ?_
            refine T_callVlw (As := [.long (-1000000000000000004 : Int64)]) (st := []) mv_X8_100 (by decide) dX8_claim_61 ho0 (fun b hb => mX8_told0 G l o0 ho0 (-1000000000000000004 : Int64) M b hb) rfl rfl (Nat.le_of_ble_eq_true rfl) (fun b18 => ?_)
            exact T_end (fun h => by cases h; exact V_lret dX8_claim_64)
      · refine T_iload_n (q := 3) dX8_claim_19 rfl rfl ?_
        refine T_bipush (v := 10) dX8_claim_20 (by decide) ?_
        refine T_icmp_eq (tgt := 41) dX8_claim_22 (by decide) (fun hc19 => ?_) (fun hc19 => ?_)
        · refine T_aload_n (q := 0) dX8_claim_41 rfl rfl ?_
          refine T_iload_n (q := 3) dX8_claim_42 rfl rfl ?_
          refine T_callVi (As := [.int x3]) (st := []) mv_X8_106 (by decide) dX8_claim_43 ho0 (fun b hb => mX8_isUnit G l o0 ho0 x3 M b hb) rfl rfl (Nat.le_of_ble_eq_true rfl) (fun b20 => ?_)
          refine T_if_eq (tgt := 65) dX8_claim_46 (by decide) (fun hc21 => ?_) (fun hc21 => ?_)
          · refine T_aload_n (q := 0) dX8_claim_65 rfl rfl ?_
            refine T_getR cf7 fr_X8_32 dX8_claim_66 ho0 rfl ?_
            refine T_bipush (v := 36) dX8_claim_69 (by decide) ?_
            refine T_iload_n (q := 1) dX8_claim_71 rfl rfl ?_
            refine T_imul dX8_claim_72 ?_
            refine T_iload_n (q := 2) dX8_claim_73 rfl rfl ?_
            refine T_iadd dX8_claim_74 ?_
            refine T_iald dX8_claim_75 (sf_7_11 ho0) ?_
            refine T_istore_G (lv' := fun v22 => [(4, .int v22), (0, .ref (adr G o0)), (1, .int x1), (2, .int x2), (3, .int x3)]) dX8_claim_76 (by decide) (fun _ => rfl) (fun v22 => ?_)
            refine T_aload_n (q := 1) dX8_claim_78 rfl rfl ?_
            refine T_getR cf7 fr_X8_32 dX8_claim_79 ho0 rfl ?_
            refine T_bipush (v := 36) dX8_claim_82 (by decide) ?_
            refine T_iload_n (q := 2) dX8_claim_84 rfl rfl ?_
            refine T_imul dX8_claim_85 ?_
            refine T_iload_n (q := 3) dX8_claim_86 rfl rfl ?_
            refine T_iadd dX8_claim_87 ?_
            refine T_iload_n (q := 4) dX8_claim_88 rfl rfl ?_
            refine T_iast dX8_claim_89 (sf_7_11 ho0) (fun M23 => ?_)
            refine T_iload (q := 0) dX8_claim_90 rfl ?_
            refine T_if_ge (tgt := 99) dX8_claim_92 (by decide) (fun hc24 => ?_) (fun hc24 => ?_)
            · refine T_lconst (v := 1) dX8_claim_99 (by decide) ?_
              exact T_end (fun h => by cases h; exact V_lret dX8_claim_100)
            · refine T_lconst (v := 0) dX8_claim_95 (by decide) ?_
              refine T_goto (tgt := 100) dX8_claim_96 (by decide) ?_
              exact T_end (fun h => by cases h; exact V_lret dX8_claim_100)
          · refine T_aload_n (q := 0) dX8_claim_49 rfl rfl ?_
            refine T_iload_n (q := 3) dX8_claim_50 rfl rfl ?_
            refine T_callVi (As := [.int x3]) (st := []) mv_X8_118 (by decide) dX8_claim_51 ho0 (fun b hb => mX8_isHundred G l o0 ho0 x3 M b hb) rfl rfl (Nat.le_of_ble_eq_true rfl) (fun b25 => ?_)
            refine T_if_eq (tgt := 65) dX8_claim_54 (by decide) (fun hc26 => ?_) (fun hc26 => ?_)
            · refine T_aload_n (q := 0) dX8_claim_65 rfl rfl ?_
              refine T_getR cf7 fr_X8_32 dX8_claim_66 ho0 rfl ?_
              refine T_bipush (v := 36) dX8_claim_69 (by decide) ?_
              refine T_iload_n (q := 1) dX8_claim_71 rfl rfl ?_
              refine T_imul dX8_claim_72 ?_
              refine T_iload_n (q := 2) dX8_claim_73 rfl rfl ?_
              refine T_iadd dX8_claim_74 ?_
              refine T_iald dX8_claim_75 (sf_7_11 ho0) ?_
              refine T_istore_G (lv' := fun v27 => [(4, .int v27), (0, .ref (adr G o0)), (1, .int x1), (2, .int x2), (3, .int x3)]) dX8_claim_76 (by decide) (fun _ => rfl) (fun v27 => ?_)
              refine T_aload_n (q := 1) dX8_claim_78 rfl rfl ?_
              refine T_getR cf7 fr_X8_32 dX8_claim_79 ho0 rfl ?_
              refine T_bipush (v := 36) dX8_claim_82 (by decide) ?_
              refine T_iload_n (q := 2) dX8_claim_84 rfl rfl ?_
              refine T_imul dX8_claim_85 ?_
              refine T_iload_n (q := 3) dX8_claim_86 rfl rfl ?_
              refine T_iadd dX8_claim_87 ?_
              refine T_iload_n (q := 4) dX8_claim_88 rfl rfl ?_
              refine T_iast dX8_claim_89 (sf_7_11 ho0) (fun M28 => ?_)
              refine T_iload (q := 0) dX8_claim_90 rfl ?_
              refine T_if_ge (tgt := 99) dX8_claim_92 (by decide) (fun hc29 => ?_) (fun hc29 => ?_)
              · refine T_lconst (v := 1) dX8_claim_99 (by decide) ?_
                exact T_end (fun h => by cases h; exact V_lret dX8_claim_100)
              · refine T_lconst (v := 0) dX8_claim_95 (by decide) ?_
                refine T_goto (tgt := 100) dX8_claim_96 (by decide) ?_
                exact T_end (fun h => by cases h; exact V_lret dX8_claim_100)
            · refine T_aload_n (q := 0) dX8_claim_57 rfl rfl ?_
              refine T_ldc2 dX8_claim_58 kcl_X8_110 ?_
              refine T_callVlw (As := [.long (-1000000000000000004 : Int64)]) (st := []) mv_X8_100 (by decide) dX8_claim_61 ho0 (fun b hb => mX8_told0 G l o0 ho0 (-1000000000000000004 : Int64) M b hb) rfl rfl (Nat.le_of_ble_eq_true rfl) (fun b30 => ?_)
              exact T_end (fun h => by cases h; exact V_lret dX8_claim_64)
        · refine T_aload_n (q := 0) dX8_claim_25 rfl rfl ?_
          refine T_iload_n (q := 3) dX8_claim_26 rfl rfl ?_
          refine T_callVi (As := [.int x3]) (st := []) mv_X8_106 (by decide) dX8_claim_27 ho0 (fun b hb => mX8_isUnit G l o0 ho0 x3 M b hb) rfl rfl (Nat.le_of_ble_eq_true rfl) (fun b31 => ?_)
          refine T_if_ne (tgt := 41) dX8_claim_30 (by decide) (fun hc32 => ?_) (fun hc32 => ?_)
          · refine T_aload_n (q := 0) dX8_claim_33 rfl rfl ?_
            refine T_ldc2 dX8_claim_34 kcl_X8_98 ?_
            refine T_callVlw (As := [.long (-1000000000000000001 : Int64)]) (st := []) mv_X8_100 (by decide) dX8_claim_37 ho0 (fun b hb => mX8_told0 G l o0 ho0 (-1000000000000000001 : Int64) M b hb) rfl rfl (Nat.le_of_ble_eq_true rfl) (fun b33 => ?_)
            exact T_end (fun h => by cases h; exact V_lret dX8_claim_40)
          · refine T_aload_n (q := 0) dX8_claim_41 rfl rfl ?_
            refine T_iload_n (q := 3) dX8_claim_42 rfl rfl ?_
            refine T_callVi (As := [.int x3]) (st := []) mv_X8_106 (by decide) dX8_claim_43 ho0 (fun b hb => mX8_isUnit G l o0 ho0 x3 M b hb) rfl rfl (Nat.le_of_ble_eq_true rfl) (fun b34 => ?_)
            refine T_if_eq (tgt := 65) dX8_claim_46 (by decide) (fun hc35 => ?_) (fun hc35 => ?_)
            · refine T_aload_n (q := 0) dX8_claim_65 rfl rfl ?_
              refine T_getR cf7 fr_X8_32 dX8_claim_66 ho0 rfl ?_
              refine T_bipush (v := 36) dX8_claim_69 (by decide) ?_
              refine T_iload_n (q := 1) dX8_claim_71 rfl rfl ?_
              refine T_imul dX8_claim_72 ?_
              refine T_iload_n (q := 2) dX8_claim_73 rfl rfl ?_
              refine T_iadd dX8_claim_74 ?_
              refine T_iald dX8_claim_75 (sf_7_11 ho0) ?_
              refine T_istore_G (lv' := fun v36 => [(4, .int v36), (0, .ref (adr G o0)), (1, .int x1), (2, .int x2), (3, .int x3)]) dX8_claim_76 (by decide) (fun _ => rfl) (fun v36 => ?_)
              refine T_aload_n (q := 1) dX8_claim_78 rfl rfl ?_
              refine T_getR cf7 fr_X8_32 dX8_claim_79 ho0 rfl ?_
              refine T_bipush (v := 36) dX8_claim_82 (by decide) ?_
              refine T_iload_n (q := 2) dX8_claim_84 rfl rfl ?_
              refine T_imul dX8_claim_85 ?_
              refine T_iload_n (q := 3) dX8_claim_86 rfl rfl ?_
              refine T_iadd dX8_claim_87 ?_
              refine T_iload_n (q := 4) dX8_claim_88 rfl rfl ?_
              refine T_iast dX8_claim_89 (sf_7_11 ho0) (fun M37 => ?_)
              refine T_iload (q := 0) dX8_claim_90 rfl ?_
              refine T_if_ge (tgt := 99) dX8_claim_92 (by decide) (fun hc38 => ?_) (fun hc38 => ?_)
              · refine T_lconst (v := 1) dX8_claim_99 (by decide) ?_
                exact T_end (fun h => by cases h; exact V_lret dX8_claim_100)
              · refine T_lconst (v := 0) dX8_claim_95 (by decide) ?_
                refine T_goto (tgt := 100) dX8_claim_96 (by decide) ?_
                exact T_end (fun h => by cases h; exact V_lret dX8_claim_100)
            · refine T_aload_n (q := 0) dX8_claim_49 rfl rfl ?_
              refine T_iload_n (q := 3) dX8_claim_50 rfl rfl ?_
              refine T_callVi (As := [.int x3]) (st := []) mv_X8_118 (by decide) dX8_claim_51 ho0 (fun b hb => mX8_isHundred G l o0 ho0 x3 M b hb) rfl rfl (Nat.le_of_ble_eq_true rfl) (fun b39 => ?_)
              refine T_if_eq (tgt := 65) dX8_claim_54 (by decide) (fun hc40 => ?_) (fun hc40 => ?_)
              · refine T_aload_n (q := 0) dX8_claim_65 rfl rfl ?_
                refine T_getR cf7 fr_X8_32 dX8_claim_66 ho0 rfl ?_
                refine T_bipush (v := 36) dX8_claim_69 (by decide) ?_
                refine T_iload_n (q := 1) dX8_claim_71 rfl rfl ?_
                refine T_imul dX8_claim_72 ?_
                refine T_iload_n (q := 2) dX8_claim_73 rfl rfl ?_
                refine T_iadd dX8_claim_74 ?_
                refine T_iald dX8_claim_75 (sf_7_11 ho0) ?_
                refine T_istore_G (lv' := fun v41 => [(4, .int v41), (0, .ref (adr G o0)), (1, .int x1), (2, .int x2), (3, .int x3)]) dX8_claim_76 (by decide) (fun _ => rfl) (fun v41 => ?_)
                refine T_aload_n (q := 1) dX8_claim_78 rfl rfl ?_
                refine T_getR cf7 fr_X8_32 dX8_claim_79 ho0 rfl ?_
                refine T_bipush (v := 36) dX8_claim_82 (by decide) ?_
                refine T_iload_n (q := 2) dX8_claim_84 rfl rfl ?_
                refine T_imul dX8_claim_85 ?_
                refine T_iload_n (q := 3) dX8_claim_86 rfl rfl ?_
                refine T_iadd dX8_claim_87 ?_
                refine T_iload_n (q := 4) dX8_claim_88 rfl rfl ?_
                refine T_iast dX8_claim_89 (sf_7_11 ho0) (fun M42 => ?_)
                refine T_iload (q := 0) dX8_claim_90 rfl ?_
                refine T_if_ge (tgt := 99) dX8_claim_92 (by decide) (fun hc43 => ?_) (fun hc43 => ?_)
                · refine T_lconst (v := 1) dX8_claim_99 (by decide) ?_
                  exact T_end (fun h => by cases h; exact V_lret dX8_claim_100)
                · refine T_lconst (v := 0) dX8_claim_95 (by decide) ?_
                  refine T_goto (tgt := 100) dX8_claim_96 (by decide) ?_
                  exact T_end (fun h => by cases h; exact V_lret dX8_claim_100)
              · refine T_aload_n (q := 0) dX8_claim_57 rfl rfl ?_
                refine T_ldc2 dX8_claim_58 kcl_X8_110 ?_
                refine T_callVlw (As := [.long (-1000000000000000004 : Int64)]) (st := []) mv_X8_100 (by decide) dX8_claim_61 ho0 (fun b hb => mX8_told0 G l o0 ho0 (-1000000000000000004 : Int64) M b hb) rfl rfl (Nat.le_of_ble_eq_true rfl) (fun b44 => ?_)
                exact T_end (fun h => by cases h; exact V_lret dX8_claim_64)
set_option maxHeartbeats 4000000 in
set_option maxRecDepth 100000 in
theorem mX8_claimsOf (G : Gw) (l : Launch) (o0 : Nat) (ho0 : shp o0 = 7) (x1 : Int32) (M : Mem) (a : Int32) (h : fX8_claimsOf o0 x1 M = some a) : CtP G l yX8_claimsOf cX8_claimsOf 4 (some .int) 0 0 [.ref (adr G o0), .int x1] M (some (.int a)) M := by
  refine CtP.ofV (by decide) (Nat.le_of_ble_eq_true rfl) ?_
  refine (?_ : T G l RX8 cX8_claimsOf 4 (some .int) (rmOf 0 0) 0 0 (FinM G (some (.int a)) M) (fun x => x = a) 0 [(0, .ref (adr G o0)), (1, .int x1)] [] M (fX8_claimsOf o0 x1 M)) a h rfl
  clear h
  unfold fX8_claimsOf
  refine T_iconst (v := 0) dX8_claimsOf_0 (by decide) ?_
  refine T_istore_n (lv' := [(2, .int (0 : Int32)), (0, .ref (adr G o0)), (1, .int x1)]) dX8_claimsOf_1 rfl (by decide) rfl ?_
  refine T_iconst (v := 0) dX8_claimsOf_2 (by decide) ?_
  refine T_istore_n (lv' := [(3, .int (0 : Int32)), (2, .int (0 : Int32)), (0, .ref (adr G o0)), (1, .int x1)]) dX8_claimsOf_3 rfl (by decide) rfl ?_
  refine T_bind (X := fun r8 => V G l RX8 cX8_claimsOf 4 (some .int) (rmOf 0 0) 0 0 (FinM G (some (.int a)) M) 38 [(3, .int r8.2), (2, .int r8.1), (0, .ref (adr G o0)), (1, .int x1)] [] M) (T_loop (fun s1 => [(3, .int s1.2), (2, .int s1.1), (0, .ref (adr G o0)), (1, .int x1)]) (fun s1 => M) (fun s1 => ?_) ((0 : Int32), (0 : Int32))) (fun r8 => ?_)
  · unfold wX8_claimsOf_4
    refine T_iload_n (q := 0) dX8_claimsOf_4 rfl rfl ?_
    refine T_bipush (v := 36) dX8_claimsOf_5 (by decide) ?_
    refine T_icmp_ge (tgt := 38) dX8_claimsOf_7 (by decide) (fun hc2 => ?_) (fun hc2 => ?_)
    · exact T_end (fun h => V_sub [0, 1, 2, 3] rfl h)
    · refine T_iload_n (q := 1) dX8_claimsOf_10 rfl rfl ?_
      refine T_aload_n (q := 2) dX8_claimsOf_11 rfl rfl ?_
      refine T_getR cf7 fr_X8_32 dX8_claimsOf_12 ho0 rfl ?_
      refine T_bipush (v := 36) dX8_claimsOf_15 (by decide) ?_
      refine T_iload_n (q := 3) dX8_claimsOf_17 rfl rfl ?_
      refine T_imul dX8_claimsOf_18 ?_
      refine T_iload_n (q := 0) dX8_claimsOf_19 rfl rfl ?_
      refine T_iadd dX8_claimsOf_20 ?_
      refine T_iald dX8_claimsOf_21 (sf_7_11 ho0) ?_
      refine T_if_lt (tgt := 29) dX8_claimsOf_22 (by decide) (fun hc3 => ?_) (fun hc3 => ?_)
      · refine T_iconst (v := 0) dX8_claimsOf_29 (by decide) ?_
        refine T_iadd dX8_claimsOf_30 ?_
        refine T_istore_n_G (lv' := fun v4 => [(2, .int v4), (3, .int s1.2), (0, .ref (adr G o0)), (1, .int x1)]) dX8_claimsOf_31 rfl (by decide) (fun _ => rfl) (fun v4 => ?_)
        refine T_iinc_G (q := 1) (y := s1.2 + 1) (lv' := fun v5 => [(3, .int v5), (2, .int v4), (0, .ref (adr G o0)), (1, .int x1)]) dX8_claimsOf_32 rfl rfl (by decide) (fun _ => rfl) (fun v5 => ?_)
        refine T_goto (tgt := 4) dX8_claimsOf_35 (by decide) ?_
        exact T_end (fun h => V_sub [0, 1, 2, 3] rfl h)
      · refine T_iconst (v := 1) dX8_claimsOf_25 (by decide) ?_
        refine T_goto (tgt := 30) dX8_claimsOf_26 (by decide) ?_
        refine T_iadd dX8_claimsOf_30 ?_
        refine T_istore_n_G (lv' := fun v6 => [(2, .int v6), (3, .int s1.2), (0, .ref (adr G o0)), (1, .int x1)]) dX8_claimsOf_31 rfl (by decide) (fun _ => rfl) (fun v6 => ?_)
        refine T_iinc_G (q := 1) (y := s1.2 + 1) (lv' := fun v7 => [(3, .int v7), (2, .int v6), (0, .ref (adr G o0)), (1, .int x1)]) dX8_claimsOf_32 rfl rfl (by decide) (fun _ => rfl) (fun v7 => ?_)
        refine T_goto (tgt := 4) dX8_claimsOf_35 (by decide) ?_
        exact T_end (fun h => V_sub [0, 1, 2, 3] rfl h)
  · change T G l RX8 cX8_claimsOf 4 (some .int) (rmOf 0 0) 0 0 (FinM G (some (.int a)) M) _ 38 [(3, .int r8.2), (2, .int r8.1), (0, .ref (adr G o0)), (1, .int x1)] [] M _
    refine T_iload_n (q := 1) dX8_claimsOf_38 rfl rfl ?_
    exact T_end (fun h => by cases h; exact V_iret dX8_claimsOf_39)
set_option maxHeartbeats 4000000 in
set_option maxRecDepth 100000 in
theorem mX8_isSheet (G : Gw) (l : Launch) (x0 : Int32) (M : Mem) (a : Int32) (h : fX8_isSheet x0 = some a) : CtP G l yX8_isSheet cX8_isSheet 1 (some .boolean) 1 25 [.int x0] M (some (.int a)) M := by
  refine CtP.ofV (by decide) (Nat.le_of_ble_eq_true rfl) ?_
  refine (?_ : T G l RX8 cX8_isSheet 1 (some .boolean) (rmOf 1 25) 0 0 (FinM G (some (.int a)) M) (fun x => x = a) 0 [(0, .int x0)] [] M (fX8_isSheet x0)) a h rfl
  clear h
  unfold fX8_isSheet
  refine T_iload_n (q := 0) dX8_isSheet_0 rfl rfl ?_
  refine T_i2l dX8_isSheet_1 ?_
  refine T_lconst (v := 0) dX8_isSheet_2 (by decide) ?_
  refine T_ldc2 dX8_isSheet_3 kcl_X8_96 ?_
  refine T_callSi (As := [.long x0.toInt64, .long (0 : Int64), .long (3 : Int64)]) (st := []) ms_X8_86 (by decide) dX8_isSheet_6 (fun b hb => mX8_in G l x0.toInt64 (0 : Int64) (3 : Int64) M b hb) rfl rfl (Nat.le_of_ble_eq_true rfl) (fun b1 => ?_)
  refine T_gb (fun hz2 => ?_)
  exact T_end (fun h => by cases h; exact V_zret hz2 dX8_isSheet_9)
set_option maxHeartbeats 4000000 in
set_option maxRecDepth 100000 in
theorem mX8_copy (G : Gw) (l : Launch) (o0 : Nat) (ho0 : shp o0 = 7) (x1 : Int32) (x2 : Int32) (x3 : Int32) (x4 : Int32) (x5 : Int32) (M : Mem) (a : Int64 × Mem) (h : fX8_copy o0 x1 x2 x3 x4 x5 M = some a) : CtP G l yX8_copy cX8_copy 7 (some .long) 2 45 [.ref (adr G o0), .int x1, .int x2, .int x3, .int x4, .int x5] M (some (.long a.1)) a.2 := by
  refine CtP.ofV (by decide) (Nat.le_of_ble_eq_true rfl) ?_
  refine (?_ : T G l RX8 cX8_copy 7 (some .long) (rmOf 2 45) 0 0 (FinM G (some (.long a.1)) a.2) (fun x => x = a) 0 [(0, .ref (adr G o0)), (1, .int x1), (2, .int x2), (3, .int x3), (4, .int x4), (5, .int x5)] [] M (fX8_copy o0 x1 x2 x3 x4 x5 M)) a h rfl
  clear h
  unfold fX8_copy
  refine T_iload_n (q := 1) dX8_copy_0 rfl rfl ?_
  refine T_callSi (As := [.int x1]) (st := []) ms_X8_208 (by decide) dX8_copy_1 (fun b hb => mX8_isSheet G l x1 M b hb) rfl rfl (Nat.le_of_ble_eq_true rfl) (fun b1 => ?_)
  refine T_if_eq (tgt := 14) dX8_copy_4 (by decide) (fun hc2 => ?_) (fun hc2 => ?_)
  · refine T_aload_n (q := 0) dX8_copy_14 rfl rfl ?_
    refine T_ldc2 dX8_copy_15 kcl_X8_98 ?_
    refine T_callVlw (As := [.long (-1000000000000000001 : Int64)]) (st := []) mv_X8_100 (by decide) dX8_copy_18 ho0 (fun b hb => mX8_told0 G l o0 ho0 (-1000000000000000001 : Int64) M b hb) rfl rfl (Nat.le_of_ble_eq_true rfl) (fun b3 => ?_)
    exact T_end (fun h => by cases h; exact V_lret dX8_copy_21)
  · refine T_iload_n (q := 3) dX8_copy_7 rfl rfl ?_
    refine T_callSi (As := [.int x3]) (st := []) ms_X8_208 (by decide) dX8_copy_8 (fun b hb => mX8_isSheet G l x3 M b hb) rfl rfl (Nat.le_of_ble_eq_true rfl) (fun b4 => ?_)
    refine T_if_ne (tgt := 22) dX8_copy_11 (by decide) (fun hc5 => ?_) (fun hc5 => ?_)
    · refine T_aload_n (q := 0) dX8_copy_14 rfl rfl ?_
      refine T_ldc2 dX8_copy_15 kcl_X8_98 ?_
      refine T_callVlw (As := [.long (-1000000000000000001 : Int64)]) (st := []) mv_X8_100 (by decide) dX8_copy_18 ho0 (fun b hb => mX8_told0 G l o0 ho0 (-1000000000000000001 : Int64) M b hb) rfl rfl (Nat.le_of_ble_eq_true rfl) (fun b6 => ?_)
      exact T_end (fun h => by cases h; exact V_lret dX8_copy_21)
    · refine T_aload_n (q := 0) dX8_copy_22 rfl rfl ?_
      refine T_getR cf7 fr_X8_44 dX8_copy_23 ho0 rfl ?_
      refine T_iload_n (q := 1) dX8_copy_26 rfl rfl ?_
      refine T_iald dX8_copy_27 (sf_7_15 ho0) ?_
      refine T_if_eq (tgt := 40) dX8_copy_28 (by decide) (fun hc7 => ?_) (fun hc7 => ?_)
      · refine T_aload_n (q := 0) dX8_copy_40 rfl rfl ?_
        refine T_ldc2 dX8_copy_41 kcl_X8_211 ?_
        refine T_callVlw (As := [.long (-1000000000000000002 : Int64)]) (st := []) mv_X8_100 (by decide) dX8_copy_44 ho0 (fun b hb => mX8_told0 G l o0 ho0 (-1000000000000000002 : Int64) M b hb) rfl rfl (Nat.le_of_ble_eq_true rfl) (fun b8 => ?_)
        exact T_end (fun h => by cases h; exact V_lret dX8_copy_47)
      · refine T_aload_n (q := 0) dX8_copy_31 rfl rfl ?_
        refine T_getR cf7 fr_X8_44 dX8_copy_32 ho0 rfl ?_
        refine T_iload_n (q := 3) dX8_copy_35 rfl rfl ?_
        refine T_iald dX8_copy_36 (sf_7_15 ho0) ?_
        refine T_if_ne (tgt := 48) dX8_copy_37 (by decide) (fun hc9 => ?_) (fun hc9 => ?_)
        · refine T_aload_n (q := 0) dX8_copy_40 rfl rfl ?_
          refine T_ldc2 dX8_copy_41 kcl_X8_211 ?_
          refine T_callVlw (As := [.long (-1000000000000000002 : Int64)]) (st := []) mv_X8_100 (by decide) dX8_copy_44 ho0 (fun b hb => mX8_told0 G l o0 ho0 (-1000000000000000002 : Int64) M b hb) rfl rfl (Nat.le_of_ble_eq_true rfl) (fun b10 => ?_)
          exact T_end (fun h => by cases h; exact V_lret dX8_copy_47)
        · refine T_aload_n (q := 0) dX8_copy_48 rfl rfl ?_
          refine T_getR cf7 fr_X8_44 dX8_copy_49 ho0 rfl ?_
          refine T_iload_n (q := 1) dX8_copy_52 rfl rfl ?_
          refine T_iald dX8_copy_53 (sf_7_15 ho0) ?_
          refine T_aload_n (q := 0) dX8_copy_54 rfl rfl ?_
          refine T_getR cf7 fr_X8_44 dX8_copy_55 ho0 rfl ?_
          refine T_iload_n (q := 3) dX8_copy_58 rfl rfl ?_
          refine T_iald dX8_copy_59 (sf_7_15 ho0) ?_
          refine T_icmp_eq (tgt := 71) dX8_copy_60 (by decide) (fun hc11 => ?_) (fun hc11 => ?_)
          · refine T_iload_n (q := 2) dX8_copy_71 rfl rfl ?_
            refine T_if_lt (tgt := 120) dX8_copy_72 (by decide) (fun hc12 => ?_) (fun hc12 => ?_)
            · refine T_aload_n (q := 0) dX8_copy_120 rfl rfl ?_
              refine T_ldc2 dX8_copy_121 kcl_X8_98 ?_
              refine T_callVlw (As := [.long (-1000000000000000001 : Int64)]) (st := []) mv_X8_100 (by decide) dX8_copy_124 ho0 (fun b hb => mX8_told0 G l o0 ho0 (-1000000000000000001 : Int64) M b hb) rfl rfl (Nat.le_of_ble_eq_true rfl) (fun b13 => ?_)
              exact T_end (fun h => by cases h; exact V_lret dX8_copy_127)
            · refine T_iload (q := 4) dX8_copy_75 rfl ?_
              refine T_if_lt (tgt := 120) dX8_copy_77 (by decide) (fun hc14 => ?_) (fun hc14 => ?_)
              · refine T_aload_n (q := 0) dX8_copy_120 rfl rfl ?_
                refine T_ldc2 dX8_copy_121 kcl_X8_98 ?_
                refine T_callVlw (As := [.long (-1000000000000000001 : Int64)]) (st := []) mv_X8_100 (by decide) dX8_copy_124 ho0 (fun b hb => mX8_told0 G l o0 ho0 (-1000000000000000001 : Int64) M b hb) rfl rfl (Nat.le_of_ble_eq_true rfl) (fun b15 => ?_)
                exact T_end (fun h => by cases h; exact V_lret dX8_copy_127)
              · refine T_iload (q := 5) dX8_copy_80 rfl ?_
                refine T_if_lt (tgt := 120) dX8_copy_82 (by decide) (fun hc16 => ?_) (fun hc16 => ?_)
                · refine T_aload_n (q := 0) dX8_copy_120 rfl rfl ?_
                  refine T_ldc2 dX8_copy_121 kcl_X8_98 ?_
                  refine T_callVlw (As := [.long (-1000000000000000001 : Int64)]) (st := []) mv_X8_100 (by decide) dX8_copy_124 ho0 (fun b hb => mX8_told0 G l o0 ho0 (-1000000000000000001 : Int64) M b hb) rfl rfl (Nat.le_of_ble_eq_true rfl) (fun b17 => ?_)
                  exact T_end (fun h => by cases h; exact V_lret dX8_copy_127)
                · refine T_iload_n (q := 2) dX8_copy_85 rfl rfl ?_
                  refine T_i2l dX8_copy_86 ?_
                  refine T_iload (q := 5) dX8_copy_87 rfl ?_
                  refine T_i2l dX8_copy_89 ?_
                  refine T_ladd dX8_copy_90 ?_
                  refine T_aload_n (q := 0) dX8_copy_91 rfl rfl ?_
                  refine T_getR cf7 fr_X8_47 dX8_copy_92 ho0 rfl ?_
                  refine T_iload_n (q := 1) dX8_copy_95 rfl rfl ?_
                  refine T_iald dX8_copy_96 (sf_7_16 ho0) ?_
                  refine T_i2l dX8_copy_97 ?_
                  refine T_lcmp dX8_copy_98 ?_
                  refine T_if_gt (tgt := 120) dX8_copy_99 (by decide) (fun hc18 => ?_) (fun hc18 => ?_)
                  · refine T_aload_n (q := 0) dX8_copy_120 rfl rfl ?_
                    refine T_ldc2 dX8_copy_121 kcl_X8_98 ?_
                    refine T_callVlw (As := [.long (-1000000000000000001 : Int64)]) (st := []) mv_X8_100 (by decide) dX8_copy_124 ho0 (fun b hb => mX8_told0 G l o0 ho0 (-1000000000000000001 : Int64) M b hb) rfl rfl (Nat.le_of_ble_eq_true rfl) (fun b19 => ?_)
                    exact T_end (fun h => by cases h; exact V_lret dX8_copy_127)
                  · refine T_iload (q := 4) dX8_copy_102 rfl ?_
                    refine T_i2l dX8_copy_104 ?_
                    refine T_iload (q := 5) dX8_copy_105 rfl ?_
                    refine T_i2l dX8_copy_107 ?_
                    refine T_ladd dX8_copy_108 ?_
                    refine T_aload_n (q := 0) dX8_copy_109 rfl rfl ?_
                    refine T_getR cf7 fr_X8_47 dX8_copy_110 ho0 rfl ?_
                    refine T_iload_n (q := 3) dX8_copy_113 rfl rfl ?_
                    refine T_iald dX8_copy_114 (sf_7_16 ho0) ?_
                    refine T_i2l dX8_copy_115 ?_
                    refine T_lcmp dX8_copy_116 ?_
                    refine T_if_le (tgt := 128) dX8_copy_117 (by decide) (fun hc20 => ?_) (fun hc20 => ?_)
                    · refine T_iconst (v := 0) dX8_copy_128 (by decide) ?_
                      refine T_istore (lv' := [(6, .int (0 : Int32)), (0, .ref (adr G o0)), (1, .int x1), (2, .int x2), (3, .int x3), (4, .int x4), (5, .int x5)]) dX8_copy_129 (by decide) rfl ?_
                      refine T_bind (X := fun r25 => V G l RX8 cX8_copy 7 (some .long) (rmOf 2 45) 0 0 (FinM G (some (.long a.1)) a.2) 165 [(6, .int r25.1), (0, .ref (adr G o0)), (1, .int x1), (2, .int x2), (3, .int x3), (4, .int x4), (5, .int x5)] [] r25.2) (T_loop (fun s21 => [(6, .int s21.1), (0, .ref (adr G o0)), (1, .int x1), (2, .int x2), (3, .int x3), (4, .int x4), (5, .int x5)]) (fun s21 => s21.2) (fun s21 => ?_) ((0 : Int32), M)) (fun r25 => ?_)
                      · unfold wX8_copy_131
                        refine T_iload (q := 0) dX8_copy_131 rfl ?_
                        refine T_iload (q := 6) dX8_copy_133 rfl ?_
                        refine T_icmp_ge (tgt := 165) dX8_copy_135 (by decide) (fun hc22 => ?_) (fun hc22 => ?_)
                        · exact T_end (fun h => V_sub [0, 1, 2, 3, 4, 5, 6] rfl h)
                        · refine T_aload_n (q := 1) dX8_copy_138 rfl rfl ?_
                          refine T_getR cf7 fr_X8_75 dX8_copy_139 ho0 rfl ?_
                          refine T_iload (q := 0) dX8_copy_142 rfl ?_
                          refine T_aload_n (q := 1) dX8_copy_144 rfl rfl ?_
                          refine T_getR cf7 fr_X8_50 dX8_copy_145 ho0 rfl ?_
                          refine T_bipush (v := 36) dX8_copy_148 (by decide) ?_
                          refine T_iload_n (q := 2) dX8_copy_150 rfl rfl ?_
                          refine T_imul dX8_copy_151 ?_
                          refine T_iload_n (q := 3) dX8_copy_152 rfl rfl ?_
                          refine T_iadd dX8_copy_153 ?_
                          refine T_iload (q := 0) dX8_copy_154 rfl ?_
                          refine T_iadd dX8_copy_156 ?_
                          refine T_iald dX8_copy_157 (sf_7_17 ho0) ?_
                          refine T_iast dX8_copy_158 (sf_7_25 ho0) (fun M23 => ?_)
                          refine T_iinc_G (q := 0) (y := s21.1 + 1) (lv' := fun v24 => [(6, .int v24), (0, .ref (adr G o0)), (1, .int x1), (2, .int x2), (3, .int x3), (4, .int x4), (5, .int x5)]) dX8_copy_159 rfl rfl (by decide) (fun _ => rfl) (fun v24 => ?_)
                          refine T_goto (tgt := 131) dX8_copy_162 (by decide) ?_
                          exact T_end (fun h => V_sub [0, 1, 2, 3, 4, 5, 6] rfl h)
                      · change T G l RX8 cX8_copy 7 (some .long) (rmOf 2 45) 0 0 (FinM G (some (.long a.1)) a.2) _ 165 [(6, .int r25.1), (0, .ref (adr G o0)), (1, .int x1), (2, .int x2), (3, .int x3), (4, .int x4), (5, .int x5)] [] r25.2 _
                        refine T_iconst (v := 0) dX8_copy_165 (by decide) ?_
                        refine T_istore (lv' := [(6, .int (0 : Int32)), (0, .ref (adr G o0)), (1, .int x1), (2, .int x2), (3, .int x3), (4, .int x4), (5, .int x5)]) dX8_copy_166 (by decide) rfl ?_
                        refine T_bind (X := fun r30 => V G l RX8 cX8_copy 7 (some .long) (rmOf 2 45) 0 0 (FinM G (some (.long a.1)) a.2) 203 [(6, .int r30.1), (0, .ref (adr G o0)), (1, .int x1), (2, .int x2), (3, .int x3), (4, .int x4), (5, .int x5)] [] r30.2) (T_loop (fun s26 => [(6, .int s26.1), (0, .ref (adr G o0)), (1, .int x1), (2, .int x2), (3, .int x3), (4, .int x4), (5, .int x5)]) (fun s26 => s26.2) (fun s26 => ?_) ((0 : Int32), r25.2)) (fun r30 => ?_)
                        · unfold wX8_copy_168
                          refine T_iload (q := 0) dX8_copy_168 rfl ?_
                          refine T_iload (q := 6) dX8_copy_170 rfl ?_
                          refine T_icmp_ge (tgt := 203) dX8_copy_172 (by decide) (fun hc27 => ?_) (fun hc27 => ?_)
                          · exact T_end (fun h => V_sub [0, 1, 2, 3, 4, 5, 6] rfl h)
                          · refine T_aload_n (q := 1) dX8_copy_175 rfl rfl ?_
                            refine T_getR cf7 fr_X8_50 dX8_copy_176 ho0 rfl ?_
                            refine T_bipush (v := 36) dX8_copy_179 (by decide) ?_
                            refine T_iload_n (q := 4) dX8_copy_181 rfl rfl ?_
                            refine T_imul dX8_copy_182 ?_
                            refine T_iload (q := 5) dX8_copy_183 rfl ?_
                            refine T_iadd dX8_copy_185 ?_
                            refine T_iload (q := 0) dX8_copy_186 rfl ?_
                            refine T_iadd dX8_copy_188 ?_
                            refine T_aload_n (q := 1) dX8_copy_189 rfl rfl ?_
                            refine T_getR cf7 fr_X8_75 dX8_copy_190 ho0 rfl ?_
                            refine T_iload (q := 0) dX8_copy_193 rfl ?_
                            refine T_iald dX8_copy_195 (sf_7_25 ho0) ?_
                            refine T_iast dX8_copy_196 (sf_7_17 ho0) (fun M28 => ?_)
                            refine T_iinc_G (q := 0) (y := s26.1 + 1) (lv' := fun v29 => [(6, .int v29), (0, .ref (adr G o0)), (1, .int x1), (2, .int x2), (3, .int x3), (4, .int x4), (5, .int x5)]) dX8_copy_197 rfl rfl (by decide) (fun _ => rfl) (fun v29 => ?_)
                            refine T_goto (tgt := 168) dX8_copy_200 (by decide) ?_
                            exact T_end (fun h => V_sub [0, 1, 2, 3, 4, 5, 6] rfl h)
                        · change T G l RX8 cX8_copy 7 (some .long) (rmOf 2 45) 0 0 (FinM G (some (.long a.1)) a.2) _ 203 [(6, .int r30.1), (0, .ref (adr G o0)), (1, .int x1), (2, .int x2), (3, .int x3), (4, .int x4), (5, .int x5)] [] r30.2 _
                          refine T_iload (q := 6) dX8_copy_203 rfl ?_
                          refine T_i2l dX8_copy_205 ?_
                          exact T_end (fun h => by cases h; exact V_lret dX8_copy_206)
                    · refine T_aload_n (q := 0) dX8_copy_120 rfl rfl ?_
                      refine T_ldc2 dX8_copy_121 kcl_X8_98 ?_
                      refine T_callVlw (As := [.long (-1000000000000000001 : Int64)]) (st := []) mv_X8_100 (by decide) dX8_copy_124 ho0 (fun b hb => mX8_told0 G l o0 ho0 (-1000000000000000001 : Int64) M b hb) rfl rfl (Nat.le_of_ble_eq_true rfl) (fun b31 => ?_)
                      exact T_end (fun h => by cases h; exact V_lret dX8_copy_127)
          · refine T_aload_n (q := 0) dX8_copy_63 rfl rfl ?_
            refine T_ldc2 dX8_copy_64 kcl_X8_110 ?_
            refine T_callVlw (As := [.long (-1000000000000000004 : Int64)]) (st := []) mv_X8_100 (by decide) dX8_copy_67 ho0 (fun b hb => mX8_told0 G l o0 ho0 (-1000000000000000004 : Int64) M b hb) rfl rfl (Nat.le_of_ble_eq_true rfl) (fun b32 => ?_)
            exact T_end (fun h => by cases h; exact V_lret dX8_copy_70)
set_option maxHeartbeats 4000000 in
set_option maxRecDepth 100000 in
theorem mX8_count (G : Gw) (l : Launch) (o0 : Nat) (ho0 : shp o0 = 7) (x1 : Int32) (x2 : Int32) (x3 : Int32) (M : Mem) (a : Int64 × Mem) (h : fX8_count o0 x1 x2 x3 M = some a) : CtP G l yX8_count cX8_count 4 (some .long) 2 46 [.ref (adr G o0), .int x1, .int x2, .int x3] M (some (.long a.1)) a.2 := by
  refine CtP.ofV (by decide) (Nat.le_of_ble_eq_true rfl) ?_
  refine (?_ : T G l RX8 cX8_count 4 (some .long) (rmOf 2 46) 0 0 (FinM G (some (.long a.1)) a.2) (fun x => x = a) 0 [(0, .ref (adr G o0)), (1, .int x1), (2, .int x2), (3, .int x3)] [] M (fX8_count o0 x1 x2 x3 M)) a h rfl
  clear h
  unfold fX8_count
  refine T_aload_n (q := 0) dX8_count_0 rfl rfl ?_
  refine T_iload_n (q := 1) dX8_count_1 rfl rfl ?_
  refine T_callVi (As := [.int x1]) (st := []) mv_X8_106 (by decide) dX8_count_2 ho0 (fun b hb => mX8_isUnit G l o0 ho0 x1 M b hb) rfl rfl (Nat.le_of_ble_eq_true rfl) (fun b1 => ?_)
  refine T_if_eq (tgt := 27) dX8_count_5 (by decide) (fun hc2 => ?_) (fun hc2 => ?_)
  · refine T_aload_n (q := 0) dX8_count_27 rfl rfl ?_
    refine T_ldc2 dX8_count_28 kcl_X8_98 ?_
    refine T_callVlw (As := [.long (-1000000000000000001 : Int64)]) (st := []) mv_X8_100 (by decide) dX8_count_31 ho0 (fun b hb => mX8_told0 G l o0 ho0 (-1000000000000000001 : Int64) M b hb) rfl rfl (Nat.le_of_ble_eq_true rfl) (fun b3 => ?_)
    exact T_end (fun h => by cases h; exact V_lret dX8_count_34)
  · refine T_iload_n (q := 2) dX8_count_8 rfl rfl ?_
    refine T_callSi (As := [.int x2]) (st := []) ms_X8_115 (by decide) dX8_count_9 (fun b hb => mX8_isYear G l x2 M b hb) rfl rfl (Nat.le_of_ble_eq_true rfl) (fun b4 => ?_)
    refine T_if_eq (tgt := 27) dX8_count_12 (by decide) (fun hc5 => ?_) (fun hc5 => ?_)
    · refine T_aload_n (q := 0) dX8_count_27 rfl rfl ?_
      refine T_ldc2 dX8_count_28 kcl_X8_98 ?_
      refine T_callVlw (As := [.long (-1000000000000000001 : Int64)]) (st := []) mv_X8_100 (by decide) dX8_count_31 ho0 (fun b hb => mX8_told0 G l o0 ho0 (-1000000000000000001 : Int64) M b hb) rfl rfl (Nat.le_of_ble_eq_true rfl) (fun b6 => ?_)
      exact T_end (fun h => by cases h; exact V_lret dX8_count_34)
    · refine T_iload_n (q := 3) dX8_count_15 rfl rfl ?_
      refine T_i2l dX8_count_16 ?_
      refine T_lconst (v := 0) dX8_count_17 (by decide) ?_
      refine T_ldc2 dX8_count_18 kcl_X8_196 ?_
      refine T_callSi (As := [.long x3.toInt64, .long (0 : Int64), .long (1000000 : Int64)]) (st := []) ms_X8_86 (by decide) dX8_count_21 (fun b hb => mX8_in G l x3.toInt64 (0 : Int64) (1000000 : Int64) M b hb) rfl rfl (Nat.le_of_ble_eq_true rfl) (fun b7 => ?_)
      refine T_if_ne (tgt := 35) dX8_count_24 (by decide) (fun hc8 => ?_) (fun hc8 => ?_)
      · refine T_aload_n (q := 0) dX8_count_27 rfl rfl ?_
        refine T_ldc2 dX8_count_28 kcl_X8_98 ?_
        refine T_callVlw (As := [.long (-1000000000000000001 : Int64)]) (st := []) mv_X8_100 (by decide) dX8_count_31 ho0 (fun b hb => mX8_told0 G l o0 ho0 (-1000000000000000001 : Int64) M b hb) rfl rfl (Nat.le_of_ble_eq_true rfl) (fun b9 => ?_)
        exact T_end (fun h => by cases h; exact V_lret dX8_count_34)
      · refine T_aload_n (q := 0) dX8_count_35 rfl rfl ?_
        refine T_iload_n (q := 1) dX8_count_36 rfl rfl ?_
        refine T_callVi (As := [.int x1]) (st := []) mv_X8_118 (by decide) dX8_count_37 ho0 (fun b hb => mX8_isHundred G l o0 ho0 x1 M b hb) rfl rfl (Nat.le_of_ble_eq_true rfl) (fun b10 => ?_)
        refine T_if_eq (tgt := 51) dX8_count_40 (by decide) (fun hc11 => ?_) (fun hc11 => ?_)
        · refine T_aload_n (q := 0) dX8_count_51 rfl rfl ?_
          refine T_getI cf7 fr_X8_198 dX8_count_52 ho0 rfl ?_
          refine T_bipush (v := 20) dX8_count_55 (by decide) ?_
          refine T_icmp_ne (tgt := 68) dX8_count_57 (by decide) (fun hc12 => ?_) (fun hc12 => ?_)
          · refine T_aload_n (q := 0) dX8_count_60 rfl rfl ?_
            refine T_ldc2 dX8_count_61 kcl_X8_104 ?_
            refine T_callVlw (As := [.long (-1000000000000000005 : Int64)]) (st := []) mv_X8_100 (by decide) dX8_count_64 ho0 (fun b hb => mX8_told0 G l o0 ho0 (-1000000000000000005 : Int64) M b hb) rfl rfl (Nat.le_of_ble_eq_true rfl) (fun b13 => ?_)
            exact T_end (fun h => by cases h; exact V_lret dX8_count_67)
          · refine T_aload_n (q := 0) dX8_count_68 rfl rfl ?_
            refine T_getR cf7 fr_X8_35 dX8_count_69 ho0 rfl ?_
            refine T_aload_n (q := 0) dX8_count_72 rfl rfl ?_
            refine T_getI cf7 fr_X8_198 dX8_count_73 ho0 rfl ?_
            refine T_iload_n (q := 1) dX8_count_76 rfl rfl ?_
            refine T_iast dX8_count_77 (sf_7_12 ho0) (fun M14 => ?_)
            refine T_aload_n (q := 0) dX8_count_78 rfl rfl ?_
            refine T_getR cf7 fr_X8_38 dX8_count_79 ho0 rfl ?_
            refine T_aload_n (q := 0) dX8_count_82 rfl rfl ?_
            refine T_getI cf7 fr_X8_198 dX8_count_83 ho0 rfl ?_
            refine T_iload_n (q := 2) dX8_count_86 rfl rfl ?_
            refine T_iast dX8_count_87 (sf_7_13 ho0) (fun M15 => ?_)
            refine T_aload_n (q := 0) dX8_count_88 rfl rfl ?_
            refine T_getR cf7 fr_X8_41 dX8_count_89 ho0 rfl ?_
            refine T_aload_n (q := 0) dX8_count_92 rfl rfl ?_
            refine T_getI cf7 fr_X8_198 dX8_count_93 ho0 rfl ?_
            refine T_iload_n (q := 3) dX8_count_96 rfl rfl ?_
            refine T_iast dX8_count_97 (sf_7_14 ho0) (fun M16 => ?_)
            refine T_aload_n (q := 0) dX8_count_98 rfl rfl ?_
            refine T_dup dX8_count_99 rfl ?_
            refine T_getI cf7 fr_X8_198 dX8_count_100 ho0 rfl ?_
            refine T_iconst (v := 1) dX8_count_103 (by decide) ?_
            refine T_iadd dX8_count_104 ?_
            refine T_putI cf7 fr_X8_198 pt_7_2 dX8_count_105 ho0 rfl (fun M17 => ?_)
            refine T_aload_n (q := 0) dX8_count_108 rfl rfl ?_
            refine T_getI cf7 fr_X8_198 dX8_count_109 ho0 rfl ?_
            refine T_i2l dX8_count_112 ?_
            exact T_end (fun h => by cases h; exact V_lret dX8_count_113)
        · refine T_aload_n (q := 0) dX8_count_43 rfl rfl ?_
          refine T_ldc2 dX8_count_44 kcl_X8_110 ?_
          refine T_callVlw (As := [.long (-1000000000000000004 : Int64)]) (st := []) mv_X8_100 (by decide) dX8_count_47 ho0 (fun b hb => mX8_told0 G l o0 ho0 (-1000000000000000004 : Int64) M b hb) rfl rfl (Nat.le_of_ble_eq_true rfl) (fun b18 => ?_)
          exact T_end (fun h => by cases h; exact V_lret dX8_count_50)
set_option maxHeartbeats 4000000 in
set_option maxRecDepth 100000 in
theorem mX8_found (G : Gw) (l : Launch) (o0 : Nat) (ho0 : shp o0 = 7) (x1 : Int32) (x2 : Int32) (x3 : Int64) (M : Mem) (a : Int64 × Mem) (h : fX8_found o0 x1 x2 x3 M = some a) : CtP G l yX8_found cX8_found 5 (some .long) 2 48 [.ref (adr G o0), .int x1, .int x2, .long x3] M (some (.long a.1)) a.2 := by
  refine CtP.ofV (by decide) (Nat.le_of_ble_eq_true rfl) ?_
  refine (?_ : T G l RX8 cX8_found 5 (some .long) (rmOf 2 48) 0 0 (FinM G (some (.long a.1)) a.2) (fun x => x = a) 0 [(0, .ref (adr G o0)), (1, .int x1), (2, .int x2), (3, .long x3)] [] M (fX8_found o0 x1 x2 x3 M)) a h rfl
  clear h
  unfold fX8_found
  refine T_aload_n (q := 0) dX8_found_0 rfl rfl ?_
  refine T_iload_n (q := 1) dX8_found_1 rfl rfl ?_
  refine T_callVi (As := [.int x1]) (st := []) mv_X8_106 (by decide) dX8_found_2 ho0 (fun b hb => mX8_isUnit G l o0 ho0 x1 M b hb) rfl rfl (Nat.le_of_ble_eq_true rfl) (fun b1 => ?_)
  refine T_if_eq (tgt := 30) dX8_found_5 (by decide) (fun hc2 => ?_) (fun hc2 => ?_)
  · refine T_aload_n (q := 0) dX8_found_30 rfl rfl ?_
    refine T_ldc2 dX8_found_31 kcl_X8_98 ?_
    refine T_callVlw (As := [.long (-1000000000000000001 : Int64)]) (st := []) mv_X8_100 (by decide) dX8_found_34 ho0 (fun b hb => mX8_told0 G l o0 ho0 (-1000000000000000001 : Int64) M b hb) rfl rfl (Nat.le_of_ble_eq_true rfl) (fun b3 => ?_)
    exact T_end (fun h => by cases h; exact V_lret dX8_found_37)
  · refine T_iload_n (q := 2) dX8_found_8 rfl rfl ?_
    refine T_callSi (As := [.int x2]) (st := []) ms_X8_115 (by decide) dX8_found_9 (fun b hb => mX8_isYear G l x2 M b hb) rfl rfl (Nat.le_of_ble_eq_true rfl) (fun b4 => ?_)
    refine T_if_eq (tgt := 30) dX8_found_12 (by decide) (fun hc5 => ?_) (fun hc5 => ?_)
    · refine T_aload_n (q := 0) dX8_found_30 rfl rfl ?_
      refine T_ldc2 dX8_found_31 kcl_X8_98 ?_
      refine T_callVlw (As := [.long (-1000000000000000001 : Int64)]) (st := []) mv_X8_100 (by decide) dX8_found_34 ho0 (fun b hb => mX8_told0 G l o0 ho0 (-1000000000000000001 : Int64) M b hb) rfl rfl (Nat.le_of_ble_eq_true rfl) (fun b6 => ?_)
      exact T_end (fun h => by cases h; exact V_lret dX8_found_37)
    · refine T_lload_n (q := 3) dX8_found_15 rfl rfl ?_
      refine T_lconst (v := 0) dX8_found_16 (by decide) ?_
      refine T_lcmp dX8_found_17 ?_
      refine T_if_lt (tgt := 30) dX8_found_18 (by decide) (fun hc7 => ?_) (fun hc7 => ?_)
      · refine T_aload_n (q := 0) dX8_found_30 rfl rfl ?_
        refine T_ldc2 dX8_found_31 kcl_X8_98 ?_
        refine T_callVlw (As := [.long (-1000000000000000001 : Int64)]) (st := []) mv_X8_100 (by decide) dX8_found_34 ho0 (fun b hb => mX8_told0 G l o0 ho0 (-1000000000000000001 : Int64) M b hb) rfl rfl (Nat.le_of_ble_eq_true rfl) (fun b8 => ?_)
        exact T_end (fun h => by cases h; exact V_lret dX8_found_37)
      · refine T_lload_n (q := 3) dX8_found_21 rfl rfl ?_
        refine T_bipush (v := 36) dX8_found_22 (by decide) ?_
        refine T_lshr dX8_found_24 ?_
        refine T_lconst (v := 0) dX8_found_25 (by decide) ?_
        refine T_lcmp dX8_found_26 ?_
        refine T_if_eq (tgt := 38) dX8_found_27 (by decide) (fun hc9 => ?_) (fun hc9 => ?_)
        · refine T_aload_n (q := 0) dX8_found_38 rfl rfl ?_
          refine T_iload_n (q := 1) dX8_found_39 rfl rfl ?_
          refine T_callVi (As := [.int x1]) (st := []) mv_X8_118 (by decide) dX8_found_40 ho0 (fun b hb => mX8_isHundred G l o0 ho0 x1 M b hb) rfl rfl (Nat.le_of_ble_eq_true rfl) (fun b10 => ?_)
          refine T_if_eq (tgt := 56) dX8_found_43 (by decide) (fun hc11 => ?_) (fun hc11 => ?_)
          · refine T_aload_n (q := 0) dX8_found_56 rfl rfl ?_
            refine T_iconst (v := 0) dX8_found_57 (by decide) ?_
            refine T_iload_n (q := 2) dX8_found_58 rfl rfl ?_
            refine T_iload_n (q := 1) dX8_found_59 rfl rfl ?_
            refine T_iconst (v := -1) dX8_found_60 (by decide) ?_
            refine T_lload_n (q := 3) dX8_found_61 rfl rfl ?_
            refine T_callVlw (As := [.int (0 : Int32), .int x2, .int x1, .int (-1 : Int32), .long x3]) (st := []) mv_X8_121 (by decide) dX8_found_62 ho0 (fun b hb => mX8_add G l o0 ho0 (0 : Int32) x2 x1 (-1 : Int32) x3 M b hb) rfl rfl (Nat.le_of_ble_eq_true rfl) (fun b12 => ?_)
            exact T_end (fun h => by cases h; exact V_lret dX8_found_65)
          · refine T_aload_n (q := 0) dX8_found_46 rfl rfl ?_
            refine T_ldc2 dX8_found_47 kcl_X8_110 ?_
            refine T_callVlw (As := [.long (-1000000000000000004 : Int64)]) (st := []) mv_X8_100 (by decide) dX8_found_50 ho0 (fun b hb => mX8_told0 G l o0 ho0 (-1000000000000000004 : Int64) M b hb) rfl rfl (Nat.le_of_ble_eq_true rfl) (fun b13 => ?_)
            refine T_goto (tgt := 65) dX8_found_53 (by decide) ?_
            exact T_end (fun h => by cases h; exact V_lret dX8_found_65)
        · refine T_aload_n (q := 0) dX8_found_30 rfl rfl ?_
          refine T_ldc2 dX8_found_31 kcl_X8_98 ?_
          refine T_callVlw (As := [.long (-1000000000000000001 : Int64)]) (st := []) mv_X8_100 (by decide) dX8_found_34 ho0 (fun b hb => mX8_told0 G l o0 ho0 (-1000000000000000001 : Int64) M b hb) rfl rfl (Nat.le_of_ble_eq_true rfl) (fun b14 => ?_)
          exact T_end (fun h => by cases h; exact V_lret dX8_found_37)
set_option maxHeartbeats 4000000 in
set_option maxRecDepth 100000 in
theorem mX8_has (G : Gw) (l : Launch) (x0 : Int64) (x2 : Int32) (M : Mem) (a : Int32) (h : fX8_has x0 x2 = some a) : CtP G l yX8_has cX8_has 3 (some .boolean) 0 0 [.long x0, .int x2] M (some (.int a)) M := by
  refine CtP.ofV (by decide) (Nat.le_of_ble_eq_true rfl) ?_
  refine (?_ : T G l RX8 cX8_has 3 (some .boolean) (rmOf 0 0) 0 0 (FinM G (some (.int a)) M) (fun x => x = a) 0 [(0, .long x0), (2, .int x2)] [] M (fX8_has x0 x2)) a h rfl
  clear h
  unfold fX8_has
  refine T_iload_n (q := 1) dX8_has_0 rfl rfl ?_
  refine T_if_lt (tgt := 18) dX8_has_1 (by decide) (fun hc1 => ?_) (fun hc1 => ?_)
  · refine T_iconst (v := 0) dX8_has_18 (by decide) ?_
    exact T_end (fun h => by cases h; exact V_zret (Or.inl rfl) dX8_has_19)
  · refine T_lload_n (q := 0) dX8_has_4 rfl rfl ?_
    refine T_iload_n (q := 1) dX8_has_5 rfl rfl ?_
    refine T_lshr dX8_has_6 ?_
    refine T_lconst (v := 1) dX8_has_7 (by decide) ?_
    refine T_land dX8_has_8 ?_
    refine T_lconst (v := 1) dX8_has_9 (by decide) ?_
    refine T_lcmp dX8_has_10 ?_
    refine T_if_ne (tgt := 18) dX8_has_11 (by decide) (fun hc2 => ?_) (fun hc2 => ?_)
    · refine T_iconst (v := 1) dX8_has_14 (by decide) ?_
      refine T_goto (tgt := 19) dX8_has_15 (by decide) ?_
      exact T_end (fun h => by cases h; exact V_zret (Or.inr rfl) dX8_has_19)
    · refine T_iconst (v := 0) dX8_has_18 (by decide) ?_
      exact T_end (fun h => by cases h; exact V_zret (Or.inl rfl) dX8_has_19)
set_option maxHeartbeats 4000000 in
set_option maxRecDepth 100000 in
theorem mX8_join (G : Gw) (l : Launch) (o0 : Nat) (ho0 : shp o0 = 7) (x1 : Int32) (x2 : Int32) (x3 : Int32) (M : Mem) (a : Int64 × Mem) (h : fX8_join o0 x1 x2 x3 M = some a) : CtP G l yX8_join cX8_join 4 (some .long) 2 48 [.ref (adr G o0), .int x1, .int x2, .int x3] M (some (.long a.1)) a.2 := by
  refine CtP.ofV (by decide) (Nat.le_of_ble_eq_true rfl) ?_
  refine (?_ : T G l RX8 cX8_join 4 (some .long) (rmOf 2 48) 0 0 (FinM G (some (.long a.1)) a.2) (fun x => x = a) 0 [(0, .ref (adr G o0)), (1, .int x1), (2, .int x2), (3, .int x3)] [] M (fX8_join o0 x1 x2 x3 M)) a h rfl
  clear h
  unfold fX8_join
  refine T_aload_n (q := 0) dX8_join_0 rfl rfl ?_
  refine T_iload_n (q := 1) dX8_join_1 rfl rfl ?_
  refine T_callVi (As := [.int x1]) (st := []) mv_X8_106 (by decide) dX8_join_2 ho0 (fun b hb => mX8_isUnit G l o0 ho0 x1 M b hb) rfl rfl (Nat.le_of_ble_eq_true rfl) (fun b1 => ?_)
  refine T_if_eq (tgt := 23) dX8_join_5 (by decide) (fun hc2 => ?_) (fun hc2 => ?_)
  · refine T_aload_n (q := 0) dX8_join_23 rfl rfl ?_
    refine T_ldc2 dX8_join_24 kcl_X8_98 ?_
    refine T_callVlw (As := [.long (-1000000000000000001 : Int64)]) (st := []) mv_X8_100 (by decide) dX8_join_27 ho0 (fun b hb => mX8_told0 G l o0 ho0 (-1000000000000000001 : Int64) M b hb) rfl rfl (Nat.le_of_ble_eq_true rfl) (fun b3 => ?_)
    exact T_end (fun h => by cases h; exact V_lret dX8_join_30)
  · refine T_aload_n (q := 0) dX8_join_8 rfl rfl ?_
    refine T_iload_n (q := 2) dX8_join_9 rfl rfl ?_
    refine T_callVi (As := [.int x2]) (st := []) mv_X8_106 (by decide) dX8_join_10 ho0 (fun b hb => mX8_isUnit G l o0 ho0 x2 M b hb) rfl rfl (Nat.le_of_ble_eq_true rfl) (fun b4 => ?_)
    refine T_if_eq (tgt := 23) dX8_join_13 (by decide) (fun hc5 => ?_) (fun hc5 => ?_)
    · refine T_aload_n (q := 0) dX8_join_23 rfl rfl ?_
      refine T_ldc2 dX8_join_24 kcl_X8_98 ?_
      refine T_callVlw (As := [.long (-1000000000000000001 : Int64)]) (st := []) mv_X8_100 (by decide) dX8_join_27 ho0 (fun b hb => mX8_told0 G l o0 ho0 (-1000000000000000001 : Int64) M b hb) rfl rfl (Nat.le_of_ble_eq_true rfl) (fun b6 => ?_)
      exact T_end (fun h => by cases h; exact V_lret dX8_join_30)
    · refine T_iload_n (q := 3) dX8_join_16 rfl rfl ?_
      refine T_callSi (As := [.int x3]) (st := []) ms_X8_115 (by decide) dX8_join_17 (fun b hb => mX8_isYear G l x3 M b hb) rfl rfl (Nat.le_of_ble_eq_true rfl) (fun b7 => ?_)
      refine T_if_ne (tgt := 31) dX8_join_20 (by decide) (fun hc8 => ?_) (fun hc8 => ?_)
      · refine T_aload_n (q := 0) dX8_join_23 rfl rfl ?_
        refine T_ldc2 dX8_join_24 kcl_X8_98 ?_
        refine T_callVlw (As := [.long (-1000000000000000001 : Int64)]) (st := []) mv_X8_100 (by decide) dX8_join_27 ho0 (fun b hb => mX8_told0 G l o0 ho0 (-1000000000000000001 : Int64) M b hb) rfl rfl (Nat.le_of_ble_eq_true rfl) (fun b9 => ?_)
        exact T_end (fun h => by cases h; exact V_lret dX8_join_30)
      · refine T_aload_n (q := 0) dX8_join_31 rfl rfl ?_
        refine T_iload_n (q := 1) dX8_join_32 rfl rfl ?_
        refine T_callVi (As := [.int x1]) (st := []) mv_X8_118 (by decide) dX8_join_33 ho0 (fun b hb => mX8_isHundred G l o0 ho0 x1 M b hb) rfl rfl (Nat.le_of_ble_eq_true rfl) (fun b10 => ?_)
        refine T_if_ne (tgt := 47) dX8_join_36 (by decide) (fun hc11 => ?_) (fun hc11 => ?_)
        · refine T_aload_n (q := 0) dX8_join_39 rfl rfl ?_
          refine T_iload_n (q := 2) dX8_join_40 rfl rfl ?_
          refine T_callVi (As := [.int x2]) (st := []) mv_X8_118 (by decide) dX8_join_41 ho0 (fun b hb => mX8_isHundred G l o0 ho0 x2 M b hb) rfl rfl (Nat.le_of_ble_eq_true rfl) (fun b12 => ?_)
          refine T_if_ne (tgt := 57) dX8_join_44 (by decide) (fun hc13 => ?_) (fun hc13 => ?_)
          · refine T_aload_n (q := 0) dX8_join_47 rfl rfl ?_
            refine T_ldc2 dX8_join_48 kcl_X8_110 ?_
            refine T_callVlw (As := [.long (-1000000000000000004 : Int64)]) (st := []) mv_X8_100 (by decide) dX8_join_51 ho0 (fun b hb => mX8_told0 G l o0 ho0 (-1000000000000000004 : Int64) M b hb) rfl rfl (Nat.le_of_ble_eq_true rfl) (fun b14 => ?_)
            refine T_goto (tgt := 66) dX8_join_54 (by decide) ?_
            exact T_end (fun h => by cases h; exact V_lret dX8_join_66)
          · refine T_aload_n (q := 0) dX8_join_57 rfl rfl ?_
            refine T_iconst (v := 4) dX8_join_58 (by decide) ?_
            refine T_iload_n (q := 3) dX8_join_59 rfl rfl ?_
            refine T_iload_n (q := 1) dX8_join_60 rfl rfl ?_
            refine T_iload_n (q := 2) dX8_join_61 rfl rfl ?_
            refine T_lconst (v := 0) dX8_join_62 (by decide) ?_
            refine T_callVlw (As := [.int (4 : Int32), .int x3, .int x1, .int x2, .long (0 : Int64)]) (st := []) mv_X8_121 (by decide) dX8_join_63 ho0 (fun b hb => mX8_add G l o0 ho0 (4 : Int32) x3 x1 x2 (0 : Int64) M b hb) rfl rfl (Nat.le_of_ble_eq_true rfl) (fun b15 => ?_)
            exact T_end (fun h => by cases h; exact V_lret dX8_join_66)
        · refine T_aload_n (q := 0) dX8_join_47 rfl rfl ?_
          refine T_ldc2 dX8_join_48 kcl_X8_110 ?_
          refine T_callVlw (As := [.long (-1000000000000000004 : Int64)]) (st := []) mv_X8_100 (by decide) dX8_join_51 ho0 (fun b hb => mX8_told0 G l o0 ho0 (-1000000000000000004 : Int64) M b hb) rfl rfl (Nat.le_of_ble_eq_true rfl) (fun b16 => ?_)
          refine T_goto (tgt := 66) dX8_join_54 (by decide) ?_
          exact T_end (fun h => by cases h; exact V_lret dX8_join_66)
set_option maxHeartbeats 4000000 in
set_option maxRecDepth 100000 in
theorem mX8_lay (G : Gw) (l : Launch) (o0 : Nat) (ho0 : shp o0 = 7) (x1 : Int32) (x2 : Int32) (M : Mem) (a : Int64 × Mem) (h : fX8_lay o0 x1 x2 M = some a) : CtP G l yX8_lay cX8_lay 6 (some .long) 2 46 [.ref (adr G o0), .int x1, .int x2] M (some (.long a.1)) a.2 := by
  refine CtP.ofV (by decide) (Nat.le_of_ble_eq_true rfl) ?_
  refine (?_ : T G l RX8 cX8_lay 6 (some .long) (rmOf 2 46) 0 0 (FinM G (some (.long a.1)) a.2) (fun x => x = a) 0 [(0, .ref (adr G o0)), (1, .int x1), (2, .int x2)] [] M (fX8_lay o0 x1 x2 M)) a h rfl
  clear h
  unfold fX8_lay
  refine T_iload_n (q := 1) dX8_lay_0 rfl rfl ?_
  refine T_callSi (As := [.int x1]) (st := []) ms_X8_187 (by decide) dX8_lay_1 (fun b hb => mX8_isMap G l x1 M b hb) rfl rfl (Nat.le_of_ble_eq_true rfl) (fun b1 => ?_)
  refine T_if_eq (tgt := 14) dX8_lay_4 (by decide) (fun hc2 => ?_) (fun hc2 => ?_)
  · refine T_aload_n (q := 0) dX8_lay_14 rfl rfl ?_
    refine T_ldc2 dX8_lay_15 kcl_X8_98 ?_
    refine T_callVlw (As := [.long (-1000000000000000001 : Int64)]) (st := []) mv_X8_100 (by decide) dX8_lay_18 ho0 (fun b hb => mX8_told0 G l o0 ho0 (-1000000000000000001 : Int64) M b hb) rfl rfl (Nat.le_of_ble_eq_true rfl) (fun b3 => ?_)
    exact T_end (fun h => by cases h; exact V_lret dX8_lay_21)
  · refine T_iload_n (q := 2) dX8_lay_7 rfl rfl ?_
    refine T_callSi (As := [.int x2]) (st := []) ms_X8_208 (by decide) dX8_lay_8 (fun b hb => mX8_isSheet G l x2 M b hb) rfl rfl (Nat.le_of_ble_eq_true rfl) (fun b4 => ?_)
    refine T_if_ne (tgt := 22) dX8_lay_11 (by decide) (fun hc5 => ?_) (fun hc5 => ?_)
    · refine T_aload_n (q := 0) dX8_lay_14 rfl rfl ?_
      refine T_ldc2 dX8_lay_15 kcl_X8_98 ?_
      refine T_callVlw (As := [.long (-1000000000000000001 : Int64)]) (st := []) mv_X8_100 (by decide) dX8_lay_18 ho0 (fun b hb => mX8_told0 G l o0 ho0 (-1000000000000000001 : Int64) M b hb) rfl rfl (Nat.le_of_ble_eq_true rfl) (fun b6 => ?_)
      exact T_end (fun h => by cases h; exact V_lret dX8_lay_21)
    · refine T_aload_n (q := 0) dX8_lay_22 rfl rfl ?_
      refine T_getR cf7 fr_X8_44 dX8_lay_23 ho0 rfl ?_
      refine T_iload_n (q := 2) dX8_lay_26 rfl rfl ?_
      refine T_iald dX8_lay_27 (sf_7_15 ho0) ?_
      refine T_if_ne (tgt := 39) dX8_lay_28 (by decide) (fun hc7 => ?_) (fun hc7 => ?_)
      · refine T_aload_n (q := 0) dX8_lay_31 rfl rfl ?_
        refine T_ldc2 dX8_lay_32 kcl_X8_211 ?_
        refine T_callVlw (As := [.long (-1000000000000000002 : Int64)]) (st := []) mv_X8_100 (by decide) dX8_lay_35 ho0 (fun b hb => mX8_told0 G l o0 ho0 (-1000000000000000002 : Int64) M b hb) rfl rfl (Nat.le_of_ble_eq_true rfl) (fun b8 => ?_)
        exact T_end (fun h => by cases h; exact V_lret dX8_lay_38)
      · refine T_iconst (v := 0) dX8_lay_39 (by decide) ?_
        refine T_istore_n (lv' := [(3, .int (0 : Int32)), (0, .ref (adr G o0)), (1, .int x1), (2, .int x2)]) dX8_lay_40 rfl (by decide) rfl ?_
        refine T_bind (X := fun r24 => V G l RX8 cX8_lay 6 (some .long) (rmOf 2 46) 0 0 (FinM G (some (.long a.1)) a.2) 134 [(3, .int r24.1), (0, .ref (adr G o0)), (1, .int x1), (2, .int x2)] [] r24.2) (T_loop (fun s9 => [(3, .int s9.1), (0, .ref (adr G o0)), (1, .int x1), (2, .int x2)]) (fun s9 => s9.2) (fun s9 => ?_) ((0 : Int32), M)) (fun r24 => ?_)
        · unfold wX8_lay_41
          refine T_iload_n (q := 0) dX8_lay_41 rfl rfl ?_
          refine T_bipush (v := 36) dX8_lay_42 (by decide) ?_
          refine T_icmp_ge (tgt := 134) dX8_lay_44 (by decide) (fun hc10 => ?_) (fun hc10 => ?_)
          · exact T_end (fun h => V_sub [0, 1, 2, 3] rfl h)
          · refine T_iload_n (q := 0) dX8_lay_47 rfl rfl ?_
            refine T_aload_n (q := 1) dX8_lay_48 rfl rfl ?_
            refine T_getR cf7 fr_X8_47 dX8_lay_49 ho0 rfl ?_
            refine T_iload_n (q := 3) dX8_lay_52 rfl rfl ?_
            refine T_iald dX8_lay_53 (sf_7_16 ho0) ?_
            refine T_bind (X := fun j11 => V G l RX8 cX8_lay 6 (some .long) (rmOf 2 46) 0 0 (FinM G (some (.long a.1)) a.2) 72 [(3, .int s9.1), (0, .ref (adr G o0)), (1, .int x1), (2, .int x2)] [.int j11] s9.2) ?_ (fun j11 => ?_)
            · refine T_icmp_ge (tgt := 71) dX8_lay_54 (by decide) (fun hc12 => ?_) (fun hc12 => ?_)
              · refine T_iconst (v := -1) dX8_lay_71 (by decide) ?_
                exact T_end (fun h => V_sub [0, 1, 2, 3] rfl h)
              · refine T_aload_n (q := 1) dX8_lay_57 rfl rfl ?_
                refine T_getR cf7 fr_X8_50 dX8_lay_58 ho0 rfl ?_
                refine T_bipush (v := 36) dX8_lay_61 (by decide) ?_
                refine T_iload_n (q := 3) dX8_lay_63 rfl rfl ?_
                refine T_imul dX8_lay_64 ?_
                refine T_iload_n (q := 0) dX8_lay_65 rfl rfl ?_
                refine T_iadd dX8_lay_66 ?_
                refine T_iald dX8_lay_67 (sf_7_17 ho0) ?_
                refine T_goto (tgt := 72) dX8_lay_68 (by decide) ?_
                exact T_end (fun h => V_sub [0, 1, 2, 3] rfl h)
            · change T G l RX8 cX8_lay 6 (some .long) (rmOf 2 46) 0 0 (FinM G (some (.long a.1)) a.2) _ 72 [(3, .int s9.1), (0, .ref (adr G o0)), (1, .int x1), (2, .int x2)] [.int j11] s9.2 _
              refine T_istore (lv' := [(4, .int j11), (3, .int s9.1), (0, .ref (adr G o0)), (1, .int x1), (2, .int x2)]) dX8_lay_72 (by decide) rfl ?_
              refine T_iload (q := 0) dX8_lay_74 rfl ?_
              refine T_bipush (v := 10) dX8_lay_76 (by decide) ?_
              refine T_bind (X := fun j13 => V G l RX8 cX8_lay 6 (some .long) (rmOf 2 46) 0 0 (FinM G (some (.long a.1)) a.2) 104 [(4, .int j11), (3, .int s9.1), (0, .ref (adr G o0)), (1, .int x1), (2, .int x2)] [.int j13] s9.2) ?_ (fun j13 => ?_)
              · refine T_icmp_eq (tgt := 99) dX8_lay_78 (by decide) (fun hc14 => ?_) (fun hc14 => ?_)
                · refine T_iconst (v := 1) dX8_lay_99 (by decide) ?_
                  refine T_goto (tgt := 104) dX8_lay_100 (by decide) ?_
                  exact T_end (fun h => V_sub [0, 1, 2, 3, 4] rfl h)
                · refine T_aload_n (q := 2) dX8_lay_81 rfl rfl ?_
                  refine T_iload (q := 0) dX8_lay_82 rfl ?_
                  refine T_callVi (As := [.int j11]) (st := []) mv_X8_106 (by decide) dX8_lay_84 ho0 (fun b hb => mX8_isUnit G l o0 ho0 j11 s9.2 b hb) rfl rfl (Nat.le_of_ble_eq_true rfl) (fun b15 => ?_)
                  refine T_if_eq (tgt := 103) dX8_lay_87 (by decide) (fun hc16 => ?_) (fun hc16 => ?_)
                  · refine T_iconst (v := 0) dX8_lay_103 (by decide) ?_
                    exact T_end (fun h => V_sub [0, 1, 2, 3, 4] rfl h)
                  · refine T_aload_n (q := 2) dX8_lay_90 rfl rfl ?_
                    refine T_iload (q := 0) dX8_lay_91 rfl ?_
                    refine T_callVi (As := [.int j11]) (st := []) mv_X8_118 (by decide) dX8_lay_93 ho0 (fun b hb => mX8_isHundred G l o0 ho0 j11 s9.2 b hb) rfl rfl (Nat.le_of_ble_eq_true rfl) (fun b17 => ?_)
                    refine T_if_ne (tgt := 103) dX8_lay_96 (by decide) (fun hc18 => ?_) (fun hc18 => ?_)
                    · refine T_iconst (v := 1) dX8_lay_99 (by decide) ?_
                      refine T_goto (tgt := 104) dX8_lay_100 (by decide) ?_
                      exact T_end (fun h => V_sub [0, 1, 2, 3, 4] rfl h)
                    · refine T_iconst (v := 0) dX8_lay_103 (by decide) ?_
                      exact T_end (fun h => V_sub [0, 1, 2, 3, 4] rfl h)
              · change T G l RX8 cX8_lay 6 (some .long) (rmOf 2 46) 0 0 (FinM G (some (.long a.1)) a.2) _ 104 [(4, .int j11), (3, .int s9.1), (0, .ref (adr G o0)), (1, .int x1), (2, .int x2)] [.int j13] s9.2 _
                refine T_istore (lv' := [(5, .int j13), (4, .int j11), (3, .int s9.1), (0, .ref (adr G o0)), (1, .int x1), (2, .int x2)]) dX8_lay_104 (by decide) rfl ?_
                refine T_aload_n (q := 3) dX8_lay_106 rfl rfl ?_
                refine T_getR cf7 fr_X8_32 dX8_lay_107 ho0 rfl ?_
                refine T_bipush (v := 36) dX8_lay_110 (by decide) ?_
                refine T_iload_n (q := 4) dX8_lay_112 rfl rfl ?_
                refine T_imul dX8_lay_113 ?_
                refine T_iload_n (q := 2) dX8_lay_114 rfl rfl ?_
                refine T_iadd dX8_lay_115 ?_
                refine T_iload (q := 0) dX8_lay_116 rfl ?_
                refine T_if_eq (tgt := 126) dX8_lay_118 (by decide) (fun hc19 => ?_) (fun hc19 => ?_)
                · refine T_iconst (v := -1) dX8_lay_126 (by decide) ?_
                  refine T_iast dX8_lay_127 (sf_7_11 ho0) (fun M20 => ?_)
                  refine T_iinc_G (q := 2) (y := s9.1 + 1) (lv' := fun v21 => [(3, .int v21), (5, .int j13), (4, .int j11), (0, .ref (adr G o0)), (1, .int x1), (2, .int x2)]) dX8_lay_128 rfl rfl (by decide) (fun _ => rfl) (fun v21 => ?_)
                  refine T_goto (tgt := 41) dX8_lay_131 (by decide) ?_
                  exact T_end (fun h => V_sub [0, 3, 4, 5] rfl h)
                · refine T_iload (q := 1) dX8_lay_121 rfl ?_
                  refine T_goto (tgt := 127) dX8_lay_123 (by decide) ?_
                  refine T_iast dX8_lay_127 (sf_7_11 ho0) (fun M22 => ?_)
                  refine T_iinc_G (q := 2) (y := s9.1 + 1) (lv' := fun v23 => [(3, .int v23), (5, .int j13), (4, .int j11), (0, .ref (adr G o0)), (1, .int x1), (2, .int x2)]) dX8_lay_128 rfl rfl (by decide) (fun _ => rfl) (fun v23 => ?_)
                  refine T_goto (tgt := 41) dX8_lay_131 (by decide) ?_
                  exact T_end (fun h => V_sub [0, 3, 4, 5] rfl h)
        · change T G l RX8 cX8_lay 6 (some .long) (rmOf 2 46) 0 0 (FinM G (some (.long a.1)) a.2) _ 134 [(3, .int r24.1), (0, .ref (adr G o0)), (1, .int x1), (2, .int x2)] [] r24.2 _
          refine T_aload_n (q := 1) dX8_lay_134 rfl rfl ?_
          refine T_iload_n (q := 2) dX8_lay_135 rfl rfl ?_
          refine T_callVi (As := [.int x1]) (st := []) mv_X8_190 (by decide) dX8_lay_136 ho0 (fun b hb => mX8_claimsOf G l o0 ho0 x1 r24.2 b hb) rfl rfl (Nat.le_of_ble_eq_true rfl) (fun b25 => ?_)
          refine T_i2l dX8_lay_139 ?_
          exact T_end (fun h => by cases h; exact V_lret dX8_lay_140)
set_option maxHeartbeats 4000000 in
set_option maxRecDepth 100000 in
theorem mX8_led (G : Gw) (l : Launch) (o0 : Nat) (ho0 : shp o0 = 7) (x1 : Int32) (x2 : Int32) (x3 : Int32) (M : Mem) (a : Int64 × Mem) (h : fX8_led o0 x1 x2 x3 M = some a) : CtP G l yX8_led cX8_led 5 (some .long) 3 75 [.ref (adr G o0), .int x1, .int x2, .int x3] M (some (.long a.1)) a.2 := by
  refine CtP.ofV (by decide) (Nat.le_of_ble_eq_true rfl) ?_
  refine (?_ : T G l RX8 cX8_led 5 (some .long) (rmOf 3 75) 0 0 (FinM G (some (.long a.1)) a.2) (fun x => x = a) 0 [(0, .ref (adr G o0)), (1, .int x1), (2, .int x2), (3, .int x3)] [] M (fX8_led o0 x1 x2 x3 M)) a h rfl
  clear h
  unfold fX8_led
  refine T_iload_n (q := 1) dX8_led_0 rfl rfl ?_
  refine T_callSi (As := [.int x1]) (st := []) ms_X8_147 (by decide) dX8_led_1 (fun b hb => mX8_isCell G l x1 M b hb) rfl rfl (Nat.le_of_ble_eq_true rfl) (fun b1 => ?_)
  refine T_if_eq (tgt := 21) dX8_led_4 (by decide) (fun hc2 => ?_) (fun hc2 => ?_)
  · refine T_aload_n (q := 0) dX8_led_21 rfl rfl ?_
    refine T_ldc2 dX8_led_22 kcl_X8_98 ?_
    refine T_callVlw (As := [.long (-1000000000000000001 : Int64)]) (st := []) mv_X8_100 (by decide) dX8_led_25 ho0 (fun b hb => mX8_told0 G l o0 ho0 (-1000000000000000001 : Int64) M b hb) rfl rfl (Nat.le_of_ble_eq_true rfl) (fun b3 => ?_)
    exact T_end (fun h => by cases h; exact V_lret dX8_led_28)
  · refine T_iload_n (q := 2) dX8_led_7 rfl rfl ?_
    refine T_callSi (As := [.int x2]) (st := []) ms_X8_147 (by decide) dX8_led_8 (fun b hb => mX8_isCell G l x2 M b hb) rfl rfl (Nat.le_of_ble_eq_true rfl) (fun b4 => ?_)
    refine T_if_eq (tgt := 21) dX8_led_11 (by decide) (fun hc5 => ?_) (fun hc5 => ?_)
    · refine T_aload_n (q := 0) dX8_led_21 rfl rfl ?_
      refine T_ldc2 dX8_led_22 kcl_X8_98 ?_
      refine T_callVlw (As := [.long (-1000000000000000001 : Int64)]) (st := []) mv_X8_100 (by decide) dX8_led_25 ho0 (fun b hb => mX8_told0 G l o0 ho0 (-1000000000000000001 : Int64) M b hb) rfl rfl (Nat.le_of_ble_eq_true rfl) (fun b6 => ?_)
      exact T_end (fun h => by cases h; exact V_lret dX8_led_28)
    · refine T_iload_n (q := 3) dX8_led_14 rfl rfl ?_
      refine T_callSi (As := [.int x3]) (st := []) ms_X8_115 (by decide) dX8_led_15 (fun b hb => mX8_isYear G l x3 M b hb) rfl rfl (Nat.le_of_ble_eq_true rfl) (fun b7 => ?_)
      refine T_if_ne (tgt := 29) dX8_led_18 (by decide) (fun hc8 => ?_) (fun hc8 => ?_)
      · refine T_aload_n (q := 0) dX8_led_21 rfl rfl ?_
        refine T_ldc2 dX8_led_22 kcl_X8_98 ?_
        refine T_callVlw (As := [.long (-1000000000000000001 : Int64)]) (st := []) mv_X8_100 (by decide) dX8_led_25 ho0 (fun b hb => mX8_told0 G l o0 ho0 (-1000000000000000001 : Int64) M b hb) rfl rfl (Nat.le_of_ble_eq_true rfl) (fun b9 => ?_)
        exact T_end (fun h => by cases h; exact V_lret dX8_led_28)
      · refine T_iload_n (q := 1) dX8_led_29 rfl rfl ?_
        refine T_iload_n (q := 2) dX8_led_30 rfl rfl ?_
        refine T_callSi (As := [.int x1, .int x2]) (st := []) ms_X8_180 (by decide) dX8_led_31 (fun b hb => mX8_areBeside G l x1 x2 M b hb) rfl rfl (Nat.le_of_ble_eq_true rfl) (fun b10 => ?_)
        refine T_if_ne (tgt := 45) dX8_led_34 (by decide) (fun hc11 => ?_) (fun hc11 => ?_)
        · refine T_aload_n (q := 0) dX8_led_37 rfl rfl ?_
          refine T_ldc2 dX8_led_38 kcl_X8_125 ?_
          refine T_callVlw (As := [.long (-1000000000000000003 : Int64)]) (st := []) mv_X8_100 (by decide) dX8_led_41 ho0 (fun b hb => mX8_told0 G l o0 ho0 (-1000000000000000003 : Int64) M b hb) rfl rfl (Nat.le_of_ble_eq_true rfl) (fun b12 => ?_)
          exact T_end (fun h => by cases h; exact V_lret dX8_led_44)
        · refine T_aload_n (q := 0) dX8_led_45 rfl rfl ?_
          refine T_callVvw (As := []) (st := []) mv_X8_142 (by decide) dX8_led_46 ho0 (fun b hb => mX8_done G l o0 ho0 M b hb) rfl rfl (Nat.le_of_ble_eq_true rfl) (fun b13 => ?_)
          refine T_aload_n (q := 0) dX8_led_49 rfl rfl ?_
          refine T_iload_n (q := 3) dX8_led_50 rfl rfl ?_
          refine T_callVi (As := [.int x3]) (st := []) mv_X8_150 (by decide) dX8_led_51 ho0 (fun b hb => mX8_until G l o0 ho0 x3 b13 b hb) rfl rfl (Nat.le_of_ble_eq_true rfl) (fun b14 => ?_)
          refine T_istore (lv' := [(4, .int b14), (0, .ref (adr G o0)), (1, .int x1), (2, .int x2), (3, .int x3)]) dX8_led_54 (by decide) rfl ?_
          refine T_aload_n (q := 1) dX8_led_56 rfl rfl ?_
          refine T_iload (q := 0) dX8_led_57 rfl ?_
          refine T_iload_n (q := 2) dX8_led_59 rfl rfl ?_
          refine T_iload_n (q := 3) dX8_led_60 rfl rfl ?_
          refine T_callVi (As := [.int b14, .int x1, .int x2]) (st := []) mv_X8_183 (by decide) dX8_led_61 ho0 (fun b hb => mX8_areUnlike G l o0 ho0 b14 x1 x2 b13 b hb) rfl rfl (Nat.le_of_ble_eq_true rfl) (fun b15 => ?_)
          refine T_if_ne (tgt := 75) dX8_led_64 (by decide) (fun hc16 => ?_) (fun hc16 => ?_)
          · refine T_aload_n (q := 1) dX8_led_67 rfl rfl ?_
            refine T_ldc2 dX8_led_68 kcl_X8_145 ?_
            refine T_callVlw (As := [.long (-1000000000000000006 : Int64)]) (st := []) mv_X8_100 (by decide) dX8_led_71 ho0 (fun b hb => mX8_told0 G l o0 ho0 (-1000000000000000006 : Int64) b13 b hb) rfl rfl (Nat.le_of_ble_eq_true rfl) (fun b17 => ?_)
            exact T_end (fun h => by cases h; exact V_lret dX8_led_74)
          · refine T_bind (X := fun r22 => V G l RX8 cX8_led 5 (some .long) (rmOf 3 75) 0 0 (FinM G (some (.long a.1)) a.2) 94 [(4, .int r22), (0, .ref (adr G o0)), (1, .int x1), (2, .int x2), (3, .int x3)] [] b13) (T_loop (fun s18 => [(4, .int s18), (0, .ref (adr G o0)), (1, .int x1), (2, .int x2), (3, .int x3)]) (fun s18 => b13) (fun s18 => ?_) b14) (fun r22 => ?_)
            · unfold wX8_led_75
              refine T_aload_n (q := 1) dX8_led_75 rfl rfl ?_
              refine T_iload (q := 0) dX8_led_76 rfl ?_
              refine T_iconst (v := 1) dX8_led_78 (by decide) ?_
              refine T_isub dX8_led_79 ?_
              refine T_iload_n (q := 2) dX8_led_80 rfl rfl ?_
              refine T_iload_n (q := 3) dX8_led_81 rfl rfl ?_
              refine T_callVi (As := [.int (s18 - (1 : Int32)), .int x1, .int x2]) (st := []) mv_X8_183 (by decide) dX8_led_82 ho0 (fun b hb => mX8_areUnlike G l o0 ho0 (s18 - (1 : Int32)) x1 x2 b13 b hb) rfl rfl (Nat.le_of_ble_eq_true rfl) (fun b19 => ?_)
              refine T_if_eq (tgt := 94) dX8_led_85 (by decide) (fun hc20 => ?_) (fun hc20 => ?_)
              · exact T_end (fun h => V_sub [0, 1, 2, 3, 4] rfl h)
              · refine T_iinc_G (q := 0) (y := s18 + (-1)) (lv' := fun v21 => [(4, .int v21), (0, .ref (adr G o0)), (1, .int x1), (2, .int x2), (3, .int x3)]) dX8_led_88 rfl rfl (by decide) (fun _ => rfl) (fun v21 => ?_)
                refine T_goto (tgt := 75) dX8_led_91 (by decide) ?_
                exact T_end (fun h => V_sub [0, 1, 2, 3, 4] rfl h)
            · change T G l RX8 cX8_led 5 (some .long) (rmOf 3 75) 0 0 (FinM G (some (.long a.1)) a.2) _ 94 [(4, .int r22), (0, .ref (adr G o0)), (1, .int x1), (2, .int x2), (3, .int x3)] [] b13 _
              refine T_aload_n (q := 1) dX8_led_94 rfl rfl ?_
              refine T_getR cf7 fr_X8_53 dX8_led_95 ho0 rfl ?_
              refine T_iload (q := 0) dX8_led_98 rfl ?_
              refine T_iconst (v := 1) dX8_led_100 (by decide) ?_
              refine T_isub dX8_led_101 ?_
              refine T_iald dX8_led_102 (sf_7_18 ho0) ?_
              refine T_i2l dX8_led_103 ?_
              exact T_end (fun h => by cases h; exact V_lret dX8_led_104)
set_option maxHeartbeats 4000000 in
set_option maxRecDepth 100000 in
theorem mX8_map (G : Gw) (l : Launch) (o0 : Nat) (ho0 : shp o0 = 7) (x1 : Int32) (x2 : Int32) (M : Mem) (a : Int64 × Mem) (h : fX8_map o0 x1 x2 M = some a) : CtP G l yX8_map cX8_map 4 (some .long) 2 45 [.ref (adr G o0), .int x1, .int x2] M (some (.long a.1)) a.2 := by
  refine CtP.ofV (by decide) (Nat.le_of_ble_eq_true rfl) ?_
  refine (?_ : T G l RX8 cX8_map 4 (some .long) (rmOf 2 45) 0 0 (FinM G (some (.long a.1)) a.2) (fun x => x = a) 0 [(0, .ref (adr G o0)), (1, .int x1), (2, .int x2)] [] M (fX8_map o0 x1 x2 M)) a h rfl
  clear h
  unfold fX8_map
  refine T_iload_n (q := 1) dX8_map_0 rfl rfl ?_
  refine T_callSi (As := [.int x1]) (st := []) ms_X8_187 (by decide) dX8_map_1 (fun b hb => mX8_isMap G l x1 M b hb) rfl rfl (Nat.le_of_ble_eq_true rfl) (fun b1 => ?_)
  refine T_if_eq (tgt := 14) dX8_map_4 (by decide) (fun hc2 => ?_) (fun hc2 => ?_)
  · refine T_aload_n (q := 0) dX8_map_14 rfl rfl ?_
    refine T_ldc2 dX8_map_15 kcl_X8_98 ?_
    refine T_callVlw (As := [.long (-1000000000000000001 : Int64)]) (st := []) mv_X8_100 (by decide) dX8_map_18 ho0 (fun b hb => mX8_told0 G l o0 ho0 (-1000000000000000001 : Int64) M b hb) rfl rfl (Nat.le_of_ble_eq_true rfl) (fun b3 => ?_)
    exact T_end (fun h => by cases h; exact V_lret dX8_map_21)
  · refine T_iload_n (q := 2) dX8_map_7 rfl rfl ?_
    refine T_callSi (As := [.int x2]) (st := []) ms_X8_115 (by decide) dX8_map_8 (fun b hb => mX8_isYear G l x2 M b hb) rfl rfl (Nat.le_of_ble_eq_true rfl) (fun b4 => ?_)
    refine T_if_ne (tgt := 22) dX8_map_11 (by decide) (fun hc5 => ?_) (fun hc5 => ?_)
    · refine T_aload_n (q := 0) dX8_map_14 rfl rfl ?_
      refine T_ldc2 dX8_map_15 kcl_X8_98 ?_
      refine T_callVlw (As := [.long (-1000000000000000001 : Int64)]) (st := []) mv_X8_100 (by decide) dX8_map_18 ho0 (fun b hb => mX8_told0 G l o0 ho0 (-1000000000000000001 : Int64) M b hb) rfl rfl (Nat.le_of_ble_eq_true rfl) (fun b6 => ?_)
      exact T_end (fun h => by cases h; exact V_lret dX8_map_21)
    · refine T_aload_n (q := 0) dX8_map_22 rfl rfl ?_
      refine T_getR cf7 fr_X8_29 dX8_map_23 ho0 rfl ?_
      refine T_iload_n (q := 1) dX8_map_26 rfl rfl ?_
      refine T_iald dX8_map_27 (sf_7_10 ho0) ?_
      refine T_istore_n_G (lv' := fun v7 => [(3, .int v7), (0, .ref (adr G o0)), (1, .int x1), (2, .int x2)]) dX8_map_28 rfl (by decide) (fun _ => rfl) (fun v7 => ?_)
      refine T_aload_n (q := 1) dX8_map_29 rfl rfl ?_
      refine T_getR cf7 fr_X8_29 dX8_map_30 ho0 rfl ?_
      refine T_iload_n (q := 2) dX8_map_33 rfl rfl ?_
      refine T_iload_n (q := 3) dX8_map_34 rfl rfl ?_
      refine T_iast dX8_map_35 (sf_7_10 ho0) (fun M8 => ?_)
      refine T_iload_n (q := 0) dX8_map_36 rfl rfl ?_
      refine T_i2l dX8_map_37 ?_
      exact T_end (fun h => by cases h; exact V_lret dX8_map_38)
set_option maxHeartbeats 4000000 in
set_option maxRecDepth 100000 in
theorem mX8_move (G : Gw) (l : Launch) (o0 : Nat) (ho0 : shp o0 = 7) (x1 : Int32) (x2 : Int32) (x3 : Int32) (x4 : Int64) (M : Mem) (a : Int64 × Mem) (h : fX8_move o0 x1 x2 x3 x4 M = some a) : CtP G l yX8_move cX8_move 6 (some .long) 2 48 [.ref (adr G o0), .int x1, .int x2, .int x3, .long x4] M (some (.long a.1)) a.2 := by
  refine CtP.ofV (by decide) (Nat.le_of_ble_eq_true rfl) ?_
  refine (?_ : T G l RX8 cX8_move 6 (some .long) (rmOf 2 48) 0 0 (FinM G (some (.long a.1)) a.2) (fun x => x = a) 0 [(0, .ref (adr G o0)), (1, .int x1), (2, .int x2), (3, .int x3), (4, .long x4)] [] M (fX8_move o0 x1 x2 x3 x4 M)) a h rfl
  clear h
  unfold fX8_move
  refine T_aload_n (q := 0) dX8_move_0 rfl rfl ?_
  refine T_iload_n (q := 1) dX8_move_1 rfl rfl ?_
  refine T_callVi (As := [.int x1]) (st := []) mv_X8_106 (by decide) dX8_move_2 ho0 (fun b hb => mX8_isUnit G l o0 ho0 x1 M b hb) rfl rfl (Nat.le_of_ble_eq_true rfl) (fun b1 => ?_)
  refine T_if_eq (tgt := 40) dX8_move_5 (by decide) (fun hc2 => ?_) (fun hc2 => ?_)
  · refine T_aload_n (q := 0) dX8_move_40 rfl rfl ?_
    refine T_ldc2 dX8_move_41 kcl_X8_98 ?_
    refine T_callVlw (As := [.long (-1000000000000000001 : Int64)]) (st := []) mv_X8_100 (by decide) dX8_move_44 ho0 (fun b hb => mX8_told0 G l o0 ho0 (-1000000000000000001 : Int64) M b hb) rfl rfl (Nat.le_of_ble_eq_true rfl) (fun b3 => ?_)
    exact T_end (fun h => by cases h; exact V_lret dX8_move_47)
  · refine T_aload_n (q := 0) dX8_move_8 rfl rfl ?_
    refine T_iload_n (q := 2) dX8_move_9 rfl rfl ?_
    refine T_callVi (As := [.int x2]) (st := []) mv_X8_106 (by decide) dX8_move_10 ho0 (fun b hb => mX8_isUnit G l o0 ho0 x2 M b hb) rfl rfl (Nat.le_of_ble_eq_true rfl) (fun b4 => ?_)
    refine T_if_eq (tgt := 40) dX8_move_13 (by decide) (fun hc5 => ?_) (fun hc5 => ?_)
    · refine T_aload_n (q := 0) dX8_move_40 rfl rfl ?_
      refine T_ldc2 dX8_move_41 kcl_X8_98 ?_
      refine T_callVlw (As := [.long (-1000000000000000001 : Int64)]) (st := []) mv_X8_100 (by decide) dX8_move_44 ho0 (fun b hb => mX8_told0 G l o0 ho0 (-1000000000000000001 : Int64) M b hb) rfl rfl (Nat.le_of_ble_eq_true rfl) (fun b6 => ?_)
      exact T_end (fun h => by cases h; exact V_lret dX8_move_47)
    · refine T_iload_n (q := 3) dX8_move_16 rfl rfl ?_
      refine T_callSi (As := [.int x3]) (st := []) ms_X8_115 (by decide) dX8_move_17 (fun b hb => mX8_isYear G l x3 M b hb) rfl rfl (Nat.le_of_ble_eq_true rfl) (fun b7 => ?_)
      refine T_if_eq (tgt := 40) dX8_move_20 (by decide) (fun hc8 => ?_) (fun hc8 => ?_)
      · refine T_aload_n (q := 0) dX8_move_40 rfl rfl ?_
        refine T_ldc2 dX8_move_41 kcl_X8_98 ?_
        refine T_callVlw (As := [.long (-1000000000000000001 : Int64)]) (st := []) mv_X8_100 (by decide) dX8_move_44 ho0 (fun b hb => mX8_told0 G l o0 ho0 (-1000000000000000001 : Int64) M b hb) rfl rfl (Nat.le_of_ble_eq_true rfl) (fun b9 => ?_)
        exact T_end (fun h => by cases h; exact V_lret dX8_move_47)
      · refine T_lload (q := 4) dX8_move_23 rfl ?_
        refine T_lconst (v := 0) dX8_move_25 (by decide) ?_
        refine T_lcmp dX8_move_26 ?_
        refine T_if_lt (tgt := 40) dX8_move_27 (by decide) (fun hc10 => ?_) (fun hc10 => ?_)
        · refine T_aload_n (q := 0) dX8_move_40 rfl rfl ?_
          refine T_ldc2 dX8_move_41 kcl_X8_98 ?_
          refine T_callVlw (As := [.long (-1000000000000000001 : Int64)]) (st := []) mv_X8_100 (by decide) dX8_move_44 ho0 (fun b hb => mX8_told0 G l o0 ho0 (-1000000000000000001 : Int64) M b hb) rfl rfl (Nat.le_of_ble_eq_true rfl) (fun b11 => ?_)
          exact T_end (fun h => by cases h; exact V_lret dX8_move_47)
        · refine T_lload (q := 4) dX8_move_30 rfl ?_
          refine T_bipush (v := 36) dX8_move_32 (by decide) ?_
          refine T_lshr dX8_move_34 ?_
          refine T_lconst (v := 0) dX8_move_35 (by decide) ?_
          refine T_lcmp dX8_move_36 ?_
          refine T_if_eq (tgt := 48) dX8_move_37 (by decide) (fun hc12 => ?_) (fun hc12 => ?_)
          · refine T_aload_n (q := 0) dX8_move_48 rfl rfl ?_
            refine T_iload_n (q := 1) dX8_move_49 rfl rfl ?_
            refine T_callVi (As := [.int x1]) (st := []) mv_X8_118 (by decide) dX8_move_50 ho0 (fun b hb => mX8_isHundred G l o0 ho0 x1 M b hb) rfl rfl (Nat.le_of_ble_eq_true rfl) (fun b13 => ?_)
            refine T_if_ne (tgt := 64) dX8_move_53 (by decide) (fun hc14 => ?_) (fun hc14 => ?_)
            · refine T_aload_n (q := 0) dX8_move_56 rfl rfl ?_
              refine T_iload_n (q := 2) dX8_move_57 rfl rfl ?_
              refine T_callVi (As := [.int x2]) (st := []) mv_X8_118 (by decide) dX8_move_58 ho0 (fun b hb => mX8_isHundred G l o0 ho0 x2 M b hb) rfl rfl (Nat.le_of_ble_eq_true rfl) (fun b15 => ?_)
              refine T_if_eq (tgt := 72) dX8_move_61 (by decide) (fun hc16 => ?_) (fun hc16 => ?_)
              · refine T_iload_n (q := 1) dX8_move_72 rfl rfl ?_
                refine T_iload_n (q := 2) dX8_move_73 rfl rfl ?_
                refine T_icmp_ne (tgt := 87) dX8_move_74 (by decide) (fun hc17 => ?_) (fun hc17 => ?_)
                · refine T_aload_n (q := 0) dX8_move_77 rfl rfl ?_
                  refine T_ldc2 dX8_move_78 kcl_X8_125 ?_
                  refine T_callVlw (As := [.long (-1000000000000000003 : Int64)]) (st := []) mv_X8_100 (by decide) dX8_move_81 ho0 (fun b hb => mX8_told0 G l o0 ho0 (-1000000000000000003 : Int64) M b hb) rfl rfl (Nat.le_of_ble_eq_true rfl) (fun b18 => ?_)
                  refine T_goto (tgt := 97) dX8_move_84 (by decide) ?_
                  exact T_end (fun h => by cases h; exact V_lret dX8_move_97)
                · refine T_aload_n (q := 0) dX8_move_87 rfl rfl ?_
                  refine T_iconst (v := 1) dX8_move_88 (by decide) ?_
                  refine T_iload_n (q := 3) dX8_move_89 rfl rfl ?_
                  refine T_iload_n (q := 1) dX8_move_90 rfl rfl ?_
                  refine T_iload_n (q := 2) dX8_move_91 rfl rfl ?_
                  refine T_lload (q := 4) dX8_move_92 rfl ?_
                  refine T_callVlw (As := [.int (1 : Int32), .int x3, .int x1, .int x2, .long x4]) (st := []) mv_X8_121 (by decide) dX8_move_94 ho0 (fun b hb => mX8_add G l o0 ho0 (1 : Int32) x3 x1 x2 x4 M b hb) rfl rfl (Nat.le_of_ble_eq_true rfl) (fun b19 => ?_)
                  exact T_end (fun h => by cases h; exact V_lret dX8_move_97)
              · refine T_aload_n (q := 0) dX8_move_64 rfl rfl ?_
                refine T_ldc2 dX8_move_65 kcl_X8_110 ?_
                refine T_callVlw (As := [.long (-1000000000000000004 : Int64)]) (st := []) mv_X8_100 (by decide) dX8_move_68 ho0 (fun b hb => mX8_told0 G l o0 ho0 (-1000000000000000004 : Int64) M b hb) rfl rfl (Nat.le_of_ble_eq_true rfl) (fun b20 => ?_)
                exact T_end (fun h => by cases h; exact V_lret dX8_move_71)
            · refine T_aload_n (q := 0) dX8_move_64 rfl rfl ?_
              refine T_ldc2 dX8_move_65 kcl_X8_110 ?_
              refine T_callVlw (As := [.long (-1000000000000000004 : Int64)]) (st := []) mv_X8_100 (by decide) dX8_move_68 ho0 (fun b hb => mX8_told0 G l o0 ho0 (-1000000000000000004 : Int64) M b hb) rfl rfl (Nat.le_of_ble_eq_true rfl) (fun b21 => ?_)
              exact T_end (fun h => by cases h; exact V_lret dX8_move_71)
          · refine T_aload_n (q := 0) dX8_move_40 rfl rfl ?_
            refine T_ldc2 dX8_move_41 kcl_X8_98 ?_
            refine T_callVlw (As := [.long (-1000000000000000001 : Int64)]) (st := []) mv_X8_100 (by decide) dX8_move_44 ho0 (fun b hb => mX8_told0 G l o0 ho0 (-1000000000000000001 : Int64) M b hb) rfl rfl (Nat.le_of_ble_eq_true rfl) (fun b22 => ?_)
            exact T_end (fun h => by cases h; exact V_lret dX8_move_47)
set_option maxHeartbeats 4000000 in
set_option maxRecDepth 100000 in
theorem mX8_people (G : Gw) (l : Launch) (o0 : Nat) (ho0 : shp o0 = 7) (x1 : Int32) (M : Mem) (a : Int64 × Mem) (h : fX8_people o0 x1 M = some a) : CtP G l yX8_people cX8_people 5 (some .long) 2 45 [.ref (adr G o0), .int x1] M (some (.long a.1)) a.2 := by
  refine CtP.ofV (by decide) (Nat.le_of_ble_eq_true rfl) ?_
  refine (?_ : T G l RX8 cX8_people 5 (some .long) (rmOf 2 45) 0 0 (FinM G (some (.long a.1)) a.2) (fun x => x = a) 0 [(0, .ref (adr G o0)), (1, .int x1)] [] M (fX8_people o0 x1 M)) a h rfl
  clear h
  unfold fX8_people
  refine T_iload_n (q := 1) dX8_people_0 rfl rfl ?_
  refine T_callSi (As := [.int x1]) (st := []) ms_X8_115 (by decide) dX8_people_1 (fun b hb => mX8_isYear G l x1 M b hb) rfl rfl (Nat.le_of_ble_eq_true rfl) (fun b1 => ?_)
  refine T_if_ne (tgt := 15) dX8_people_4 (by decide) (fun hc2 => ?_) (fun hc2 => ?_)
  · refine T_aload_n (q := 0) dX8_people_7 rfl rfl ?_
    refine T_ldc2 dX8_people_8 kcl_X8_98 ?_
    refine T_callVlw (As := [.long (-1000000000000000001 : Int64)]) (st := []) mv_X8_100 (by decide) dX8_people_11 ho0 (fun b hb => mX8_told0 G l o0 ho0 (-1000000000000000001 : Int64) M b hb) rfl rfl (Nat.le_of_ble_eq_true rfl) (fun b3 => ?_)
    exact T_end (fun h => by cases h; exact V_lret dX8_people_14)
  · refine T_lconst (v := 0) dX8_people_15 (by decide) ?_
    refine T_lstore_n (lv' := [(2, .long (0 : Int64)), (0, .ref (adr G o0)), (1, .int x1)]) dX8_people_16 rfl (by decide) rfl ?_
    refine T_iconst (v := 0) dX8_people_17 (by decide) ?_
    refine T_istore (lv' := [(4, .int (0 : Int32)), (2, .long (0 : Int64)), (0, .ref (adr G o0)), (1, .int x1)]) dX8_people_18 (by decide) rfl ?_
    refine T_bind (X := fun r13 => V G l RX8 cX8_people 5 (some .long) (rmOf 2 45) 0 0 (FinM G (some (.long a.1)) a.2) 60 [(4, .int r13.2), (2, .long r13.1), (0, .ref (adr G o0)), (1, .int x1)] [] M) (T_loop (fun s4 => [(4, .int s4.2), (2, .long s4.1), (0, .ref (adr G o0)), (1, .int x1)]) (fun s4 => M) (fun s4 => ?_) ((0 : Int64), (0 : Int32))) (fun r13 => ?_)
    · unfold wX8_people_20
      refine T_iload (q := 0) dX8_people_20 rfl ?_
      refine T_aload_n (q := 2) dX8_people_22 rfl rfl ?_
      refine T_getI cf7 fr_X8_82 dX8_people_23 ho0 rfl ?_
      refine T_icmp_ge (tgt := 60) dX8_people_26 (by decide) (fun hc5 => ?_) (fun hc5 => ?_)
      · exact T_end (fun h => V_sub [0, 1, 2, 3] rfl h)
      · refine T_lload_n (q := 1) dX8_people_29 rfl rfl ?_
        refine T_aload_n (q := 2) dX8_people_30 rfl rfl ?_
        refine T_iload (q := 0) dX8_people_31 rfl ?_
        refine T_iload_n (q := 3) dX8_people_33 rfl rfl ?_
        refine T_callVi (As := [.int s4.2, .int x1]) (st := [.long s4.1]) mv_X8_201 (by decide) dX8_people_34 ho0 (fun b hb => mX8_latest G l o0 ho0 s4.2 x1 M b hb) rfl rfl (Nat.le_of_ble_eq_true rfl) (fun b6 => ?_)
        refine T_if_ge (tgt := 44) dX8_people_37 (by decide) (fun hc7 => ?_) (fun hc7 => ?_)
        · refine T_aload_n (q := 2) dX8_people_44 rfl rfl ?_
          refine T_iload (q := 0) dX8_people_45 rfl ?_
          refine T_iload_n (q := 3) dX8_people_47 rfl rfl ?_
          refine T_callVi (As := [.int s4.2, .int x1]) (st := [.long s4.1]) mv_X8_201 (by decide) dX8_people_48 ho0 (fun b hb => mX8_latest G l o0 ho0 s4.2 x1 M b hb) rfl rfl (Nat.le_of_ble_eq_true rfl) (fun b8 => ?_)
          refine T_i2l dX8_people_51 ?_
          refine T_ladd dX8_people_52 ?_
          refine T_lstore_n_G (lv' := fun v9 => [(2, .long v9), (4, .int s4.2), (0, .ref (adr G o0)), (1, .int x1)]) dX8_people_53 rfl (by decide) (fun _ => rfl) (fun v9 => ?_)
          refine T_iinc_G (q := 1) (y := s4.2 + 1) (lv' := fun v10 => [(4, .int v10), (2, .long v9), (0, .ref (adr G o0)), (1, .int x1)]) dX8_people_54 rfl rfl (by decide) (fun _ => rfl) (fun v10 => ?_)
          refine T_goto (tgt := 20) dX8_people_57 (by decide) ?_
          exact T_end (fun h => V_sub [0, 1, 2, 3] rfl h)
        · refine T_lconst (v := 0) dX8_people_40 (by decide) ?_
          refine T_goto (tgt := 52) dX8_people_41 (by decide) ?_
          refine T_ladd dX8_people_52 ?_
          refine T_lstore_n_G (lv' := fun v11 => [(2, .long v11), (4, .int s4.2), (0, .ref (adr G o0)), (1, .int x1)]) dX8_people_53 rfl (by decide) (fun _ => rfl) (fun v11 => ?_)
          refine T_iinc_G (q := 1) (y := s4.2 + 1) (lv' := fun v12 => [(4, .int v12), (2, .long v11), (0, .ref (adr G o0)), (1, .int x1)]) dX8_people_54 rfl rfl (by decide) (fun _ => rfl) (fun v12 => ?_)
          refine T_goto (tgt := 20) dX8_people_57 (by decide) ?_
          exact T_end (fun h => V_sub [0, 1, 2, 3] rfl h)
    · change T G l RX8 cX8_people 5 (some .long) (rmOf 2 45) 0 0 (FinM G (some (.long a.1)) a.2) _ 60 [(4, .int r13.2), (2, .long r13.1), (0, .ref (adr G o0)), (1, .int x1)] [] M _
      refine T_lload_n (q := 1) dX8_people_60 rfl rfl ?_
      exact T_end (fun h => by cases h; exact V_lret dX8_people_61)
set_option maxHeartbeats 4000000 in
set_option maxRecDepth 100000 in
theorem mX8_pieces (G : Gw) (l : Launch) (x0 : Int64) (M : Mem) (a : Int32) (h : fX8_pieces x0 = some a) : CtP G l yX8_pieces cX8_pieces 12 (some .int) 2 48 [.long x0] M (some (.int a)) M := by
  refine CtP.ofV (by decide) (Nat.le_of_ble_eq_true rfl) ?_
  refine (?_ : T G l RX8 cX8_pieces 12 (some .int) (rmOf 2 48) 0 0 (FinM G (some (.int a)) M) (fun x => x = a) 0 [(0, .long x0)] [] M (fX8_pieces x0)) a h rfl
  clear h
  unfold fX8_pieces
  refine T_lload_n (q := 0) dX8_pieces_0 rfl rfl ?_
  refine T_lstore_n (lv' := [(2, .long x0), (0, .long x0)]) dX8_pieces_1 rfl (by decide) rfl ?_
  refine T_iconst (v := 0) dX8_pieces_2 (by decide) ?_
  refine T_istore (lv' := [(4, .int (0 : Int32)), (2, .long x0), (0, .long x0)]) dX8_pieces_3 (by decide) rfl ?_
  refine T_bind (X := fun r33 => V G l RX8 cX8_pieces 12 (some .int) (rmOf 2 48) 0 0 (FinM G (some (.int a)) M) 151 [(4, .int r33.2), (2, .long r33.1), (0, .long x0)] [] M) (T_loop (fun s1 => [(4, .int s1.2), (2, .long s1.1), (0, .long x0)]) (fun s1 => M) (fun s1 => ?_) (x0, (0 : Int32))) (fun r33 => ?_)
  · unfold wX8_pieces_5
    refine T_lload_n (q := 1) dX8_pieces_5 rfl rfl ?_
    refine T_lconst (v := 0) dX8_pieces_6 (by decide) ?_
    refine T_lcmp dX8_pieces_7 ?_
    refine T_if_eq (tgt := 151) dX8_pieces_8 (by decide) (fun hc2 => ?_) (fun hc2 => ?_)
    · exact T_end (fun h => V_sub [0, 1, 2] rfl h)
    · refine T_iconst (v := 0) dX8_pieces_11 (by decide) ?_
      refine T_istore (lv' := [(5, .int (0 : Int32)), (4, .int s1.2), (2, .long s1.1), (0, .long x0)]) dX8_pieces_12 (by decide) rfl ?_
      refine T_bind (X := fun r7 => V G l RX8 cX8_pieces 12 (some .int) (rmOf 2 48) 0 0 (FinM G (some (.int a)) M) 29 [(5, .int r7), (4, .int s1.2), (2, .long s1.1), (0, .long x0)] [] M) (T_loop (fun s3 => [(5, .int s3), (4, .int s1.2), (2, .long s1.1), (0, .long x0)]) (fun s3 => M) (fun s3 => ?_) (0 : Int32)) (fun r7 => ?_)
      · unfold wX8_pieces_14
        refine T_lload_n (q := 2) dX8_pieces_14 rfl rfl ?_
        refine T_iload (q := 0) dX8_pieces_15 rfl ?_
        refine T_callSi (As := [.long s1.1, .int s3]) (st := []) ms_X8_160 (by decide) dX8_pieces_17 (fun b hb => mX8_has G l s1.1 s3 M b hb) rfl rfl (Nat.le_of_ble_eq_true rfl) (fun b4 => ?_)
        refine T_if_ne (tgt := 29) dX8_pieces_20 (by decide) (fun hc5 => ?_) (fun hc5 => ?_)
        · refine T_iinc_G (q := 0) (y := s3 + 1) (lv' := fun v6 => [(5, .int v6), (4, .int s1.2), (2, .long s1.1), (0, .long x0)]) dX8_pieces_23 rfl rfl (by decide) (fun _ => rfl) (fun v6 => ?_)
          refine T_goto (tgt := 14) dX8_pieces_26 (by decide) ?_
          exact T_end (fun h => V_sub [0, 1, 2, 3] rfl h)
        · exact T_end (fun h => V_sub [0, 1, 2, 3] rfl h)
      · change T G l RX8 cX8_pieces 12 (some .int) (rmOf 2 48) 0 0 (FinM G (some (.int a)) M) _ 29 [(5, .int r7), (4, .int s1.2), (2, .long s1.1), (0, .long x0)] [] M _
        refine T_lconst (v := 1) dX8_pieces_29 (by decide) ?_
        refine T_iload (q := 0) dX8_pieces_30 rfl ?_
        refine T_lshl dX8_pieces_32 ?_
        refine T_lstore_G (lv' := fun v8 => [(6, .long v8), (5, .int r7), (4, .int s1.2), (2, .long s1.1), (0, .long x0)]) dX8_pieces_33 (by decide) (fun _ => rfl) (fun v8 => ?_)
        refine T_iconst (v := 1) dX8_pieces_35 (by decide) ?_
        refine T_istore (lv' := [(8, .int (1 : Int32)), (6, .long v8), (5, .int r7), (4, .int s1.2), (2, .long s1.1), (0, .long x0)]) dX8_pieces_36 (by decide) rfl ?_
        refine T_bind (X := fun r30 => V G l RX8 cX8_pieces 12 (some .int) (rmOf 2 48) 0 0 (FinM G (some (.int a)) M) 136 [(8, .int r30.2), (6, .long r30.1), (5, .int r7), (4, .int s1.2), (2, .long s1.1), (0, .long x0)] [] M) (T_loop (fun s9 => [(8, .int s9.2), (6, .long s9.1), (5, .int r7), (4, .int s1.2), (2, .long s1.1), (0, .long x0)]) (fun s9 => M) (fun s9 => ?_) (v8, (1 : Int32))) (fun r30 => ?_)
        · unfold wX8_pieces_38
          refine T_iload (q := 0) dX8_pieces_38 rfl ?_
          refine T_if_eq (tgt := 136) dX8_pieces_40 (by decide) (fun hc10 => ?_) (fun hc10 => ?_)
          · exact T_end (fun h => V_sub [0, 1, 2, 3, 4, 5] rfl h)
          · refine T_iconst (v := 0) dX8_pieces_43 (by decide) ?_
            refine T_istore (lv' := [(8, .int (0 : Int32)), (6, .long s9.1), (5, .int r7), (4, .int s1.2), (2, .long s1.1), (0, .long x0)]) dX8_pieces_44 (by decide) rfl ?_
            refine T_iconst (v := 0) dX8_pieces_46 (by decide) ?_
            refine T_istore (lv' := [(9, .int (0 : Int32)), (8, .int (0 : Int32)), (6, .long s9.1), (5, .int r7), (4, .int s1.2), (2, .long s1.1), (0, .long x0)]) dX8_pieces_47 (by decide) rfl ?_
            refine T_bind (X := fun r29 => V G l RX8 cX8_pieces 12 (some .int) (rmOf 2 48) 0 0 (FinM G (some (.int a)) M) 133 [(9, .int r29.2.2), (8, .int r29.2.1), (6, .long r29.1), (5, .int r7), (4, .int s1.2), (2, .long s1.1), (0, .long x0)] [] M) (T_loop (fun s11 => [(9, .int s11.2.2), (8, .int s11.2.1), (6, .long s11.1), (5, .int r7), (4, .int s1.2), (2, .long s1.1), (0, .long x0)]) (fun s11 => M) (fun s11 => ?_) (s9.1, (0 : Int32), (0 : Int32))) (fun r29 => ?_)
            · unfold wX8_pieces_49
              refine T_iload (q := 0) dX8_pieces_49 rfl ?_
              refine T_bipush (v := 36) dX8_pieces_51 (by decide) ?_
              refine T_icmp_ge (tgt := 133) dX8_pieces_53 (by decide) (fun hc12 => ?_) (fun hc12 => ?_)
              · exact T_end (fun h => V_sub [0, 1, 2, 3, 4, 5, 6] rfl h)
              · refine T_lload (q := 2) dX8_pieces_56 rfl ?_
                refine T_iload (q := 0) dX8_pieces_58 rfl ?_
                refine T_callSi (As := [.long s11.1, .int s11.2.2]) (st := []) ms_X8_160 (by decide) dX8_pieces_60 (fun b hb => mX8_has G l s11.1 s11.2.2 M b hb) rfl rfl (Nat.le_of_ble_eq_true rfl) (fun b13 => ?_)
                refine T_if_ne (tgt := 69) dX8_pieces_63 (by decide) (fun hc14 => ?_) (fun hc14 => ?_)
                · refine T_goto (tgt := 127) dX8_pieces_66 (by decide) ?_
                  refine T_iinc_G (q := 0) (y := s11.2.2 + 1) (lv' := fun v15 => [(9, .int v15), (8, .int s11.2.1), (6, .long s11.1), (5, .int r7), (4, .int s1.2), (2, .long s1.1), (0, .long x0)]) dX8_pieces_127 rfl rfl (by decide) (fun _ => rfl) (fun v15 => ?_)
                  refine T_goto (tgt := 49) dX8_pieces_130 (by decide) ?_
                  exact T_end (fun h => V_sub [0, 1, 2, 3, 4, 5, 6] rfl h)
                · refine T_iconst (v := 0) dX8_pieces_69 (by decide) ?_
                  refine T_istore (lv' := [(10, .int (0 : Int32)), (9, .int s11.2.2), (8, .int s11.2.1), (6, .long s11.1), (5, .int r7), (4, .int s1.2), (2, .long s1.1), (0, .long x0)]) dX8_pieces_70 (by decide) rfl ?_
                  refine T_bind (X := fun r27 => V G l RX8 cX8_pieces 12 (some .int) (rmOf 2 48) 0 0 (FinM G (some (.int a)) M) 127 [(10, .int r27.2.2), (9, .int s11.2.2), (8, .int r27.2.1), (6, .long r27.1), (5, .int r7), (4, .int s1.2), (2, .long s1.1), (0, .long x0)] [] M) (T_loop (fun s16 => [(10, .int s16.2.2), (9, .int s11.2.2), (8, .int s16.2.1), (6, .long s16.1), (5, .int r7), (4, .int s1.2), (2, .long s1.1), (0, .long x0)]) (fun s16 => M) (fun s16 => ?_) (s11.1, s11.2.1, (0 : Int32))) (fun r27 => ?_)
                  · unfold wX8_pieces_72
                    refine T_iload (q := 0) dX8_pieces_72 rfl ?_
                    refine T_iconst (v := 4) dX8_pieces_74 (by decide) ?_
                    refine T_icmp_ge (tgt := 127) dX8_pieces_75 (by decide) (fun hc17 => ?_) (fun hc17 => ?_)
                    · exact T_end (fun h => V_sub [0, 1, 2, 3, 4, 5, 6, 7] rfl h)
                    · refine T_iload (q := 1) dX8_pieces_78 rfl ?_
                      refine T_iload (q := 0) dX8_pieces_80 rfl ?_
                      refine T_callSi (As := [.int s11.2.2, .int s16.2.2]) (st := []) ms_X8_164 (by decide) dX8_pieces_82 (fun b hb => mX8_beside G l s11.2.2 s16.2.2 M b hb) rfl rfl (Nat.le_of_ble_eq_true rfl) (fun b18 => ?_)
                      refine T_istore (lv' := [(11, .int b18), (10, .int s16.2.2), (9, .int s11.2.2), (8, .int s16.2.1), (6, .long s16.1), (5, .int r7), (4, .int s1.2), (2, .long s1.1), (0, .long x0)]) dX8_pieces_85 (by decide) rfl ?_
                      refine T_lload_n (q := 8) dX8_pieces_87 rfl rfl ?_
                      refine T_iload (q := 0) dX8_pieces_88 rfl ?_
                      refine T_callSi (As := [.long x0, .int b18]) (st := []) ms_X8_160 (by decide) dX8_pieces_90 (fun b hb => mX8_has G l x0 b18 M b hb) rfl rfl (Nat.le_of_ble_eq_true rfl) (fun b19 => ?_)
                      refine T_if_eq (tgt := 121) dX8_pieces_93 (by decide) (fun hc20 => ?_) (fun hc20 => ?_)
                      · refine T_iinc_G (q := 1) (y := s16.2.2 + 1) (lv' := fun v21 => [(10, .int v21), (11, .int b18), (9, .int s11.2.2), (8, .int s16.2.1), (6, .long s16.1), (5, .int r7), (4, .int s1.2), (2, .long s1.1), (0, .long x0)]) dX8_pieces_121 rfl rfl (by decide) (fun _ => rfl) (fun v21 => ?_)
                        refine T_goto (tgt := 72) dX8_pieces_124 (by decide) ?_
                        exact T_end (fun h => V_sub [0, 2, 3, 4, 5, 6, 7, 8] rfl h)
                      · refine T_lload (q := 4) dX8_pieces_96 rfl ?_
                        refine T_iload (q := 0) dX8_pieces_98 rfl ?_
                        refine T_callSi (As := [.long s16.1, .int b18]) (st := []) ms_X8_160 (by decide) dX8_pieces_100 (fun b hb => mX8_has G l s16.1 b18 M b hb) rfl rfl (Nat.le_of_ble_eq_true rfl) (fun b22 => ?_)
                        refine T_if_eq (tgt := 109) dX8_pieces_103 (by decide) (fun hc23 => ?_) (fun hc23 => ?_)
                        · refine T_lload (q := 4) dX8_pieces_109 rfl ?_
                          refine T_lconst (v := 1) dX8_pieces_111 (by decide) ?_
                          refine T_iload (q := 0) dX8_pieces_112 rfl ?_
                          refine T_lshl dX8_pieces_114 ?_
                          refine T_lor dX8_pieces_115 ?_
                          refine T_lstore_G (lv' := fun v24 => [(6, .long v24), (11, .int b18), (10, .int s16.2.2), (9, .int s11.2.2), (8, .int s16.2.1), (5, .int r7), (4, .int s1.2), (2, .long s1.1), (0, .long x0)]) dX8_pieces_116 (by decide) (fun _ => rfl) (fun v24 => ?_)
                          refine T_iconst (v := 1) dX8_pieces_118 (by decide) ?_
                          refine T_istore (lv' := [(8, .int (1 : Int32)), (6, .long v24), (11, .int b18), (10, .int s16.2.2), (9, .int s11.2.2), (5, .int r7), (4, .int s1.2), (2, .long s1.1), (0, .long x0)]) dX8_pieces_119 (by decide) rfl ?_
                          refine T_iinc_G (q := 3) (y := s16.2.2 + 1) (lv' := fun v25 => [(10, .int v25), (8, .int (1 : Int32)), (6, .long v24), (11, .int b18), (9, .int s11.2.2), (5, .int r7), (4, .int s1.2), (2, .long s1.1), (0, .long x0)]) dX8_pieces_121 rfl rfl (by decide) (fun _ => rfl) (fun v25 => ?_)
                          refine T_goto (tgt := 72) dX8_pieces_124 (by decide) ?_
                          exact T_end (fun h => V_sub [0, 4, 1, 2, 5, 6, 7, 8] rfl h)
                        · refine T_goto (tgt := 121) dX8_pieces_106 (by decide) ?_
                          refine T_iinc_G (q := 1) (y := s16.2.2 + 1) (lv' := fun v26 => [(10, .int v26), (11, .int b18), (9, .int s11.2.2), (8, .int s16.2.1), (6, .long s16.1), (5, .int r7), (4, .int s1.2), (2, .long s1.1), (0, .long x0)]) dX8_pieces_121 rfl rfl (by decide) (fun _ => rfl) (fun v26 => ?_)
                          refine T_goto (tgt := 72) dX8_pieces_124 (by decide) ?_
                          exact T_end (fun h => V_sub [0, 2, 3, 4, 5, 6, 7, 8] rfl h)
                  · change T G l RX8 cX8_pieces 12 (some .int) (rmOf 2 48) 0 0 (FinM G (some (.int a)) M) _ 127 [(10, .int r27.2.2), (9, .int s11.2.2), (8, .int r27.2.1), (6, .long r27.1), (5, .int r7), (4, .int s1.2), (2, .long s1.1), (0, .long x0)] [] M _
                    refine T_iinc_G (q := 1) (y := s11.2.2 + 1) (lv' := fun v28 => [(9, .int v28), (10, .int r27.2.2), (8, .int r27.2.1), (6, .long r27.1), (5, .int r7), (4, .int s1.2), (2, .long s1.1), (0, .long x0)]) dX8_pieces_127 rfl rfl (by decide) (fun _ => rfl) (fun v28 => ?_)
                    refine T_goto (tgt := 49) dX8_pieces_130 (by decide) ?_
                    exact T_end (fun h => V_sub [0, 2, 3, 4, 5, 6, 7] rfl h)
            · change T G l RX8 cX8_pieces 12 (some .int) (rmOf 2 48) 0 0 (FinM G (some (.int a)) M) _ 133 [(9, .int r29.2.2), (8, .int r29.2.1), (6, .long r29.1), (5, .int r7), (4, .int s1.2), (2, .long s1.1), (0, .long x0)] [] M _
              refine T_goto (tgt := 38) dX8_pieces_133 (by decide) ?_
              exact T_end (fun h => V_sub [1, 2, 3, 4, 5, 6] rfl h)
        · change T G l RX8 cX8_pieces 12 (some .int) (rmOf 2 48) 0 0 (FinM G (some (.int a)) M) _ 136 [(8, .int r30.2), (6, .long r30.1), (5, .int r7), (4, .int s1.2), (2, .long s1.1), (0, .long x0)] [] M _
          refine T_lload_n (q := 4) dX8_pieces_136 rfl rfl ?_
          refine T_lload (q := 1) dX8_pieces_137 rfl ?_
          refine T_ldc2 dX8_pieces_139 kcl_X8_135 ?_
          refine T_lxor dX8_pieces_142 ?_
          refine T_land dX8_pieces_143 ?_
          refine T_lstore_n_G (lv' := fun v31 => [(2, .long v31), (8, .int r30.2), (6, .long r30.1), (5, .int r7), (4, .int s1.2), (0, .long x0)]) dX8_pieces_144 rfl (by decide) (fun _ => rfl) (fun v31 => ?_)
          refine T_iinc_G (q := 4) (y := s1.2 + 1) (lv' := fun v32 => [(4, .int v32), (2, .long v31), (8, .int r30.2), (6, .long r30.1), (5, .int r7), (0, .long x0)]) dX8_pieces_145 rfl rfl (by decide) (fun _ => rfl) (fun v32 => ?_)
          refine T_goto (tgt := 5) dX8_pieces_148 (by decide) ?_
          exact T_end (fun h => V_sub [0, 1, 5] rfl h)
  · change T G l RX8 cX8_pieces 12 (some .int) (rmOf 2 48) 0 0 (FinM G (some (.int a)) M) _ 151 [(4, .int r33.2), (2, .long r33.1), (0, .long x0)] [] M _
    refine T_iload (q := 0) dX8_pieces_151 rfl ?_
    exact T_end (fun h => by cases h; exact V_iret dX8_pieces_153)
set_option maxHeartbeats 4000000 in
set_option maxRecDepth 100000 in
theorem mX8_put (G : Gw) (l : Launch) (o0 : Nat) (ho0 : shp o0 = 7) (x1 : Int32) (x2 : Int32) (x3 : Int32) (M : Mem) (a : Int64 × Mem) (h : fX8_put o0 x1 x2 x3 M = some a) : CtP G l yX8_put cX8_put 4 (some .long) 2 45 [.ref (adr G o0), .int x1, .int x2, .int x3] M (some (.long a.1)) a.2 := by
  refine CtP.ofV (by decide) (Nat.le_of_ble_eq_true rfl) ?_
  refine (?_ : T G l RX8 cX8_put 4 (some .long) (rmOf 2 45) 0 0 (FinM G (some (.long a.1)) a.2) (fun x => x = a) 0 [(0, .ref (adr G o0)), (1, .int x1), (2, .int x2), (3, .int x3)] [] M (fX8_put o0 x1 x2 x3 M)) a h rfl
  clear h
  unfold fX8_put
  refine T_iload_n (q := 1) dX8_put_0 rfl rfl ?_
  refine T_callSi (As := [.int x1]) (st := []) ms_X8_208 (by decide) dX8_put_1 (fun b hb => mX8_isSheet G l x1 M b hb) rfl rfl (Nat.le_of_ble_eq_true rfl) (fun b1 => ?_)
  refine T_if_ne (tgt := 15) dX8_put_4 (by decide) (fun hc2 => ?_) (fun hc2 => ?_)
  · refine T_aload_n (q := 0) dX8_put_7 rfl rfl ?_
    refine T_ldc2 dX8_put_8 kcl_X8_98 ?_
    refine T_callVlw (As := [.long (-1000000000000000001 : Int64)]) (st := []) mv_X8_100 (by decide) dX8_put_11 ho0 (fun b hb => mX8_told0 G l o0 ho0 (-1000000000000000001 : Int64) M b hb) rfl rfl (Nat.le_of_ble_eq_true rfl) (fun b3 => ?_)
    exact T_end (fun h => by cases h; exact V_lret dX8_put_14)
  · refine T_aload_n (q := 0) dX8_put_15 rfl rfl ?_
    refine T_getR cf7 fr_X8_44 dX8_put_16 ho0 rfl ?_
    refine T_iload_n (q := 1) dX8_put_19 rfl rfl ?_
    refine T_iald dX8_put_20 (sf_7_15 ho0) ?_
    refine T_if_ne (tgt := 32) dX8_put_21 (by decide) (fun hc4 => ?_) (fun hc4 => ?_)
    · refine T_aload_n (q := 0) dX8_put_24 rfl rfl ?_
      refine T_ldc2 dX8_put_25 kcl_X8_211 ?_
      refine T_callVlw (As := [.long (-1000000000000000002 : Int64)]) (st := []) mv_X8_100 (by decide) dX8_put_28 ho0 (fun b hb => mX8_told0 G l o0 ho0 (-1000000000000000002 : Int64) M b hb) rfl rfl (Nat.le_of_ble_eq_true rfl) (fun b5 => ?_)
      exact T_end (fun h => by cases h; exact V_lret dX8_put_31)
    · refine T_iload_n (q := 2) dX8_put_32 rfl rfl ?_
      refine T_i2l dX8_put_33 ?_
      refine T_lconst (v := 0) dX8_put_34 (by decide) ?_
      refine T_aload_n (q := 0) dX8_put_35 rfl rfl ?_
      refine T_getR cf7 fr_X8_47 dX8_put_36 ho0 rfl ?_
      refine T_iload_n (q := 1) dX8_put_39 rfl rfl ?_
      refine T_iald dX8_put_40 (sf_7_16 ho0) ?_
      refine T_iconst (v := 1) dX8_put_41 (by decide) ?_
      refine T_isub dX8_put_42 ?_
      refine T_i2l dX8_put_43 ?_
      refine T_callSi (As := [.long x2.toInt64, .long (0 : Int64), .long (((M.1 (rf o0 16) x1.toNatClampNeg) - (1 : Int32)).toInt64)]) (st := []) ms_X8_86 (by decide) dX8_put_44 (fun b hb => mX8_in G l x2.toInt64 (0 : Int64) (((M.1 (rf o0 16) x1.toNatClampNeg) - (1 : Int32)).toInt64) M b hb) rfl rfl (Nat.le_of_ble_eq_true rfl) (fun b6 => ?_)
      refine T_if_ne (tgt := 58) dX8_put_47 (by decide) (fun hc7 => ?_) (fun hc7 => ?_)
      · refine T_aload_n (q := 0) dX8_put_50 rfl rfl ?_
        refine T_ldc2 dX8_put_51 kcl_X8_98 ?_
        refine T_callVlw (As := [.long (-1000000000000000001 : Int64)]) (st := []) mv_X8_100 (by decide) dX8_put_54 ho0 (fun b hb => mX8_told0 G l o0 ho0 (-1000000000000000001 : Int64) M b hb) rfl rfl (Nat.le_of_ble_eq_true rfl) (fun b8 => ?_)
        exact T_end (fun h => by cases h; exact V_lret dX8_put_57)
      · refine T_aload_n (q := 0) dX8_put_58 rfl rfl ?_
        refine T_getR cf7 fr_X8_50 dX8_put_59 ho0 rfl ?_
        refine T_bipush (v := 36) dX8_put_62 (by decide) ?_
        refine T_iload_n (q := 1) dX8_put_64 rfl rfl ?_
        refine T_imul dX8_put_65 ?_
        refine T_iload_n (q := 2) dX8_put_66 rfl rfl ?_
        refine T_iadd dX8_put_67 ?_
        refine T_aload_n (q := 0) dX8_put_68 rfl rfl ?_
        refine T_getR cf7 fr_X8_44 dX8_put_69 ho0 rfl ?_
        refine T_iload_n (q := 1) dX8_put_72 rfl rfl ?_
        refine T_iald dX8_put_73 (sf_7_15 ho0) ?_
        refine T_bipush (v := 8) dX8_put_74 (by decide) ?_
        refine T_icmp_ne (tgt := 84) dX8_put_76 (by decide) (fun hc9 => ?_) (fun hc9 => ?_)
        · refine T_iload_n (q := 3) dX8_put_79 rfl rfl ?_
          refine T_i2b dX8_put_80 ?_
          refine T_goto (tgt := 101) dX8_put_81 (by decide) ?_
          refine T_iast dX8_put_101 (sf_7_17 ho0) (fun M10 => ?_)
          refine T_lconst (v := 0) dX8_put_102 (by decide) ?_
          exact T_end (fun h => by cases h; exact V_lret dX8_put_103)
        · refine T_aload_n (q := 0) dX8_put_84 rfl rfl ?_
          refine T_getR cf7 fr_X8_44 dX8_put_85 ho0 rfl ?_
          refine T_iload_n (q := 1) dX8_put_88 rfl rfl ?_
          refine T_iald dX8_put_89 (sf_7_15 ho0) ?_
          refine T_bipush (v := 16) dX8_put_90 (by decide) ?_
          refine T_icmp_ne (tgt := 100) dX8_put_92 (by decide) (fun hc11 => ?_) (fun hc11 => ?_)
          · refine T_iload_n (q := 3) dX8_put_95 rfl rfl ?_
            refine T_i2s dX8_put_96 ?_
            refine T_goto (tgt := 101) dX8_put_97 (by decide) ?_
            refine T_iast dX8_put_101 (sf_7_17 ho0) (fun M12 => ?_)
            refine T_lconst (v := 0) dX8_put_102 (by decide) ?_
            exact T_end (fun h => by cases h; exact V_lret dX8_put_103)
          · refine T_iload_n (q := 3) dX8_put_100 rfl rfl ?_
            refine T_iast dX8_put_101 (sf_7_17 ho0) (fun M13 => ?_)
            refine T_lconst (v := 0) dX8_put_102 (by decide) ?_
            exact T_end (fun h => by cases h; exact V_lret dX8_put_103)
set_option maxHeartbeats 4000000 in
set_option maxRecDepth 100000 in
theorem mX8_quarrel (G : Gw) (l : Launch) (o0 : Nat) (ho0 : shp o0 = 7) (x1 : Int32) (x2 : Int32) (M : Mem) (a : Int64 × Mem) (h : fX8_quarrel o0 x1 x2 M = some a) : CtP G l yX8_quarrel cX8_quarrel 6 (some .long) 2 45 [.ref (adr G o0), .int x1, .int x2] M (some (.long a.1)) a.2 := by
  refine CtP.ofV (by decide) (Nat.le_of_ble_eq_true rfl) ?_
  refine (?_ : T G l RX8 cX8_quarrel 6 (some .long) (rmOf 2 45) 0 0 (FinM G (some (.long a.1)) a.2) (fun x => x = a) 0 [(0, .ref (adr G o0)), (1, .int x1), (2, .int x2)] [] M (fX8_quarrel o0 x1 x2 M)) a h rfl
  clear h
  unfold fX8_quarrel
  refine T_iload_n (q := 1) dX8_quarrel_0 rfl rfl ?_
  refine T_callSi (As := [.int x1]) (st := []) ms_X8_187 (by decide) dX8_quarrel_1 (fun b hb => mX8_isMap G l x1 M b hb) rfl rfl (Nat.le_of_ble_eq_true rfl) (fun b1 => ?_)
  refine T_if_eq (tgt := 14) dX8_quarrel_4 (by decide) (fun hc2 => ?_) (fun hc2 => ?_)
  · refine T_aload_n (q := 0) dX8_quarrel_14 rfl rfl ?_
    refine T_ldc2 dX8_quarrel_15 kcl_X8_98 ?_
    refine T_callVlw (As := [.long (-1000000000000000001 : Int64)]) (st := []) mv_X8_100 (by decide) dX8_quarrel_18 ho0 (fun b hb => mX8_told0 G l o0 ho0 (-1000000000000000001 : Int64) M b hb) rfl rfl (Nat.le_of_ble_eq_true rfl) (fun b3 => ?_)
    exact T_end (fun h => by cases h; exact V_lret dX8_quarrel_21)
  · refine T_iload_n (q := 2) dX8_quarrel_7 rfl rfl ?_
    refine T_callSi (As := [.int x2]) (st := []) ms_X8_187 (by decide) dX8_quarrel_8 (fun b hb => mX8_isMap G l x2 M b hb) rfl rfl (Nat.le_of_ble_eq_true rfl) (fun b4 => ?_)
    refine T_if_ne (tgt := 22) dX8_quarrel_11 (by decide) (fun hc5 => ?_) (fun hc5 => ?_)
    · refine T_aload_n (q := 0) dX8_quarrel_14 rfl rfl ?_
      refine T_ldc2 dX8_quarrel_15 kcl_X8_98 ?_
      refine T_callVlw (As := [.long (-1000000000000000001 : Int64)]) (st := []) mv_X8_100 (by decide) dX8_quarrel_18 ho0 (fun b hb => mX8_told0 G l o0 ho0 (-1000000000000000001 : Int64) M b hb) rfl rfl (Nat.le_of_ble_eq_true rfl) (fun b6 => ?_)
      exact T_end (fun h => by cases h; exact V_lret dX8_quarrel_21)
    · refine T_iconst (v := 0) dX8_quarrel_22 (by decide) ?_
      refine T_istore_n (lv' := [(3, .int (0 : Int32)), (0, .ref (adr G o0)), (1, .int x1), (2, .int x2)]) dX8_quarrel_23 rfl (by decide) rfl ?_
      refine T_loop (fun s7 => [(3, .int s7), (0, .ref (adr G o0)), (1, .int x1), (2, .int x2)]) (fun s7 => M) (fun s7 => ?_) (0 : Int32)
      unfold wX8_quarrel_24
      refine T_iload_n (q := 0) dX8_quarrel_24 rfl rfl ?_
      refine T_bipush (v := 36) dX8_quarrel_25 (by decide) ?_
      refine T_icmp_ge (tgt := 82) dX8_quarrel_27 (by decide) (fun hc8 => ?_) (fun hc8 => ?_)
      · refine T_aload_n (q := 1) dX8_quarrel_82 rfl rfl ?_
        refine T_ldc2 dX8_quarrel_83 kcl_X8_145 ?_
        refine T_callVlw (As := [.long (-1000000000000000006 : Int64)]) (st := []) mv_X8_100 (by decide) dX8_quarrel_86 ho0 (fun b hb => mX8_told0 G l o0 ho0 (-1000000000000000006 : Int64) M b hb) rfl rfl (Nat.le_of_ble_eq_true rfl) (fun b9 => ?_)
        exact T_end (fun h => by cases h; exact V_lret dX8_quarrel_89)
      · refine T_aload_n (q := 1) dX8_quarrel_30 rfl rfl ?_
        refine T_getR cf7 fr_X8_32 dX8_quarrel_31 ho0 rfl ?_
        refine T_bipush (v := 36) dX8_quarrel_34 (by decide) ?_
        refine T_iload_n (q := 2) dX8_quarrel_36 rfl rfl ?_
        refine T_imul dX8_quarrel_37 ?_
        refine T_iload_n (q := 0) dX8_quarrel_38 rfl rfl ?_
        refine T_iadd dX8_quarrel_39 ?_
        refine T_iald dX8_quarrel_40 (sf_7_11 ho0) ?_
        refine T_istore_G (lv' := fun v10 => [(4, .int v10), (3, .int s7), (0, .ref (adr G o0)), (1, .int x1), (2, .int x2)]) dX8_quarrel_41 (by decide) (fun _ => rfl) (fun v10 => ?_)
        refine T_aload_n (q := 2) dX8_quarrel_43 rfl rfl ?_
        refine T_getR cf7 fr_X8_32 dX8_quarrel_44 ho0 rfl ?_
        refine T_bipush (v := 36) dX8_quarrel_47 (by decide) ?_
        refine T_iload_n (q := 4) dX8_quarrel_49 rfl rfl ?_
        refine T_imul dX8_quarrel_50 ?_
        refine T_iload_n (q := 1) dX8_quarrel_51 rfl rfl ?_
        refine T_iadd dX8_quarrel_52 ?_
        refine T_iald dX8_quarrel_53 (sf_7_11 ho0) ?_
        refine T_istore_G (lv' := fun v11 => [(5, .int v11), (4, .int v10), (3, .int s7), (0, .ref (adr G o0)), (1, .int x1), (2, .int x2)]) dX8_quarrel_54 (by decide) (fun _ => rfl) (fun v11 => ?_)
        refine T_iload (q := 1) dX8_quarrel_56 rfl ?_
        refine T_if_lt (tgt := 76) dX8_quarrel_58 (by decide) (fun hc12 => ?_) (fun hc12 => ?_)
        · refine T_iinc_G (q := 2) (y := s7 + 1) (lv' := fun v13 => [(3, .int v13), (5, .int v11), (4, .int v10), (0, .ref (adr G o0)), (1, .int x1), (2, .int x2)]) dX8_quarrel_76 rfl rfl (by decide) (fun _ => rfl) (fun v13 => ?_)
          refine T_goto (tgt := 24) dX8_quarrel_79 (by decide) ?_
          exact T_end (fun h => V_sub [0, 3, 4, 5] rfl h)
        · refine T_iload (q := 0) dX8_quarrel_61 rfl ?_
          refine T_if_lt (tgt := 76) dX8_quarrel_63 (by decide) (fun hc14 => ?_) (fun hc14 => ?_)
          · refine T_iinc_G (q := 2) (y := s7 + 1) (lv' := fun v15 => [(3, .int v15), (5, .int v11), (4, .int v10), (0, .ref (adr G o0)), (1, .int x1), (2, .int x2)]) dX8_quarrel_76 rfl rfl (by decide) (fun _ => rfl) (fun v15 => ?_)
            refine T_goto (tgt := 24) dX8_quarrel_79 (by decide) ?_
            exact T_end (fun h => V_sub [0, 3, 4, 5] rfl h)
          · refine T_iload (q := 1) dX8_quarrel_66 rfl ?_
            refine T_iload (q := 0) dX8_quarrel_68 rfl ?_
            refine T_icmp_eq (tgt := 76) dX8_quarrel_70 (by decide) (fun hc16 => ?_) (fun hc16 => ?_)
            · refine T_iinc_G (q := 2) (y := s7 + 1) (lv' := fun v17 => [(3, .int v17), (5, .int v11), (4, .int v10), (0, .ref (adr G o0)), (1, .int x1), (2, .int x2)]) dX8_quarrel_76 rfl rfl (by decide) (fun _ => rfl) (fun v17 => ?_)
              refine T_goto (tgt := 24) dX8_quarrel_79 (by decide) ?_
              exact T_end (fun h => V_sub [0, 3, 4, 5] rfl h)
            · refine T_iload_n (q := 2) dX8_quarrel_73 rfl rfl ?_
              refine T_i2l dX8_quarrel_74 ?_
              exact T_end (fun h => by cases h; exact V_lret dX8_quarrel_75)
set_option maxHeartbeats 4000000 in
set_option maxRecDepth 100000 in
theorem mX8_read (G : Gw) (l : Launch) (o0 : Nat) (ho0 : shp o0 = 7) (x1 : Int32) (x2 : Int32) (M : Mem) (a : Int64 × Mem) (h : fX8_read o0 x1 x2 M = some a) : CtP G l yX8_read cX8_read 5 (some .long) 3 75 [.ref (adr G o0), .int x1, .int x2] M (some (.long a.1)) a.2 := by
  refine CtP.ofV (by decide) (Nat.le_of_ble_eq_true rfl) ?_
  refine (?_ : T G l RX8 cX8_read 5 (some .long) (rmOf 3 75) 0 0 (FinM G (some (.long a.1)) a.2) (fun x => x = a) 0 [(0, .ref (adr G o0)), (1, .int x1), (2, .int x2)] [] M (fX8_read o0 x1 x2 M)) a h rfl
  clear h
  unfold fX8_read
  refine T_iload_n (q := 1) dX8_read_0 rfl rfl ?_
  refine T_callSi (As := [.int x1]) (st := []) ms_X8_187 (by decide) dX8_read_1 (fun b hb => mX8_isMap G l x1 M b hb) rfl rfl (Nat.le_of_ble_eq_true rfl) (fun b1 => ?_)
  refine T_if_eq (tgt := 19) dX8_read_4 (by decide) (fun hc2 => ?_) (fun hc2 => ?_)
  · refine T_aload_n (q := 0) dX8_read_19 rfl rfl ?_
    refine T_ldc2 dX8_read_20 kcl_X8_98 ?_
    refine T_callVlw (As := [.long (-1000000000000000001 : Int64)]) (st := []) mv_X8_100 (by decide) dX8_read_23 ho0 (fun b hb => mX8_told0 G l o0 ho0 (-1000000000000000001 : Int64) M b hb) rfl rfl (Nat.le_of_ble_eq_true rfl) (fun b3 => ?_)
    exact T_end (fun h => by cases h; exact V_lret dX8_read_26)
  · refine T_iload_n (q := 2) dX8_read_7 rfl rfl ?_
    refine T_i2l dX8_read_8 ?_
    refine T_lconst (v := 0) dX8_read_9 (by decide) ?_
    refine T_ldc2 dX8_read_10 kcl_X8_96 ?_
    refine T_callSi (As := [.long x2.toInt64, .long (0 : Int64), .long (3 : Int64)]) (st := []) ms_X8_86 (by decide) dX8_read_13 (fun b hb => mX8_in G l x2.toInt64 (0 : Int64) (3 : Int64) M b hb) rfl rfl (Nat.le_of_ble_eq_true rfl) (fun b4 => ?_)
    refine T_if_ne (tgt := 27) dX8_read_16 (by decide) (fun hc5 => ?_) (fun hc5 => ?_)
    · refine T_aload_n (q := 0) dX8_read_19 rfl rfl ?_
      refine T_ldc2 dX8_read_20 kcl_X8_98 ?_
      refine T_callVlw (As := [.long (-1000000000000000001 : Int64)]) (st := []) mv_X8_100 (by decide) dX8_read_23 ho0 (fun b hb => mX8_told0 G l o0 ho0 (-1000000000000000001 : Int64) M b hb) rfl rfl (Nat.le_of_ble_eq_true rfl) (fun b6 => ?_)
      exact T_end (fun h => by cases h; exact V_lret dX8_read_26)
    · refine T_aload_n (q := 0) dX8_read_27 rfl rfl ?_
      refine T_callVvw (As := []) (st := []) mv_X8_142 (by decide) dX8_read_28 ho0 (fun b hb => mX8_done G l o0 ho0 M b hb) rfl rfl (Nat.le_of_ble_eq_true rfl) (fun b7 => ?_)
      refine T_aload_n (q := 0) dX8_read_31 rfl rfl ?_
      refine T_aload_n (q := 0) dX8_read_32 rfl rfl ?_
      refine T_getR cf7 fr_X8_29 dX8_read_33 ho0 rfl ?_
      refine T_iload_n (q := 1) dX8_read_36 rfl rfl ?_
      refine T_iald dX8_read_37 (sf_7_10 ho0) ?_
      refine T_callVi (As := [.int (b7.1 (rf o0 10) x1.toNatClampNeg)]) (st := []) mv_X8_150 (by decide) dX8_read_38 ho0 (fun b hb => mX8_until G l o0 ho0 (b7.1 (rf o0 10) x1.toNatClampNeg) b7 b hb) rfl rfl (Nat.le_of_ble_eq_true rfl) (fun b8 => ?_)
      refine T_istore_n (lv' := [(3, .int b8), (0, .ref (adr G o0)), (1, .int x1), (2, .int x2)]) dX8_read_41 rfl (by decide) rfl ?_
      refine T_iload_n (q := 3) dX8_read_42 rfl rfl ?_
      refine T_iconst (v := 3) dX8_read_43 (by decide) ?_
      refine T_icmp_ge (tgt := 83) dX8_read_44 (by decide) (fun hc9 => ?_) (fun hc9 => ?_)
      · refine T_iconst (v := 0) dX8_read_83 (by decide) ?_
        refine T_istore (lv' := [(4, .int (0 : Int32)), (3, .int b8), (0, .ref (adr G o0)), (1, .int x1), (2, .int x2)]) dX8_read_84 (by decide) rfl ?_
        refine T_bind (X := fun r16 => V G l RX8 cX8_read 5 (some .long) (rmOf 3 75) 0 0 (FinM G (some (.long a.1)) a.2) 141 [(4, .int r16), (3, .int b8), (0, .ref (adr G o0)), (1, .int x1), (2, .int x2)] [] b7) (T_loop (fun s10 => [(4, .int s10), (3, .int b8), (0, .ref (adr G o0)), (1, .int x1), (2, .int x2)]) (fun s10 => b7) (fun s10 => ?_) (0 : Int32)) (fun r16 => ?_)
        · unfold wX8_read_86
          refine T_iload (q := 0) dX8_read_86 rfl ?_
          refine T_bipush (v := 36) dX8_read_88 (by decide) ?_
          refine T_icmp_ge (tgt := 141) dX8_read_90 (by decide) (fun hc11 => ?_) (fun hc11 => ?_)
          · exact T_end (fun h => V_sub [0, 1, 2, 3, 4] rfl h)
          · refine T_aload_n (q := 2) dX8_read_93 rfl rfl ?_
            refine T_getR cf7 fr_X8_32 dX8_read_94 ho0 rfl ?_
            refine T_bipush (v := 36) dX8_read_97 (by decide) ?_
            refine T_iload_n (q := 3) dX8_read_99 rfl rfl ?_
            refine T_imul dX8_read_100 ?_
            refine T_iload (q := 0) dX8_read_101 rfl ?_
            refine T_iadd dX8_read_103 ?_
            refine T_iald dX8_read_104 (sf_7_11 ho0) ?_
            refine T_if_lt (tgt := 135) dX8_read_105 (by decide) (fun hc12 => ?_) (fun hc12 => ?_)
            · refine T_iinc_G (q := 0) (y := s10 + 1) (lv' := fun v13 => [(4, .int v13), (3, .int b8), (0, .ref (adr G o0)), (1, .int x1), (2, .int x2)]) dX8_read_135 rfl rfl (by decide) (fun _ => rfl) (fun v13 => ?_)
              refine T_goto (tgt := 86) dX8_read_138 (by decide) ?_
              exact T_end (fun h => V_sub [0, 1, 2, 3, 4] rfl h)
            · refine T_aload_n (q := 2) dX8_read_108 rfl rfl ?_
              refine T_getR cf7 fr_X8_32 dX8_read_109 ho0 rfl ?_
              refine T_bipush (v := 36) dX8_read_112 (by decide) ?_
              refine T_iload_n (q := 3) dX8_read_114 rfl rfl ?_
              refine T_imul dX8_read_115 ?_
              refine T_iload (q := 0) dX8_read_116 rfl ?_
              refine T_iadd dX8_read_118 ?_
              refine T_iald dX8_read_119 (sf_7_11 ho0) ?_
              refine T_aload_n (q := 2) dX8_read_120 rfl rfl ?_
              refine T_getR cf7 fr_X8_59 dX8_read_121 ho0 rfl ?_
              refine T_bipush (v := 36) dX8_read_124 (by decide) ?_
              refine T_iload_n (q := 1) dX8_read_126 rfl rfl ?_
              refine T_imul dX8_read_127 ?_
              refine T_iload (q := 0) dX8_read_128 rfl ?_
              refine T_iadd dX8_read_130 ?_
              refine T_iald dX8_read_131 (sf_7_20 ho0) ?_
              refine T_icmp_ne (tgt := 141) dX8_read_132 (by decide) (fun hc14 => ?_) (fun hc14 => ?_)
              · refine T_iinc_G (q := 0) (y := s10 + 1) (lv' := fun v15 => [(4, .int v15), (3, .int b8), (0, .ref (adr G o0)), (1, .int x1), (2, .int x2)]) dX8_read_135 rfl rfl (by decide) (fun _ => rfl) (fun v15 => ?_)
                refine T_goto (tgt := 86) dX8_read_138 (by decide) ?_
                exact T_end (fun h => V_sub [0, 1, 2, 3, 4] rfl h)
              · exact T_end (fun h => V_sub [0, 1, 2, 3, 4] rfl h)
        · change T G l RX8 cX8_read 5 (some .long) (rmOf 3 75) 0 0 (FinM G (some (.long a.1)) a.2) _ 141 [(4, .int r16), (3, .int b8), (0, .ref (adr G o0)), (1, .int x1), (2, .int x2)] [] b7 _
          refine T_iload (q := 0) dX8_read_141 rfl ?_
          refine T_i2l dX8_read_143 ?_
          exact T_end (fun h => by cases h; exact V_lret dX8_read_144)
      · refine T_iload_n (q := 3) dX8_read_47 rfl rfl ?_
        refine T_if_ne (tgt := 61) dX8_read_48 (by decide) (fun hc17 => ?_) (fun hc17 => ?_)
        · refine T_aload_n (q := 1) dX8_read_51 rfl rfl ?_
          refine T_getR cf7 fr_X8_29 dX8_read_52 ho0 rfl ?_
          refine T_iload_n (q := 2) dX8_read_55 rfl rfl ?_
          refine T_iald dX8_read_56 (sf_7_10 ho0) ?_
          refine T_i2l dX8_read_57 ?_
          refine T_goto (tgt := 82) dX8_read_58 (by decide) ?_
          exact T_end (fun h => by cases h; exact V_lret dX8_read_82)
        · refine T_iload_n (q := 3) dX8_read_61 rfl rfl ?_
          refine T_iconst (v := 1) dX8_read_62 (by decide) ?_
          refine T_icmp_ne (tgt := 75) dX8_read_63 (by decide) (fun hc18 => ?_) (fun hc18 => ?_)
          · refine T_aload_n (q := 1) dX8_read_66 rfl rfl ?_
            refine T_iload_n (q := 2) dX8_read_67 rfl rfl ?_
            refine T_callVi (As := [.int x1]) (st := []) mv_X8_190 (by decide) dX8_read_68 ho0 (fun b hb => mX8_claimsOf G l o0 ho0 x1 b7 b hb) rfl rfl (Nat.le_of_ble_eq_true rfl) (fun b19 => ?_)
            refine T_i2l dX8_read_71 ?_
            refine T_goto (tgt := 82) dX8_read_72 (by decide) ?_
            exact T_end (fun h => by cases h; exact V_lret dX8_read_82)
          · refine T_aload_n (q := 1) dX8_read_75 rfl rfl ?_
            refine T_iload_n (q := 2) dX8_read_76 rfl rfl ?_
            refine T_iload_n (q := 0) dX8_read_77 rfl rfl ?_
            refine T_callVi (As := [.int x1, .int b8]) (st := []) mv_X8_193 (by decide) dX8_read_78 ho0 (fun b hb => mX8_agrees G l o0 ho0 x1 b8 b7 b hb) rfl rfl (Nat.le_of_ble_eq_true rfl) (fun b20 => ?_)
            refine T_i2l dX8_read_81 ?_
            exact T_end (fun h => by cases h; exact V_lret dX8_read_82)
set_option maxHeartbeats 4000000 in
set_option maxRecDepth 100000 in
theorem mX8_sides (G : Gw) (l : Launch) (x0 : Int64) (M : Mem) (a : Int32) (h : fX8_sides x0 = some a) : CtP G l yX8_sides cX8_sides 5 (some .int) 2 48 [.long x0] M (some (.int a)) M := by
  refine CtP.ofV (by decide) (Nat.le_of_ble_eq_true rfl) ?_
  refine (?_ : T G l RX8 cX8_sides 5 (some .int) (rmOf 2 48) 0 0 (FinM G (some (.int a)) M) (fun x => x = a) 0 [(0, .long x0)] [] M (fX8_sides x0)) a h rfl
  clear h
  unfold fX8_sides
  refine T_iconst (v := 0) dX8_sides_0 (by decide) ?_
  refine T_istore_n (lv' := [(2, .int (0 : Int32)), (0, .long x0)]) dX8_sides_1 rfl (by decide) rfl ?_
  refine T_iconst (v := 0) dX8_sides_2 (by decide) ?_
  refine T_istore_n (lv' := [(3, .int (0 : Int32)), (2, .int (0 : Int32)), (0, .long x0)]) dX8_sides_3 rfl (by decide) rfl ?_
  refine T_bind (X := fun r16 => V G l RX8 cX8_sides 5 (some .int) (rmOf 2 48) 0 0 (FinM G (some (.int a)) M) 60 [(3, .int r16.2), (2, .int r16.1), (0, .long x0)] [] M) (T_loop (fun s1 => [(3, .int s1.2), (2, .int s1.1), (0, .long x0)]) (fun s1 => M) (fun s1 => ?_) ((0 : Int32), (0 : Int32))) (fun r16 => ?_)
  · unfold wX8_sides_4
    refine T_iload_n (q := 0) dX8_sides_4 rfl rfl ?_
    refine T_bipush (v := 36) dX8_sides_5 (by decide) ?_
    refine T_icmp_ge (tgt := 60) dX8_sides_7 (by decide) (fun hc2 => ?_) (fun hc2 => ?_)
    · exact T_end (fun h => V_sub [0, 1, 2] rfl h)
    · refine T_iconst (v := 0) dX8_sides_10 (by decide) ?_
      refine T_istore (lv' := [(4, .int (0 : Int32)), (3, .int s1.2), (2, .int s1.1), (0, .long x0)]) dX8_sides_11 (by decide) rfl ?_
      refine T_bind (X := fun r14 => V G l RX8 cX8_sides 5 (some .int) (rmOf 2 48) 0 0 (FinM G (some (.int a)) M) 54 [(4, .int r14.2), (3, .int s1.2), (2, .int r14.1), (0, .long x0)] [] M) (T_loop (fun s3 => [(4, .int s3.2), (3, .int s1.2), (2, .int s3.1), (0, .long x0)]) (fun s3 => M) (fun s3 => ?_) (s1.1, (0 : Int32))) (fun r14 => ?_)
      · unfold wX8_sides_13
        refine T_iload (q := 0) dX8_sides_13 rfl ?_
        refine T_iconst (v := 4) dX8_sides_15 (by decide) ?_
        refine T_icmp_ge (tgt := 54) dX8_sides_16 (by decide) (fun hc4 => ?_) (fun hc4 => ?_)
        · exact T_end (fun h => V_sub [0, 1, 2, 3] rfl h)
        · refine T_lload_n (q := 3) dX8_sides_19 rfl rfl ?_
          refine T_iload_n (q := 1) dX8_sides_20 rfl rfl ?_
          refine T_callSi (As := [.long x0, .int s1.2]) (st := []) ms_X8_160 (by decide) dX8_sides_21 (fun b hb => mX8_has G l x0 s1.2 M b hb) rfl rfl (Nat.le_of_ble_eq_true rfl) (fun b5 => ?_)
          refine T_if_eq (tgt := 54) dX8_sides_24 (by decide) (fun hc6 => ?_) (fun hc6 => ?_)
          · exact T_end (fun h => V_sub [0, 1, 2, 3] rfl h)
          · refine T_iload_n (q := 2) dX8_sides_27 rfl rfl ?_
            refine T_lload_n (q := 3) dX8_sides_28 rfl rfl ?_
            refine T_iload_n (q := 1) dX8_sides_29 rfl rfl ?_
            refine T_iload (q := 0) dX8_sides_30 rfl ?_
            refine T_callSi (As := [.int s1.2, .int s3.2]) (st := [.long x0, .int s3.1]) ms_X8_164 (by decide) dX8_sides_32 (fun b hb => mX8_beside G l s1.2 s3.2 M b hb) rfl rfl (Nat.le_of_ble_eq_true rfl) (fun b7 => ?_)
            refine T_callSi (As := [.long x0, .int b7]) (st := [.int s3.1]) ms_X8_160 (by decide) dX8_sides_35 (fun b hb => mX8_has G l x0 b7 M b hb) rfl rfl (Nat.le_of_ble_eq_true rfl) (fun b8 => ?_)
            refine T_if_eq (tgt := 45) dX8_sides_38 (by decide) (fun hc9 => ?_) (fun hc9 => ?_)
            · refine T_iconst (v := 1) dX8_sides_45 (by decide) ?_
              refine T_iadd dX8_sides_46 ?_
              refine T_istore_n_G (lv' := fun v10 => [(2, .int v10), (4, .int s3.2), (3, .int s1.2), (0, .long x0)]) dX8_sides_47 rfl (by decide) (fun _ => rfl) (fun v10 => ?_)
              refine T_iinc_G (q := 1) (y := s3.2 + 1) (lv' := fun v11 => [(4, .int v11), (2, .int v10), (3, .int s1.2), (0, .long x0)]) dX8_sides_48 rfl rfl (by decide) (fun _ => rfl) (fun v11 => ?_)
              refine T_goto (tgt := 13) dX8_sides_51 (by decide) ?_
              exact T_end (fun h => V_sub [0, 2, 1, 3] rfl h)
            · refine T_iconst (v := 0) dX8_sides_41 (by decide) ?_
              refine T_goto (tgt := 46) dX8_sides_42 (by decide) ?_
              refine T_iadd dX8_sides_46 ?_
              refine T_istore_n_G (lv' := fun v12 => [(2, .int v12), (4, .int s3.2), (3, .int s1.2), (0, .long x0)]) dX8_sides_47 rfl (by decide) (fun _ => rfl) (fun v12 => ?_)
              refine T_iinc_G (q := 1) (y := s3.2 + 1) (lv' := fun v13 => [(4, .int v13), (2, .int v12), (3, .int s1.2), (0, .long x0)]) dX8_sides_48 rfl rfl (by decide) (fun _ => rfl) (fun v13 => ?_)
              refine T_goto (tgt := 13) dX8_sides_51 (by decide) ?_
              exact T_end (fun h => V_sub [0, 2, 1, 3] rfl h)
      · change T G l RX8 cX8_sides 5 (some .int) (rmOf 2 48) 0 0 (FinM G (some (.int a)) M) _ 54 [(4, .int r14.2), (3, .int s1.2), (2, .int r14.1), (0, .long x0)] [] M _
        refine T_iinc_G (q := 1) (y := s1.2 + 1) (lv' := fun v15 => [(3, .int v15), (4, .int r14.2), (2, .int r14.1), (0, .long x0)]) dX8_sides_54 rfl rfl (by decide) (fun _ => rfl) (fun v15 => ?_)
        refine T_goto (tgt := 4) dX8_sides_57 (by decide) ?_
        exact T_end (fun h => V_sub [0, 2, 3] rfl h)
  · change T G l RX8 cX8_sides 5 (some .int) (rmOf 2 48) 0 0 (FinM G (some (.int a)) M) _ 60 [(3, .int r16.2), (2, .int r16.1), (0, .long x0)] [] M _
    refine T_iload_n (q := 1) dX8_sides_60 rfl rfl ?_
    exact T_end (fun h => by cases h; exact V_iret dX8_sides_61)
set_option maxHeartbeats 4000000 in
set_option maxRecDepth 100000 in
theorem mX8_shape (G : Gw) (l : Launch) (o0 : Nat) (ho0 : shp o0 = 7) (x1 : Int32) (x2 : Int32) (x3 : Int32) (M : Mem) (a : Int64 × Mem) (h : fX8_shape o0 x1 x2 x3 M = some a) : CtP G l yX8_shape cX8_shape 6 (some .long) 3 79 [.ref (adr G o0), .int x1, .int x2, .int x3] M (some (.long a.1)) a.2 := by
  refine CtP.ofV (by decide) (Nat.le_of_ble_eq_true rfl) ?_
  refine (?_ : T G l RX8 cX8_shape 6 (some .long) (rmOf 3 79) 0 0 (FinM G (some (.long a.1)) a.2) (fun x => x = a) 0 [(0, .ref (adr G o0)), (1, .int x1), (2, .int x2), (3, .int x3)] [] M (fX8_shape o0 x1 x2 x3 M)) a h rfl
  clear h
  unfold fX8_shape
  refine T_aload_n (q := 0) dX8_shape_0 rfl rfl ?_
  refine T_iload_n (q := 1) dX8_shape_1 rfl rfl ?_
  refine T_callVi (As := [.int x1]) (st := []) mv_X8_106 (by decide) dX8_shape_2 ho0 (fun b hb => mX8_isUnit G l o0 ho0 x1 M b hb) rfl rfl (Nat.le_of_ble_eq_true rfl) (fun b1 => ?_)
  refine T_if_eq (tgt := 27) dX8_shape_5 (by decide) (fun hc2 => ?_) (fun hc2 => ?_)
  · refine T_aload_n (q := 0) dX8_shape_27 rfl rfl ?_
    refine T_ldc2 dX8_shape_28 kcl_X8_98 ?_
    refine T_callVlw (As := [.long (-1000000000000000001 : Int64)]) (st := []) mv_X8_100 (by decide) dX8_shape_31 ho0 (fun b hb => mX8_told0 G l o0 ho0 (-1000000000000000001 : Int64) M b hb) rfl rfl (Nat.le_of_ble_eq_true rfl) (fun b3 => ?_)
    exact T_end (fun h => by cases h; exact V_lret dX8_shape_34)
  · refine T_iload_n (q := 2) dX8_shape_8 rfl rfl ?_
    refine T_callSi (As := [.int x2]) (st := []) ms_X8_115 (by decide) dX8_shape_9 (fun b hb => mX8_isYear G l x2 M b hb) rfl rfl (Nat.le_of_ble_eq_true rfl) (fun b4 => ?_)
    refine T_if_eq (tgt := 27) dX8_shape_12 (by decide) (fun hc5 => ?_) (fun hc5 => ?_)
    · refine T_aload_n (q := 0) dX8_shape_27 rfl rfl ?_
      refine T_ldc2 dX8_shape_28 kcl_X8_98 ?_
      refine T_callVlw (As := [.long (-1000000000000000001 : Int64)]) (st := []) mv_X8_100 (by decide) dX8_shape_31 ho0 (fun b hb => mX8_told0 G l o0 ho0 (-1000000000000000001 : Int64) M b hb) rfl rfl (Nat.le_of_ble_eq_true rfl) (fun b6 => ?_)
      exact T_end (fun h => by cases h; exact V_lret dX8_shape_34)
    · refine T_iload_n (q := 3) dX8_shape_15 rfl rfl ?_
      refine T_i2l dX8_shape_16 ?_
      refine T_lconst (v := 0) dX8_shape_17 (by decide) ?_
      refine T_ldc2 dX8_shape_18 kcl_X8_168 ?_
      refine T_callSi (As := [.long x3.toInt64, .long (0 : Int64), .long (2 : Int64)]) (st := []) ms_X8_86 (by decide) dX8_shape_21 (fun b hb => mX8_in G l x3.toInt64 (0 : Int64) (2 : Int64) M b hb) rfl rfl (Nat.le_of_ble_eq_true rfl) (fun b7 => ?_)
      refine T_if_ne (tgt := 35) dX8_shape_24 (by decide) (fun hc8 => ?_) (fun hc8 => ?_)
      · refine T_aload_n (q := 0) dX8_shape_27 rfl rfl ?_
        refine T_ldc2 dX8_shape_28 kcl_X8_98 ?_
        refine T_callVlw (As := [.long (-1000000000000000001 : Int64)]) (st := []) mv_X8_100 (by decide) dX8_shape_31 ho0 (fun b hb => mX8_told0 G l o0 ho0 (-1000000000000000001 : Int64) M b hb) rfl rfl (Nat.le_of_ble_eq_true rfl) (fun b9 => ?_)
        exact T_end (fun h => by cases h; exact V_lret dX8_shape_34)
      · refine T_aload_n (q := 0) dX8_shape_35 rfl rfl ?_
        refine T_callVvw (As := []) (st := []) mv_X8_142 (by decide) dX8_shape_36 ho0 (fun b hb => mX8_done G l o0 ho0 M b hb) rfl rfl (Nat.le_of_ble_eq_true rfl) (fun b10 => ?_)
        refine T_aload_n (q := 0) dX8_shape_39 rfl rfl ?_
        refine T_iload_n (q := 1) dX8_shape_40 rfl rfl ?_
        refine T_aload_n (q := 0) dX8_shape_41 rfl rfl ?_
        refine T_iload_n (q := 2) dX8_shape_42 rfl rfl ?_
        refine T_callVi (As := [.int x2]) (st := [.int x1, .ref (adr G o0)]) mv_X8_150 (by decide) dX8_shape_43 ho0 (fun b hb => mX8_until G l o0 ho0 x2 b10 b hb) rfl rfl (Nat.le_of_ble_eq_true rfl) (fun b11 => ?_)
        refine T_callVl (As := [.int x1, .int b11]) (st := []) mv_X8_154 (by decide) dX8_shape_46 ho0 (fun b hb => mX8_held G l o0 ho0 x1 b11 b10 b hb) rfl rfl (Nat.le_of_ble_eq_true rfl) (fun b12 => ?_)
        refine T_lstore (lv' := [(4, .long b12), (0, .ref (adr G o0)), (1, .int x1), (2, .int x2), (3, .int x3)]) dX8_shape_49 (by decide) rfl ?_
        refine T_iload_n (q := 4) dX8_shape_51 rfl rfl ?_
        refine T_if_ne (tgt := 64) dX8_shape_52 (by decide) (fun hc13 => ?_) (fun hc13 => ?_)
        · refine T_lload (q := 0) dX8_shape_55 rfl ?_
          refine T_callSi (As := [.long b12]) (st := []) ms_X8_170 (by decide) dX8_shape_57 (fun b hb => mX8_cellsIn G l b12 b10 b hb) rfl rfl (Nat.le_of_ble_eq_true rfl) (fun b14 => ?_)
          refine T_i2l dX8_shape_60 ?_
          refine T_goto (tgt := 84) dX8_shape_61 (by decide) ?_
          exact T_end (fun h => by cases h; exact V_lret dX8_shape_84)
        · refine T_iload_n (q := 4) dX8_shape_64 rfl rfl ?_
          refine T_iconst (v := 1) dX8_shape_65 (by decide) ?_
          refine T_icmp_ne (tgt := 78) dX8_shape_66 (by decide) (fun hc15 => ?_) (fun hc15 => ?_)
          · refine T_lload (q := 0) dX8_shape_69 rfl ?_
            refine T_callSi (As := [.long b12]) (st := []) ms_X8_174 (by decide) dX8_shape_71 (fun b hb => mX8_pieces G l b12 b10 b hb) rfl rfl (Nat.le_of_ble_eq_true rfl) (fun b16 => ?_)
            refine T_i2l dX8_shape_74 ?_
            refine T_goto (tgt := 84) dX8_shape_75 (by decide) ?_
            exact T_end (fun h => by cases h; exact V_lret dX8_shape_84)
          · refine T_lload (q := 0) dX8_shape_78 rfl ?_
            refine T_callSi (As := [.long b12]) (st := []) ms_X8_177 (by decide) dX8_shape_80 (fun b hb => mX8_sides G l b12 b10 b hb) rfl rfl (Nat.le_of_ble_eq_true rfl) (fun b17 => ?_)
            refine T_i2l dX8_shape_83 ?_
            exact T_end (fun h => by cases h; exact V_lret dX8_shape_84)
set_option maxHeartbeats 4000000 in
set_option maxRecDepth 100000 in
theorem mX8_sheet (G : Gw) (l : Launch) (o0 : Nat) (ho0 : shp o0 = 7) (x1 : Int32) (x2 : Int32) (x3 : Int32) (M : Mem) (a : Int64 × Mem) (h : fX8_sheet o0 x1 x2 x3 M = some a) : CtP G l yX8_sheet cX8_sheet 5 (some .long) 2 45 [.ref (adr G o0), .int x1, .int x2, .int x3] M (some (.long a.1)) a.2 := by
  refine CtP.ofV (by decide) (Nat.le_of_ble_eq_true rfl) ?_
  refine (?_ : T G l RX8 cX8_sheet 5 (some .long) (rmOf 2 45) 0 0 (FinM G (some (.long a.1)) a.2) (fun x => x = a) 0 [(0, .ref (adr G o0)), (1, .int x1), (2, .int x2), (3, .int x3)] [] M (fX8_sheet o0 x1 x2 x3 M)) a h rfl
  clear h
  unfold fX8_sheet
  refine T_iload_n (q := 1) dX8_sheet_0 rfl rfl ?_
  refine T_callSi (As := [.int x1]) (st := []) ms_X8_208 (by decide) dX8_sheet_1 (fun b hb => mX8_isSheet G l x1 M b hb) rfl rfl (Nat.le_of_ble_eq_true rfl) (fun b1 => ?_)
  refine T_if_eq (tgt := 29) dX8_sheet_4 (by decide) (fun hc2 => ?_) (fun hc2 => ?_)
  · refine T_aload_n (q := 0) dX8_sheet_29 rfl rfl ?_
    refine T_ldc2 dX8_sheet_30 kcl_X8_98 ?_
    refine T_callVlw (As := [.long (-1000000000000000001 : Int64)]) (st := []) mv_X8_100 (by decide) dX8_sheet_33 ho0 (fun b hb => mX8_told0 G l o0 ho0 (-1000000000000000001 : Int64) M b hb) rfl rfl (Nat.le_of_ble_eq_true rfl) (fun b3 => ?_)
    exact T_end (fun h => by cases h; exact V_lret dX8_sheet_36)
  · refine T_iload_n (q := 2) dX8_sheet_7 rfl rfl ?_
    refine T_if_eq (tgt := 37) dX8_sheet_8 (by decide) (fun hc4 => ?_) (fun hc4 => ?_)
    · refine T_iload_n (q := 3) dX8_sheet_37 rfl rfl ?_
      refine T_if_ge (tgt := 49) dX8_sheet_38 (by decide) (fun hc5 => ?_) (fun hc5 => ?_)
      · refine T_iload_n (q := 3) dX8_sheet_49 rfl rfl ?_
        refine T_bipush (v := 36) dX8_sheet_50 (by decide) ?_
        refine T_icmp_le (tgt := 63) dX8_sheet_52 (by decide) (fun hc6 => ?_) (fun hc6 => ?_)
        · refine T_aload_n (q := 0) dX8_sheet_63 rfl rfl ?_
          refine T_getR cf7 fr_X8_44 dX8_sheet_64 ho0 rfl ?_
          refine T_iload_n (q := 1) dX8_sheet_67 rfl rfl ?_
          refine T_iload_n (q := 2) dX8_sheet_68 rfl rfl ?_
          refine T_iast dX8_sheet_69 (sf_7_15 ho0) (fun M7 => ?_)
          refine T_aload_n (q := 0) dX8_sheet_70 rfl rfl ?_
          refine T_getR cf7 fr_X8_47 dX8_sheet_71 ho0 rfl ?_
          refine T_iload_n (q := 1) dX8_sheet_74 rfl rfl ?_
          refine T_iload_n (q := 2) dX8_sheet_75 rfl rfl ?_
          refine T_bind (X := fun j8 => V G l RX8 cX8_sheet 5 (some .long) (rmOf 2 45) 0 0 (FinM G (some (.long a.1)) a.2) 84 [(0, .ref (adr G o0)), (1, .int x1), (2, .int x2), (3, .int x3)] [.int j8, .int x1, .ref (adr G (rf o0 16))] M7) ?_ (fun j8 => ?_)
          · refine T_if_ne (tgt := 83) dX8_sheet_76 (by decide) (fun hc9 => ?_) (fun hc9 => ?_)
            · refine T_iconst (v := 0) dX8_sheet_79 (by decide) ?_
              refine T_goto (tgt := 84) dX8_sheet_80 (by decide) ?_
              exact T_end (fun h => V_sub [0, 1, 2, 3] rfl h)
            · refine T_iload_n (q := 3) dX8_sheet_83 rfl rfl ?_
              exact T_end (fun h => V_sub [0, 1, 2, 3] rfl h)
          · change T G l RX8 cX8_sheet 5 (some .long) (rmOf 2 45) 0 0 (FinM G (some (.long a.1)) a.2) _ 84 [(0, .ref (adr G o0)), (1, .int x1), (2, .int x2), (3, .int x3)] [.int j8, .int x1, .ref (adr G (rf o0 16))] M7 _
            refine T_iast dX8_sheet_84 (sf_7_16 ho0) (fun M10 => ?_)
            refine T_iconst (v := 0) dX8_sheet_85 (by decide) ?_
            refine T_istore (lv' := [(4, .int (0 : Int32)), (0, .ref (adr G o0)), (1, .int x1), (2, .int x2), (3, .int x3)]) dX8_sheet_86 (by decide) rfl ?_
            refine T_bind (X := fun r15 => V G l RX8 cX8_sheet 5 (some .long) (rmOf 2 45) 0 0 (FinM G (some (.long a.1)) a.2) 114 [(4, .int r15.1), (0, .ref (adr G o0)), (1, .int x1), (2, .int x2), (3, .int x3)] [] r15.2) (T_loop (fun s11 => [(4, .int s11.1), (0, .ref (adr G o0)), (1, .int x1), (2, .int x2), (3, .int x3)]) (fun s11 => s11.2) (fun s11 => ?_) ((0 : Int32), M10)) (fun r15 => ?_)
            · unfold wX8_sheet_88
              refine T_iload (q := 0) dX8_sheet_88 rfl ?_
              refine T_bipush (v := 36) dX8_sheet_90 (by decide) ?_
              refine T_icmp_ge (tgt := 114) dX8_sheet_92 (by decide) (fun hc12 => ?_) (fun hc12 => ?_)
              · exact T_end (fun h => V_sub [0, 1, 2, 3, 4] rfl h)
              · refine T_aload_n (q := 1) dX8_sheet_95 rfl rfl ?_
                refine T_getR cf7 fr_X8_50 dX8_sheet_96 ho0 rfl ?_
                refine T_bipush (v := 36) dX8_sheet_99 (by decide) ?_
                refine T_iload_n (q := 2) dX8_sheet_101 rfl rfl ?_
                refine T_imul dX8_sheet_102 ?_
                refine T_iload (q := 0) dX8_sheet_103 rfl ?_
                refine T_iadd dX8_sheet_105 ?_
                refine T_iconst (v := 0) dX8_sheet_106 (by decide) ?_
                refine T_iast dX8_sheet_107 (sf_7_17 ho0) (fun M13 => ?_)
                refine T_iinc_G (q := 0) (y := s11.1 + 1) (lv' := fun v14 => [(4, .int v14), (0, .ref (adr G o0)), (1, .int x1), (2, .int x2), (3, .int x3)]) dX8_sheet_108 rfl rfl (by decide) (fun _ => rfl) (fun v14 => ?_)
                refine T_goto (tgt := 88) dX8_sheet_111 (by decide) ?_
                exact T_end (fun h => V_sub [0, 1, 2, 3, 4] rfl h)
            · change T G l RX8 cX8_sheet 5 (some .long) (rmOf 2 45) 0 0 (FinM G (some (.long a.1)) a.2) _ 114 [(4, .int r15.1), (0, .ref (adr G o0)), (1, .int x1), (2, .int x2), (3, .int x3)] [] r15.2 _
              refine T_aload_n (q := 1) dX8_sheet_114 rfl rfl ?_
              refine T_getR cf7 fr_X8_47 dX8_sheet_115 ho0 rfl ?_
              refine T_iload_n (q := 2) dX8_sheet_118 rfl rfl ?_
              refine T_iald dX8_sheet_119 (sf_7_16 ho0) ?_
              refine T_i2l dX8_sheet_120 ?_
              exact T_end (fun h => by cases h; exact V_lret dX8_sheet_121)
        · refine T_aload_n (q := 0) dX8_sheet_55 rfl rfl ?_
          refine T_ldc2 dX8_sheet_56 kcl_X8_98 ?_
          refine T_callVlw (As := [.long (-1000000000000000001 : Int64)]) (st := []) mv_X8_100 (by decide) dX8_sheet_59 ho0 (fun b hb => mX8_told0 G l o0 ho0 (-1000000000000000001 : Int64) M b hb) rfl rfl (Nat.le_of_ble_eq_true rfl) (fun b16 => ?_)
          exact T_end (fun h => by cases h; exact V_lret dX8_sheet_62)
      · refine T_aload_n (q := 0) dX8_sheet_41 rfl rfl ?_
        refine T_ldc2 dX8_sheet_42 kcl_X8_125 ?_
        refine T_callVlw (As := [.long (-1000000000000000003 : Int64)]) (st := []) mv_X8_100 (by decide) dX8_sheet_45 ho0 (fun b hb => mX8_told0 G l o0 ho0 (-1000000000000000003 : Int64) M b hb) rfl rfl (Nat.le_of_ble_eq_true rfl) (fun b17 => ?_)
        exact T_end (fun h => by cases h; exact V_lret dX8_sheet_48)
    · refine T_iload_n (q := 2) dX8_sheet_11 rfl rfl ?_
      refine T_bipush (v := 8) dX8_sheet_12 (by decide) ?_
      refine T_icmp_eq (tgt := 37) dX8_sheet_14 (by decide) (fun hc18 => ?_) (fun hc18 => ?_)
      · refine T_iload_n (q := 3) dX8_sheet_37 rfl rfl ?_
        refine T_if_ge (tgt := 49) dX8_sheet_38 (by decide) (fun hc19 => ?_) (fun hc19 => ?_)
        · refine T_iload_n (q := 3) dX8_sheet_49 rfl rfl ?_
          refine T_bipush (v := 36) dX8_sheet_50 (by decide) ?_
          refine T_icmp_le (tgt := 63) dX8_sheet_52 (by decide) (fun hc20 => ?_) (fun hc20 => ?_)
          · refine T_aload_n (q := 0) dX8_sheet_63 rfl rfl ?_
            refine T_getR cf7 fr_X8_44 dX8_sheet_64 ho0 rfl ?_
            refine T_iload_n (q := 1) dX8_sheet_67 rfl rfl ?_
            refine T_iload_n (q := 2) dX8_sheet_68 rfl rfl ?_
            refine T_iast dX8_sheet_69 (sf_7_15 ho0) (fun M21 => ?_)
            refine T_aload_n (q := 0) dX8_sheet_70 rfl rfl ?_
            refine T_getR cf7 fr_X8_47 dX8_sheet_71 ho0 rfl ?_
            refine T_iload_n (q := 1) dX8_sheet_74 rfl rfl ?_
            refine T_iload_n (q := 2) dX8_sheet_75 rfl rfl ?_
            refine T_bind (X := fun j22 => V G l RX8 cX8_sheet 5 (some .long) (rmOf 2 45) 0 0 (FinM G (some (.long a.1)) a.2) 84 [(0, .ref (adr G o0)), (1, .int x1), (2, .int x2), (3, .int x3)] [.int j22, .int x1, .ref (adr G (rf o0 16))] M21) ?_ (fun j22 => ?_)
            · refine T_if_ne (tgt := 83) dX8_sheet_76 (by decide) (fun hc23 => ?_) (fun hc23 => ?_)
              · refine T_iconst (v := 0) dX8_sheet_79 (by decide) ?_
                refine T_goto (tgt := 84) dX8_sheet_80 (by decide) ?_
                exact T_end (fun h => V_sub [0, 1, 2, 3] rfl h)
              · refine T_iload_n (q := 3) dX8_sheet_83 rfl rfl ?_
                exact T_end (fun h => V_sub [0, 1, 2, 3] rfl h)
            · change T G l RX8 cX8_sheet 5 (some .long) (rmOf 2 45) 0 0 (FinM G (some (.long a.1)) a.2) _ 84 [(0, .ref (adr G o0)), (1, .int x1), (2, .int x2), (3, .int x3)] [.int j22, .int x1, .ref (adr G (rf o0 16))] M21 _
              refine T_iast dX8_sheet_84 (sf_7_16 ho0) (fun M24 => ?_)
              refine T_iconst (v := 0) dX8_sheet_85 (by decide) ?_
              refine T_istore (lv' := [(4, .int (0 : Int32)), (0, .ref (adr G o0)), (1, .int x1), (2, .int x2), (3, .int x3)]) dX8_sheet_86 (by decide) rfl ?_
              refine T_bind (X := fun r29 => V G l RX8 cX8_sheet 5 (some .long) (rmOf 2 45) 0 0 (FinM G (some (.long a.1)) a.2) 114 [(4, .int r29.1), (0, .ref (adr G o0)), (1, .int x1), (2, .int x2), (3, .int x3)] [] r29.2) (T_loop (fun s25 => [(4, .int s25.1), (0, .ref (adr G o0)), (1, .int x1), (2, .int x2), (3, .int x3)]) (fun s25 => s25.2) (fun s25 => ?_) ((0 : Int32), M24)) (fun r29 => ?_)
              · unfold wX8_sheet_88
                refine T_iload (q := 0) dX8_sheet_88 rfl ?_
                refine T_bipush (v := 36) dX8_sheet_90 (by decide) ?_
                refine T_icmp_ge (tgt := 114) dX8_sheet_92 (by decide) (fun hc26 => ?_) (fun hc26 => ?_)
                · exact T_end (fun h => V_sub [0, 1, 2, 3, 4] rfl h)
                · refine T_aload_n (q := 1) dX8_sheet_95 rfl rfl ?_
                  refine T_getR cf7 fr_X8_50 dX8_sheet_96 ho0 rfl ?_
                  refine T_bipush (v := 36) dX8_sheet_99 (by decide) ?_
                  refine T_iload_n (q := 2) dX8_sheet_101 rfl rfl ?_
                  refine T_imul dX8_sheet_102 ?_
                  refine T_iload (q := 0) dX8_sheet_103 rfl ?_
                  refine T_iadd dX8_sheet_105 ?_
                  refine T_iconst (v := 0) dX8_sheet_106 (by decide) ?_
                  refine T_iast dX8_sheet_107 (sf_7_17 ho0) (fun M27 => ?_)
                  refine T_iinc_G (q := 0) (y := s25.1 + 1) (lv' := fun v28 => [(4, .int v28), (0, .ref (adr G o0)), (1, .int x1), (2, .int x2), (3, .int x3)]) dX8_sheet_108 rfl rfl (by decide) (fun _ => rfl) (fun v28 => ?_)
                  refine T_goto (tgt := 88) dX8_sheet_111 (by decide) ?_
                  exact T_end (fun h => V_sub [0, 1, 2, 3, 4] rfl h)
              · change T G l RX8 cX8_sheet 5 (some .long) (rmOf 2 45) 0 0 (FinM G (some (.long a.1)) a.2) _ 114 [(4, .int r29.1), (0, .ref (adr G o0)), (1, .int x1), (2, .int x2), (3, .int x3)] [] r29.2 _
                refine T_aload_n (q := 1) dX8_sheet_114 rfl rfl ?_
                refine T_getR cf7 fr_X8_47 dX8_sheet_115 ho0 rfl ?_
                refine T_iload_n (q := 2) dX8_sheet_118 rfl rfl ?_
                refine T_iald dX8_sheet_119 (sf_7_16 ho0) ?_
                refine T_i2l dX8_sheet_120 ?_
                exact T_end (fun h => by cases h; exact V_lret dX8_sheet_121)
          · refine T_aload_n (q := 0) dX8_sheet_55 rfl rfl ?_
            refine T_ldc2 dX8_sheet_56 kcl_X8_98 ?_
            refine T_callVlw (As := [.long (-1000000000000000001 : Int64)]) (st := []) mv_X8_100 (by decide) dX8_sheet_59 ho0 (fun b hb => mX8_told0 G l o0 ho0 (-1000000000000000001 : Int64) M b hb) rfl rfl (Nat.le_of_ble_eq_true rfl) (fun b30 => ?_)
            exact T_end (fun h => by cases h; exact V_lret dX8_sheet_62)
        · refine T_aload_n (q := 0) dX8_sheet_41 rfl rfl ?_
          refine T_ldc2 dX8_sheet_42 kcl_X8_125 ?_
          refine T_callVlw (As := [.long (-1000000000000000003 : Int64)]) (st := []) mv_X8_100 (by decide) dX8_sheet_45 ho0 (fun b hb => mX8_told0 G l o0 ho0 (-1000000000000000003 : Int64) M b hb) rfl rfl (Nat.le_of_ble_eq_true rfl) (fun b31 => ?_)
          exact T_end (fun h => by cases h; exact V_lret dX8_sheet_48)
      · refine T_iload_n (q := 2) dX8_sheet_17 rfl rfl ?_
        refine T_bipush (v := 16) dX8_sheet_18 (by decide) ?_
        refine T_icmp_eq (tgt := 37) dX8_sheet_20 (by decide) (fun hc32 => ?_) (fun hc32 => ?_)
        · refine T_iload_n (q := 3) dX8_sheet_37 rfl rfl ?_
          refine T_if_ge (tgt := 49) dX8_sheet_38 (by decide) (fun hc33 => ?_) (fun hc33 => ?_)
          · refine T_iload_n (q := 3) dX8_sheet_49 rfl rfl ?_
            refine T_bipush (v := 36) dX8_sheet_50 (by decide) ?_
            refine T_icmp_le (tgt := 63) dX8_sheet_52 (by decide) (fun hc34 => ?_) (fun hc34 => ?_)
            · refine T_aload_n (q := 0) dX8_sheet_63 rfl rfl ?_
              refine T_getR cf7 fr_X8_44 dX8_sheet_64 ho0 rfl ?_
              refine T_iload_n (q := 1) dX8_sheet_67 rfl rfl ?_
              refine T_iload_n (q := 2) dX8_sheet_68 rfl rfl ?_
              refine T_iast dX8_sheet_69 (sf_7_15 ho0) (fun M35 => ?_)
              refine T_aload_n (q := 0) dX8_sheet_70 rfl rfl ?_
              refine T_getR cf7 fr_X8_47 dX8_sheet_71 ho0 rfl ?_
              refine T_iload_n (q := 1) dX8_sheet_74 rfl rfl ?_
              refine T_iload_n (q := 2) dX8_sheet_75 rfl rfl ?_
              refine T_bind (X := fun j36 => V G l RX8 cX8_sheet 5 (some .long) (rmOf 2 45) 0 0 (FinM G (some (.long a.1)) a.2) 84 [(0, .ref (adr G o0)), (1, .int x1), (2, .int x2), (3, .int x3)] [.int j36, .int x1, .ref (adr G (rf o0 16))] M35) ?_ (fun j36 => ?_)
              · refine T_if_ne (tgt := 83) dX8_sheet_76 (by decide) (fun hc37 => ?_) (fun hc37 => ?_)
                · refine T_iconst (v := 0) dX8_sheet_79 (by decide) ?_
                  refine T_goto (tgt := 84) dX8_sheet_80 (by decide) ?_
                  exact T_end (fun h => V_sub [0, 1, 2, 3] rfl h)
                · refine T_iload_n (q := 3) dX8_sheet_83 rfl rfl ?_
                  exact T_end (fun h => V_sub [0, 1, 2, 3] rfl h)
              · change T G l RX8 cX8_sheet 5 (some .long) (rmOf 2 45) 0 0 (FinM G (some (.long a.1)) a.2) _ 84 [(0, .ref (adr G o0)), (1, .int x1), (2, .int x2), (3, .int x3)] [.int j36, .int x1, .ref (adr G (rf o0 16))] M35 _
                refine T_iast dX8_sheet_84 (sf_7_16 ho0) (fun M38 => ?_)
                refine T_iconst (v := 0) dX8_sheet_85 (by decide) ?_
                refine T_istore (lv' := [(4, .int (0 : Int32)), (0, .ref (adr G o0)), (1, .int x1), (2, .int x2), (3, .int x3)]) dX8_sheet_86 (by decide) rfl ?_
                refine T_bind (X := fun r43 => V G l RX8 cX8_sheet 5 (some .long) (rmOf 2 45) 0 0 (FinM G (some (.long a.1)) a.2) 114 [(4, .int r43.1), (0, .ref (adr G o0)), (1, .int x1), (2, .int x2), (3, .int x3)] [] r43.2) (T_loop (fun s39 => [(4, .int s39.1), (0, .ref (adr G o0)), (1, .int x1), (2, .int x2), (3, .int x3)]) (fun s39 => s39.2) (fun s39 => ?_) ((0 : Int32), M38)) (fun r43 => ?_)
                · unfold wX8_sheet_88
                  refine T_iload (q := 0) dX8_sheet_88 rfl ?_
                  refine T_bipush (v := 36) dX8_sheet_90 (by decide) ?_
                  refine T_icmp_ge (tgt := 114) dX8_sheet_92 (by decide) (fun hc40 => ?_) (fun hc40 => ?_)
                  · exact T_end (fun h => V_sub [0, 1, 2, 3, 4] rfl h)
                  · refine T_aload_n (q := 1) dX8_sheet_95 rfl rfl ?_
                    refine T_getR cf7 fr_X8_50 dX8_sheet_96 ho0 rfl ?_
                    refine T_bipush (v := 36) dX8_sheet_99 (by decide) ?_
                    refine T_iload_n (q := 2) dX8_sheet_101 rfl rfl ?_
                    refine T_imul dX8_sheet_102 ?_
                    refine T_iload (q := 0) dX8_sheet_103 rfl ?_
                    refine T_iadd dX8_sheet_105 ?_
                    refine T_iconst (v := 0) dX8_sheet_106 (by decide) ?_
                    refine T_iast dX8_sheet_107 (sf_7_17 ho0) (fun M41 => ?_)
                    refine T_iinc_G (q := 0) (y := s39.1 + 1) (lv' := fun v42 => [(4, .int v42), (0, .ref (adr G o0)), (1, .int x1), (2, .int x2), (3, .int x3)]) dX8_sheet_108 rfl rfl (by decide) (fun _ => rfl) (fun v42 => ?_)
                    refine T_goto (tgt := 88) dX8_sheet_111 (by decide) ?_
                    exact T_end (fun h => V_sub [0, 1, 2, 3, 4] rfl h)
                · change T G l RX8 cX8_sheet 5 (some .long) (rmOf 2 45) 0 0 (FinM G (some (.long a.1)) a.2) _ 114 [(4, .int r43.1), (0, .ref (adr G o0)), (1, .int x1), (2, .int x2), (3, .int x3)] [] r43.2 _
                  refine T_aload_n (q := 1) dX8_sheet_114 rfl rfl ?_
                  refine T_getR cf7 fr_X8_47 dX8_sheet_115 ho0 rfl ?_
                  refine T_iload_n (q := 2) dX8_sheet_118 rfl rfl ?_
                  refine T_iald dX8_sheet_119 (sf_7_16 ho0) ?_
                  refine T_i2l dX8_sheet_120 ?_
                  exact T_end (fun h => by cases h; exact V_lret dX8_sheet_121)
            · refine T_aload_n (q := 0) dX8_sheet_55 rfl rfl ?_
              refine T_ldc2 dX8_sheet_56 kcl_X8_98 ?_
              refine T_callVlw (As := [.long (-1000000000000000001 : Int64)]) (st := []) mv_X8_100 (by decide) dX8_sheet_59 ho0 (fun b hb => mX8_told0 G l o0 ho0 (-1000000000000000001 : Int64) M b hb) rfl rfl (Nat.le_of_ble_eq_true rfl) (fun b44 => ?_)
              exact T_end (fun h => by cases h; exact V_lret dX8_sheet_62)
          · refine T_aload_n (q := 0) dX8_sheet_41 rfl rfl ?_
            refine T_ldc2 dX8_sheet_42 kcl_X8_125 ?_
            refine T_callVlw (As := [.long (-1000000000000000003 : Int64)]) (st := []) mv_X8_100 (by decide) dX8_sheet_45 ho0 (fun b hb => mX8_told0 G l o0 ho0 (-1000000000000000003 : Int64) M b hb) rfl rfl (Nat.le_of_ble_eq_true rfl) (fun b45 => ?_)
            exact T_end (fun h => by cases h; exact V_lret dX8_sheet_48)
        · refine T_iload_n (q := 2) dX8_sheet_23 rfl rfl ?_
          refine T_bipush (v := 32) dX8_sheet_24 (by decide) ?_
          refine T_icmp_eq (tgt := 37) dX8_sheet_26 (by decide) (fun hc46 => ?_) (fun hc46 => ?_)
          · refine T_iload_n (q := 3) dX8_sheet_37 rfl rfl ?_
            refine T_if_ge (tgt := 49) dX8_sheet_38 (by decide) (fun hc47 => ?_) (fun hc47 => ?_)
            · refine T_iload_n (q := 3) dX8_sheet_49 rfl rfl ?_
              refine T_bipush (v := 36) dX8_sheet_50 (by decide) ?_
              refine T_icmp_le (tgt := 63) dX8_sheet_52 (by decide) (fun hc48 => ?_) (fun hc48 => ?_)
              · refine T_aload_n (q := 0) dX8_sheet_63 rfl rfl ?_
                refine T_getR cf7 fr_X8_44 dX8_sheet_64 ho0 rfl ?_
                refine T_iload_n (q := 1) dX8_sheet_67 rfl rfl ?_
                refine T_iload_n (q := 2) dX8_sheet_68 rfl rfl ?_
                refine T_iast dX8_sheet_69 (sf_7_15 ho0) (fun M49 => ?_)
                refine T_aload_n (q := 0) dX8_sheet_70 rfl rfl ?_
                refine T_getR cf7 fr_X8_47 dX8_sheet_71 ho0 rfl ?_
                refine T_iload_n (q := 1) dX8_sheet_74 rfl rfl ?_
                refine T_iload_n (q := 2) dX8_sheet_75 rfl rfl ?_
                refine T_bind (X := fun j50 => V G l RX8 cX8_sheet 5 (some .long) (rmOf 2 45) 0 0 (FinM G (some (.long a.1)) a.2) 84 [(0, .ref (adr G o0)), (1, .int x1), (2, .int x2), (3, .int x3)] [.int j50, .int x1, .ref (adr G (rf o0 16))] M49) ?_ (fun j50 => ?_)
                · refine T_if_ne (tgt := 83) dX8_sheet_76 (by decide) (fun hc51 => ?_) (fun hc51 => ?_)
                  · refine T_iconst (v := 0) dX8_sheet_79 (by decide) ?_
                    refine T_goto (tgt := 84) dX8_sheet_80 (by decide) ?_
                    exact T_end (fun h => V_sub [0, 1, 2, 3] rfl h)
                  · refine T_iload_n (q := 3) dX8_sheet_83 rfl rfl ?_
                    exact T_end (fun h => V_sub [0, 1, 2, 3] rfl h)
                · change T G l RX8 cX8_sheet 5 (some .long) (rmOf 2 45) 0 0 (FinM G (some (.long a.1)) a.2) _ 84 [(0, .ref (adr G o0)), (1, .int x1), (2, .int x2), (3, .int x3)] [.int j50, .int x1, .ref (adr G (rf o0 16))] M49 _
                  refine T_iast dX8_sheet_84 (sf_7_16 ho0) (fun M52 => ?_)
                  refine T_iconst (v := 0) dX8_sheet_85 (by decide) ?_
                  refine T_istore (lv' := [(4, .int (0 : Int32)), (0, .ref (adr G o0)), (1, .int x1), (2, .int x2), (3, .int x3)]) dX8_sheet_86 (by decide) rfl ?_
                  refine T_bind (X := fun r57 => V G l RX8 cX8_sheet 5 (some .long) (rmOf 2 45) 0 0 (FinM G (some (.long a.1)) a.2) 114 [(4, .int r57.1), (0, .ref (adr G o0)), (1, .int x1), (2, .int x2), (3, .int x3)] [] r57.2) (T_loop (fun s53 => [(4, .int s53.1), (0, .ref (adr G o0)), (1, .int x1), (2, .int x2), (3, .int x3)]) (fun s53 => s53.2) (fun s53 => ?_) ((0 : Int32), M52)) (fun r57 => ?_)
                  · unfold wX8_sheet_88
                    refine T_iload (q := 0) dX8_sheet_88 rfl ?_
                    refine T_bipush (v := 36) dX8_sheet_90 (by decide) ?_
                    refine T_icmp_ge (tgt := 114) dX8_sheet_92 (by decide) (fun hc54 => ?_) (fun hc54 => ?_)
                    · exact T_end (fun h => V_sub [0, 1, 2, 3, 4] rfl h)
                    · refine T_aload_n (q := 1) dX8_sheet_95 rfl rfl ?_
                      refine T_getR cf7 fr_X8_50 dX8_sheet_96 ho0 rfl ?_
                      refine T_bipush (v := 36) dX8_sheet_99 (by decide) ?_
                      refine T_iload_n (q := 2) dX8_sheet_101 rfl rfl ?_
                      refine T_imul dX8_sheet_102 ?_
                      refine T_iload (q := 0) dX8_sheet_103 rfl ?_
                      refine T_iadd dX8_sheet_105 ?_
                      refine T_iconst (v := 0) dX8_sheet_106 (by decide) ?_
                      refine T_iast dX8_sheet_107 (sf_7_17 ho0) (fun M55 => ?_)
                      refine T_iinc_G (q := 0) (y := s53.1 + 1) (lv' := fun v56 => [(4, .int v56), (0, .ref (adr G o0)), (1, .int x1), (2, .int x2), (3, .int x3)]) dX8_sheet_108 rfl rfl (by decide) (fun _ => rfl) (fun v56 => ?_)
                      refine T_goto (tgt := 88) dX8_sheet_111 (by decide) ?_
                      exact T_end (fun h => V_sub [0, 1, 2, 3, 4] rfl h)
                  · change T G l RX8 cX8_sheet 5 (some .long) (rmOf 2 45) 0 0 (FinM G (some (.long a.1)) a.2) _ 114 [(4, .int r57.1), (0, .ref (adr G o0)), (1, .int x1), (2, .int x2), (3, .int x3)] [] r57.2 _
                    refine T_aload_n (q := 1) dX8_sheet_114 rfl rfl ?_
                    refine T_getR cf7 fr_X8_47 dX8_sheet_115 ho0 rfl ?_
                    refine T_iload_n (q := 2) dX8_sheet_118 rfl rfl ?_
                    refine T_iald dX8_sheet_119 (sf_7_16 ho0) ?_
                    refine T_i2l dX8_sheet_120 ?_
                    exact T_end (fun h => by cases h; exact V_lret dX8_sheet_121)
              · refine T_aload_n (q := 0) dX8_sheet_55 rfl rfl ?_
                refine T_ldc2 dX8_sheet_56 kcl_X8_98 ?_
                refine T_callVlw (As := [.long (-1000000000000000001 : Int64)]) (st := []) mv_X8_100 (by decide) dX8_sheet_59 ho0 (fun b hb => mX8_told0 G l o0 ho0 (-1000000000000000001 : Int64) M b hb) rfl rfl (Nat.le_of_ble_eq_true rfl) (fun b58 => ?_)
                exact T_end (fun h => by cases h; exact V_lret dX8_sheet_62)
            · refine T_aload_n (q := 0) dX8_sheet_41 rfl rfl ?_
              refine T_ldc2 dX8_sheet_42 kcl_X8_125 ?_
              refine T_callVlw (As := [.long (-1000000000000000003 : Int64)]) (st := []) mv_X8_100 (by decide) dX8_sheet_45 ho0 (fun b hb => mX8_told0 G l o0 ho0 (-1000000000000000003 : Int64) M b hb) rfl rfl (Nat.le_of_ble_eq_true rfl) (fun b59 => ?_)
              exact T_end (fun h => by cases h; exact V_lret dX8_sheet_48)
          · refine T_aload_n (q := 0) dX8_sheet_29 rfl rfl ?_
            refine T_ldc2 dX8_sheet_30 kcl_X8_98 ?_
            refine T_callVlw (As := [.long (-1000000000000000001 : Int64)]) (st := []) mv_X8_100 (by decide) dX8_sheet_33 ho0 (fun b hb => mX8_told0 G l o0 ho0 (-1000000000000000001 : Int64) M b hb) rfl rfl (Nat.le_of_ble_eq_true rfl) (fun b60 => ?_)
            exact T_end (fun h => by cases h; exact V_lret dX8_sheet_36)
set_option maxHeartbeats 4000000 in
set_option maxRecDepth 100000 in
theorem mX8_swallow (G : Gw) (l : Launch) (o0 : Nat) (ho0 : shp o0 = 7) (x1 : Int32) (x2 : Int32) (x3 : Int32) (M : Mem) (a : Int64 × Mem) (h : fX8_swallow o0 x1 x2 x3 M = some a) : CtP G l yX8_swallow cX8_swallow 4 (some .long) 2 48 [.ref (adr G o0), .int x1, .int x2, .int x3] M (some (.long a.1)) a.2 := by
  refine CtP.ofV (by decide) (Nat.le_of_ble_eq_true rfl) ?_
  refine (?_ : T G l RX8 cX8_swallow 4 (some .long) (rmOf 2 48) 0 0 (FinM G (some (.long a.1)) a.2) (fun x => x = a) 0 [(0, .ref (adr G o0)), (1, .int x1), (2, .int x2), (3, .int x3)] [] M (fX8_swallow o0 x1 x2 x3 M)) a h rfl
  clear h
  unfold fX8_swallow
  refine T_aload_n (q := 0) dX8_swallow_0 rfl rfl ?_
  refine T_iload_n (q := 1) dX8_swallow_1 rfl rfl ?_
  refine T_callVi (As := [.int x1]) (st := []) mv_X8_106 (by decide) dX8_swallow_2 ho0 (fun b hb => mX8_isUnit G l o0 ho0 x1 M b hb) rfl rfl (Nat.le_of_ble_eq_true rfl) (fun b1 => ?_)
  refine T_if_eq (tgt := 23) dX8_swallow_5 (by decide) (fun hc2 => ?_) (fun hc2 => ?_)
  · refine T_aload_n (q := 0) dX8_swallow_23 rfl rfl ?_
    refine T_ldc2 dX8_swallow_24 kcl_X8_98 ?_
    refine T_callVlw (As := [.long (-1000000000000000001 : Int64)]) (st := []) mv_X8_100 (by decide) dX8_swallow_27 ho0 (fun b hb => mX8_told0 G l o0 ho0 (-1000000000000000001 : Int64) M b hb) rfl rfl (Nat.le_of_ble_eq_true rfl) (fun b3 => ?_)
    exact T_end (fun h => by cases h; exact V_lret dX8_swallow_30)
  · refine T_aload_n (q := 0) dX8_swallow_8 rfl rfl ?_
    refine T_iload_n (q := 2) dX8_swallow_9 rfl rfl ?_
    refine T_callVi (As := [.int x2]) (st := []) mv_X8_106 (by decide) dX8_swallow_10 ho0 (fun b hb => mX8_isUnit G l o0 ho0 x2 M b hb) rfl rfl (Nat.le_of_ble_eq_true rfl) (fun b4 => ?_)
    refine T_if_eq (tgt := 23) dX8_swallow_13 (by decide) (fun hc5 => ?_) (fun hc5 => ?_)
    · refine T_aload_n (q := 0) dX8_swallow_23 rfl rfl ?_
      refine T_ldc2 dX8_swallow_24 kcl_X8_98 ?_
      refine T_callVlw (As := [.long (-1000000000000000001 : Int64)]) (st := []) mv_X8_100 (by decide) dX8_swallow_27 ho0 (fun b hb => mX8_told0 G l o0 ho0 (-1000000000000000001 : Int64) M b hb) rfl rfl (Nat.le_of_ble_eq_true rfl) (fun b6 => ?_)
      exact T_end (fun h => by cases h; exact V_lret dX8_swallow_30)
    · refine T_iload_n (q := 3) dX8_swallow_16 rfl rfl ?_
      refine T_callSi (As := [.int x3]) (st := []) ms_X8_115 (by decide) dX8_swallow_17 (fun b hb => mX8_isYear G l x3 M b hb) rfl rfl (Nat.le_of_ble_eq_true rfl) (fun b7 => ?_)
      refine T_if_ne (tgt := 31) dX8_swallow_20 (by decide) (fun hc8 => ?_) (fun hc8 => ?_)
      · refine T_aload_n (q := 0) dX8_swallow_23 rfl rfl ?_
        refine T_ldc2 dX8_swallow_24 kcl_X8_98 ?_
        refine T_callVlw (As := [.long (-1000000000000000001 : Int64)]) (st := []) mv_X8_100 (by decide) dX8_swallow_27 ho0 (fun b hb => mX8_told0 G l o0 ho0 (-1000000000000000001 : Int64) M b hb) rfl rfl (Nat.le_of_ble_eq_true rfl) (fun b9 => ?_)
        exact T_end (fun h => by cases h; exact V_lret dX8_swallow_30)
      · refine T_aload_n (q := 0) dX8_swallow_31 rfl rfl ?_
        refine T_iload_n (q := 1) dX8_swallow_32 rfl rfl ?_
        refine T_callVi (As := [.int x1]) (st := []) mv_X8_118 (by decide) dX8_swallow_33 ho0 (fun b hb => mX8_isHundred G l o0 ho0 x1 M b hb) rfl rfl (Nat.le_of_ble_eq_true rfl) (fun b10 => ?_)
        refine T_if_ne (tgt := 47) dX8_swallow_36 (by decide) (fun hc11 => ?_) (fun hc11 => ?_)
        · refine T_aload_n (q := 0) dX8_swallow_39 rfl rfl ?_
          refine T_iload_n (q := 2) dX8_swallow_40 rfl rfl ?_
          refine T_callVi (As := [.int x2]) (st := []) mv_X8_118 (by decide) dX8_swallow_41 ho0 (fun b hb => mX8_isHundred G l o0 ho0 x2 M b hb) rfl rfl (Nat.le_of_ble_eq_true rfl) (fun b12 => ?_)
          refine T_if_eq (tgt := 55) dX8_swallow_44 (by decide) (fun hc13 => ?_) (fun hc13 => ?_)
          · refine T_iload_n (q := 1) dX8_swallow_55 rfl rfl ?_
            refine T_iload_n (q := 2) dX8_swallow_56 rfl rfl ?_
            refine T_icmp_ne (tgt := 70) dX8_swallow_57 (by decide) (fun hc14 => ?_) (fun hc14 => ?_)
            · refine T_aload_n (q := 0) dX8_swallow_60 rfl rfl ?_
              refine T_ldc2 dX8_swallow_61 kcl_X8_125 ?_
              refine T_callVlw (As := [.long (-1000000000000000003 : Int64)]) (st := []) mv_X8_100 (by decide) dX8_swallow_64 ho0 (fun b hb => mX8_told0 G l o0 ho0 (-1000000000000000003 : Int64) M b hb) rfl rfl (Nat.le_of_ble_eq_true rfl) (fun b15 => ?_)
              refine T_goto (tgt := 79) dX8_swallow_67 (by decide) ?_
              exact T_end (fun h => by cases h; exact V_lret dX8_swallow_79)
            · refine T_aload_n (q := 0) dX8_swallow_70 rfl rfl ?_
              refine T_iconst (v := 2) dX8_swallow_71 (by decide) ?_
              refine T_iload_n (q := 3) dX8_swallow_72 rfl rfl ?_
              refine T_iload_n (q := 1) dX8_swallow_73 rfl rfl ?_
              refine T_iload_n (q := 2) dX8_swallow_74 rfl rfl ?_
              refine T_lconst (v := 0) dX8_swallow_75 (by decide) ?_
              refine T_callVlw (As := [.int (2 : Int32), .int x3, .int x1, .int x2, .long (0 : Int64)]) (st := []) mv_X8_121 (by decide) dX8_swallow_76 ho0 (fun b hb => mX8_add G l o0 ho0 (2 : Int32) x3 x1 x2 (0 : Int64) M b hb) rfl rfl (Nat.le_of_ble_eq_true rfl) (fun b16 => ?_)
              exact T_end (fun h => by cases h; exact V_lret dX8_swallow_79)
          · refine T_aload_n (q := 0) dX8_swallow_47 rfl rfl ?_
            refine T_ldc2 dX8_swallow_48 kcl_X8_110 ?_
            refine T_callVlw (As := [.long (-1000000000000000004 : Int64)]) (st := []) mv_X8_100 (by decide) dX8_swallow_51 ho0 (fun b hb => mX8_told0 G l o0 ho0 (-1000000000000000004 : Int64) M b hb) rfl rfl (Nat.le_of_ble_eq_true rfl) (fun b17 => ?_)
            exact T_end (fun h => by cases h; exact V_lret dX8_swallow_54)
        · refine T_aload_n (q := 0) dX8_swallow_47 rfl rfl ?_
          refine T_ldc2 dX8_swallow_48 kcl_X8_110 ?_
          refine T_callVlw (As := [.long (-1000000000000000004 : Int64)]) (st := []) mv_X8_100 (by decide) dX8_swallow_51 ho0 (fun b hb => mX8_told0 G l o0 ho0 (-1000000000000000004 : Int64) M b hb) rfl rfl (Nat.le_of_ble_eq_true rfl) (fun b18 => ?_)
          exact T_end (fun h => by cases h; exact V_lret dX8_swallow_54)
set_option maxHeartbeats 4000000 in
set_option maxRecDepth 100000 in
theorem mX8_there (G : Gw) (l : Launch) (o0 : Nat) (ho0 : shp o0 = 7) (x1 : Int32) (x2 : Int32) (M : Mem) (a : Int64 × Mem) (h : fX8_there o0 x1 x2 M = some a) : CtP G l yX8_there cX8_there 3 (some .long) 3 75 [.ref (adr G o0), .int x1, .int x2] M (some (.long a.1)) a.2 := by
  refine CtP.ofV (by decide) (Nat.le_of_ble_eq_true rfl) ?_
  refine (?_ : T G l RX8 cX8_there 3 (some .long) (rmOf 3 75) 0 0 (FinM G (some (.long a.1)) a.2) (fun x => x = a) 0 [(0, .ref (adr G o0)), (1, .int x1), (2, .int x2)] [] M (fX8_there o0 x1 x2 M)) a h rfl
  clear h
  unfold fX8_there
  refine T_aload_n (q := 0) dX8_there_0 rfl rfl ?_
  refine T_iload_n (q := 1) dX8_there_1 rfl rfl ?_
  refine T_callVi (As := [.int x1]) (st := []) mv_X8_106 (by decide) dX8_there_2 ho0 (fun b hb => mX8_isUnit G l o0 ho0 x1 M b hb) rfl rfl (Nat.le_of_ble_eq_true rfl) (fun b1 => ?_)
  refine T_if_eq (tgt := 15) dX8_there_5 (by decide) (fun hc2 => ?_) (fun hc2 => ?_)
  · refine T_aload_n (q := 0) dX8_there_15 rfl rfl ?_
    refine T_ldc2 dX8_there_16 kcl_X8_98 ?_
    refine T_callVlw (As := [.long (-1000000000000000001 : Int64)]) (st := []) mv_X8_100 (by decide) dX8_there_19 ho0 (fun b hb => mX8_told0 G l o0 ho0 (-1000000000000000001 : Int64) M b hb) rfl rfl (Nat.le_of_ble_eq_true rfl) (fun b3 => ?_)
    exact T_end (fun h => by cases h; exact V_lret dX8_there_22)
  · refine T_iload_n (q := 2) dX8_there_8 rfl rfl ?_
    refine T_callSi (As := [.int x2]) (st := []) ms_X8_115 (by decide) dX8_there_9 (fun b hb => mX8_isYear G l x2 M b hb) rfl rfl (Nat.le_of_ble_eq_true rfl) (fun b4 => ?_)
    refine T_if_ne (tgt := 23) dX8_there_12 (by decide) (fun hc5 => ?_) (fun hc5 => ?_)
    · refine T_aload_n (q := 0) dX8_there_15 rfl rfl ?_
      refine T_ldc2 dX8_there_16 kcl_X8_98 ?_
      refine T_callVlw (As := [.long (-1000000000000000001 : Int64)]) (st := []) mv_X8_100 (by decide) dX8_there_19 ho0 (fun b hb => mX8_told0 G l o0 ho0 (-1000000000000000001 : Int64) M b hb) rfl rfl (Nat.le_of_ble_eq_true rfl) (fun b6 => ?_)
      exact T_end (fun h => by cases h; exact V_lret dX8_there_22)
    · refine T_aload_n (q := 0) dX8_there_23 rfl rfl ?_
      refine T_callVvw (As := []) (st := []) mv_X8_142 (by decide) dX8_there_24 ho0 (fun b hb => mX8_done G l o0 ho0 M b hb) rfl rfl (Nat.le_of_ble_eq_true rfl) (fun b7 => ?_)
      refine T_aload_n (q := 0) dX8_there_27 rfl rfl ?_
      refine T_iload_n (q := 1) dX8_there_28 rfl rfl ?_
      refine T_callVi (As := [.int x1]) (st := []) mv_X8_118 (by decide) dX8_there_29 ho0 (fun b hb => mX8_isHundred G l o0 ho0 x1 b7 b hb) rfl rfl (Nat.le_of_ble_eq_true rfl) (fun b8 => ?_)
      refine T_if_ne (tgt := 53) dX8_there_32 (by decide) (fun hc9 => ?_) (fun hc9 => ?_)
      · refine T_aload_n (q := 0) dX8_there_35 rfl rfl ?_
        refine T_getR cf7 fr_X8_68 dX8_there_36 ho0 rfl ?_
        refine T_bipush (v := 10) dX8_there_39 (by decide) ?_
        refine T_aload_n (q := 0) dX8_there_41 rfl rfl ?_
        refine T_iload_n (q := 2) dX8_there_42 rfl rfl ?_
        refine T_callVi (As := [.int x2]) (st := [.int (10 : Int32), .ref (adr G (rf o0 23))]) mv_X8_150 (by decide) dX8_there_43 ho0 (fun b hb => mX8_until G l o0 ho0 x2 b7 b hb) rfl rfl (Nat.le_of_ble_eq_true rfl) (fun b10 => ?_)
        refine T_imul dX8_there_46 ?_
        refine T_iload_n (q := 1) dX8_there_47 rfl rfl ?_
        refine T_iadd dX8_there_48 ?_
        refine T_zald dX8_there_49 (sf_7_23 ho0) ?_
        refine T_if_eq (tgt := 57) dX8_there_50 (by decide) (fun hc11 => ?_) (fun hc11 => ?_)
        · refine T_lconst (v := 0) dX8_there_57 (by decide) ?_
          exact T_end (fun h => by cases h; exact V_lret dX8_there_58)
        · refine T_lconst (v := 1) dX8_there_53 (by decide) ?_
          refine T_goto (tgt := 58) dX8_there_54 (by decide) ?_
          exact T_end (fun h => by cases h; exact V_lret dX8_there_58)
      · refine T_lconst (v := 1) dX8_there_53 (by decide) ?_
        refine T_goto (tgt := 58) dX8_there_54 (by decide) ?_
        exact T_end (fun h => by cases h; exact V_lret dX8_there_58)
set_option maxHeartbeats 4000000 in
set_option maxRecDepth 100000 in
theorem mX8_told (G : Gw) (l : Launch) (o0 : Nat) (ho0 : shp o0 = 7) (x1 : Int32) (M : Mem) (a : Int64 × Mem) (h : fX8_told o0 x1 M = some a) : CtP G l yX8_told cX8_told 4 (some .long) 3 75 [.ref (adr G o0), .int x1] M (some (.long a.1)) a.2 := by
  refine CtP.ofV (by decide) (Nat.le_of_ble_eq_true rfl) ?_
  refine (?_ : T G l RX8 cX8_told 4 (some .long) (rmOf 3 75) 0 0 (FinM G (some (.long a.1)) a.2) (fun x => x = a) 0 [(0, .ref (adr G o0)), (1, .int x1)] [] M (fX8_told o0 x1 M)) a h rfl
  clear h
  unfold fX8_told
  refine T_iconst (v := 0) dX8_told_0 (by decide) ?_
  refine T_istore_n (lv' := [(2, .int (0 : Int32)), (0, .ref (adr G o0)), (1, .int x1)]) dX8_told_1 rfl (by decide) rfl ?_
  refine T_iload_n (q := 2) dX8_told_2 rfl rfl ?_
  refine T_split (fun hs1 => ?_) (fun hs1 => ?_)
  · refine T_tswIn (off := 33) (tgt := 36) dX8_told_3 (by rw [hs1]; decide) (by rw [hs1]; decide) (by rw [hs1]; rfl) (by decide) ?_
    refine T_aload_n (q := 1) dX8_told_36 rfl rfl ?_
    refine T_getI cf7 fr_X8_82 dX8_told_37 ho0 rfl ?_
    refine T_i2l dX8_told_40 ?_
    exact T_end (fun h => by cases h; exact V_lret dX8_told_41)
  · skip
    refine T_split (fun hs2 => ?_) (fun hs2 => ?_)
    · refine T_tswIn (off := 39) (tgt := 42) dX8_told_3 (by rw [hs2]; decide) (by rw [hs2]; decide) (by rw [hs2]; rfl) (by decide) ?_
      refine T_aload_n (q := 1) dX8_told_42 rfl rfl ?_
      refine T_getI cf7 fr_X8_112 dX8_told_43 ho0 rfl ?_
      refine T_i2l dX8_told_46 ?_
      exact T_end (fun h => by cases h; exact V_lret dX8_told_47)
    · skip
      refine T_split (fun hs3 => ?_) (fun hs3 => ?_)
      · refine T_tswIn (off := 45) (tgt := 48) dX8_told_3 (by rw [hs3]; decide) (by rw [hs3]; decide) (by rw [hs3]; rfl) (by decide) ?_
        refine T_aload_n (q := 1) dX8_told_48 rfl rfl ?_
        refine T_callVvw (As := []) (st := []) mv_X8_142 (by decide) dX8_told_49 ho0 (fun b hb => mX8_done G l o0 ho0 M b hb) rfl rfl (Nat.le_of_ble_eq_true rfl) (fun b6 => ?_)
        refine T_iconst (v := 0) dX8_told_52 (by decide) ?_
        refine T_istore_n (lv' := [(3, .int (0 : Int32)), (2, .int (0 : Int32)), (0, .ref (adr G o0)), (1, .int x1)]) dX8_told_53 rfl (by decide) rfl ?_
        refine T_bind (X := fun r14 => V G l RX8 cX8_told 4 (some .long) (rmOf 3 75) 0 0 (FinM G (some (.long a.1)) a.2) 85 [(3, .int r14.2), (2, .int r14.1), (0, .ref (adr G o0)), (1, .int x1)] [] b6) (T_loop (fun s7 => [(3, .int s7.2), (2, .int s7.1), (0, .ref (adr G o0)), (1, .int x1)]) (fun s7 => b6) (fun s7 => ?_) ((0 : Int32), (0 : Int32))) (fun r14 => ?_)
        · unfold wX8_told_54
          refine T_iload_n (q := 0) dX8_told_54 rfl rfl ?_
          refine T_aload_n (q := 2) dX8_told_55 rfl rfl ?_
          refine T_getI cf7 fr_X8_112 dX8_told_56 ho0 rfl ?_
          refine T_icmp_ge (tgt := 85) dX8_told_59 (by decide) (fun hc8 => ?_) (fun hc8 => ?_)
          · exact T_end (fun h => V_sub [0, 1, 2, 3] rfl h)
          · refine T_iload_n (q := 1) dX8_told_62 rfl rfl ?_
            refine T_aload_n (q := 2) dX8_told_63 rfl rfl ?_
            refine T_getR cf7 fr_X8_72 dX8_told_64 ho0 rfl ?_
            refine T_iload_n (q := 0) dX8_told_67 rfl rfl ?_
            refine T_zald dX8_told_68 (sf_7_24 ho0) ?_
            refine T_if_eq (tgt := 76) dX8_told_69 (by decide) (fun hc9 => ?_) (fun hc9 => ?_)
            · refine T_iconst (v := 0) dX8_told_76 (by decide) ?_
              refine T_iadd dX8_told_77 ?_
              refine T_istore_n_G (lv' := fun v10 => [(2, .int v10), (3, .int s7.2), (0, .ref (adr G o0)), (1, .int x1)]) dX8_told_78 rfl (by decide) (fun _ => rfl) (fun v10 => ?_)
              refine T_iinc_G (q := 1) (y := s7.2 + 1) (lv' := fun v11 => [(3, .int v11), (2, .int v10), (0, .ref (adr G o0)), (1, .int x1)]) dX8_told_79 rfl rfl (by decide) (fun _ => rfl) (fun v11 => ?_)
              refine T_goto (tgt := 54) dX8_told_82 (by decide) ?_
              exact T_end (fun h => V_sub [0, 1, 2, 3] rfl h)
            · refine T_iconst (v := 1) dX8_told_72 (by decide) ?_
              refine T_goto (tgt := 77) dX8_told_73 (by decide) ?_
              refine T_iadd dX8_told_77 ?_
              refine T_istore_n_G (lv' := fun v12 => [(2, .int v12), (3, .int s7.2), (0, .ref (adr G o0)), (1, .int x1)]) dX8_told_78 rfl (by decide) (fun _ => rfl) (fun v12 => ?_)
              refine T_iinc_G (q := 1) (y := s7.2 + 1) (lv' := fun v13 => [(3, .int v13), (2, .int v12), (0, .ref (adr G o0)), (1, .int x1)]) dX8_told_79 rfl rfl (by decide) (fun _ => rfl) (fun v13 => ?_)
              refine T_goto (tgt := 54) dX8_told_82 (by decide) ?_
              exact T_end (fun h => V_sub [0, 1, 2, 3] rfl h)
        · change T G l RX8 cX8_told 4 (some .long) (rmOf 3 75) 0 0 (FinM G (some (.long a.1)) a.2) _ 85 [(3, .int r14.2), (2, .int r14.1), (0, .ref (adr G o0)), (1, .int x1)] [] b6 _
          refine T_iload_n (q := 1) dX8_told_85 rfl rfl ?_
          refine T_i2l dX8_told_86 ?_
          exact T_end (fun h => by cases h; exact V_lret dX8_told_87)
      · skip
        refine T_split (fun hs4 => ?_) (fun hs4 => ?_)
        · refine T_tswIn (off := 85) (tgt := 88) dX8_told_3 (by rw [hs4]; decide) (by rw [hs4]; decide) (by rw [hs4]; rfl) (by decide) ?_
          refine T_aload_n (q := 1) dX8_told_88 rfl rfl ?_
          refine T_getI cf7 fr_X8_198 dX8_told_89 ho0 rfl ?_
          refine T_i2l dX8_told_92 ?_
          exact T_end (fun h => by cases h; exact V_lret dX8_told_93)
        · skip
          refine T_split (fun hs5 => ?_) (fun hs5 => ?_)
          · refine T_tswIn (off := 91) (tgt := 94) dX8_told_3 (by rw [hs5]; decide) (by rw [hs5]; decide) (by rw [hs5]; rfl) (by decide) ?_
            refine T_aload_n (q := 1) dX8_told_94 rfl rfl ?_
            refine T_getL cf7 fr_X8_78 dX8_told_95 ho0 rfl ?_
            exact T_end (fun h => by cases h; exact V_lret dX8_told_98)
          · skip
            refine T_tswOut (tgt := 99) dX8_told_3 (by have hz := tsw0 (x := x1) (n := 5) (by decide) (fun j hj => by match j, hj with | 0, _ => exact hs1 | 1, _ => exact hs2 | 2, _ => exact hs3 | 3, _ => exact hs4 | 4, _ => exact hs5); exact hz) (by decide) ?_
            refine T_aload_n (q := 1) dX8_told_99 rfl rfl ?_
            refine T_ldc2 dX8_told_100 kcl_X8_98 ?_
            refine T_callVlw (As := [.long (-1000000000000000001 : Int64)]) (st := []) mv_X8_100 (by decide) dX8_told_103 ho0 (fun b hb => mX8_told0 G l o0 ho0 (-1000000000000000001 : Int64) M b hb) rfl rfl (Nat.le_of_ble_eq_true rfl) (fun b15 => ?_)
            exact T_end (fun h => by cases h; exact V_lret dX8_told_106)
set_option maxHeartbeats 4000000 in
set_option maxRecDepth 100000 in
theorem mX8_under (G : Gw) (l : Launch) (o0 : Nat) (ho0 : shp o0 = 7) (x1 : Int32) (x2 : Int32) (M : Mem) (a : Int64 × Mem) (h : fX8_under o0 x1 x2 M = some a) : CtP G l yX8_under cX8_under 4 (some .long) 3 75 [.ref (adr G o0), .int x1, .int x2] M (some (.long a.1)) a.2 := by
  refine CtP.ofV (by decide) (Nat.le_of_ble_eq_true rfl) ?_
  refine (?_ : T G l RX8 cX8_under 4 (some .long) (rmOf 3 75) 0 0 (FinM G (some (.long a.1)) a.2) (fun x => x = a) 0 [(0, .ref (adr G o0)), (1, .int x1), (2, .int x2)] [] M (fX8_under o0 x1 x2 M)) a h rfl
  clear h
  unfold fX8_under
  refine T_aload_n (q := 0) dX8_under_0 rfl rfl ?_
  refine T_iload_n (q := 1) dX8_under_1 rfl rfl ?_
  refine T_callVi (As := [.int x1]) (st := []) mv_X8_106 (by decide) dX8_under_2 ho0 (fun b hb => mX8_isUnit G l o0 ho0 x1 M b hb) rfl rfl (Nat.le_of_ble_eq_true rfl) (fun b1 => ?_)
  refine T_if_eq (tgt := 15) dX8_under_5 (by decide) (fun hc2 => ?_) (fun hc2 => ?_)
  · refine T_aload_n (q := 0) dX8_under_15 rfl rfl ?_
    refine T_ldc2 dX8_under_16 kcl_X8_98 ?_
    refine T_callVlw (As := [.long (-1000000000000000001 : Int64)]) (st := []) mv_X8_100 (by decide) dX8_under_19 ho0 (fun b hb => mX8_told0 G l o0 ho0 (-1000000000000000001 : Int64) M b hb) rfl rfl (Nat.le_of_ble_eq_true rfl) (fun b3 => ?_)
    exact T_end (fun h => by cases h; exact V_lret dX8_under_22)
  · refine T_iload_n (q := 2) dX8_under_8 rfl rfl ?_
    refine T_callSi (As := [.int x2]) (st := []) ms_X8_115 (by decide) dX8_under_9 (fun b hb => mX8_isYear G l x2 M b hb) rfl rfl (Nat.le_of_ble_eq_true rfl) (fun b4 => ?_)
    refine T_if_ne (tgt := 23) dX8_under_12 (by decide) (fun hc5 => ?_) (fun hc5 => ?_)
    · refine T_aload_n (q := 0) dX8_under_15 rfl rfl ?_
      refine T_ldc2 dX8_under_16 kcl_X8_98 ?_
      refine T_callVlw (As := [.long (-1000000000000000001 : Int64)]) (st := []) mv_X8_100 (by decide) dX8_under_19 ho0 (fun b hb => mX8_told0 G l o0 ho0 (-1000000000000000001 : Int64) M b hb) rfl rfl (Nat.le_of_ble_eq_true rfl) (fun b6 => ?_)
      exact T_end (fun h => by cases h; exact V_lret dX8_under_22)
    · refine T_aload_n (q := 0) dX8_under_23 rfl rfl ?_
      refine T_iload_n (q := 1) dX8_under_24 rfl rfl ?_
      refine T_callVi (As := [.int x1]) (st := []) mv_X8_118 (by decide) dX8_under_25 ho0 (fun b hb => mX8_isHundred G l o0 ho0 x1 M b hb) rfl rfl (Nat.le_of_ble_eq_true rfl) (fun b7 => ?_)
      refine T_if_eq (tgt := 39) dX8_under_28 (by decide) (fun hc8 => ?_) (fun hc8 => ?_)
      · refine T_aload_n (q := 0) dX8_under_39 rfl rfl ?_
        refine T_callVvw (As := []) (st := []) mv_X8_142 (by decide) dX8_under_40 ho0 (fun b hb => mX8_done G l o0 ho0 M b hb) rfl rfl (Nat.le_of_ble_eq_true rfl) (fun b9 => ?_)
        refine T_aload_n (q := 0) dX8_under_43 rfl rfl ?_
        refine T_getR cf7 fr_X8_62 dX8_under_44 ho0 rfl ?_
        refine T_bipush (v := 10) dX8_under_47 (by decide) ?_
        refine T_aload_n (q := 0) dX8_under_49 rfl rfl ?_
        refine T_iload_n (q := 2) dX8_under_50 rfl rfl ?_
        refine T_callVi (As := [.int x2]) (st := [.int (10 : Int32), .ref (adr G (rf o0 21))]) mv_X8_150 (by decide) dX8_under_51 ho0 (fun b hb => mX8_until G l o0 ho0 x2 b9 b hb) rfl rfl (Nat.le_of_ble_eq_true rfl) (fun b10 => ?_)
        refine T_imul dX8_under_54 ?_
        refine T_iload_n (q := 1) dX8_under_55 rfl rfl ?_
        refine T_iadd dX8_under_56 ?_
        refine T_iald dX8_under_57 (sf_7_21 ho0) ?_
        refine T_istore_n_G (lv' := fun v11 => [(3, .int v11), (0, .ref (adr G o0)), (1, .int x1), (2, .int x2)]) dX8_under_58 rfl (by decide) (fun _ => rfl) (fun v11 => ?_)
        refine T_iload_n (q := 0) dX8_under_59 rfl rfl ?_
        refine T_if_ge (tgt := 73) dX8_under_60 (by decide) (fun hc12 => ?_) (fun hc12 => ?_)
        · refine T_iload_n (q := 0) dX8_under_73 rfl rfl ?_
          refine T_i2l dX8_under_74 ?_
          exact T_end (fun h => by cases h; exact V_lret dX8_under_75)
        · refine T_aload_n (q := 1) dX8_under_63 rfl rfl ?_
          refine T_ldc2 dX8_under_64 kcl_X8_145 ?_
          refine T_callVlw (As := [.long (-1000000000000000006 : Int64)]) (st := []) mv_X8_100 (by decide) dX8_under_67 ho0 (fun b hb => mX8_told0 G l o0 ho0 (-1000000000000000006 : Int64) b9 b hb) rfl rfl (Nat.le_of_ble_eq_true rfl) (fun b13 => ?_)
          refine T_goto (tgt := 75) dX8_under_70 (by decide) ?_
          exact T_end (fun h => by cases h; exact V_lret dX8_under_75)
      · refine T_aload_n (q := 0) dX8_under_31 rfl rfl ?_
        refine T_ldc2 dX8_under_32 kcl_X8_110 ?_
        refine T_callVlw (As := [.long (-1000000000000000004 : Int64)]) (st := []) mv_X8_100 (by decide) dX8_under_35 ho0 (fun b hb => mX8_told0 G l o0 ho0 (-1000000000000000004 : Int64) M b hb) rfl rfl (Nat.le_of_ble_eq_true rfl) (fun b14 => ?_)
        exact T_end (fun h => by cases h; exact V_lret dX8_under_38)
set_option maxHeartbeats 4000000 in
set_option maxRecDepth 100000 in
theorem mX8_unit (G : Gw) (l : Launch) (o0 : Nat) (ho0 : shp o0 = 7) (x1 : Int32) (M : Mem) (a : Int64 × Mem) (h : fX8_unit o0 x1 M = some a) : CtP G l yX8_unit cX8_unit 2 (some .long) 1 25 [.ref (adr G o0), .int x1] M (some (.long a.1)) a.2 := by
  refine CtP.ofV (by decide) (Nat.le_of_ble_eq_true rfl) ?_
  refine (?_ : T G l RX8 cX8_unit 2 (some .long) (rmOf 1 25) 0 0 (FinM G (some (.long a.1)) a.2) (fun x => x = a) 0 [(0, .ref (adr G o0)), (1, .int x1)] [] M (fX8_unit o0 x1 M)) a h rfl
  clear h
  unfold fX8_unit
  refine T_iload_n (q := 1) dX8_unit_0 rfl rfl ?_
  refine T_i2l dX8_unit_1 ?_
  refine T_lconst (v := 0) dX8_unit_2 (by decide) ?_
  refine T_ldc2 dX8_unit_3 kcl_X8_96 ?_
  refine T_callSi (As := [.long x1.toInt64, .long (0 : Int64), .long (3 : Int64)]) (st := []) ms_X8_86 (by decide) dX8_unit_6 (fun b hb => mX8_in G l x1.toInt64 (0 : Int64) (3 : Int64) M b hb) rfl rfl (Nat.le_of_ble_eq_true rfl) (fun b1 => ?_)
  refine T_if_ne (tgt := 20) dX8_unit_9 (by decide) (fun hc2 => ?_) (fun hc2 => ?_)
  · refine T_aload_n (q := 0) dX8_unit_12 rfl rfl ?_
    refine T_ldc2 dX8_unit_13 kcl_X8_98 ?_
    refine T_callVlw (As := [.long (-1000000000000000001 : Int64)]) (st := []) mv_X8_100 (by decide) dX8_unit_16 ho0 (fun b hb => mX8_told0 G l o0 ho0 (-1000000000000000001 : Int64) M b hb) rfl rfl (Nat.le_of_ble_eq_true rfl) (fun b3 => ?_)
    exact T_end (fun h => by cases h; exact V_lret dX8_unit_19)
  · refine T_aload_n (q := 0) dX8_unit_20 rfl rfl ?_
    refine T_getI cf7 fr_X8_82 dX8_unit_21 ho0 rfl ?_
    refine T_bipush (v := 10) dX8_unit_24 (by decide) ?_
    refine T_icmp_ne (tgt := 37) dX8_unit_26 (by decide) (fun hc4 => ?_) (fun hc4 => ?_)
    · refine T_aload_n (q := 0) dX8_unit_29 rfl rfl ?_
      refine T_ldc2 dX8_unit_30 kcl_X8_104 ?_
      refine T_callVlw (As := [.long (-1000000000000000005 : Int64)]) (st := []) mv_X8_100 (by decide) dX8_unit_33 ho0 (fun b hb => mX8_told0 G l o0 ho0 (-1000000000000000005 : Int64) M b hb) rfl rfl (Nat.le_of_ble_eq_true rfl) (fun b5 => ?_)
      exact T_end (fun h => by cases h; exact V_lret dX8_unit_36)
    · refine T_aload_n (q := 0) dX8_unit_37 rfl rfl ?_
      refine T_getR cf7 fr_X8_9 dX8_unit_38 ho0 rfl ?_
      refine T_aload_n (q := 0) dX8_unit_41 rfl rfl ?_
      refine T_getI cf7 fr_X8_82 dX8_unit_42 ho0 rfl ?_
      refine T_iload_n (q := 1) dX8_unit_45 rfl rfl ?_
      refine T_iast dX8_unit_46 (sf_7_4 ho0) (fun M6 => ?_)
      refine T_aload_n (q := 0) dX8_unit_47 rfl rfl ?_
      refine T_dup dX8_unit_48 rfl ?_
      refine T_getI cf7 fr_X8_82 dX8_unit_49 ho0 rfl ?_
      refine T_iconst (v := 1) dX8_unit_52 (by decide) ?_
      refine T_iadd dX8_unit_53 ?_
      refine T_putI cf7 fr_X8_82 pt_7_0 dX8_unit_54 ho0 rfl (fun M7 => ?_)
      refine T_aload_n (q := 0) dX8_unit_57 rfl rfl ?_
      refine T_getI cf7 fr_X8_82 dX8_unit_58 ho0 rfl ?_
      refine T_iconst (v := 1) dX8_unit_61 (by decide) ?_
      refine T_isub dX8_unit_62 ?_
      refine T_i2l dX8_unit_63 ?_
      exact T_end (fun h => by cases h; exact V_lret dX8_unit_64)
set_option maxHeartbeats 4000000 in
set_option maxRecDepth 100000 in
theorem mX8_untell (G : Gw) (l : Launch) (o0 : Nat) (ho0 : shp o0 = 7) (M : Mem) (a : Int64 × Mem) (h : fX8_untell o0 M = some a) : CtP G l yX8_untell cX8_untell 1 (some .long) 1 22 [.ref (adr G o0)] M (some (.long a.1)) a.2 := by
  refine CtP.ofV (by decide) (Nat.le_of_ble_eq_true rfl) ?_
  refine (?_ : T G l RX8 cX8_untell 1 (some .long) (rmOf 1 22) 0 0 (FinM G (some (.long a.1)) a.2) (fun x => x = a) 0 [(0, .ref (adr G o0))] [] M (fX8_untell o0 M)) a h rfl
  clear h
  unfold fX8_untell
  refine T_aload_n (q := 0) dX8_untell_0 rfl rfl ?_
  refine T_getI cf7 fr_X8_112 dX8_untell_1 ho0 rfl ?_
  refine T_if_ne (tgt := 15) dX8_untell_4 (by decide) (fun hc1 => ?_) (fun hc1 => ?_)
  · refine T_aload_n (q := 0) dX8_untell_7 rfl rfl ?_
    refine T_ldc2 dX8_untell_8 kcl_X8_145 ?_
    refine T_callVlw (As := [.long (-1000000000000000006 : Int64)]) (st := []) mv_X8_100 (by decide) dX8_untell_11 ho0 (fun b hb => mX8_told0 G l o0 ho0 (-1000000000000000006 : Int64) M b hb) rfl rfl (Nat.le_of_ble_eq_true rfl) (fun b2 => ?_)
    exact T_end (fun h => by cases h; exact V_lret dX8_untell_14)
  · refine T_aload_n (q := 0) dX8_untell_15 rfl rfl ?_
    refine T_dup dX8_untell_16 rfl ?_
    refine T_getI cf7 fr_X8_112 dX8_untell_17 ho0 rfl ?_
    refine T_iconst (v := 1) dX8_untell_20 (by decide) ?_
    refine T_isub dX8_untell_21 ?_
    refine T_putI cf7 fr_X8_112 pt_7_1 dX8_untell_22 ho0 rfl (fun M3 => ?_)
    refine T_aload_n (q := 0) dX8_untell_25 rfl rfl ?_
    refine T_getI cf7 fr_X8_112 dX8_untell_26 ho0 rfl ?_
    refine T_i2l dX8_untell_29 ?_
    exact T_end (fun h => by cases h; exact V_lret dX8_untell_30)
set_option maxHeartbeats 4000000 in
set_option maxRecDepth 100000 in
theorem mX8_who (G : Gw) (l : Launch) (o0 : Nat) (ho0 : shp o0 = 7) (x1 : Int32) (x2 : Int32) (M : Mem) (a : Int64 × Mem) (h : fX8_who o0 x1 x2 M = some a) : CtP G l yX8_who cX8_who 3 (some .long) 3 75 [.ref (adr G o0), .int x1, .int x2] M (some (.long a.1)) a.2 := by
  refine CtP.ofV (by decide) (Nat.le_of_ble_eq_true rfl) ?_
  refine (?_ : T G l RX8 cX8_who 3 (some .long) (rmOf 3 75) 0 0 (FinM G (some (.long a.1)) a.2) (fun x => x = a) 0 [(0, .ref (adr G o0)), (1, .int x1), (2, .int x2)] [] M (fX8_who o0 x1 x2 M)) a h rfl
  clear h
  unfold fX8_who
  refine T_iload_n (q := 1) dX8_who_0 rfl rfl ?_
  refine T_callSi (As := [.int x1]) (st := []) ms_X8_147 (by decide) dX8_who_1 (fun b hb => mX8_isCell G l x1 M b hb) rfl rfl (Nat.le_of_ble_eq_true rfl) (fun b1 => ?_)
  refine T_if_eq (tgt := 14) dX8_who_4 (by decide) (fun hc2 => ?_) (fun hc2 => ?_)
  · refine T_aload_n (q := 0) dX8_who_14 rfl rfl ?_
    refine T_ldc2 dX8_who_15 kcl_X8_98 ?_
    refine T_callVlw (As := [.long (-1000000000000000001 : Int64)]) (st := []) mv_X8_100 (by decide) dX8_who_18 ho0 (fun b hb => mX8_told0 G l o0 ho0 (-1000000000000000001 : Int64) M b hb) rfl rfl (Nat.le_of_ble_eq_true rfl) (fun b3 => ?_)
    exact T_end (fun h => by cases h; exact V_lret dX8_who_21)
  · refine T_iload_n (q := 2) dX8_who_7 rfl rfl ?_
    refine T_callSi (As := [.int x2]) (st := []) ms_X8_115 (by decide) dX8_who_8 (fun b hb => mX8_isYear G l x2 M b hb) rfl rfl (Nat.le_of_ble_eq_true rfl) (fun b4 => ?_)
    refine T_if_ne (tgt := 22) dX8_who_11 (by decide) (fun hc5 => ?_) (fun hc5 => ?_)
    · refine T_aload_n (q := 0) dX8_who_14 rfl rfl ?_
      refine T_ldc2 dX8_who_15 kcl_X8_98 ?_
      refine T_callVlw (As := [.long (-1000000000000000001 : Int64)]) (st := []) mv_X8_100 (by decide) dX8_who_18 ho0 (fun b hb => mX8_told0 G l o0 ho0 (-1000000000000000001 : Int64) M b hb) rfl rfl (Nat.le_of_ble_eq_true rfl) (fun b6 => ?_)
      exact T_end (fun h => by cases h; exact V_lret dX8_who_21)
    · refine T_aload_n (q := 0) dX8_who_22 rfl rfl ?_
      refine T_callVvw (As := []) (st := []) mv_X8_142 (by decide) dX8_who_23 ho0 (fun b hb => mX8_done G l o0 ho0 M b hb) rfl rfl (Nat.le_of_ble_eq_true rfl) (fun b7 => ?_)
      refine T_aload_n (q := 0) dX8_who_26 rfl rfl ?_
      refine T_getR cf7 fr_X8_59 dX8_who_27 ho0 rfl ?_
      refine T_bipush (v := 36) dX8_who_30 (by decide) ?_
      refine T_aload_n (q := 0) dX8_who_32 rfl rfl ?_
      refine T_iload_n (q := 2) dX8_who_33 rfl rfl ?_
      refine T_callVi (As := [.int x2]) (st := [.int (36 : Int32), .ref (adr G (rf o0 20))]) mv_X8_150 (by decide) dX8_who_34 ho0 (fun b hb => mX8_until G l o0 ho0 x2 b7 b hb) rfl rfl (Nat.le_of_ble_eq_true rfl) (fun b8 => ?_)
      refine T_imul dX8_who_37 ?_
      refine T_iload_n (q := 1) dX8_who_38 rfl rfl ?_
      refine T_iadd dX8_who_39 ?_
      refine T_iald dX8_who_40 (sf_7_20 ho0) ?_
      refine T_i2l dX8_who_41 ?_
      exact T_end (fun h => by cases h; exact V_lret dX8_who_42)
