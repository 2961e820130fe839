set_option maxHeartbeats 4000000 in
set_option maxRecDepth 100000 in
theorem mX7_refuse (G : Gw) (l : Launch) (o0 : Nat) (ho0 : shp o0 = 6) (x1 : Int64) (M : Mem) (a : Int64 × Mem) (h : fX7_refuse o0 x1 M = some a) : CtP G l yX7_refuse cX7_refuse 3 (some .long) 0 0 [.ref (adr G o0), .long x1] M (some (.long a.1)) a.2 := by
  refine CtP.ofV (by decide) (Nat.le_of_ble_eq_true rfl) ?_
  refine (?_ : T G l RX7 cX7_refuse 3 (some .long) (rmOf 0 0) 0 0 (FinM G (some (.long a.1)) a.2) (fun x => x = a) 0 [(0, .ref (adr G o0)), (1, .long x1)] [] M (fX7_refuse o0 x1 M)) a h rfl
  clear h
  unfold fX7_refuse
  refine T_aload_n (q := 0) dX7_refuse_0 rfl rfl ?_
  refine T_dup dX7_refuse_1 rfl ?_
  refine T_getI cf6 fr_X7_281 dX7_refuse_2 ho0 rfl ?_
  refine T_iconst (v := 1) dX7_refuse_5 (by decide) ?_
  refine T_iadd dX7_refuse_6 ?_
  refine T_putI cf6 fr_X7_281 pt_6_4 dX7_refuse_7 ho0 rfl (fun M1 => ?_)
  refine T_lload_n (q := 1) dX7_refuse_10 rfl rfl ?_
  exact T_end (fun h => by cases h; exact V_lret dX7_refuse_11)
set_option maxHeartbeats 4000000 in
set_option maxRecDepth 100000 in
theorem mX7_oneIf (G : Gw) (l : Launch) (x0 : Int32) (M : Mem) (a : Int64) (h : fX7_oneIf x0 = some a) : CtP G l yX7_oneIf cX7_oneIf 1 (some .long) 0 0 [.int x0] M (some (.long a)) M := by
  refine CtP.ofV (by decide) (Nat.le_of_ble_eq_true rfl) ?_
  refine (?_ : T G l RX7 cX7_oneIf 1 (some .long) (rmOf 0 0) 0 0 (FinM G (some (.long a)) M) (fun x => x = a) 0 [(0, .int x0)] [] M (fX7_oneIf x0)) a h rfl
  clear h
  unfold fX7_oneIf
  refine T_iload_n (q := 0) dX7_oneIf_0 rfl rfl ?_
  refine T_if_eq (tgt := 8) dX7_oneIf_1 (by decide) (fun hc1 => ?_) (fun hc1 => ?_)
  · refine T_lconst (v := 0) dX7_oneIf_8 (by decide) ?_
    exact T_end (fun h => by cases h; exact V_lret dX7_oneIf_9)
  · refine T_lconst (v := 1) dX7_oneIf_4 (by decide) ?_
    refine T_goto (tgt := 9) dX7_oneIf_5 (by decide) ?_
    exact T_end (fun h => by cases h; exact V_lret dX7_oneIf_9)
set_option maxHeartbeats 4000000 in
set_option maxRecDepth 100000 in
theorem mX7_act (G : Gw) (l : Launch) (o0 : Nat) (ho0 : shp o0 = 6) (x1 : Int32) (x2 : Int32) (M : Mem) (a : Int64 × Mem) (h : fX7_act o0 x1 x2 M = some a) : CtP G l yX7_act cX7_act 4 (some .long) 1 22 [.ref (adr G o0), .int x1, .int x2] M (some (.long a.1)) a.2 := by
  refine CtP.ofV (by decide) (Nat.le_of_ble_eq_true rfl) ?_
  refine (?_ : T G l RX7 cX7_act 4 (some .long) (rmOf 1 22) 0 0 (FinM G (some (.long a.1)) a.2) (fun x => x = a) 0 [(0, .ref (adr G o0)), (1, .int x1), (2, .int x2)] [] M (fX7_act o0 x1 x2 M)) a h rfl
  clear h
  unfold fX7_act
  refine T_aload_n (q := 0) dX7_act_0 rfl rfl ?_
  refine T_getR cf6 fr_X7_12 dX7_act_1 ho0 rfl ?_
  refine T_iload_n (q := 1) dX7_act_4 rfl rfl ?_
  refine T_callVi (As := [.int x1]) (st := []) mv_X7_94 (by decide) dX7_act_5 (sf_6_0 ho0) (fun b hb => mX2_hasAct G l (rf o0 0) (sf_6_0 ho0) x1 M b hb) rfl rfl (Nat.le_of_ble_eq_true rfl) (fun b1 => ?_)
  refine T_if_ne (tgt := 19) dX7_act_8 (by decide) (fun hc2 => ?_) (fun hc2 => ?_)
  · refine T_aload_n (q := 0) dX7_act_11 rfl rfl ?_
    refine T_ldc2 dX7_act_12 kcl_X7_41 ?_
    refine T_callVlw (As := [.long (-1000000000000000001 : Int64)]) (st := []) mv_X7_43 (by decide) dX7_act_15 ho0 (fun b hb => mX7_refuse G l o0 ho0 (-1000000000000000001 : Int64) M b hb) rfl rfl (Nat.le_of_ble_eq_true rfl) (fun b3 => ?_)
    exact T_end (fun h => by cases h; exact V_lret dX7_act_18)
  · refine T_aload_n (q := 0) dX7_act_19 rfl rfl ?_
    refine T_getR cf6 fr_X7_12 dX7_act_20 ho0 rfl ?_
    refine T_getR cf2 fr_X7_97 dX7_act_23 (sf_6_0 ho0) rfl ?_
    refine T_iload_n (q := 1) dX7_act_26 rfl rfl ?_
    refine T_aald dX7_act_27 ⟨by have := (sf_2_1 (sf_6_0 ho0)); omega, by have := (sf_2_1 (sf_6_0 ho0)); omega⟩ (fun hi4 => ?_)
    refine T_astore_n_G (lv' := fun o5 => [(3, .ref (adr G o5)), (0, .ref (adr G o0)), (1, .int x1), (2, .int x2)]) (sa_12 (sf_2_1 (sf_6_0 ho0)) hi4) dX7_act_28 rfl (by decide) (fun _ => rfl) (fun o5 ho5 => ?_)
    refine T_iload_n (q := 3) dX7_act_29 rfl rfl ?_
    refine T_split (fun hs6 => ?_) (fun hs6 => ?_)
    · refine T_tswIn (off := 34) (tgt := 64) dX7_act_30 (by rw [hs6]; decide) (by rw [hs6]; decide) (by rw [hs6]; rfl) (by decide) ?_
      refine T_aload_n (q := 0) dX7_act_64 rfl rfl ?_
      refine T_getI cf0 fr_X7_110 dX7_act_65 ho5 rfl ?_
      refine T_i2l dX7_act_68 ?_
      exact T_end (fun h => by cases h; exact V_lret dX7_act_69)
    · skip
      refine T_split (fun hs7 => ?_) (fun hs7 => ?_)
      · refine T_tswIn (off := 40) (tgt := 70) dX7_act_30 (by rw [hs7]; decide) (by rw [hs7]; decide) (by rw [hs7]; rfl) (by decide) ?_
        refine T_aload_n (q := 0) dX7_act_70 rfl rfl ?_
        refine T_getI cf0 fr_X7_101 dX7_act_71 ho5 rfl ?_
        refine T_i2l dX7_act_74 ?_
        exact T_end (fun h => by cases h; exact V_lret dX7_act_75)
      · skip
        refine T_split (fun hs8 => ?_) (fun hs8 => ?_)
        · refine T_tswIn (off := 46) (tgt := 76) dX7_act_30 (by rw [hs8]; decide) (by rw [hs8]; decide) (by rw [hs8]; rfl) (by decide) ?_
          refine T_aload_n (q := 0) dX7_act_76 rfl rfl ?_
          refine T_getI cf0 fr_X7_113 dX7_act_77 ho5 rfl ?_
          refine T_callSl (As := [.int (M.1 o5 6)]) (st := []) ms_X7_117 (by decide) dX7_act_80 (fun b hb => mX7_oneIf G l (M.1 o5 6) M b hb) rfl rfl (Nat.le_of_ble_eq_true rfl) (fun b11 => ?_)
          exact T_end (fun h => by cases h; exact V_lret dX7_act_83)
        · skip
          refine T_split (fun hs9 => ?_) (fun hs9 => ?_)
          · refine T_tswIn (off := 54) (tgt := 84) dX7_act_30 (by rw [hs9]; decide) (by rw [hs9]; decide) (by rw [hs9]; rfl) (by decide) ?_
            refine T_aload_n (q := 0) dX7_act_84 rfl rfl ?_
            refine T_getL cf0 fr_X7_121 dX7_act_85 ho5 rfl ?_
            refine T_callSi (As := [.long (M.2 o5 7)]) (st := []) ms_X7_125 (by decide) dX7_act_88 (fun b hb => mJ13_bitCount_95d88 G l (M.2 o5 7) M b hb) rfl rfl (Nat.le_of_ble_eq_true rfl) (fun b12 => ?_)
            refine T_i2l dX7_act_91 ?_
            exact T_end (fun h => by cases h; exact V_lret dX7_act_92)
          · skip
            refine T_split (fun hs10 => ?_) (fun hs10 => ?_)
            · refine T_tswIn (off := 63) (tgt := 93) dX7_act_30 (by rw [hs10]; decide) (by rw [hs10]; decide) (by rw [hs10]; rfl) (by decide) ?_
              refine T_aload_n (q := 0) dX7_act_93 rfl rfl ?_
              refine T_getI cf0 fr_X7_131 dX7_act_94 ho5 rfl ?_
              refine T_i2l dX7_act_97 ?_
              exact T_end (fun h => by cases h; exact V_lret dX7_act_98)
            · skip
              refine T_tswOut (tgt := 99) dX7_act_30 (by have hz := tsw0 (x := x2) (n := 5) (by decide) (fun j hj => by match j, hj with | 0, _ => exact hs6 | 1, _ => exact hs7 | 2, _ => exact hs8 | 3, _ => exact hs9 | 4, _ => exact hs10); exact hz) (by decide) ?_
              refine T_aload_n (q := 1) dX7_act_99 rfl rfl ?_
              refine T_ldc2 dX7_act_100 kcl_X7_41 ?_
              refine T_callVlw (As := [.long (-1000000000000000001 : Int64)]) (st := []) mv_X7_43 (by decide) dX7_act_103 ho0 (fun b hb => mX7_refuse G l o0 ho0 (-1000000000000000001 : Int64) M b hb) rfl rfl (Nat.le_of_ble_eq_true rfl) (fun b13 => ?_)
              exact T_end (fun h => by cases h; exact V_lret dX7_act_106)
set_option maxHeartbeats 4000000 in
set_option maxRecDepth 100000 in
theorem mX7_isKind (G : Gw) (l : Launch) (x0 : Int32) (M : Mem) (a : Int32) (h : fX7_isKind x0 = some a) : CtP G l yX7_isKind cX7_isKind 1 (some .boolean) 0 0 [.int x0] M (some (.int a)) M := by
  refine CtP.ofV (by decide) (Nat.le_of_ble_eq_true rfl) ?_
  refine (?_ : T G l RX7 cX7_isKind 1 (some .boolean) (rmOf 0 0) 0 0 (FinM G (some (.int a)) M) (fun x => x = a) 0 [(0, .int x0)] [] M (fX7_isKind x0)) a h rfl
  clear h
  unfold fX7_isKind
  refine T_iload_n (q := 0) dX7_isKind_0 rfl rfl ?_
  refine T_if_lt (tgt := 13) dX7_isKind_1 (by decide) (fun hc1 => ?_) (fun hc1 => ?_)
  · refine T_iconst (v := 0) dX7_isKind_13 (by decide) ?_
    exact T_end (fun h => by cases h; exact V_zret (Or.inl rfl) dX7_isKind_14)
  · refine T_iload_n (q := 0) dX7_isKind_4 rfl rfl ?_
    refine T_iconst (v := 4) dX7_isKind_5 (by decide) ?_
    refine T_icmp_ge (tgt := 13) dX7_isKind_6 (by decide) (fun hc2 => ?_) (fun hc2 => ?_)
    · refine T_iconst (v := 0) dX7_isKind_13 (by decide) ?_
      exact T_end (fun h => by cases h; exact V_zret (Or.inl rfl) dX7_isKind_14)
    · refine T_iconst (v := 1) dX7_isKind_9 (by decide) ?_
      refine T_goto (tgt := 14) dX7_isKind_10 (by decide) ?_
      exact T_end (fun h => by cases h; exact V_zret (Or.inr rfl) dX7_isKind_14)
set_option maxHeartbeats 4000000 in
set_option maxRecDepth 100000 in
theorem mX7_isOrUnder (G : Gw) (l : Launch) (x0 : Int32) (x1 : Int32) (M : Mem) (a : Int32) (h : fX7_isOrUnder x0 x1 M = some a) : CtP G l yX7_isOrUnder cX7_isOrUnder 4 (some .boolean) 1 20 [.int x0, .int x1] M (some (.int a)) M := by
  refine CtP.ofV (by decide) (Nat.le_of_ble_eq_true rfl) ?_
  refine (?_ : T G l RX7 cX7_isOrUnder 4 (some .boolean) (rmOf 1 20) 0 0 (FinM G (some (.int a)) M) (fun x => x = a) 0 [(0, .int x0), (1, .int x1)] [] M (fX7_isOrUnder x0 x1 M)) a h rfl
  clear h
  unfold fX7_isOrUnder
  refine T_iload_n (q := 0) dX7_isOrUnder_0 rfl rfl ?_
  refine T_istore_n (lv' := [(2, .int x0), (0, .int x0), (1, .int x1)]) dX7_isOrUnder_1 rfl (by decide) rfl ?_
  refine T_iconst (v := 0) dX7_isOrUnder_2 (by decide) ?_
  refine T_istore_n (lv' := [(3, .int (0 : Int32)), (2, .int x0), (0, .int x0), (1, .int x1)]) dX7_isOrUnder_3 rfl (by decide) rfl ?_
  refine T_loop (fun s1 => [(3, .int s1.2), (2, .int s1.1), (0, .int x0), (1, .int x1)]) (fun s1 => M) (fun s1 => ?_) (x0, (0 : Int32))
  unfold wX7_isOrUnder_4
  refine T_iload_n (q := 0) dX7_isOrUnder_4 rfl rfl ?_
  refine T_iconst (v := 4) dX7_isOrUnder_5 (by decide) ?_
  refine T_icmp_ge (tgt := 37) dX7_isOrUnder_6 (by decide) (fun hc2 => ?_) (fun hc2 => ?_)
  · refine T_iconst (v := 0) dX7_isOrUnder_37 (by decide) ?_
    exact T_end (fun h => by cases h; exact V_zret (Or.inl rfl) dX7_isOrUnder_38)
  · refine T_iload_n (q := 1) dX7_isOrUnder_9 rfl rfl ?_
    refine T_iload_n (q := 3) dX7_isOrUnder_10 rfl rfl ?_
    refine T_icmp_ne (tgt := 16) dX7_isOrUnder_11 (by decide) (fun hc3 => ?_) (fun hc3 => ?_)
    · refine T_iconst (v := 1) dX7_isOrUnder_14 (by decide) ?_
      exact T_end (fun h => by cases h; exact V_zret (Or.inr rfl) dX7_isOrUnder_15)
    · refine T_iload_n (q := 1) dX7_isOrUnder_16 rfl rfl ?_
      refine T_callSi (As := [.int s1.1]) (st := []) ms_X7_37 (by decide) dX7_isOrUnder_17 (fun b hb => mX7_isKind G l s1.1 M b hb) rfl rfl (Nat.le_of_ble_eq_true rfl) (fun b4 => ?_)
      refine T_if_ne (tgt := 25) dX7_isOrUnder_20 (by decide) (fun hc5 => ?_) (fun hc5 => ?_)
      · refine T_iconst (v := 0) dX7_isOrUnder_23 (by decide) ?_
        exact T_end (fun h => by cases h; exact V_zret (Or.inl rfl) dX7_isOrUnder_24)
      · refine T_gets gs_X7_288 dX7_isOrUnder_25 ?_
        refine T_iload_n (q := 1) dX7_isOrUnder_28 rfl rfl ?_
        refine T_kov dX7_isOrUnder_29 ?_
        refine T_istore_n_G (lv' := fun v6 => [(2, .int v6), (3, .int s1.2), (0, .int x0), (1, .int x1)]) dX7_isOrUnder_30 rfl (by decide) (fun _ => rfl) (fun v6 => ?_)
        refine T_iinc_G (q := 1) (y := s1.2 + 1) (lv' := fun v7 => [(3, .int v7), (2, .int v6), (0, .int x0), (1, .int x1)]) dX7_isOrUnder_31 rfl rfl (by decide) (fun _ => rfl) (fun v7 => ?_)
        refine T_goto (tgt := 4) dX7_isOrUnder_34 (by decide) ?_
        exact T_end (fun h => V_sub [0, 1, 2, 3] rfl h)
set_option maxHeartbeats 4000000 in
set_option maxRecDepth 100000 in
theorem mX7_as (G : Gw) (l : Launch) (o0 : Nat) (ho0 : shp o0 = 6) (x1 : Int32) (x2 : Int32) (M : Mem) (a : Int64 × Mem) (h : fX7_as o0 x1 x2 M = some a) : CtP G l yX7_as cX7_as 3 (some .long) 2 43 [.ref (adr G o0), .int x1, .int x2] M (some (.long a.1)) a.2 := by
  refine CtP.ofV (by decide) (Nat.le_of_ble_eq_true rfl) ?_
  refine (?_ : T G l RX7 cX7_as 3 (some .long) (rmOf 2 43) 0 0 (FinM G (some (.long a.1)) a.2) (fun x => x = a) 0 [(0, .ref (adr G o0)), (1, .int x1), (2, .int x2)] [] M (fX7_as o0 x1 x2 M)) a h rfl
  clear h
  unfold fX7_as
  refine T_aload_n (q := 0) dX7_as_0 rfl rfl ?_
  refine T_getR cf6 fr_X7_12 dX7_as_1 ho0 rfl ?_
  refine T_iload_n (q := 1) dX7_as_4 rfl rfl ?_
  refine T_callVi (As := [.int x1]) (st := []) mv_X7_57 (by decide) dX7_as_5 (sf_6_0 ho0) (fun b hb => mX2_hasUnit G l (rf o0 0) (sf_6_0 ho0) x1 M b hb) rfl rfl (Nat.le_of_ble_eq_true rfl) (fun b1 => ?_)
  refine T_if_eq (tgt := 18) dX7_as_8 (by decide) (fun hc2 => ?_) (fun hc2 => ?_)
  · refine T_aload_n (q := 0) dX7_as_18 rfl rfl ?_
    refine T_ldc2 dX7_as_19 kcl_X7_41 ?_
    refine T_callVlw (As := [.long (-1000000000000000001 : Int64)]) (st := []) mv_X7_43 (by decide) dX7_as_22 ho0 (fun b hb => mX7_refuse G l o0 ho0 (-1000000000000000001 : Int64) M b hb) rfl rfl (Nat.le_of_ble_eq_true rfl) (fun b3 => ?_)
    exact T_end (fun h => by cases h; exact V_lret dX7_as_25)
  · refine T_iload_n (q := 2) dX7_as_11 rfl rfl ?_
    refine T_callSi (As := [.int x2]) (st := []) ms_X7_37 (by decide) dX7_as_12 (fun b hb => mX7_isKind G l x2 M b hb) rfl rfl (Nat.le_of_ble_eq_true rfl) (fun b4 => ?_)
    refine T_if_ne (tgt := 26) dX7_as_15 (by decide) (fun hc5 => ?_) (fun hc5 => ?_)
    · refine T_aload_n (q := 0) dX7_as_18 rfl rfl ?_
      refine T_ldc2 dX7_as_19 kcl_X7_41 ?_
      refine T_callVlw (As := [.long (-1000000000000000001 : Int64)]) (st := []) mv_X7_43 (by decide) dX7_as_22 ho0 (fun b hb => mX7_refuse G l o0 ho0 (-1000000000000000001 : Int64) M b hb) rfl rfl (Nat.le_of_ble_eq_true rfl) (fun b6 => ?_)
      exact T_end (fun h => by cases h; exact V_lret dX7_as_25)
    · refine T_aload_n (q := 0) dX7_as_26 rfl rfl ?_
      refine T_getR cf6 fr_X7_12 dX7_as_27 ho0 rfl ?_
      refine T_iload_n (q := 1) dX7_as_30 rfl rfl ?_
      refine T_callVi (As := [.int x1]) (st := []) mv_X7_60 (by decide) dX7_as_31 (sf_6_0 ho0) (fun b hb => mX2_kindOf G l (rf o0 0) (sf_6_0 ho0) x1 M b hb) rfl rfl (Nat.le_of_ble_eq_true rfl) (fun b7 => ?_)
      refine T_iload_n (q := 2) dX7_as_34 rfl rfl ?_
      refine T_callSi (As := [.int b7, .int x2]) (st := []) ms_X7_63 (by decide) dX7_as_35 (fun b hb => mX7_isOrUnder G l b7 x2 M b hb) rfl rfl (Nat.le_of_ble_eq_true rfl) (fun b8 => ?_)
      refine T_if_ne (tgt := 49) dX7_as_38 (by decide) (fun hc9 => ?_) (fun hc9 => ?_)
      · refine T_aload_n (q := 0) dX7_as_41 rfl rfl ?_
        refine T_ldc2 dX7_as_42 kcl_X7_67 ?_
        refine T_callVlw (As := [.long (-1000000000000000004 : Int64)]) (st := []) mv_X7_43 (by decide) dX7_as_45 ho0 (fun b hb => mX7_refuse G l o0 ho0 (-1000000000000000004 : Int64) M b hb) rfl rfl (Nat.le_of_ble_eq_true rfl) (fun b10 => ?_)
        exact T_end (fun h => by cases h; exact V_lret dX7_as_48)
      · refine T_iload_n (q := 1) dX7_as_49 rfl rfl ?_
        refine T_i2l dX7_as_50 ?_
        exact T_end (fun h => by cases h; exact V_lret dX7_as_51)
set_option maxHeartbeats 4000000 in
set_option maxRecDepth 100000 in
theorem mX7_isYear (G : Gw) (l : Launch) (x0 : Int32) (M : Mem) (a : Int32) (h : fX7_isYear x0 = some a) : CtP G l yX7_isYear cX7_isYear 1 (some .boolean) 0 0 [.int x0] M (some (.int a)) M := by
  refine CtP.ofV (by decide) (Nat.le_of_ble_eq_true rfl) ?_
  refine (?_ : T G l RX7 cX7_isYear 1 (some .boolean) (rmOf 0 0) 0 0 (FinM G (some (.int a)) M) (fun x => x = a) 0 [(0, .int x0)] [] M (fX7_isYear x0)) a h rfl
  clear h
  unfold fX7_isYear
  refine T_iload_n (q := 0) dX7_isYear_0 rfl rfl ?_
  refine T_sipush (v := 1000) dX7_isYear_1 (by decide) ?_
  refine T_icmp_lt (tgt := 18) dX7_isYear_4 (by decide) (fun hc1 => ?_) (fun hc1 => ?_)
  · refine T_iconst (v := 0) dX7_isYear_18 (by decide) ?_
    exact T_end (fun h => by cases h; exact V_zret (Or.inl rfl) dX7_isYear_19)
  · refine T_iload_n (q := 0) dX7_isYear_7 rfl rfl ?_
    refine T_sipush (v := 1999) dX7_isYear_8 (by decide) ?_
    refine T_icmp_gt (tgt := 18) dX7_isYear_11 (by decide) (fun hc2 => ?_) (fun hc2 => ?_)
    · refine T_iconst (v := 0) dX7_isYear_18 (by decide) ?_
      exact T_end (fun h => by cases h; exact V_zret (Or.inl rfl) dX7_isYear_19)
    · refine T_iconst (v := 1) dX7_isYear_14 (by decide) ?_
      refine T_goto (tgt := 19) dX7_isYear_15 (by decide) ?_
      exact T_end (fun h => by cases h; exact V_zret (Or.inr rfl) dX7_isYear_19)
set_option maxHeartbeats 4000000 in
set_option maxRecDepth 100000 in
theorem mX7_counted (G : Gw) (l : Launch) (o0 : Nat) (ho0 : shp o0 = 6) (x1 : Int64) (M : Mem) (a : Int64 × Mem) (h : fX7_counted o0 x1 M = some a) : CtP G l yX7_counted cX7_counted 3 (some .long) 1 22 [.ref (adr G o0), .long x1] M (some (.long a.1)) a.2 := by
  refine CtP.ofV (by decide) (Nat.le_of_ble_eq_true rfl) ?_
  refine (?_ : T G l RX7 cX7_counted 3 (some .long) (rmOf 1 22) 0 0 (FinM G (some (.long a.1)) a.2) (fun x => x = a) 0 [(0, .ref (adr G o0)), (1, .long x1)] [] M (fX7_counted o0 x1 M)) a h rfl
  clear h
  unfold fX7_counted
  refine T_lload_n (q := 1) dX7_counted_0 rfl rfl ?_
  refine T_ldc2 dX7_counted_1 kcl_X7_92 ?_
  refine T_lcmp dX7_counted_4 ?_
  refine T_if_ge (tgt := 16) dX7_counted_5 (by decide) (fun hc1 => ?_) (fun hc1 => ?_)
  · refine T_lload_n (q := 1) dX7_counted_16 rfl rfl ?_
    exact T_end (fun h => by cases h; exact V_lret dX7_counted_17)
  · refine T_aload_n (q := 0) dX7_counted_8 rfl rfl ?_
    refine T_lload_n (q := 1) dX7_counted_9 rfl rfl ?_
    refine T_callVlw (As := [.long x1]) (st := []) mv_X7_43 (by decide) dX7_counted_10 ho0 (fun b hb => mX7_refuse G l o0 ho0 x1 M b hb) rfl rfl (Nat.le_of_ble_eq_true rfl) (fun b2 => ?_)
    refine T_goto (tgt := 17) dX7_counted_13 (by decide) ?_
    exact T_end (fun h => by cases h; exact V_lret dX7_counted_17)
set_option maxHeartbeats 4000000 in
set_option maxRecDepth 100000 in
theorem mX7_back (G : Gw) (l : Launch) (o0 : Nat) (ho0 : shp o0 = 6) (x1 : Int32) (x2 : Int32) (M : Mem) (a : Int64 × Mem) (h : fX7_back o0 x1 x2 M = some a) : CtP G l yX7_back cX7_back 3 (some .long) 6 148 [.ref (adr G o0), .int x1, .int x2] M (some (.long a.1)) a.2 := by
  refine CtP.ofV (by decide) (Nat.le_of_ble_eq_true rfl) ?_
  refine (?_ : T G l RX7 cX7_back 3 (some .long) (rmOf 6 148) 0 0 (FinM G (some (.long a.1)) a.2) (fun x => x = a) 0 [(0, .ref (adr G o0)), (1, .int x1), (2, .int x2)] [] M (fX7_back o0 x1 x2 M)) a h rfl
  clear h
  unfold fX7_back
  refine T_aload_n (q := 0) dX7_back_0 rfl rfl ?_
  refine T_getR cf6 fr_X7_12 dX7_back_1 ho0 rfl ?_
  refine T_iload_n (q := 1) dX7_back_4 rfl rfl ?_
  refine T_callVi (As := [.int x1]) (st := []) mv_X7_94 (by decide) dX7_back_5 (sf_6_0 ho0) (fun b hb => mX2_hasAct G l (rf o0 0) (sf_6_0 ho0) x1 M b hb) rfl rfl (Nat.le_of_ble_eq_true rfl) (fun b1 => ?_)
  refine T_if_eq (tgt := 34) dX7_back_8 (by decide) (fun hc2 => ?_) (fun hc2 => ?_)
  · refine T_aload_n (q := 0) dX7_back_34 rfl rfl ?_
    refine T_ldc2 dX7_back_35 kcl_X7_41 ?_
    refine T_callVlw (As := [.long (-1000000000000000001 : Int64)]) (st := []) mv_X7_43 (by decide) dX7_back_38 ho0 (fun b hb => mX7_refuse G l o0 ho0 (-1000000000000000001 : Int64) M b hb) rfl rfl (Nat.le_of_ble_eq_true rfl) (fun b3 => ?_)
    exact T_end (fun h => by cases h; exact V_lret dX7_back_41)
  · refine T_iload_n (q := 2) dX7_back_11 rfl rfl ?_
    refine T_callSi (As := [.int x2]) (st := []) ms_X7_69 (by decide) dX7_back_12 (fun b hb => mX7_isYear G l x2 M b hb) rfl rfl (Nat.le_of_ble_eq_true rfl) (fun b4 => ?_)
    refine T_if_eq (tgt := 34) dX7_back_15 (by decide) (fun hc5 => ?_) (fun hc5 => ?_)
    · refine T_aload_n (q := 0) dX7_back_34 rfl rfl ?_
      refine T_ldc2 dX7_back_35 kcl_X7_41 ?_
      refine T_callVlw (As := [.long (-1000000000000000001 : Int64)]) (st := []) mv_X7_43 (by decide) dX7_back_38 ho0 (fun b hb => mX7_refuse G l o0 ho0 (-1000000000000000001 : Int64) M b hb) rfl rfl (Nat.le_of_ble_eq_true rfl) (fun b6 => ?_)
      exact T_end (fun h => by cases h; exact V_lret dX7_back_41)
    · refine T_iload_n (q := 2) dX7_back_18 rfl rfl ?_
      refine T_aload_n (q := 0) dX7_back_19 rfl rfl ?_
      refine T_getR cf6 fr_X7_12 dX7_back_20 ho0 rfl ?_
      refine T_getR cf2 fr_X7_97 dX7_back_23 (sf_6_0 ho0) rfl ?_
      refine T_iload_n (q := 1) dX7_back_26 rfl rfl ?_
      refine T_aald dX7_back_27 ⟨by have := (sf_2_1 (sf_6_0 ho0)); omega, by have := (sf_2_1 (sf_6_0 ho0)); omega⟩ (fun hi7 => ?_)
      refine T_getI cf0 fr_X7_101 dX7_back_28 (sa_12 (sf_2_1 (sf_6_0 ho0)) hi7) rfl ?_
      refine T_icmp_ge (tgt := 42) dX7_back_31 (by decide) (fun hc8 => ?_) (fun hc8 => ?_)
      · refine T_aload_n (q := 0) dX7_back_42 rfl rfl ?_
        refine T_getR cf6 fr_X7_12 dX7_back_43 ho0 rfl ?_
        refine T_getR cf2 fr_X7_97 dX7_back_46 (sf_6_0 ho0) rfl ?_
        refine T_iload_n (q := 1) dX7_back_49 rfl rfl ?_
        refine T_aald dX7_back_50 ⟨by have := (sf_2_1 (sf_6_0 ho0)); omega, by have := (sf_2_1 (sf_6_0 ho0)); omega⟩ (fun hi9 => ?_)
        refine T_callVi (As := []) (st := []) mv_X7_107 (by decide) dX7_back_51 (sa_12 (sf_2_1 (sf_6_0 ho0)) hi9) (fun b hb => mX0_canBeTurnedBack G l (ra (rf (rf o0 0) 1) x1.toNatClampNeg) (sa_12 (sf_2_1 (sf_6_0 ho0)) hi9) M b hb) rfl rfl (Nat.le_of_ble_eq_true rfl) (fun b10 => ?_)
        refine T_if_ne (tgt := 65) dX7_back_54 (by decide) (fun hc11 => ?_) (fun hc11 => ?_)
        · refine T_aload_n (q := 0) dX7_back_57 rfl rfl ?_
          refine T_ldc2 dX7_back_58 kcl_X7_67 ?_
          refine T_callVlw (As := [.long (-1000000000000000004 : Int64)]) (st := []) mv_X7_43 (by decide) dX7_back_61 ho0 (fun b hb => mX7_refuse G l o0 ho0 (-1000000000000000004 : Int64) M b hb) rfl rfl (Nat.le_of_ble_eq_true rfl) (fun b12 => ?_)
          exact T_end (fun h => by cases h; exact V_lret dX7_back_64)
        · refine T_aload_n (q := 0) dX7_back_65 rfl rfl ?_
          refine T_aload_n (q := 0) dX7_back_66 rfl rfl ?_
          refine T_getR cf6 fr_X7_12 dX7_back_67 ho0 rfl ?_
          refine T_iconst (v := 3) dX7_back_70 (by decide) ?_
          refine T_iload_n (q := 1) dX7_back_71 rfl rfl ?_
          refine T_bipush (v := 10) dX7_back_72 (by decide) ?_
          refine T_iload_n (q := 2) dX7_back_74 rfl rfl ?_
          refine T_lconst (v := 0) dX7_back_75 (by decide) ?_
          refine T_callVlw (As := [.int (3 : Int32), .int x1, .int (10 : Int32), .int x2, .long (0 : Int64)]) (st := [.ref (adr G o0)]) mv_X7_81 (by decide) dX7_back_76 (sf_6_0 ho0) (fun b hb => mX2_tell G l (rf o0 0) (sf_6_0 ho0) (3 : Int32) x1 (10 : Int32) x2 (0 : Int64) M b hb) rfl rfl (Nat.le_of_ble_eq_true rfl) (fun b13 => ?_)
          refine T_callVlw (As := [.long b13.1]) (st := []) mv_X7_85 (by decide) dX7_back_79 ho0 (fun b hb => mX7_counted G l o0 ho0 b13.1 b13.2 b hb) rfl rfl (Nat.le_of_ble_eq_true rfl) (fun b14 => ?_)
          exact T_end (fun h => by cases h; exact V_lret dX7_back_82)
      · refine T_aload_n (q := 0) dX7_back_34 rfl rfl ?_
        refine T_ldc2 dX7_back_35 kcl_X7_41 ?_
        refine T_callVlw (As := [.long (-1000000000000000001 : Int64)]) (st := []) mv_X7_43 (by decide) dX7_back_38 ho0 (fun b hb => mX7_refuse G l o0 ho0 (-1000000000000000001 : Int64) M b hb) rfl rfl (Nat.le_of_ble_eq_true rfl) (fun b15 => ?_)
        exact T_end (fun h => by cases h; exact V_lret dX7_back_41)
set_option maxHeartbeats 4000000 in
set_option maxRecDepth 100000 in
theorem mX7_isMap (G : Gw) (l : Launch) (x0 : Int32) (M : Mem) (a : Int32) (h : fX7_isMap x0 = some a) : CtP G l yX7_isMap cX7_isMap 1 (some .boolean) 0 0 [.int x0] M (some (.int a)) M := by
  refine CtP.ofV (by decide) (Nat.le_of_ble_eq_true rfl) ?_
  refine (?_ : T G l RX7 cX7_isMap 1 (some .boolean) (rmOf 0 0) 0 0 (FinM G (some (.int a)) M) (fun x => x = a) 0 [(0, .int x0)] [] M (fX7_isMap x0)) a h rfl
  clear h
  unfold fX7_isMap
  refine T_iload_n (q := 0) dX7_isMap_0 rfl rfl ?_
  refine T_if_lt (tgt := 13) dX7_isMap_1 (by decide) (fun hc1 => ?_) (fun hc1 => ?_)
  · refine T_iconst (v := 0) dX7_isMap_13 (by decide) ?_
    exact T_end (fun h => by cases h; exact V_zret (Or.inl rfl) dX7_isMap_14)
  · refine T_iload_n (q := 0) dX7_isMap_4 rfl rfl ?_
    refine T_iconst (v := 4) dX7_isMap_5 (by decide) ?_
    refine T_icmp_ge (tgt := 13) dX7_isMap_6 (by decide) (fun hc2 => ?_) (fun hc2 => ?_)
    · refine T_iconst (v := 0) dX7_isMap_13 (by decide) ?_
      exact T_end (fun h => by cases h; exact V_zret (Or.inl rfl) dX7_isMap_14)
    · refine T_iconst (v := 1) dX7_isMap_9 (by decide) ?_
      refine T_goto (tgt := 14) dX7_isMap_10 (by decide) ?_
      exact T_end (fun h => by cases h; exact V_zret (Or.inr rfl) dX7_isMap_14)
set_option maxHeartbeats 4000000 in
set_option maxRecDepth 100000 in
theorem mX7_bestYear (G : Gw) (l : Launch) (o0 : Nat) (ho0 : shp o0 = 6) (o1 : Nat) (ho1 : shp o1 = 1) (x2 : Int32) (x3 : Int32) (M : Mem) (a : Int32) (h : fX7_bestYear o0 o1 x2 x3 M = some a) : CtP G l yX7_bestYear cX7_bestYear 9 (some .int) 4 89 [.ref (adr G o0), .ref (adr G o1), .int x2, .int x3] M (some (.int a)) M := by
  refine CtP.ofV (by decide) (Nat.le_of_ble_eq_true rfl) ?_
  refine (?_ : T G l RX7 cX7_bestYear 9 (some .int) (rmOf 4 89) 0 0 (FinM G (some (.int a)) M) (fun x => x = a) 0 [(0, .ref (adr G o0)), (1, .ref (adr G o1)), (2, .int x2), (3, .int x3)] [] M (fX7_bestYear o0 o1 x2 x3 M)) a h rfl
  clear h
  unfold fX7_bestYear
  refine T_iload_n (q := 2) dX7_bestYear_0 rfl rfl ?_
  refine T_istore (lv' := [(4, .int x2), (0, .ref (adr G o0)), (1, .ref (adr G o1)), (2, .int x2), (3, .int x3)]) dX7_bestYear_1 (by decide) rfl ?_
  refine T_aload_n (q := 2) dX7_bestYear_3 rfl rfl ?_
  refine T_aload_n (q := 1) dX7_bestYear_4 rfl rfl ?_
  refine T_getR cf6 fr_X7_12 dX7_bestYear_5 ho0 rfl ?_
  refine T_iload_n (q := 3) dX7_bestYear_8 rfl rfl ?_
  refine T_callVr (As := [.int x2]) (st := [.ref (adr G o1)]) mv_X7_145 (by decide) dX7_bestYear_9 (sf_6_0 ho0) (fun b hb => mX2_momentAt G l (rf o0 0) (sf_6_0 ho0) x2 M b hb) rfl rfl (Nat.le_of_ble_eq_true rfl) (fun b1 => ?_)
  refine T_gd (fun hg2 => ?_)
  refine T_callVi (As := [.ref (adr G b1)]) (st := []) mv_X7_209 (by decide) dX7_bestYear_12 ho1 (fun b hb => mX1_agreement G l o1 ho1 b1 hg2 M b hb) rfl rfl (Nat.le_of_ble_eq_true rfl) (fun b3 => ?_)
  refine T_istore (lv' := [(5, .int b3), (4, .int x2), (0, .ref (adr G o0)), (1, .ref (adr G o1)), (2, .int x2), (3, .int x3)]) dX7_bestYear_15 (by decide) rfl ?_
  refine T_iconst (v := 0) dX7_bestYear_17 (by decide) ?_
  refine T_istore (lv' := [(6, .int (0 : Int32)), (5, .int b3), (4, .int x2), (0, .ref (adr G o0)), (1, .ref (adr G o1)), (2, .int x2), (3, .int x3)]) dX7_bestYear_18 (by decide) rfl ?_
  refine T_bind (X := fun r19 => V G l RX7 cX7_bestYear 9 (some .int) (rmOf 4 89) 0 0 (FinM G (some (.int a)) M) 94 [(6, .int r19.2.2), (5, .int r19.2.1), (4, .int r19.1), (0, .ref (adr G o0)), (1, .ref (adr G o1)), (2, .int x2), (3, .int x3)] [] M) (T_loop (fun s4 => [(6, .int s4.2.2), (5, .int s4.2.1), (4, .int s4.1), (0, .ref (adr G o0)), (1, .ref (adr G o1)), (2, .int x2), (3, .int x3)]) (fun s4 => M) (fun s4 => ?_) (x2, b3, (0 : Int32))) (fun r19 => ?_)
  · unfold wX7_bestYear_20
    refine T_iload (q := 0) dX7_bestYear_20 rfl ?_
    refine T_aload_n (q := 3) dX7_bestYear_22 rfl rfl ?_
    refine T_getR cf6 fr_X7_12 dX7_bestYear_23 ho0 rfl ?_
    refine T_getI cf2 fr_X7_134 dX7_bestYear_26 (sf_6_0 ho0) rfl ?_
    refine T_icmp_ge (tgt := 94) dX7_bestYear_29 (by decide) (fun hc5 => ?_) (fun hc5 => ?_)
    · exact T_end (fun h => V_sub [0, 1, 2, 3, 4, 5, 6] rfl h)
    · refine T_aload_n (q := 3) dX7_bestYear_32 rfl rfl ?_
      refine T_getR cf6 fr_X7_12 dX7_bestYear_33 ho0 rfl ?_
      refine T_iload (q := 0) dX7_bestYear_36 rfl ?_
      refine T_callVr (As := [.int s4.2.2]) (st := []) mv_X7_284 (by decide) dX7_bestYear_38 (sf_6_0 ho0) (fun b hb => mX2_actAt G l (rf o0 0) (sf_6_0 ho0) s4.2.2 M b hb) rfl rfl (Nat.le_of_ble_eq_true rfl) (fun b6 => ?_)
      refine T_gd (fun hg7 => ?_)
      refine T_getI cf0 fr_X7_101 dX7_bestYear_41 hg7 rfl ?_
      refine T_istore_G (lv' := fun v8 => [(7, .int v8), (6, .int s4.2.2), (5, .int s4.2.1), (4, .int s4.1), (0, .ref (adr G o0)), (1, .ref (adr G o1)), (2, .int x2), (3, .int x3)]) dX7_bestYear_44 (by decide) (fun _ => rfl) (fun v8 => ?_)
      refine T_iload (q := 0) dX7_bestYear_46 rfl ?_
      refine T_iload_n (q := 6) dX7_bestYear_48 rfl rfl ?_
      refine T_icmp_le (tgt := 88) dX7_bestYear_49 (by decide) (fun hc9 => ?_) (fun hc9 => ?_)
      · refine T_iinc_G (q := 1) (y := s4.2.2 + 1) (lv' := fun v10 => [(6, .int v10), (7, .int v8), (5, .int s4.2.1), (4, .int s4.1), (0, .ref (adr G o0)), (1, .ref (adr G o1)), (2, .int x2), (3, .int x3)]) dX7_bestYear_88 rfl rfl (by decide) (fun _ => rfl) (fun v10 => ?_)
        refine T_goto (tgt := 20) dX7_bestYear_91 (by decide) ?_
        exact T_end (fun h => V_sub [0, 2, 3, 4, 5, 6, 7] rfl h)
      · refine T_iload (q := 0) dX7_bestYear_52 rfl ?_
        refine T_iload_n (q := 7) dX7_bestYear_54 rfl rfl ?_
        refine T_icmp_gt (tgt := 88) dX7_bestYear_55 (by decide) (fun hc11 => ?_) (fun hc11 => ?_)
        · refine T_iinc_G (q := 1) (y := s4.2.2 + 1) (lv' := fun v12 => [(6, .int v12), (7, .int v8), (5, .int s4.2.1), (4, .int s4.1), (0, .ref (adr G o0)), (1, .ref (adr G o1)), (2, .int x2), (3, .int x3)]) dX7_bestYear_88 rfl rfl (by decide) (fun _ => rfl) (fun v12 => ?_)
          refine T_goto (tgt := 20) dX7_bestYear_91 (by decide) ?_
          exact T_end (fun h => V_sub [0, 2, 3, 4, 5, 6, 7] rfl h)
        · refine T_aload_n (q := 5) dX7_bestYear_58 rfl rfl ?_
          refine T_aload_n (q := 4) dX7_bestYear_59 rfl rfl ?_
          refine T_getR cf6 fr_X7_12 dX7_bestYear_60 ho0 rfl ?_
          refine T_iload (q := 0) dX7_bestYear_63 rfl ?_
          refine T_callVr (As := [.int v8]) (st := [.ref (adr G o1)]) mv_X7_145 (by decide) dX7_bestYear_65 (sf_6_0 ho0) (fun b hb => mX2_momentAt G l (rf o0 0) (sf_6_0 ho0) v8 M b hb) rfl rfl (Nat.le_of_ble_eq_true rfl) (fun b13 => ?_)
          refine T_gd (fun hg14 => ?_)
          refine T_callVi (As := [.ref (adr G b13)]) (st := []) mv_X7_209 (by decide) dX7_bestYear_68 ho1 (fun b hb => mX1_agreement G l o1 ho1 b13 hg14 M b hb) rfl rfl (Nat.le_of_ble_eq_true rfl) (fun b15 => ?_)
          refine T_istore (lv' := [(8, .int b15), (7, .int v8), (6, .int s4.2.2), (5, .int s4.2.1), (4, .int s4.1), (0, .ref (adr G o0)), (1, .ref (adr G o1)), (2, .int x2), (3, .int x3)]) dX7_bestYear_71 (by decide) rfl ?_
          refine T_iload (q := 0) dX7_bestYear_73 rfl ?_
          refine T_iload (q := 3) dX7_bestYear_75 rfl ?_
          refine T_icmp_le (tgt := 88) dX7_bestYear_77 (by decide) (fun hc16 => ?_) (fun hc16 => ?_)
          · refine T_iinc_G (q := 2) (y := s4.2.2 + 1) (lv' := fun v17 => [(6, .int v17), (8, .int b15), (7, .int v8), (5, .int s4.2.1), (4, .int s4.1), (0, .ref (adr G o0)), (1, .ref (adr G o1)), (2, .int x2), (3, .int x3)]) dX7_bestYear_88 rfl rfl (by decide) (fun _ => rfl) (fun v17 => ?_)
            refine T_goto (tgt := 20) dX7_bestYear_91 (by decide) ?_
            exact T_end (fun h => V_sub [0, 3, 4, 5, 6, 7, 8] rfl h)
          · refine T_iload (q := 1) dX7_bestYear_80 rfl ?_
            refine T_istore (lv' := [(4, .int v8), (8, .int b15), (7, .int v8), (6, .int s4.2.2), (5, .int s4.2.1), (0, .ref (adr G o0)), (1, .ref (adr G o1)), (2, .int x2), (3, .int x3)]) dX7_bestYear_82 (by decide) rfl ?_
            refine T_iload (q := 1) dX7_bestYear_84 rfl ?_
            refine T_istore (lv' := [(5, .int b15), (4, .int v8), (8, .int b15), (7, .int v8), (6, .int s4.2.2), (0, .ref (adr G o0)), (1, .ref (adr G o1)), (2, .int x2), (3, .int x3)]) dX7_bestYear_86 (by decide) rfl ?_
            refine T_iinc_G (q := 4) (y := s4.2.2 + 1) (lv' := fun v18 => [(6, .int v18), (5, .int b15), (4, .int v8), (8, .int b15), (7, .int v8), (0, .ref (adr G o0)), (1, .ref (adr G o1)), (2, .int x2), (3, .int x3)]) dX7_bestYear_88 rfl rfl (by decide) (fun _ => rfl) (fun v18 => ?_)
            refine T_goto (tgt := 20) dX7_bestYear_91 (by decide) ?_
            exact T_end (fun h => V_sub [0, 1, 2, 5, 6, 7, 8] rfl h)
  · change T G l RX7 cX7_bestYear 9 (some .int) (rmOf 4 89) 0 0 (FinM G (some (.int a)) M) _ 94 [(6, .int r19.2.2), (5, .int r19.2.1), (4, .int r19.1), (0, .ref (adr G o0)), (1, .ref (adr G o1)), (2, .int x2), (3, .int x3)] [] M _
    refine T_iload (q := 2) dX7_bestYear_94 rfl ?_
    exact T_end (fun h => by cases h; exact V_iret dX7_bestYear_96)
set_option maxHeartbeats 4000000 in
set_option maxRecDepth 100000 in
theorem mX7_best (G : Gw) (l : Launch) (o0 : Nat) (ho0 : shp o0 = 6) (x1 : Int32) (x2 : Int32) (x3 : Int32) (M : Mem) (a : Int64 × Mem) (h : fX7_best o0 x1 x2 x3 M = some a) : CtP G l yX7_best cX7_best 4 (some .long) 5 117 [.ref (adr G o0), .int x1, .int x2, .int x3] M (some (.long a.1)) a.2 := by
  refine CtP.ofV (by decide) (Nat.le_of_ble_eq_true rfl) ?_
  refine (?_ : T G l RX7 cX7_best 4 (some .long) (rmOf 5 117) 0 0 (FinM G (some (.long a.1)) a.2) (fun x => x = a) 0 [(0, .ref (adr G o0)), (1, .int x1), (2, .int x2), (3, .int x3)] [] M (fX7_best o0 x1 x2 x3 M)) a h rfl
  clear h
  unfold fX7_best
  refine T_iload_n (q := 1) dX7_best_0 rfl rfl ?_
  refine T_callSi (As := [.int x1]) (st := []) ms_X7_187 (by decide) dX7_best_1 (fun b hb => mX7_isMap G l x1 M b hb) rfl rfl (Nat.le_of_ble_eq_true rfl) (fun b1 => ?_)
  refine T_if_eq (tgt := 26) dX7_best_4 (by decide) (fun hc2 => ?_) (fun hc2 => ?_)
  · refine T_aload_n (q := 0) dX7_best_26 rfl rfl ?_
    refine T_ldc2 dX7_best_27 kcl_X7_41 ?_
    refine T_callVlw (As := [.long (-1000000000000000001 : Int64)]) (st := []) mv_X7_43 (by decide) dX7_best_30 ho0 (fun b hb => mX7_refuse G l o0 ho0 (-1000000000000000001 : Int64) M b hb) rfl rfl (Nat.le_of_ble_eq_true rfl) (fun b3 => ?_)
    exact T_end (fun h => by cases h; exact V_lret dX7_best_33)
  · refine T_iload_n (q := 2) dX7_best_7 rfl rfl ?_
    refine T_callSi (As := [.int x2]) (st := []) ms_X7_69 (by decide) dX7_best_8 (fun b hb => mX7_isYear G l x2 M b hb) rfl rfl (Nat.le_of_ble_eq_true rfl) (fun b4 => ?_)
    refine T_if_eq (tgt := 26) dX7_best_11 (by decide) (fun hc5 => ?_) (fun hc5 => ?_)
    · refine T_aload_n (q := 0) dX7_best_26 rfl rfl ?_
      refine T_ldc2 dX7_best_27 kcl_X7_41 ?_
      refine T_callVlw (As := [.long (-1000000000000000001 : Int64)]) (st := []) mv_X7_43 (by decide) dX7_best_30 ho0 (fun b hb => mX7_refuse G l o0 ho0 (-1000000000000000001 : Int64) M b hb) rfl rfl (Nat.le_of_ble_eq_true rfl) (fun b6 => ?_)
      exact T_end (fun h => by cases h; exact V_lret dX7_best_33)
    · refine T_iload_n (q := 3) dX7_best_14 rfl rfl ?_
      refine T_callSi (As := [.int x3]) (st := []) ms_X7_69 (by decide) dX7_best_15 (fun b hb => mX7_isYear G l x3 M b hb) rfl rfl (Nat.le_of_ble_eq_true rfl) (fun b7 => ?_)
      refine T_if_eq (tgt := 26) dX7_best_18 (by decide) (fun hc8 => ?_) (fun hc8 => ?_)
      · refine T_aload_n (q := 0) dX7_best_26 rfl rfl ?_
        refine T_ldc2 dX7_best_27 kcl_X7_41 ?_
        refine T_callVlw (As := [.long (-1000000000000000001 : Int64)]) (st := []) mv_X7_43 (by decide) dX7_best_30 ho0 (fun b hb => mX7_refuse G l o0 ho0 (-1000000000000000001 : Int64) M b hb) rfl rfl (Nat.le_of_ble_eq_true rfl) (fun b9 => ?_)
        exact T_end (fun h => by cases h; exact V_lret dX7_best_33)
      · refine T_iload_n (q := 2) dX7_best_21 rfl rfl ?_
        refine T_iload_n (q := 3) dX7_best_22 rfl rfl ?_
        refine T_icmp_le (tgt := 34) dX7_best_23 (by decide) (fun hc10 => ?_) (fun hc10 => ?_)
        · refine T_aload_n (q := 0) dX7_best_34 rfl rfl ?_
          refine T_aload_n (q := 0) dX7_best_35 rfl rfl ?_
          refine T_getR cf6 fr_X7_25 dX7_best_36 ho0 rfl ?_
          refine T_iload_n (q := 1) dX7_best_39 rfl rfl ?_
          refine T_aald dX7_best_40 ⟨by have := (sf_6_2 ho0); omega, by have := (sf_6_2 ho0); omega⟩ (fun hi11 => ?_)
          refine T_iload_n (q := 2) dX7_best_41 rfl rfl ?_
          refine T_iload_n (q := 3) dX7_best_42 rfl rfl ?_
          refine T_callVi (As := [.ref (adr G (ra (rf o0 2) x1.toNatClampNeg)), .int x2, .int x3]) (st := []) mv_X7_216 (by decide) dX7_best_43 ho0 (fun b hb => mX7_bestYear G l o0 ho0 (ra (rf o0 2) x1.toNatClampNeg) (sa_14 (sf_6_2 ho0) hi11) x2 x3 M b hb) rfl rfl (Nat.le_of_ble_eq_true rfl) (fun b12 => ?_)
          refine T_i2l dX7_best_46 ?_
          exact T_end (fun h => by cases h; exact V_lret dX7_best_47)
        · refine T_aload_n (q := 0) dX7_best_26 rfl rfl ?_
          refine T_ldc2 dX7_best_27 kcl_X7_41 ?_
          refine T_callVlw (As := [.long (-1000000000000000001 : Int64)]) (st := []) mv_X7_43 (by decide) dX7_best_30 ho0 (fun b hb => mX7_refuse G l o0 ho0 (-1000000000000000001 : Int64) M b hb) rfl rfl (Nat.le_of_ble_eq_true rfl) (fun b13 => ?_)
          exact T_end (fun h => by cases h; exact V_lret dX7_best_33)
set_option maxHeartbeats 4000000 in
set_option maxRecDepth 100000 in
theorem mX7_borders (G : Gw) (l : Launch) (o0 : Nat) (ho0 : shp o0 = 6) (x1 : Int32) (M : Mem) (a : Int64 × Mem) (h : fX7_borders o0 x1 M = some a) : CtP G l yX7_borders cX7_borders 2 (some .long) 3 66 [.ref (adr G o0), .int x1] M (some (.long a.1)) a.2 := by
  refine CtP.ofV (by decide) (Nat.le_of_ble_eq_true rfl) ?_
  refine (?_ : T G l RX7 cX7_borders 2 (some .long) (rmOf 3 66) 0 0 (FinM G (some (.long a.1)) a.2) (fun x => x = a) 0 [(0, .ref (adr G o0)), (1, .int x1)] [] M (fX7_borders o0 x1 M)) a h rfl
  clear h
  unfold fX7_borders
  refine T_iload_n (q := 1) dX7_borders_0 rfl rfl ?_
  refine T_callSi (As := [.int x1]) (st := []) ms_X7_69 (by decide) dX7_borders_1 (fun b hb => mX7_isYear G l x1 M b hb) rfl rfl (Nat.le_of_ble_eq_true rfl) (fun b1 => ?_)
  refine T_if_ne (tgt := 15) dX7_borders_4 (by decide) (fun hc2 => ?_) (fun hc2 => ?_)
  · refine T_aload_n (q := 0) dX7_borders_7 rfl rfl ?_
    refine T_ldc2 dX7_borders_8 kcl_X7_41 ?_
    refine T_callVlw (As := [.long (-1000000000000000001 : Int64)]) (st := []) mv_X7_43 (by decide) dX7_borders_11 ho0 (fun b hb => mX7_refuse G l o0 ho0 (-1000000000000000001 : Int64) M b hb) rfl rfl (Nat.le_of_ble_eq_true rfl) (fun b3 => ?_)
    exact T_end (fun h => by cases h; exact V_lret dX7_borders_14)
  · refine T_aload_n (q := 0) dX7_borders_15 rfl rfl ?_
    refine T_getR cf6 fr_X7_12 dX7_borders_16 ho0 rfl ?_
    refine T_iload_n (q := 1) dX7_borders_19 rfl rfl ?_
    refine T_callVr (As := [.int x1]) (st := []) mv_X7_145 (by decide) dX7_borders_20 (sf_6_0 ho0) (fun b hb => mX2_momentAt G l (rf o0 0) (sf_6_0 ho0) x1 M b hb) rfl rfl (Nat.le_of_ble_eq_true rfl) (fun b4 => ?_)
    refine T_gd (fun hg5 => ?_)
    refine T_callVi (As := []) (st := []) mv_X7_179 (by decide) dX7_borders_23 hg5 (fun b hb => mX4_borderPairs G l b4 hg5 M b hb) rfl rfl (Nat.le_of_ble_eq_true rfl) (fun b6 => ?_)
    refine T_i2l dX7_borders_26 ?_
    exact T_end (fun h => by cases h; exact V_lret dX7_borders_27)
set_option maxHeartbeats 4000000 in
set_option maxRecDepth 100000 in
theorem mX7_carried (G : Gw) (l : Launch) (o0 : Nat) (ho0 : shp o0 = 6) (x1 : Int32) (x2 : Int32) (x3 : Int32) (x4 : Int32) (M : Mem) (a : Int64 × Mem) (h : fX7_carried o0 x1 x2 x3 x4 M = some a) : CtP G l yX7_carried cX7_carried 5 (some .long) 4 86 [.ref (adr G o0), .int x1, .int x2, .int x3, .int x4] M (some (.long a.1)) a.2 := by
  refine CtP.ofV (by decide) (Nat.le_of_ble_eq_true rfl) ?_
  refine (?_ : T G l RX7 cX7_carried 5 (some .long) (rmOf 4 86) 0 0 (FinM G (some (.long a.1)) a.2) (fun x => x = a) 0 [(0, .ref (adr G o0)), (1, .int x1), (2, .int x2), (3, .int x3), (4, .int x4)] [] M (fX7_carried o0 x1 x2 x3 x4 M)) a h rfl
  clear h
  unfold fX7_carried
  refine T_aload_n (q := 0) dX7_carried_0 rfl rfl ?_
  refine T_getR cf6 fr_X7_12 dX7_carried_1 ho0 rfl ?_
  refine T_iload_n (q := 2) dX7_carried_4 rfl rfl ?_
  refine T_callVi (As := [.int x2]) (st := []) mv_X7_57 (by decide) dX7_carried_5 (sf_6_0 ho0) (fun b hb => mX2_hasUnit G l (rf o0 0) (sf_6_0 ho0) x2 M b hb) rfl rfl (Nat.le_of_ble_eq_true rfl) (fun b1 => ?_)
  refine T_if_eq (tgt := 25) dX7_carried_8 (by decide) (fun hc2 => ?_) (fun hc2 => ?_)
  · refine T_aload_n (q := 0) dX7_carried_25 rfl rfl ?_
    refine T_ldc2 dX7_carried_26 kcl_X7_41 ?_
    refine T_callVlw (As := [.long (-1000000000000000001 : Int64)]) (st := []) mv_X7_43 (by decide) dX7_carried_29 ho0 (fun b hb => mX7_refuse G l o0 ho0 (-1000000000000000001 : Int64) M b hb) rfl rfl (Nat.le_of_ble_eq_true rfl) (fun b3 => ?_)
    exact T_end (fun h => by cases h; exact V_lret dX7_carried_32)
  · refine T_iload_n (q := 1) dX7_carried_11 rfl rfl ?_
    refine T_callSi (As := [.int x1]) (st := []) ms_X7_69 (by decide) dX7_carried_12 (fun b hb => mX7_isYear G l x1 M b hb) rfl rfl (Nat.le_of_ble_eq_true rfl) (fun b4 => ?_)
    refine T_if_eq (tgt := 25) dX7_carried_15 (by decide) (fun hc5 => ?_) (fun hc5 => ?_)
    · refine T_aload_n (q := 0) dX7_carried_25 rfl rfl ?_
      refine T_ldc2 dX7_carried_26 kcl_X7_41 ?_
      refine T_callVlw (As := [.long (-1000000000000000001 : Int64)]) (st := []) mv_X7_43 (by decide) dX7_carried_29 ho0 (fun b hb => mX7_refuse G l o0 ho0 (-1000000000000000001 : Int64) M b hb) rfl rfl (Nat.le_of_ble_eq_true rfl) (fun b6 => ?_)
      exact T_end (fun h => by cases h; exact V_lret dX7_carried_32)
    · refine T_iload_n (q := 3) dX7_carried_18 rfl rfl ?_
      refine T_callSi (As := [.int x3]) (st := []) ms_X7_69 (by decide) dX7_carried_19 (fun b hb => mX7_isYear G l x3 M b hb) rfl rfl (Nat.le_of_ble_eq_true rfl) (fun b7 => ?_)
      refine T_if_ne (tgt := 33) dX7_carried_22 (by decide) (fun hc8 => ?_) (fun hc8 => ?_)
      · refine T_aload_n (q := 0) dX7_carried_25 rfl rfl ?_
        refine T_ldc2 dX7_carried_26 kcl_X7_41 ?_
        refine T_callVlw (As := [.long (-1000000000000000001 : Int64)]) (st := []) mv_X7_43 (by decide) dX7_carried_29 ho0 (fun b hb => mX7_refuse G l o0 ho0 (-1000000000000000001 : Int64) M b hb) rfl rfl (Nat.le_of_ble_eq_true rfl) (fun b9 => ?_)
        exact T_end (fun h => by cases h; exact V_lret dX7_carried_32)
      · refine T_aload_n (q := 0) dX7_carried_33 rfl rfl ?_
        refine T_getR cf6 fr_X7_19 dX7_carried_34 ho0 rfl ?_
        refine T_iload_n (q := 1) dX7_carried_37 rfl rfl ?_
        refine T_aload_n (q := 0) dX7_carried_38 rfl rfl ?_
        refine T_getR cf6 fr_X7_12 dX7_carried_39 ho0 rfl ?_
        refine T_iload_n (q := 1) dX7_carried_42 rfl rfl ?_
        refine T_callVr (As := [.int x1]) (st := [.int x1, .ref (adr G (rf o0 1))]) mv_X7_145 (by decide) dX7_carried_43 (sf_6_0 ho0) (fun b hb => mX2_momentAt G l (rf o0 0) (sf_6_0 ho0) x1 M b hb) rfl rfl (Nat.le_of_ble_eq_true rfl) (fun b10 => ?_)
        refine T_gd (fun hg11 => ?_)
        refine T_aload_n (q := 0) dX7_carried_46 rfl rfl ?_
        refine T_getR cf6 fr_X7_12 dX7_carried_47 ho0 rfl ?_
        refine T_iload_n (q := 2) dX7_carried_50 rfl rfl ?_
        refine T_iload_n (q := 3) dX7_carried_51 rfl rfl ?_
        refine T_callVl (As := [.int x2, .int x3]) (st := [.ref (adr G b10), .int x1, .ref (adr G (rf o0 1))]) mv_X7_157 (by decide) dX7_carried_52 (sf_6_0 ho0) (fun b hb => mX2_heldAt G l (rf o0 0) (sf_6_0 ho0) x2 x3 M b hb) rfl rfl (Nat.le_of_ble_eq_true rfl) (fun b12 => ?_)
        refine T_iload (q := 4) dX7_carried_55 rfl ?_
        refine T_callVl (As := [.int x1, .ref (adr G b10), .long b12, .int x4]) (st := []) mv_X7_231 (by decide) dX7_carried_57 (sf_6_1 ho0) (fun b hb => mX6_share G l (rf o0 1) (sf_6_1 ho0) x1 b10 hg11 b12 x4 M b hb) rfl rfl (Nat.le_of_ble_eq_true rfl) (fun b13 => ?_)
        exact T_end (fun h => by cases h; exact V_lret dX7_carried_60)
set_option maxHeartbeats 4000000 in
set_option maxRecDepth 100000 in
theorem mX7_cells (G : Gw) (l : Launch) (o0 : Nat) (ho0 : shp o0 = 6) (x1 : Int32) (x2 : Int32) (M : Mem) (a : Int64 × Mem) (h : fX7_cells o0 x1 x2 M = some a) : CtP G l yX7_cells cX7_cells 3 (some .long) 4 86 [.ref (adr G o0), .int x1, .int x2] M (some (.long a.1)) a.2 := by
  refine CtP.ofV (by decide) (Nat.le_of_ble_eq_true rfl) ?_
  refine (?_ : T G l RX7 cX7_cells 3 (some .long) (rmOf 4 86) 0 0 (FinM G (some (.long a.1)) a.2) (fun x => x = a) 0 [(0, .ref (adr G o0)), (1, .int x1), (2, .int x2)] [] M (fX7_cells o0 x1 x2 M)) a h rfl
  clear h
  unfold fX7_cells
  refine T_aload_n (q := 0) dX7_cells_0 rfl rfl ?_
  refine T_getR cf6 fr_X7_12 dX7_cells_1 ho0 rfl ?_
  refine T_iload_n (q := 1) dX7_cells_4 rfl rfl ?_
  refine T_callVi (As := [.int x1]) (st := []) mv_X7_57 (by decide) dX7_cells_5 (sf_6_0 ho0) (fun b hb => mX2_hasUnit G l (rf o0 0) (sf_6_0 ho0) x1 M b hb) rfl rfl (Nat.le_of_ble_eq_true rfl) (fun b1 => ?_)
  refine T_if_eq (tgt := 18) dX7_cells_8 (by decide) (fun hc2 => ?_) (fun hc2 => ?_)
  · refine T_aload_n (q := 0) dX7_cells_18 rfl rfl ?_
    refine T_ldc2 dX7_cells_19 kcl_X7_41 ?_
    refine T_callVlw (As := [.long (-1000000000000000001 : Int64)]) (st := []) mv_X7_43 (by decide) dX7_cells_22 ho0 (fun b hb => mX7_refuse G l o0 ho0 (-1000000000000000001 : Int64) M b hb) rfl rfl (Nat.le_of_ble_eq_true rfl) (fun b3 => ?_)
    exact T_end (fun h => by cases h; exact V_lret dX7_cells_25)
  · refine T_iload_n (q := 2) dX7_cells_11 rfl rfl ?_
    refine T_callSi (As := [.int x2]) (st := []) ms_X7_69 (by decide) dX7_cells_12 (fun b hb => mX7_isYear G l x2 M b hb) rfl rfl (Nat.le_of_ble_eq_true rfl) (fun b4 => ?_)
    refine T_if_ne (tgt := 26) dX7_cells_15 (by decide) (fun hc5 => ?_) (fun hc5 => ?_)
    · refine T_aload_n (q := 0) dX7_cells_18 rfl rfl ?_
      refine T_ldc2 dX7_cells_19 kcl_X7_41 ?_
      refine T_callVlw (As := [.long (-1000000000000000001 : Int64)]) (st := []) mv_X7_43 (by decide) dX7_cells_22 ho0 (fun b hb => mX7_refuse G l o0 ho0 (-1000000000000000001 : Int64) M b hb) rfl rfl (Nat.le_of_ble_eq_true rfl) (fun b6 => ?_)
      exact T_end (fun h => by cases h; exact V_lret dX7_cells_25)
    · refine T_aload_n (q := 0) dX7_cells_26 rfl rfl ?_
      refine T_getR cf6 fr_X7_12 dX7_cells_27 ho0 rfl ?_
      refine T_iload_n (q := 1) dX7_cells_30 rfl rfl ?_
      refine T_iload_n (q := 2) dX7_cells_31 rfl rfl ?_
      refine T_callVl (As := [.int x1, .int x2]) (st := []) mv_X7_157 (by decide) dX7_cells_32 (sf_6_0 ho0) (fun b hb => mX2_heldAt G l (rf o0 0) (sf_6_0 ho0) x1 x2 M b hb) rfl rfl (Nat.le_of_ble_eq_true rfl) (fun b7 => ?_)
      exact T_end (fun h => by cases h; exact V_lret dX7_cells_35)
set_option maxHeartbeats 4000000 in
set_option maxRecDepth 100000 in
theorem mX7_changes (G : Gw) (l : Launch) (o0 : Nat) (ho0 : shp o0 = 6) (x1 : Int32) (x2 : Int32) (M : Mem) (a : Int64 × Mem) (h : fX7_changes o0 x1 x2 M = some a) : CtP G l yX7_changes cX7_changes 4 (some .long) 5 110 [.ref (adr G o0), .int x1, .int x2] M (some (.long a.1)) a.2 := by
  refine CtP.ofV (by decide) (Nat.le_of_ble_eq_true rfl) ?_
  refine (?_ : T G l RX7 cX7_changes 4 (some .long) (rmOf 5 110) 0 0 (FinM G (some (.long a.1)) a.2) (fun x => x = a) 0 [(0, .ref (adr G o0)), (1, .int x1), (2, .int x2)] [] M (fX7_changes o0 x1 x2 M)) a h rfl
  clear h
  unfold fX7_changes
  refine T_aload_n (q := 0) dX7_changes_0 rfl rfl ?_
  refine T_getR cf6 fr_X7_12 dX7_changes_1 ho0 rfl ?_
  refine T_iload_n (q := 1) dX7_changes_4 rfl rfl ?_
  refine T_callVi (As := [.int x1]) (st := []) mv_X7_57 (by decide) dX7_changes_5 (sf_6_0 ho0) (fun b hb => mX2_hasUnit G l (rf o0 0) (sf_6_0 ho0) x1 M b hb) rfl rfl (Nat.le_of_ble_eq_true rfl) (fun b1 => ?_)
  refine T_if_eq (tgt := 18) dX7_changes_8 (by decide) (fun hc2 => ?_) (fun hc2 => ?_)
  · refine T_aload_n (q := 0) dX7_changes_18 rfl rfl ?_
    refine T_ldc2 dX7_changes_19 kcl_X7_41 ?_
    refine T_callVlw (As := [.long (-1000000000000000001 : Int64)]) (st := []) mv_X7_43 (by decide) dX7_changes_22 ho0 (fun b hb => mX7_refuse G l o0 ho0 (-1000000000000000001 : Int64) M b hb) rfl rfl (Nat.le_of_ble_eq_true rfl) (fun b3 => ?_)
    exact T_end (fun h => by cases h; exact V_lret dX7_changes_25)
  · refine T_iload_n (q := 2) dX7_changes_11 rfl rfl ?_
    refine T_callSi (As := [.int x2]) (st := []) ms_X7_69 (by decide) dX7_changes_12 (fun b hb => mX7_isYear G l x2 M b hb) rfl rfl (Nat.le_of_ble_eq_true rfl) (fun b4 => ?_)
    refine T_if_ne (tgt := 26) dX7_changes_15 (by decide) (fun hc5 => ?_) (fun hc5 => ?_)
    · refine T_aload_n (q := 0) dX7_changes_18 rfl rfl ?_
      refine T_ldc2 dX7_changes_19 kcl_X7_41 ?_
      refine T_callVlw (As := [.long (-1000000000000000001 : Int64)]) (st := []) mv_X7_43 (by decide) dX7_changes_22 ho0 (fun b hb => mX7_refuse G l o0 ho0 (-1000000000000000001 : Int64) M b hb) rfl rfl (Nat.le_of_ble_eq_true rfl) (fun b6 => ?_)
      exact T_end (fun h => by cases h; exact V_lret dX7_changes_25)
    · refine T_aload_n (q := 0) dX7_changes_26 rfl rfl ?_
      refine T_getR cf6 fr_X7_12 dX7_changes_27 ho0 rfl ?_
      refine T_iload_n (q := 1) dX7_changes_30 rfl rfl ?_
      refine T_iload_n (q := 2) dX7_changes_31 rfl rfl ?_
      refine T_callVi (As := [.int x1, .int x2]) (st := []) mv_X7_183 (by decide) dX7_changes_32 (sf_6_0 ho0) (fun b hb => mX2_firstChange G l (rf o0 0) (sf_6_0 ho0) x1 x2 M b hb) rfl rfl (Nat.le_of_ble_eq_true rfl) (fun b7 => ?_)
      refine T_istore_n (lv' := [(3, .int b7), (0, .ref (adr G o0)), (1, .int x1), (2, .int x2)]) dX7_changes_35 rfl (by decide) rfl ?_
      refine T_iload_n (q := 0) dX7_changes_36 rfl rfl ?_
      refine T_iconst (v := -1) dX7_changes_37 (by decide) ?_
      refine T_icmp_ne (tgt := 51) dX7_changes_38 (by decide) (fun hc8 => ?_) (fun hc8 => ?_)
      · refine T_aload_n (q := 1) dX7_changes_41 rfl rfl ?_
        refine T_ldc2 dX7_changes_42 kcl_X7_137 ?_
        refine T_callVlw (As := [.long (-1000000000000000006 : Int64)]) (st := []) mv_X7_43 (by decide) dX7_changes_45 ho0 (fun b hb => mX7_refuse G l o0 ho0 (-1000000000000000006 : Int64) M b hb) rfl rfl (Nat.le_of_ble_eq_true rfl) (fun b9 => ?_)
        refine T_goto (tgt := 53) dX7_changes_48 (by decide) ?_
        exact T_end (fun h => by cases h; exact V_lret dX7_changes_53)
      · refine T_iload_n (q := 0) dX7_changes_51 rfl rfl ?_
        refine T_i2l dX7_changes_52 ?_
        exact T_end (fun h => by cases h; exact V_lret dX7_changes_53)
set_option maxHeartbeats 4000000 in
set_option maxRecDepth 100000 in
theorem mX7_isClaim (G : Gw) (l : Launch) (o0 : Nat) (ho0 : shp o0 = 6) (x1 : Int32) (M : Mem) (a : Int32) (h : fX7_isClaim o0 x1 M = some a) : CtP G l yX7_isClaim cX7_isClaim 2 (some .boolean) 1 21 [.ref (adr G o0), .int x1] M (some (.int a)) M := by
  refine CtP.ofV (by decide) (Nat.le_of_ble_eq_true rfl) ?_
  refine (?_ : T G l RX7 cX7_isClaim 2 (some .boolean) (rmOf 1 21) 0 0 (FinM G (some (.int a)) M) (fun x => x = a) 0 [(0, .ref (adr G o0)), (1, .int x1)] [] M (fX7_isClaim o0 x1 M)) a h rfl
  clear h
  unfold fX7_isClaim
  refine T_iload_n (q := 1) dX7_isClaim_0 rfl rfl ?_
  refine T_iconst (v := -1) dX7_isClaim_1 (by decide) ?_
  refine T_icmp_eq (tgt := 22) dX7_isClaim_2 (by decide) (fun hc1 => ?_) (fun hc1 => ?_)
  · refine T_iconst (v := 1) dX7_isClaim_22 (by decide) ?_
    refine T_goto (tgt := 27) dX7_isClaim_23 (by decide) ?_
    exact T_end (fun h => by cases h; exact V_zret (Or.inr rfl) dX7_isClaim_27)
  · refine T_iload_n (q := 1) dX7_isClaim_5 rfl rfl ?_
    refine T_bipush (v := 10) dX7_isClaim_6 (by decide) ?_
    refine T_icmp_eq (tgt := 22) dX7_isClaim_8 (by decide) (fun hc2 => ?_) (fun hc2 => ?_)
    · refine T_iconst (v := 1) dX7_isClaim_22 (by decide) ?_
      refine T_goto (tgt := 27) dX7_isClaim_23 (by decide) ?_
      exact T_end (fun h => by cases h; exact V_zret (Or.inr rfl) dX7_isClaim_27)
    · refine T_aload_n (q := 0) dX7_isClaim_11 rfl rfl ?_
      refine T_getR cf6 fr_X7_12 dX7_isClaim_12 ho0 rfl ?_
      refine T_iload_n (q := 1) dX7_isClaim_15 rfl rfl ?_
      refine T_callVi (As := [.int x1]) (st := []) mv_X7_57 (by decide) dX7_isClaim_16 (sf_6_0 ho0) (fun b hb => mX2_hasUnit G l (rf o0 0) (sf_6_0 ho0) x1 M b hb) rfl rfl (Nat.le_of_ble_eq_true rfl) (fun b3 => ?_)
      refine T_if_eq (tgt := 26) dX7_isClaim_19 (by decide) (fun hc4 => ?_) (fun hc4 => ?_)
      · refine T_iconst (v := 0) dX7_isClaim_26 (by decide) ?_
        exact T_end (fun h => by cases h; exact V_zret (Or.inl rfl) dX7_isClaim_27)
      · refine T_iconst (v := 1) dX7_isClaim_22 (by decide) ?_
        refine T_goto (tgt := 27) dX7_isClaim_23 (by decide) ?_
        exact T_end (fun h => by cases h; exact V_zret (Or.inr rfl) dX7_isClaim_27)
set_option maxHeartbeats 4000000 in
set_option maxRecDepth 100000 in
theorem mX7_claim (G : Gw) (l : Launch) (o0 : Nat) (ho0 : shp o0 = 6) (x1 : Int32) (x2 : Int32) (x3 : Int32) (M : Mem) (a : Int64 × Mem) (h : fX7_claim o0 x1 x2 x3 M = some a) : CtP G l yX7_claim cX7_claim 5 (some .long) 3 63 [.ref (adr G o0), .int x1, .int x2, .int x3] M (some (.long a.1)) a.2 := by
  refine CtP.ofV (by decide) (Nat.le_of_ble_eq_true rfl) ?_
  refine (?_ : T G l RX7 cX7_claim 5 (some .long) (rmOf 3 63) 0 0 (FinM G (some (.long a.1)) a.2) (fun x => x = a) 0 [(0, .ref (adr G o0)), (1, .int x1), (2, .int x2), (3, .int x3)] [] M (fX7_claim o0 x1 x2 x3 M)) a h rfl
  clear h
  unfold fX7_claim
  refine T_iload_n (q := 1) dX7_claim_0 rfl rfl ?_
  refine T_callSi (As := [.int x1]) (st := []) ms_X7_187 (by decide) dX7_claim_1 (fun b hb => mX7_isMap G l x1 M b hb) rfl rfl (Nat.le_of_ble_eq_true rfl) (fun b1 => ?_)
  refine T_if_eq (tgt := 22) dX7_claim_4 (by decide) (fun hc2 => ?_) (fun hc2 => ?_)
  · refine T_aload_n (q := 0) dX7_claim_22 rfl rfl ?_
    refine T_ldc2 dX7_claim_23 kcl_X7_41 ?_
    refine T_callVlw (As := [.long (-1000000000000000001 : Int64)]) (st := []) mv_X7_43 (by decide) dX7_claim_26 ho0 (fun b hb => mX7_refuse G l o0 ho0 (-1000000000000000001 : Int64) M b hb) rfl rfl (Nat.le_of_ble_eq_true rfl) (fun b3 => ?_)
    exact T_end (fun h => by cases h; exact V_lret dX7_claim_29)
  · refine T_iload_n (q := 2) dX7_claim_7 rfl rfl ?_
    refine T_callSi (As := [.int x2]) (st := []) ms_X7_142 (by decide) dX7_claim_8 (fun b hb => mX3_isCell G l x2 M b hb) rfl rfl (Nat.le_of_ble_eq_true rfl) (fun b4 => ?_)
    refine T_if_eq (tgt := 22) dX7_claim_11 (by decide) (fun hc5 => ?_) (fun hc5 => ?_)
    · refine T_aload_n (q := 0) dX7_claim_22 rfl rfl ?_
      refine T_ldc2 dX7_claim_23 kcl_X7_41 ?_
      refine T_callVlw (As := [.long (-1000000000000000001 : Int64)]) (st := []) mv_X7_43 (by decide) dX7_claim_26 ho0 (fun b hb => mX7_refuse G l o0 ho0 (-1000000000000000001 : Int64) M b hb) rfl rfl (Nat.le_of_ble_eq_true rfl) (fun b6 => ?_)
      exact T_end (fun h => by cases h; exact V_lret dX7_claim_29)
    · refine T_aload_n (q := 0) dX7_claim_14 rfl rfl ?_
      refine T_iload_n (q := 3) dX7_claim_15 rfl rfl ?_
      refine T_callVi (As := [.int x3]) (st := []) mv_X7_191 (by decide) dX7_claim_16 ho0 (fun b hb => mX7_isClaim G l o0 ho0 x3 M b hb) rfl rfl (Nat.le_of_ble_eq_true rfl) (fun b7 => ?_)
      refine T_if_ne (tgt := 30) dX7_claim_19 (by decide) (fun hc8 => ?_) (fun hc8 => ?_)
      · refine T_aload_n (q := 0) dX7_claim_22 rfl rfl ?_
        refine T_ldc2 dX7_claim_23 kcl_X7_41 ?_
        refine T_callVlw (As := [.long (-1000000000000000001 : Int64)]) (st := []) mv_X7_43 (by decide) dX7_claim_26 ho0 (fun b hb => mX7_refuse G l o0 ho0 (-1000000000000000001 : Int64) M b hb) rfl rfl (Nat.le_of_ble_eq_true rfl) (fun b9 => ?_)
        exact T_end (fun h => by cases h; exact V_lret dX7_claim_29)
      · refine T_aload_n (q := 0) dX7_claim_30 rfl rfl ?_
        refine T_getR cf6 fr_X7_12 dX7_claim_31 ho0 rfl ?_
        refine T_iload_n (q := 3) dX7_claim_34 rfl rfl ?_
        refine T_callVi (As := [.int x3]) (st := []) mv_X7_78 (by decide) dX7_claim_35 (sf_6_0 ho0) (fun b hb => mX2_isHundred G l (rf o0 0) (sf_6_0 ho0) x3 M b hb) rfl rfl (Nat.le_of_ble_eq_true rfl) (fun b10 => ?_)
        refine T_if_eq (tgt := 49) dX7_claim_38 (by decide) (fun hc11 => ?_) (fun hc11 => ?_)
        · refine T_aload_n (q := 0) dX7_claim_49 rfl rfl ?_
          refine T_getR cf6 fr_X7_25 dX7_claim_50 ho0 rfl ?_
          refine T_iload_n (q := 1) dX7_claim_53 rfl rfl ?_
          refine T_aald dX7_claim_54 ⟨by have := (sf_6_2 ho0); omega, by have := (sf_6_2 ho0); omega⟩ (fun hi12 => ?_)
          refine T_callVl (As := []) (st := []) mv_X7_194 (by decide) dX7_claim_55 (sa_14 (sf_6_2 ho0) hi12) (fun b hb => mX1_claimedCells G l (ra (rf o0 2) x1.toNatClampNeg) (sa_14 (sf_6_2 ho0) hi12) M b hb) rfl rfl (Nat.le_of_ble_eq_true rfl) (fun b13 => ?_)
          refine T_iload_n (q := 2) dX7_claim_58 rfl rfl ?_
          refine T_callSi (As := [.long b13, .int x2]) (st := []) ms_X7_198 (by decide) dX7_claim_59 (fun b hb => mX3_has G l b13 x2 M b hb) rfl rfl (Nat.le_of_ble_eq_true rfl) (fun b14 => ?_)
          refine T_istore (lv' := [(4, .int b14), (0, .ref (adr G o0)), (1, .int x1), (2, .int x2), (3, .int x3)]) dX7_claim_62 (by decide) rfl ?_
          refine T_aload_n (q := 1) dX7_claim_64 rfl rfl ?_
          refine T_getR cf6 fr_X7_25 dX7_claim_65 ho0 rfl ?_
          refine T_iload_n (q := 2) dX7_claim_68 rfl rfl ?_
          refine T_aald dX7_claim_69 ⟨by have := (sf_6_2 ho0); omega, by have := (sf_6_2 ho0); omega⟩ (fun hi15 => ?_)
          refine T_iload_n (q := 3) dX7_claim_70 rfl rfl ?_
          refine T_iload_n (q := 4) dX7_claim_71 rfl rfl ?_
          refine T_callVvw (As := [.int x2, .int x3]) (st := []) mv_X7_202 (by decide) dX7_claim_72 (sa_14 (sf_6_2 ho0) hi15) (fun b hb => mX1_setClaim G l (ra (rf o0 2) x1.toNatClampNeg) (sa_14 (sf_6_2 ho0) hi15) x2 x3 M b hb) rfl rfl (Nat.le_of_ble_eq_true rfl) (fun b16 => ?_)
          refine T_iload (q := 0) dX7_claim_75 rfl ?_
          refine T_callSl (As := [.int b14]) (st := []) ms_X7_117 (by decide) dX7_claim_77 (fun b hb => mX7_oneIf G l b14 b16 b hb) rfl rfl (Nat.le_of_ble_eq_true rfl) (fun b17 => ?_)
          exact T_end (fun h => by cases h; exact V_lret dX7_claim_80)
        · refine T_aload_n (q := 0) dX7_claim_41 rfl rfl ?_
          refine T_ldc2 dX7_claim_42 kcl_X7_67 ?_
          refine T_callVlw (As := [.long (-1000000000000000004 : Int64)]) (st := []) mv_X7_43 (by decide) dX7_claim_45 ho0 (fun b hb => mX7_refuse G l o0 ho0 (-1000000000000000004 : Int64) M b hb) rfl rfl (Nat.le_of_ble_eq_true rfl) (fun b18 => ?_)
          exact T_end (fun h => by cases h; exact V_lret dX7_claim_48)
set_option maxHeartbeats 4000000 in
set_option maxRecDepth 100000 in
theorem mX7_claimOf (G : Gw) (l : Launch) (o0 : Nat) (ho0 : shp o0 = 6) (x1 : Int32) (M : Mem) (a : Int32) (h : fX7_claimOf o0 x1 M = some a) : CtP G l yX7_claimOf cX7_claimOf 2 (some .int) 3 63 [.ref (adr G o0), .int x1] M (some (.int a)) M := by
  refine CtP.ofV (by decide) (Nat.le_of_ble_eq_true rfl) ?_
  refine (?_ : T G l RX7 cX7_claimOf 2 (some .int) (rmOf 3 63) 0 0 (FinM G (some (.int a)) M) (fun x => x = a) 0 [(0, .ref (adr G o0)), (1, .int x1)] [] M (fX7_claimOf o0 x1 M)) a h rfl
  clear h
  unfold fX7_claimOf
  refine T_aload_n (q := 0) dX7_claimOf_0 rfl rfl ?_
  refine T_iload_n (q := 1) dX7_claimOf_1 rfl rfl ?_
  refine T_callVi (As := [.int x1]) (st := []) mv_X7_191 (by decide) dX7_claimOf_2 ho0 (fun b hb => mX7_isClaim G l o0 ho0 x1 M b hb) rfl rfl (Nat.le_of_ble_eq_true rfl) (fun b1 => ?_)
  refine T_if_eq (tgt := 23) dX7_claimOf_5 (by decide) (fun hc2 => ?_) (fun hc2 => ?_)
  · refine T_iconst (v := -1) dX7_claimOf_23 (by decide) ?_
    exact T_end (fun h => by cases h; exact V_iret dX7_claimOf_24)
  · refine T_aload_n (q := 0) dX7_claimOf_8 rfl rfl ?_
    refine T_getR cf6 fr_X7_12 dX7_claimOf_9 ho0 rfl ?_
    refine T_iload_n (q := 1) dX7_claimOf_12 rfl rfl ?_
    refine T_callVi (As := [.int x1]) (st := []) mv_X7_78 (by decide) dX7_claimOf_13 (sf_6_0 ho0) (fun b hb => mX2_isHundred G l (rf o0 0) (sf_6_0 ho0) x1 M b hb) rfl rfl (Nat.le_of_ble_eq_true rfl) (fun b3 => ?_)
    refine T_if_ne (tgt := 23) dX7_claimOf_16 (by decide) (fun hc4 => ?_) (fun hc4 => ?_)
    · refine T_iload_n (q := 1) dX7_claimOf_19 rfl rfl ?_
      refine T_goto (tgt := 24) dX7_claimOf_20 (by decide) ?_
      exact T_end (fun h => by cases h; exact V_iret dX7_claimOf_24)
    · refine T_iconst (v := -1) dX7_claimOf_23 (by decide) ?_
      exact T_end (fun h => by cases h; exact V_iret dX7_claimOf_24)
set_option maxHeartbeats 4000000 in
set_option maxRecDepth 100000 in
theorem mX7_isSheet (G : Gw) (l : Launch) (x0 : Int32) (M : Mem) (a : Int32) (h : fX7_isSheet x0 = some a) : CtP G l yX7_isSheet cX7_isSheet 1 (some .boolean) 0 0 [.int x0] M (some (.int a)) M := by
  refine CtP.ofV (by decide) (Nat.le_of_ble_eq_true rfl) ?_
  refine (?_ : T G l RX7 cX7_isSheet 1 (some .boolean) (rmOf 0 0) 0 0 (FinM G (some (.int a)) M) (fun x => x = a) 0 [(0, .int x0)] [] M (fX7_isSheet x0)) a h rfl
  clear h
  unfold fX7_isSheet
  refine T_iload_n (q := 0) dX7_isSheet_0 rfl rfl ?_
  refine T_if_lt (tgt := 13) dX7_isSheet_1 (by decide) (fun hc1 => ?_) (fun hc1 => ?_)
  · refine T_iconst (v := 0) dX7_isSheet_13 (by decide) ?_
    exact T_end (fun h => by cases h; exact V_zret (Or.inl rfl) dX7_isSheet_14)
  · refine T_iload_n (q := 0) dX7_isSheet_4 rfl rfl ?_
    refine T_iconst (v := 4) dX7_isSheet_5 (by decide) ?_
    refine T_icmp_ge (tgt := 13) dX7_isSheet_6 (by decide) (fun hc2 => ?_) (fun hc2 => ?_)
    · refine T_iconst (v := 0) dX7_isSheet_13 (by decide) ?_
      exact T_end (fun h => by cases h; exact V_zret (Or.inl rfl) dX7_isSheet_14)
    · refine T_iconst (v := 1) dX7_isSheet_9 (by decide) ?_
      refine T_goto (tgt := 14) dX7_isSheet_10 (by decide) ?_
      exact T_end (fun h => by cases h; exact V_zret (Or.inr rfl) dX7_isSheet_14)
set_option maxHeartbeats 4000000 in
set_option maxRecDepth 100000 in
theorem mX7_copy (G : Gw) (l : Launch) (o0 : Nat) (ho0 : shp o0 = 6) (x1 : Int32) (x2 : Int32) (x3 : Int32) (x4 : Int32) (x5 : Int32) (M : Mem) (a : Int64 × Mem) (h : fX7_copy o0 x1 x2 x3 x4 x5 M = some a) : CtP G l yX7_copy cX7_copy 8 (some .long) 1 22 [.ref (adr G o0), .int x1, .int x2, .int x3, .int x4, .int x5] M (some (.long a.1)) a.2 := by
  refine CtP.ofV (by decide) (Nat.le_of_ble_eq_true rfl) ?_
  refine (?_ : T G l RX7 cX7_copy 8 (some .long) (rmOf 1 22) 0 0 (FinM G (some (.long a.1)) a.2) (fun x => x = a) 0 [(0, .ref (adr G o0)), (1, .int x1), (2, .int x2), (3, .int x3), (4, .int x4), (5, .int x5)] [] M (fX7_copy o0 x1 x2 x3 x4 x5 M)) a h rfl
  clear h
  unfold fX7_copy
  refine T_iload_n (q := 1) dX7_copy_0 rfl rfl ?_
  refine T_callSi (As := [.int x1]) (st := []) ms_X7_239 (by decide) dX7_copy_1 (fun b hb => mX7_isSheet G l x1 M b hb) rfl rfl (Nat.le_of_ble_eq_true rfl) (fun b1 => ?_)
  refine T_if_eq (tgt := 14) dX7_copy_4 (by decide) (fun hc2 => ?_) (fun hc2 => ?_)
  · refine T_aload_n (q := 0) dX7_copy_14 rfl rfl ?_
    refine T_ldc2 dX7_copy_15 kcl_X7_41 ?_
    refine T_callVlw (As := [.long (-1000000000000000001 : Int64)]) (st := []) mv_X7_43 (by decide) dX7_copy_18 ho0 (fun b hb => mX7_refuse G l o0 ho0 (-1000000000000000001 : Int64) M b hb) rfl rfl (Nat.le_of_ble_eq_true rfl) (fun b3 => ?_)
    exact T_end (fun h => by cases h; exact V_lret dX7_copy_21)
  · refine T_iload_n (q := 3) dX7_copy_7 rfl rfl ?_
    refine T_callSi (As := [.int x3]) (st := []) ms_X7_239 (by decide) dX7_copy_8 (fun b hb => mX7_isSheet G l x3 M b hb) rfl rfl (Nat.le_of_ble_eq_true rfl) (fun b4 => ?_)
    refine T_if_ne (tgt := 22) dX7_copy_11 (by decide) (fun hc5 => ?_) (fun hc5 => ?_)
    · refine T_aload_n (q := 0) dX7_copy_14 rfl rfl ?_
      refine T_ldc2 dX7_copy_15 kcl_X7_41 ?_
      refine T_callVlw (As := [.long (-1000000000000000001 : Int64)]) (st := []) mv_X7_43 (by decide) dX7_copy_18 ho0 (fun b hb => mX7_refuse G l o0 ho0 (-1000000000000000001 : Int64) M b hb) rfl rfl (Nat.le_of_ble_eq_true rfl) (fun b6 => ?_)
      exact T_end (fun h => by cases h; exact V_lret dX7_copy_21)
    · refine T_aload_n (q := 0) dX7_copy_22 rfl rfl ?_
      refine T_getR cf6 fr_X7_31 dX7_copy_23 ho0 rfl ?_
      refine T_iload_n (q := 1) dX7_copy_26 rfl rfl ?_
      refine T_aald dX7_copy_27 ⟨by have := (sf_6_3 ho0); omega, by have := (sf_6_3 ho0); omega⟩ (fun hi7 => ?_)
      refine T_astore_G (lv' := fun o8 => [(6, .ref (adr G o8)), (0, .ref (adr G o0)), (1, .int x1), (2, .int x2), (3, .int x3), (4, .int x4), (5, .int x5)]) (sa_15 (sf_6_3 ho0) hi7) dX7_copy_28 (by decide) (fun _ => rfl) (fun o8 ho8 => ?_)
      refine T_aload_n (q := 1) dX7_copy_30 rfl rfl ?_
      refine T_getR cf6 fr_X7_31 dX7_copy_31 ho0 rfl ?_
      refine T_iload_n (q := 4) dX7_copy_34 rfl rfl ?_
      refine T_aald dX7_copy_35 ⟨by have := (sf_6_3 ho0); omega, by have := (sf_6_3 ho0); omega⟩ (fun hi9 => ?_)
      refine T_astore_G (lv' := fun o10 => [(7, .ref (adr G o10)), (6, .ref (adr G o8)), (0, .ref (adr G o0)), (1, .int x1), (2, .int x2), (3, .int x3), (4, .int x4), (5, .int x5)]) (sa_15 (sf_6_3 ho0) hi9) dX7_copy_36 (by decide) (fun _ => rfl) (fun o10 ho10 => ?_)
      refine T_aload (q := 1) dX7_copy_38 rfl ?_
      refine T_callVi (As := []) (st := []) mv_X7_245 (by decide) dX7_copy_40 ho8 (fun b hb => mX5_isMissing G l o8 ho8 M b hb) rfl rfl (Nat.le_of_ble_eq_true rfl) (fun b11 => ?_)
      refine T_if_ne (tgt := 54) dX7_copy_43 (by decide) (fun hc12 => ?_) (fun hc12 => ?_)
      · refine T_aload (q := 0) dX7_copy_46 rfl ?_
        refine T_callVi (As := []) (st := []) mv_X7_245 (by decide) dX7_copy_48 ho10 (fun b hb => mX5_isMissing G l o10 ho10 M b hb) rfl rfl (Nat.le_of_ble_eq_true rfl) (fun b13 => ?_)
        refine T_if_eq (tgt := 62) dX7_copy_51 (by decide) (fun hc14 => ?_) (fun hc14 => ?_)
        · refine T_aload (q := 1) dX7_copy_62 rfl ?_
          refine T_getI cf4 fr_X7_260 dX7_copy_64 ho8 rfl ?_
          refine T_aload (q := 0) dX7_copy_67 rfl ?_
          refine T_getI cf4 fr_X7_260 dX7_copy_69 ho10 rfl ?_
          refine T_icmp_eq (tgt := 83) dX7_copy_72 (by decide) (fun hc15 => ?_) (fun hc15 => ?_)
          · refine T_aload (q := 1) dX7_copy_83 rfl ?_
            refine T_iload_n (q := 4) dX7_copy_85 rfl rfl ?_
            refine T_iload (q := 7) dX7_copy_86 rfl ?_
            refine T_callVi (As := [.int x2, .int x5]) (st := []) mv_X7_250 (by decide) dX7_copy_88 ho8 (fun b hb => mX5_hasRun G l o8 ho8 x2 x5 M b hb) rfl rfl (Nat.le_of_ble_eq_true rfl) (fun b16 => ?_)
            refine T_if_eq (tgt := 106) dX7_copy_91 (by decide) (fun hc17 => ?_) (fun hc17 => ?_)
            · refine T_aload_n (q := 2) dX7_copy_106 rfl rfl ?_
              refine T_ldc2 dX7_copy_107 kcl_X7_41 ?_
              refine T_callVlw (As := [.long (-1000000000000000001 : Int64)]) (st := []) mv_X7_43 (by decide) dX7_copy_110 ho0 (fun b hb => mX7_refuse G l o0 ho0 (-1000000000000000001 : Int64) M b hb) rfl rfl (Nat.le_of_ble_eq_true rfl) (fun b18 => ?_)
              exact T_end (fun h => by cases h; exact V_lret dX7_copy_113)
            · refine T_aload (q := 0) dX7_copy_94 rfl ?_
              refine T_iload (q := 6) dX7_copy_96 rfl ?_
              refine T_iload (q := 7) dX7_copy_98 rfl ?_
              refine T_callVi (As := [.int x4, .int x5]) (st := []) mv_X7_250 (by decide) dX7_copy_100 ho10 (fun b hb => mX5_hasRun G l o10 ho10 x4 x5 M b hb) rfl rfl (Nat.le_of_ble_eq_true rfl) (fun b19 => ?_)
              refine T_if_ne (tgt := 114) dX7_copy_103 (by decide) (fun hc20 => ?_) (fun hc20 => ?_)
              · refine T_aload_n (q := 2) dX7_copy_106 rfl rfl ?_
                refine T_ldc2 dX7_copy_107 kcl_X7_41 ?_
                refine T_callVlw (As := [.long (-1000000000000000001 : Int64)]) (st := []) mv_X7_43 (by decide) dX7_copy_110 ho0 (fun b hb => mX7_refuse G l o0 ho0 (-1000000000000000001 : Int64) M b hb) rfl rfl (Nat.le_of_ble_eq_true rfl) (fun b21 => ?_)
                exact T_end (fun h => by cases h; exact V_lret dX7_copy_113)
              · refine T_aload (q := 1) dX7_copy_114 rfl ?_
                refine T_getR cf4 fr_X7_253 dX7_copy_116 ho8 rfl ?_
                refine T_iload_n (q := 4) dX7_copy_119 rfl rfl ?_
                refine T_aload (q := 0) dX7_copy_120 rfl ?_
                refine T_getR cf4 fr_X7_253 dX7_copy_122 ho10 rfl ?_
                refine T_iload (q := 6) dX7_copy_125 rfl ?_
                refine T_iload (q := 7) dX7_copy_127 rfl ?_
                refine T_cpi aw_X7_263 ⟨by decide, Nat.le_of_ble_eq_true rfl⟩ dX7_copy_129 (sf_4_0 ho8) (sf_4_0 ho10) (fun M22 => ?_)
                refine T_iload (q := 7) dX7_copy_132 rfl ?_
                refine T_i2l dX7_copy_134 ?_
                exact T_end (fun h => by cases h; exact V_lret dX7_copy_135)
          · refine T_aload_n (q := 2) dX7_copy_75 rfl rfl ?_
            refine T_ldc2 dX7_copy_76 kcl_X7_67 ?_
            refine T_callVlw (As := [.long (-1000000000000000004 : Int64)]) (st := []) mv_X7_43 (by decide) dX7_copy_79 ho0 (fun b hb => mX7_refuse G l o0 ho0 (-1000000000000000004 : Int64) M b hb) rfl rfl (Nat.le_of_ble_eq_true rfl) (fun b23 => ?_)
            exact T_end (fun h => by cases h; exact V_lret dX7_copy_82)
        · refine T_aload_n (q := 2) dX7_copy_54 rfl rfl ?_
          refine T_ldc2 dX7_copy_55 kcl_X7_248 ?_
          refine T_callVlw (As := [.long (-1000000000000000002 : Int64)]) (st := []) mv_X7_43 (by decide) dX7_copy_58 ho0 (fun b hb => mX7_refuse G l o0 ho0 (-1000000000000000002 : Int64) M b hb) rfl rfl (Nat.le_of_ble_eq_true rfl) (fun b24 => ?_)
          exact T_end (fun h => by cases h; exact V_lret dX7_copy_61)
      · refine T_aload_n (q := 2) dX7_copy_54 rfl rfl ?_
        refine T_ldc2 dX7_copy_55 kcl_X7_248 ?_
        refine T_callVlw (As := [.long (-1000000000000000002 : Int64)]) (st := []) mv_X7_43 (by decide) dX7_copy_58 ho0 (fun b hb => mX7_refuse G l o0 ho0 (-1000000000000000002 : Int64) M b hb) rfl rfl (Nat.le_of_ble_eq_true rfl) (fun b25 => ?_)
        exact T_end (fun h => by cases h; exact V_lret dX7_copy_61)
set_option maxHeartbeats 4000000 in
set_option maxRecDepth 100000 in
theorem mX7_count (G : Gw) (l : Launch) (o0 : Nat) (ho0 : shp o0 = 6) (x1 : Int32) (x2 : Int32) (x3 : Int32) (M : Mem) (a : Int64 × Mem) (h : fX7_count o0 x1 x2 x3 M = some a) : CtP G l yX7_count cX7_count 4 (some .long) 3 63 [.ref (adr G o0), .int x1, .int x2, .int x3] M (some (.long a.1)) a.2 := by
  refine CtP.ofV (by decide) (Nat.le_of_ble_eq_true rfl) ?_
  refine (?_ : T G l RX7 cX7_count 4 (some .long) (rmOf 3 63) 0 0 (FinM G (some (.long a.1)) a.2) (fun x => x = a) 0 [(0, .ref (adr G o0)), (1, .int x1), (2, .int x2), (3, .int x3)] [] M (fX7_count o0 x1 x2 x3 M)) a h rfl
  clear h
  unfold fX7_count
  refine T_aload_n (q := 0) dX7_count_0 rfl rfl ?_
  refine T_getR cf6 fr_X7_12 dX7_count_1 ho0 rfl ?_
  refine T_iload_n (q := 1) dX7_count_4 rfl rfl ?_
  refine T_callVi (As := [.int x1]) (st := []) mv_X7_57 (by decide) dX7_count_5 (sf_6_0 ho0) (fun b hb => mX2_hasUnit G l (rf o0 0) (sf_6_0 ho0) x1 M b hb) rfl rfl (Nat.le_of_ble_eq_true rfl) (fun b1 => ?_)
  refine T_if_eq (tgt := 28) dX7_count_8 (by decide) (fun hc2 => ?_) (fun hc2 => ?_)
  · refine T_aload_n (q := 0) dX7_count_28 rfl rfl ?_
    refine T_ldc2 dX7_count_29 kcl_X7_41 ?_
    refine T_callVlw (As := [.long (-1000000000000000001 : Int64)]) (st := []) mv_X7_43 (by decide) dX7_count_32 ho0 (fun b hb => mX7_refuse G l o0 ho0 (-1000000000000000001 : Int64) M b hb) rfl rfl (Nat.le_of_ble_eq_true rfl) (fun b3 => ?_)
    exact T_end (fun h => by cases h; exact V_lret dX7_count_35)
  · refine T_iload_n (q := 2) dX7_count_11 rfl rfl ?_
    refine T_callSi (As := [.int x2]) (st := []) ms_X7_69 (by decide) dX7_count_12 (fun b hb => mX7_isYear G l x2 M b hb) rfl rfl (Nat.le_of_ble_eq_true rfl) (fun b4 => ?_)
    refine T_if_eq (tgt := 28) dX7_count_15 (by decide) (fun hc5 => ?_) (fun hc5 => ?_)
    · refine T_aload_n (q := 0) dX7_count_28 rfl rfl ?_
      refine T_ldc2 dX7_count_29 kcl_X7_41 ?_
      refine T_callVlw (As := [.long (-1000000000000000001 : Int64)]) (st := []) mv_X7_43 (by decide) dX7_count_32 ho0 (fun b hb => mX7_refuse G l o0 ho0 (-1000000000000000001 : Int64) M b hb) rfl rfl (Nat.le_of_ble_eq_true rfl) (fun b6 => ?_)
      exact T_end (fun h => by cases h; exact V_lret dX7_count_35)
    · refine T_iload_n (q := 3) dX7_count_18 rfl rfl ?_
      refine T_if_lt (tgt := 28) dX7_count_19 (by decide) (fun hc7 => ?_) (fun hc7 => ?_)
      · refine T_aload_n (q := 0) dX7_count_28 rfl rfl ?_
        refine T_ldc2 dX7_count_29 kcl_X7_41 ?_
        refine T_callVlw (As := [.long (-1000000000000000001 : Int64)]) (st := []) mv_X7_43 (by decide) dX7_count_32 ho0 (fun b hb => mX7_refuse G l o0 ho0 (-1000000000000000001 : Int64) M b hb) rfl rfl (Nat.le_of_ble_eq_true rfl) (fun b8 => ?_)
        exact T_end (fun h => by cases h; exact V_lret dX7_count_35)
      · refine T_iload_n (q := 3) dX7_count_22 rfl rfl ?_
        refine T_ldc dX7_count_23 kci_X7_224 ?_
        refine T_icmp_le (tgt := 36) dX7_count_25 (by decide) (fun hc9 => ?_) (fun hc9 => ?_)
        · refine T_aload_n (q := 0) dX7_count_36 rfl rfl ?_
          refine T_getR cf6 fr_X7_12 dX7_count_37 ho0 rfl ?_
          refine T_iload_n (q := 1) dX7_count_40 rfl rfl ?_
          refine T_callVi (As := [.int x1]) (st := []) mv_X7_78 (by decide) dX7_count_41 (sf_6_0 ho0) (fun b hb => mX2_isHundred G l (rf o0 0) (sf_6_0 ho0) x1 M b hb) rfl rfl (Nat.le_of_ble_eq_true rfl) (fun b10 => ?_)
          refine T_if_eq (tgt := 55) dX7_count_44 (by decide) (fun hc11 => ?_) (fun hc11 => ?_)
          · refine T_aload_n (q := 0) dX7_count_55 rfl rfl ?_
            refine T_getR cf6 fr_X7_19 dX7_count_56 ho0 rfl ?_
            refine T_callVi (As := []) (st := []) mv_X7_225 (by decide) dX7_count_59 (sf_6_1 ho0) (fun b hb => mX6_isFull G l (rf o0 1) (sf_6_1 ho0) M b hb) rfl rfl (Nat.le_of_ble_eq_true rfl) (fun b12 => ?_)
            refine T_if_eq (tgt := 73) dX7_count_62 (by decide) (fun hc13 => ?_) (fun hc13 => ?_)
            · refine T_aload_n (q := 0) dX7_count_73 rfl rfl ?_
              refine T_getR cf6 fr_X7_19 dX7_count_74 ho0 rfl ?_
              refine T_iload_n (q := 1) dX7_count_77 rfl rfl ?_
              refine T_iload_n (q := 2) dX7_count_78 rfl rfl ?_
              refine T_iload_n (q := 3) dX7_count_79 rfl rfl ?_
              refine T_callViw (As := [.int x1, .int x2, .int x3]) (st := []) mv_X7_228 (by decide) dX7_count_80 (sf_6_1 ho0) (fun b hb => mX6_add G l (rf o0 1) (sf_6_1 ho0) x1 x2 x3 M b hb) rfl rfl (Nat.le_of_ble_eq_true rfl) (fun b14 => ?_)
              refine T_i2l dX7_count_83 ?_
              exact T_end (fun h => by cases h; exact V_lret dX7_count_84)
            · refine T_aload_n (q := 0) dX7_count_65 rfl rfl ?_
              refine T_ldc2 dX7_count_66 kcl_X7_51 ?_
              refine T_callVlw (As := [.long (-1000000000000000005 : Int64)]) (st := []) mv_X7_43 (by decide) dX7_count_69 ho0 (fun b hb => mX7_refuse G l o0 ho0 (-1000000000000000005 : Int64) M b hb) rfl rfl (Nat.le_of_ble_eq_true rfl) (fun b15 => ?_)
              exact T_end (fun h => by cases h; exact V_lret dX7_count_72)
          · refine T_aload_n (q := 0) dX7_count_47 rfl rfl ?_
            refine T_ldc2 dX7_count_48 kcl_X7_67 ?_
            refine T_callVlw (As := [.long (-1000000000000000004 : Int64)]) (st := []) mv_X7_43 (by decide) dX7_count_51 ho0 (fun b hb => mX7_refuse G l o0 ho0 (-1000000000000000004 : Int64) M b hb) rfl rfl (Nat.le_of_ble_eq_true rfl) (fun b16 => ?_)
            exact T_end (fun h => by cases h; exact V_lret dX7_count_54)
        · refine T_aload_n (q := 0) dX7_count_28 rfl rfl ?_
          refine T_ldc2 dX7_count_29 kcl_X7_41 ?_
          refine T_callVlw (As := [.long (-1000000000000000001 : Int64)]) (st := []) mv_X7_43 (by decide) dX7_count_32 ho0 (fun b hb => mX7_refuse G l o0 ho0 (-1000000000000000001 : Int64) M b hb) rfl rfl (Nat.le_of_ble_eq_true rfl) (fun b17 => ?_)
          exact T_end (fun h => by cases h; exact V_lret dX7_count_35)
set_option maxHeartbeats 4000000 in
set_option maxRecDepth 100000 in
theorem mX7_found (G : Gw) (l : Launch) (o0 : Nat) (ho0 : shp o0 = 6) (x1 : Int32) (x2 : Int32) (x3 : Int64) (M : Mem) (a : Int64 × Mem) (h : fX7_found o0 x1 x2 x3 M = some a) : CtP G l yX7_found cX7_found 5 (some .long) 6 148 [.ref (adr G o0), .int x1, .int x2, .long x3] M (some (.long a.1)) a.2 := by
  refine CtP.ofV (by decide) (Nat.le_of_ble_eq_true rfl) ?_
  refine (?_ : T G l RX7 cX7_found 5 (some .long) (rmOf 6 148) 0 0 (FinM G (some (.long a.1)) a.2) (fun x => x = a) 0 [(0, .ref (adr G o0)), (1, .int x1), (2, .int x2), (3, .long x3)] [] M (fX7_found o0 x1 x2 x3 M)) a h rfl
  clear h
  unfold fX7_found
  refine T_aload_n (q := 0) dX7_found_0 rfl rfl ?_
  refine T_getR cf6 fr_X7_12 dX7_found_1 ho0 rfl ?_
  refine T_iload_n (q := 1) dX7_found_4 rfl rfl ?_
  refine T_callVi (As := [.int x1]) (st := []) mv_X7_57 (by decide) dX7_found_5 (sf_6_0 ho0) (fun b hb => mX2_hasUnit G l (rf o0 0) (sf_6_0 ho0) x1 M b hb) rfl rfl (Nat.le_of_ble_eq_true rfl) (fun b1 => ?_)
  refine T_if_eq (tgt := 25) dX7_found_8 (by decide) (fun hc2 => ?_) (fun hc2 => ?_)
  · refine T_aload_n (q := 0) dX7_found_25 rfl rfl ?_
    refine T_ldc2 dX7_found_26 kcl_X7_41 ?_
    refine T_callVlw (As := [.long (-1000000000000000001 : Int64)]) (st := []) mv_X7_43 (by decide) dX7_found_29 ho0 (fun b hb => mX7_refuse G l o0 ho0 (-1000000000000000001 : Int64) M b hb) rfl rfl (Nat.le_of_ble_eq_true rfl) (fun b3 => ?_)
    exact T_end (fun h => by cases h; exact V_lret dX7_found_32)
  · refine T_iload_n (q := 2) dX7_found_11 rfl rfl ?_
    refine T_callSi (As := [.int x2]) (st := []) ms_X7_69 (by decide) dX7_found_12 (fun b hb => mX7_isYear G l x2 M b hb) rfl rfl (Nat.le_of_ble_eq_true rfl) (fun b4 => ?_)
    refine T_if_eq (tgt := 25) dX7_found_15 (by decide) (fun hc5 => ?_) (fun hc5 => ?_)
    · refine T_aload_n (q := 0) dX7_found_25 rfl rfl ?_
      refine T_ldc2 dX7_found_26 kcl_X7_41 ?_
      refine T_callVlw (As := [.long (-1000000000000000001 : Int64)]) (st := []) mv_X7_43 (by decide) dX7_found_29 ho0 (fun b hb => mX7_refuse G l o0 ho0 (-1000000000000000001 : Int64) M b hb) rfl rfl (Nat.le_of_ble_eq_true rfl) (fun b6 => ?_)
      exact T_end (fun h => by cases h; exact V_lret dX7_found_32)
    · refine T_lload_n (q := 3) dX7_found_18 rfl rfl ?_
      refine T_callSi (As := [.long x3]) (st := []) ms_X7_72 (by decide) dX7_found_19 (fun b hb => mX3_isSet G l x3 M b hb) rfl rfl (Nat.le_of_ble_eq_true rfl) (fun b7 => ?_)
      refine T_if_ne (tgt := 33) dX7_found_22 (by decide) (fun hc8 => ?_) (fun hc8 => ?_)
      · refine T_aload_n (q := 0) dX7_found_25 rfl rfl ?_
        refine T_ldc2 dX7_found_26 kcl_X7_41 ?_
        refine T_callVlw (As := [.long (-1000000000000000001 : Int64)]) (st := []) mv_X7_43 (by decide) dX7_found_29 ho0 (fun b hb => mX7_refuse G l o0 ho0 (-1000000000000000001 : Int64) M b hb) rfl rfl (Nat.le_of_ble_eq_true rfl) (fun b9 => ?_)
        exact T_end (fun h => by cases h; exact V_lret dX7_found_32)
      · refine T_aload_n (q := 0) dX7_found_33 rfl rfl ?_
        refine T_getR cf6 fr_X7_12 dX7_found_34 ho0 rfl ?_
        refine T_iload_n (q := 1) dX7_found_37 rfl rfl ?_
        refine T_callVi (As := [.int x1]) (st := []) mv_X7_78 (by decide) dX7_found_38 (sf_6_0 ho0) (fun b hb => mX2_isHundred G l (rf o0 0) (sf_6_0 ho0) x1 M b hb) rfl rfl (Nat.le_of_ble_eq_true rfl) (fun b10 => ?_)
        refine T_if_eq (tgt := 52) dX7_found_41 (by decide) (fun hc11 => ?_) (fun hc11 => ?_)
        · refine T_aload_n (q := 0) dX7_found_52 rfl rfl ?_
          refine T_aload_n (q := 0) dX7_found_53 rfl rfl ?_
          refine T_getR cf6 fr_X7_12 dX7_found_54 ho0 rfl ?_
          refine T_iconst (v := 0) dX7_found_57 (by decide) ?_
          refine T_iload_n (q := 1) dX7_found_58 rfl rfl ?_
          refine T_bipush (v := 10) dX7_found_59 (by decide) ?_
          refine T_iload_n (q := 2) dX7_found_61 rfl rfl ?_
          refine T_lload_n (q := 3) dX7_found_62 rfl rfl ?_
          refine T_callVlw (As := [.int (0 : Int32), .int x1, .int (10 : Int32), .int x2, .long x3]) (st := [.ref (adr G o0)]) mv_X7_81 (by decide) dX7_found_63 (sf_6_0 ho0) (fun b hb => mX2_tell G l (rf o0 0) (sf_6_0 ho0) (0 : Int32) x1 (10 : Int32) x2 x3 M b hb) rfl rfl (Nat.le_of_ble_eq_true rfl) (fun b12 => ?_)
          refine T_callVlw (As := [.long b12.1]) (st := []) mv_X7_85 (by decide) dX7_found_66 ho0 (fun b hb => mX7_counted G l o0 ho0 b12.1 b12.2 b hb) rfl rfl (Nat.le_of_ble_eq_true rfl) (fun b13 => ?_)
          exact T_end (fun h => by cases h; exact V_lret dX7_found_69)
        · refine T_aload_n (q := 0) dX7_found_44 rfl rfl ?_
          refine T_ldc2 dX7_found_45 kcl_X7_67 ?_
          refine T_callVlw (As := [.long (-1000000000000000004 : Int64)]) (st := []) mv_X7_43 (by decide) dX7_found_48 ho0 (fun b hb => mX7_refuse G l o0 ho0 (-1000000000000000004 : Int64) M b hb) rfl rfl (Nat.le_of_ble_eq_true rfl) (fun b14 => ?_)
          exact T_end (fun h => by cases h; exact V_lret dX7_found_51)
set_option maxHeartbeats 4000000 in
set_option maxRecDepth 100000 in
theorem mX7_join (G : Gw) (l : Launch) (o0 : Nat) (ho0 : shp o0 = 6) (x1 : Int32) (x2 : Int32) (x3 : Int32) (M : Mem) (a : Int64 × Mem) (h : fX7_join o0 x1 x2 x3 M = some a) : CtP G l yX7_join cX7_join 4 (some .long) 6 148 [.ref (adr G o0), .int x1, .int x2, .int x3] M (some (.long a.1)) a.2 := by
  refine CtP.ofV (by decide) (Nat.le_of_ble_eq_true rfl) ?_
  refine (?_ : T G l RX7 cX7_join 4 (some .long) (rmOf 6 148) 0 0 (FinM G (some (.long a.1)) a.2) (fun x => x = a) 0 [(0, .ref (adr G o0)), (1, .int x1), (2, .int x2), (3, .int x3)] [] M (fX7_join o0 x1 x2 x3 M)) a h rfl
  clear h
  unfold fX7_join
  refine T_aload_n (q := 0) dX7_join_0 rfl rfl ?_
  refine T_getR cf6 fr_X7_12 dX7_join_1 ho0 rfl ?_
  refine T_iload_n (q := 1) dX7_join_4 rfl rfl ?_
  refine T_callVi (As := [.int x1]) (st := []) mv_X7_57 (by decide) dX7_join_5 (sf_6_0 ho0) (fun b hb => mX2_hasUnit G l (rf o0 0) (sf_6_0 ho0) x1 M b hb) rfl rfl (Nat.le_of_ble_eq_true rfl) (fun b1 => ?_)
  refine T_if_eq (tgt := 29) dX7_join_8 (by decide) (fun hc2 => ?_) (fun hc2 => ?_)
  · refine T_aload_n (q := 0) dX7_join_29 rfl rfl ?_
    refine T_ldc2 dX7_join_30 kcl_X7_41 ?_
    refine T_callVlw (As := [.long (-1000000000000000001 : Int64)]) (st := []) mv_X7_43 (by decide) dX7_join_33 ho0 (fun b hb => mX7_refuse G l o0 ho0 (-1000000000000000001 : Int64) M b hb) rfl rfl (Nat.le_of_ble_eq_true rfl) (fun b3 => ?_)
    exact T_end (fun h => by cases h; exact V_lret dX7_join_36)
  · refine T_aload_n (q := 0) dX7_join_11 rfl rfl ?_
    refine T_getR cf6 fr_X7_12 dX7_join_12 ho0 rfl ?_
    refine T_iload_n (q := 2) dX7_join_15 rfl rfl ?_
    refine T_callVi (As := [.int x2]) (st := []) mv_X7_57 (by decide) dX7_join_16 (sf_6_0 ho0) (fun b hb => mX2_hasUnit G l (rf o0 0) (sf_6_0 ho0) x2 M b hb) rfl rfl (Nat.le_of_ble_eq_true rfl) (fun b4 => ?_)
    refine T_if_eq (tgt := 29) dX7_join_19 (by decide) (fun hc5 => ?_) (fun hc5 => ?_)
    · refine T_aload_n (q := 0) dX7_join_29 rfl rfl ?_
      refine T_ldc2 dX7_join_30 kcl_X7_41 ?_
      refine T_callVlw (As := [.long (-1000000000000000001 : Int64)]) (st := []) mv_X7_43 (by decide) dX7_join_33 ho0 (fun b hb => mX7_refuse G l o0 ho0 (-1000000000000000001 : Int64) M b hb) rfl rfl (Nat.le_of_ble_eq_true rfl) (fun b6 => ?_)
      exact T_end (fun h => by cases h; exact V_lret dX7_join_36)
    · refine T_iload_n (q := 3) dX7_join_22 rfl rfl ?_
      refine T_callSi (As := [.int x3]) (st := []) ms_X7_69 (by decide) dX7_join_23 (fun b hb => mX7_isYear G l x3 M b hb) rfl rfl (Nat.le_of_ble_eq_true rfl) (fun b7 => ?_)
      refine T_if_ne (tgt := 37) dX7_join_26 (by decide) (fun hc8 => ?_) (fun hc8 => ?_)
      · refine T_aload_n (q := 0) dX7_join_29 rfl rfl ?_
        refine T_ldc2 dX7_join_30 kcl_X7_41 ?_
        refine T_callVlw (As := [.long (-1000000000000000001 : Int64)]) (st := []) mv_X7_43 (by decide) dX7_join_33 ho0 (fun b hb => mX7_refuse G l o0 ho0 (-1000000000000000001 : Int64) M b hb) rfl rfl (Nat.le_of_ble_eq_true rfl) (fun b9 => ?_)
        exact T_end (fun h => by cases h; exact V_lret dX7_join_36)
      · refine T_aload_n (q := 0) dX7_join_37 rfl rfl ?_
        refine T_getR cf6 fr_X7_12 dX7_join_38 ho0 rfl ?_
        refine T_iload_n (q := 1) dX7_join_41 rfl rfl ?_
        refine T_callVi (As := [.int x1]) (st := []) mv_X7_78 (by decide) dX7_join_42 (sf_6_0 ho0) (fun b hb => mX2_isHundred G l (rf o0 0) (sf_6_0 ho0) x1 M b hb) rfl rfl (Nat.le_of_ble_eq_true rfl) (fun b10 => ?_)
        refine T_if_ne (tgt := 59) dX7_join_45 (by decide) (fun hc11 => ?_) (fun hc11 => ?_)
        · refine T_aload_n (q := 0) dX7_join_48 rfl rfl ?_
          refine T_getR cf6 fr_X7_12 dX7_join_49 ho0 rfl ?_
          refine T_iload_n (q := 2) dX7_join_52 rfl rfl ?_
          refine T_callVi (As := [.int x2]) (st := []) mv_X7_78 (by decide) dX7_join_53 (sf_6_0 ho0) (fun b hb => mX2_isHundred G l (rf o0 0) (sf_6_0 ho0) x2 M b hb) rfl rfl (Nat.le_of_ble_eq_true rfl) (fun b12 => ?_)
          refine T_if_ne (tgt := 67) dX7_join_56 (by decide) (fun hc13 => ?_) (fun hc13 => ?_)
          · refine T_aload_n (q := 0) dX7_join_59 rfl rfl ?_
            refine T_ldc2 dX7_join_60 kcl_X7_67 ?_
            refine T_callVlw (As := [.long (-1000000000000000004 : Int64)]) (st := []) mv_X7_43 (by decide) dX7_join_63 ho0 (fun b hb => mX7_refuse G l o0 ho0 (-1000000000000000004 : Int64) M b hb) rfl rfl (Nat.le_of_ble_eq_true rfl) (fun b14 => ?_)
            exact T_end (fun h => by cases h; exact V_lret dX7_join_66)
          · refine T_aload_n (q := 0) dX7_join_67 rfl rfl ?_
            refine T_aload_n (q := 0) dX7_join_68 rfl rfl ?_
            refine T_getR cf6 fr_X7_12 dX7_join_69 ho0 rfl ?_
            refine T_iconst (v := 4) dX7_join_72 (by decide) ?_
            refine T_iload_n (q := 1) dX7_join_73 rfl rfl ?_
            refine T_iload_n (q := 2) dX7_join_74 rfl rfl ?_
            refine T_iload_n (q := 3) dX7_join_75 rfl rfl ?_
            refine T_lconst (v := 0) dX7_join_76 (by decide) ?_
            refine T_callVlw (As := [.int (4 : Int32), .int x1, .int x2, .int x3, .long (0 : Int64)]) (st := [.ref (adr G o0)]) mv_X7_81 (by decide) dX7_join_77 (sf_6_0 ho0) (fun b hb => mX2_tell G l (rf o0 0) (sf_6_0 ho0) (4 : Int32) x1 x2 x3 (0 : Int64) M b hb) rfl rfl (Nat.le_of_ble_eq_true rfl) (fun b15 => ?_)
            refine T_callVlw (As := [.long b15.1]) (st := []) mv_X7_85 (by decide) dX7_join_80 ho0 (fun b hb => mX7_counted G l o0 ho0 b15.1 b15.2 b hb) rfl rfl (Nat.le_of_ble_eq_true rfl) (fun b16 => ?_)
            exact T_end (fun h => by cases h; exact V_lret dX7_join_83)
        · refine T_aload_n (q := 0) dX7_join_59 rfl rfl ?_
          refine T_ldc2 dX7_join_60 kcl_X7_67 ?_
          refine T_callVlw (As := [.long (-1000000000000000004 : Int64)]) (st := []) mv_X7_43 (by decide) dX7_join_63 ho0 (fun b hb => mX7_refuse G l o0 ho0 (-1000000000000000004 : Int64) M b hb) rfl rfl (Nat.le_of_ble_eq_true rfl) (fun b17 => ?_)
          exact T_end (fun h => by cases h; exact V_lret dX7_join_66)
set_option maxHeartbeats 4000000 in
set_option maxRecDepth 100000 in
theorem mX7_lay (G : Gw) (l : Launch) (o0 : Nat) (ho0 : shp o0 = 6) (x1 : Int32) (x2 : Int32) (M : Mem) (a : Int64 × Mem) (h : fX7_lay o0 x1 x2 M = some a) : CtP G l yX7_lay cX7_lay 5 (some .long) 4 84 [.ref (adr G o0), .int x1, .int x2] M (some (.long a.1)) a.2 := by
  refine CtP.ofV (by decide) (Nat.le_of_ble_eq_true rfl) ?_
  refine (?_ : T G l RX7 cX7_lay 5 (some .long) (rmOf 4 84) 0 0 (FinM G (some (.long a.1)) a.2) (fun x => x = a) 0 [(0, .ref (adr G o0)), (1, .int x1), (2, .int x2)] [] M (fX7_lay o0 x1 x2 M)) a h rfl
  clear h
  unfold fX7_lay
  refine T_iload_n (q := 1) dX7_lay_0 rfl rfl ?_
  refine T_callSi (As := [.int x1]) (st := []) ms_X7_187 (by decide) dX7_lay_1 (fun b hb => mX7_isMap G l x1 M b hb) rfl rfl (Nat.le_of_ble_eq_true rfl) (fun b1 => ?_)
  refine T_if_eq (tgt := 14) dX7_lay_4 (by decide) (fun hc2 => ?_) (fun hc2 => ?_)
  · refine T_aload_n (q := 0) dX7_lay_14 rfl rfl ?_
    refine T_ldc2 dX7_lay_15 kcl_X7_41 ?_
    refine T_callVlw (As := [.long (-1000000000000000001 : Int64)]) (st := []) mv_X7_43 (by decide) dX7_lay_18 ho0 (fun b hb => mX7_refuse G l o0 ho0 (-1000000000000000001 : Int64) M b hb) rfl rfl (Nat.le_of_ble_eq_true rfl) (fun b3 => ?_)
    exact T_end (fun h => by cases h; exact V_lret dX7_lay_21)
  · refine T_iload_n (q := 2) dX7_lay_7 rfl rfl ?_
    refine T_callSi (As := [.int x2]) (st := []) ms_X7_239 (by decide) dX7_lay_8 (fun b hb => mX7_isSheet G l x2 M b hb) rfl rfl (Nat.le_of_ble_eq_true rfl) (fun b4 => ?_)
    refine T_if_ne (tgt := 22) dX7_lay_11 (by decide) (fun hc5 => ?_) (fun hc5 => ?_)
    · refine T_aload_n (q := 0) dX7_lay_14 rfl rfl ?_
      refine T_ldc2 dX7_lay_15 kcl_X7_41 ?_
      refine T_callVlw (As := [.long (-1000000000000000001 : Int64)]) (st := []) mv_X7_43 (by decide) dX7_lay_18 ho0 (fun b hb => mX7_refuse G l o0 ho0 (-1000000000000000001 : Int64) M b hb) rfl rfl (Nat.le_of_ble_eq_true rfl) (fun b6 => ?_)
      exact T_end (fun h => by cases h; exact V_lret dX7_lay_21)
    · refine T_aload_n (q := 0) dX7_lay_22 rfl rfl ?_
      refine T_getR cf6 fr_X7_31 dX7_lay_23 ho0 rfl ?_
      refine T_iload_n (q := 2) dX7_lay_26 rfl rfl ?_
      refine T_aald dX7_lay_27 ⟨by have := (sf_6_3 ho0); omega, by have := (sf_6_3 ho0); omega⟩ (fun hi7 => ?_)
      refine T_astore_n_G (lv' := fun o8 => [(3, .ref (adr G o8)), (0, .ref (adr G o0)), (1, .int x1), (2, .int x2)]) (sa_15 (sf_6_3 ho0) hi7) dX7_lay_28 rfl (by decide) (fun _ => rfl) (fun o8 ho8 => ?_)
      refine T_aload_n (q := 0) dX7_lay_29 rfl rfl ?_
      refine T_callVi (As := []) (st := []) mv_X7_245 (by decide) dX7_lay_30 ho8 (fun b hb => mX5_isMissing G l o8 ho8 M b hb) rfl rfl (Nat.le_of_ble_eq_true rfl) (fun b9 => ?_)
      refine T_if_eq (tgt := 44) dX7_lay_33 (by decide) (fun hc10 => ?_) (fun hc10 => ?_)
      · refine T_iconst (v := 0) dX7_lay_44 (by decide) ?_
        refine T_istore (lv' := [(4, .int (0 : Int32)), (3, .ref (adr G o8)), (0, .ref (adr G o0)), (1, .int x1), (2, .int x2)]) dX7_lay_45 (by decide) rfl ?_
        refine T_bind (X := fun r20 => V G l RX7 cX7_lay 5 (some .long) (rmOf 4 84) 0 0 (FinM G (some (.long a.1)) a.2) 95 [(4, .int r20.1), (3, .ref (adr G o8)), (0, .ref (adr G o0)), (1, .int x1), (2, .int x2)] [] r20.2) (T_loop (fun s11 => [(4, .int s11.1), (3, .ref (adr G o8)), (0, .ref (adr G o0)), (1, .int x1), (2, .int x2)]) (fun s11 => s11.2) (fun s11 => ?_) ((0 : Int32), M)) (fun r20 => ?_)
        · unfold wX7_lay_47
          refine T_iload (q := 0) dX7_lay_47 rfl ?_
          refine T_bipush (v := 36) dX7_lay_49 (by decide) ?_
          refine T_icmp_ge (tgt := 95) dX7_lay_51 (by decide) (fun hc12 => ?_) (fun hc12 => ?_)
          · exact T_end (fun h => V_sub [0, 1, 2, 3, 4] rfl h)
          · refine T_aload_n (q := 2) dX7_lay_54 rfl rfl ?_
            refine T_getR cf6 fr_X7_25 dX7_lay_55 ho0 rfl ?_
            refine T_iload_n (q := 3) dX7_lay_58 rfl rfl ?_
            refine T_aald dX7_lay_59 ⟨by have := (sf_6_2 ho0); omega, by have := (sf_6_2 ho0); omega⟩ (fun hi13 => ?_)
            refine T_iload (q := 0) dX7_lay_60 rfl ?_
            refine T_iload (q := 0) dX7_lay_62 rfl ?_
            refine T_aload_n (q := 1) dX7_lay_64 rfl rfl ?_
            refine T_getI cf4 fr_X7_269 dX7_lay_65 ho8 rfl ?_
            refine T_icmp_ge (tgt := 85) dX7_lay_68 (by decide) (fun hc14 => ?_) (fun hc14 => ?_)
            · refine T_iconst (v := -1) dX7_lay_85 (by decide) ?_
              refine T_callVvw (As := [.int s11.1, .int (-1 : Int32)]) (st := []) mv_X7_202 (by decide) dX7_lay_86 (sa_14 (sf_6_2 ho0) hi13) (fun b hb => mX1_setClaim G l (ra (rf o0 2) x1.toNatClampNeg) (sa_14 (sf_6_2 ho0) hi13) s11.1 (-1 : Int32) s11.2 b hb) rfl rfl (Nat.le_of_ble_eq_true rfl) (fun b15 => ?_)
              refine T_iinc_G (q := 0) (y := s11.1 + 1) (lv' := fun v16 => [(4, .int v16), (3, .ref (adr G o8)), (0, .ref (adr G o0)), (1, .int x1), (2, .int x2)]) dX7_lay_89 rfl rfl (by decide) (fun _ => rfl) (fun v16 => ?_)
              refine T_goto (tgt := 47) dX7_lay_92 (by decide) ?_
              exact T_end (fun h => V_sub [0, 1, 2, 3, 4] rfl h)
            · refine T_aload_n (q := 2) dX7_lay_71 rfl rfl ?_
              refine T_aload_n (q := 1) dX7_lay_72 rfl rfl ?_
              refine T_getR cf4 fr_X7_253 dX7_lay_73 ho8 rfl ?_
              refine T_iload (q := 0) dX7_lay_76 rfl ?_
              refine T_iald dX7_lay_78 (sf_4_0 ho8) ?_
              refine T_callVi (As := [.int (s11.2.1 (rf o8 0) s11.1.toNatClampNeg)]) (st := [.int s11.1, .ref (adr G (ra (rf o0 2) x1.toNatClampNeg))]) mv_X7_271 (by decide) dX7_lay_79 ho0 (fun b hb => mX7_claimOf G l o0 ho0 (s11.2.1 (rf o8 0) s11.1.toNatClampNeg) s11.2 b hb) rfl rfl (Nat.le_of_ble_eq_true rfl) (fun b17 => ?_)
              refine T_goto (tgt := 86) dX7_lay_82 (by decide) ?_
              refine T_callVvw (As := [.int s11.1, .int b17]) (st := []) mv_X7_202 (by decide) dX7_lay_86 (sa_14 (sf_6_2 ho0) hi13) (fun b hb => mX1_setClaim G l (ra (rf o0 2) x1.toNatClampNeg) (sa_14 (sf_6_2 ho0) hi13) s11.1 b17 s11.2 b hb) rfl rfl (Nat.le_of_ble_eq_true rfl) (fun b18 => ?_)
              refine T_iinc_G (q := 0) (y := s11.1 + 1) (lv' := fun v19 => [(4, .int v19), (3, .ref (adr G o8)), (0, .ref (adr G o0)), (1, .int x1), (2, .int x2)]) dX7_lay_89 rfl rfl (by decide) (fun _ => rfl) (fun v19 => ?_)
              refine T_goto (tgt := 47) dX7_lay_92 (by decide) ?_
              exact T_end (fun h => V_sub [0, 1, 2, 3, 4] rfl h)
        · change T G l RX7 cX7_lay 5 (some .long) (rmOf 4 84) 0 0 (FinM G (some (.long a.1)) a.2) _ 95 [(4, .int r20.1), (3, .ref (adr G o8)), (0, .ref (adr G o0)), (1, .int x1), (2, .int x2)] [] r20.2 _
          refine T_aload_n (q := 2) dX7_lay_95 rfl rfl ?_
          refine T_getR cf6 fr_X7_25 dX7_lay_96 ho0 rfl ?_
          refine T_iload_n (q := 3) dX7_lay_99 rfl rfl ?_
          refine T_aald dX7_lay_100 ⟨by have := (sf_6_2 ho0); omega, by have := (sf_6_2 ho0); omega⟩ (fun hi21 => ?_)
          refine T_callVi (As := []) (st := []) mv_X7_206 (by decide) dX7_lay_101 (sa_14 (sf_6_2 ho0) hi21) (fun b hb => mX1_size G l (ra (rf o0 2) x1.toNatClampNeg) (sa_14 (sf_6_2 ho0) hi21) r20.2 b hb) rfl rfl (Nat.le_of_ble_eq_true rfl) (fun b22 => ?_)
          refine T_i2l dX7_lay_104 ?_
          exact T_end (fun h => by cases h; exact V_lret dX7_lay_105)
      · refine T_aload_n (q := 1) dX7_lay_36 rfl rfl ?_
        refine T_ldc2 dX7_lay_37 kcl_X7_248 ?_
        refine T_callVlw (As := [.long (-1000000000000000002 : Int64)]) (st := []) mv_X7_43 (by decide) dX7_lay_40 ho0 (fun b hb => mX7_refuse G l o0 ho0 (-1000000000000000002 : Int64) M b hb) rfl rfl (Nat.le_of_ble_eq_true rfl) (fun b23 => ?_)
        exact T_end (fun h => by cases h; exact V_lret dX7_lay_43)
set_option maxHeartbeats 4000000 in
set_option maxRecDepth 100000 in
theorem mX7_led (G : Gw) (l : Launch) (o0 : Nat) (ho0 : shp o0 = 6) (x1 : Int32) (x2 : Int32) (x3 : Int32) (M : Mem) (a : Int64 × Mem) (h : fX7_led o0 x1 x2 x3 M = some a) : CtP G l yX7_led cX7_led 5 (some .long) 4 91 [.ref (adr G o0), .int x1, .int x2, .int x3] M (some (.long a.1)) a.2 := by
  refine CtP.ofV (by decide) (Nat.le_of_ble_eq_true rfl) ?_
  refine (?_ : T G l RX7 cX7_led 5 (some .long) (rmOf 4 91) 0 0 (FinM G (some (.long a.1)) a.2) (fun x => x = a) 0 [(0, .ref (adr G o0)), (1, .int x1), (2, .int x2), (3, .int x3)] [] M (fX7_led o0 x1 x2 x3 M)) a h rfl
  clear h
  unfold fX7_led
  refine T_iload_n (q := 1) dX7_led_0 rfl rfl ?_
  refine T_callSi (As := [.int x1]) (st := []) ms_X7_142 (by decide) dX7_led_1 (fun b hb => mX3_isCell G l x1 M b hb) rfl rfl (Nat.le_of_ble_eq_true rfl) (fun b1 => ?_)
  refine T_if_eq (tgt := 21) dX7_led_4 (by decide) (fun hc2 => ?_) (fun hc2 => ?_)
  · refine T_aload_n (q := 0) dX7_led_21 rfl rfl ?_
    refine T_ldc2 dX7_led_22 kcl_X7_41 ?_
    refine T_callVlw (As := [.long (-1000000000000000001 : Int64)]) (st := []) mv_X7_43 (by decide) dX7_led_25 ho0 (fun b hb => mX7_refuse G l o0 ho0 (-1000000000000000001 : Int64) M b hb) rfl rfl (Nat.le_of_ble_eq_true rfl) (fun b3 => ?_)
    exact T_end (fun h => by cases h; exact V_lret dX7_led_28)
  · refine T_iload_n (q := 2) dX7_led_7 rfl rfl ?_
    refine T_callSi (As := [.int x2]) (st := []) ms_X7_142 (by decide) dX7_led_8 (fun b hb => mX3_isCell G l x2 M b hb) rfl rfl (Nat.le_of_ble_eq_true rfl) (fun b4 => ?_)
    refine T_if_eq (tgt := 21) dX7_led_11 (by decide) (fun hc5 => ?_) (fun hc5 => ?_)
    · refine T_aload_n (q := 0) dX7_led_21 rfl rfl ?_
      refine T_ldc2 dX7_led_22 kcl_X7_41 ?_
      refine T_callVlw (As := [.long (-1000000000000000001 : Int64)]) (st := []) mv_X7_43 (by decide) dX7_led_25 ho0 (fun b hb => mX7_refuse G l o0 ho0 (-1000000000000000001 : Int64) M b hb) rfl rfl (Nat.le_of_ble_eq_true rfl) (fun b6 => ?_)
      exact T_end (fun h => by cases h; exact V_lret dX7_led_28)
    · refine T_iload_n (q := 3) dX7_led_14 rfl rfl ?_
      refine T_callSi (As := [.int x3]) (st := []) ms_X7_69 (by decide) dX7_led_15 (fun b hb => mX7_isYear G l x3 M b hb) rfl rfl (Nat.le_of_ble_eq_true rfl) (fun b7 => ?_)
      refine T_if_ne (tgt := 29) dX7_led_18 (by decide) (fun hc8 => ?_) (fun hc8 => ?_)
      · refine T_aload_n (q := 0) dX7_led_21 rfl rfl ?_
        refine T_ldc2 dX7_led_22 kcl_X7_41 ?_
        refine T_callVlw (As := [.long (-1000000000000000001 : Int64)]) (st := []) mv_X7_43 (by decide) dX7_led_25 ho0 (fun b hb => mX7_refuse G l o0 ho0 (-1000000000000000001 : Int64) M b hb) rfl rfl (Nat.le_of_ble_eq_true rfl) (fun b9 => ?_)
        exact T_end (fun h => by cases h; exact V_lret dX7_led_28)
      · refine T_iload_n (q := 1) dX7_led_29 rfl rfl ?_
        refine T_iload_n (q := 2) dX7_led_30 rfl rfl ?_
        refine T_callSi (As := [.int x1, .int x2]) (st := []) ms_X7_170 (by decide) dX7_led_31 (fun b hb => mX3_areBeside G l x1 x2 M b hb) rfl rfl (Nat.le_of_ble_eq_true rfl) (fun b10 => ?_)
        refine T_if_ne (tgt := 45) dX7_led_34 (by decide) (fun hc11 => ?_) (fun hc11 => ?_)
        · refine T_aload_n (q := 0) dX7_led_37 rfl rfl ?_
          refine T_ldc2 dX7_led_38 kcl_X7_173 ?_
          refine T_callVlw (As := [.long (-1000000000000000003 : Int64)]) (st := []) mv_X7_43 (by decide) dX7_led_41 ho0 (fun b hb => mX7_refuse G l o0 ho0 (-1000000000000000003 : Int64) M b hb) rfl rfl (Nat.le_of_ble_eq_true rfl) (fun b12 => ?_)
          exact T_end (fun h => by cases h; exact V_lret dX7_led_44)
        · refine T_aload_n (q := 0) dX7_led_45 rfl rfl ?_
          refine T_getR cf6 fr_X7_12 dX7_led_46 ho0 rfl ?_
          refine T_iload_n (q := 1) dX7_led_49 rfl rfl ?_
          refine T_iload_n (q := 2) dX7_led_50 rfl rfl ?_
          refine T_iload_n (q := 3) dX7_led_51 rfl rfl ?_
          refine T_callVi (As := [.int x1, .int x2, .int x3]) (st := []) mv_X7_175 (by decide) dX7_led_52 (sf_6_0 ho0) (fun b hb => mX2_makerOfBorder G l (rf o0 0) (sf_6_0 ho0) x1 x2 x3 M b hb) rfl rfl (Nat.le_of_ble_eq_true rfl) (fun b13 => ?_)
          refine T_istore (lv' := [(4, .int b13), (0, .ref (adr G o0)), (1, .int x1), (2, .int x2), (3, .int x3)]) dX7_led_55 (by decide) rfl ?_
          refine T_iload (q := 0) dX7_led_57 rfl ?_
          refine T_iconst (v := -1) dX7_led_59 (by decide) ?_
          refine T_icmp_ne (tgt := 73) dX7_led_60 (by decide) (fun hc14 => ?_) (fun hc14 => ?_)
          · refine T_aload_n (q := 1) dX7_led_63 rfl rfl ?_
            refine T_ldc2 dX7_led_64 kcl_X7_137 ?_
            refine T_callVlw (As := [.long (-1000000000000000006 : Int64)]) (st := []) mv_X7_43 (by decide) dX7_led_67 ho0 (fun b hb => mX7_refuse G l o0 ho0 (-1000000000000000006 : Int64) M b hb) rfl rfl (Nat.le_of_ble_eq_true rfl) (fun b15 => ?_)
            refine T_goto (tgt := 76) dX7_led_70 (by decide) ?_
            exact T_end (fun h => by cases h; exact V_lret dX7_led_76)
          · refine T_iload (q := 0) dX7_led_73 rfl ?_
            refine T_i2l dX7_led_75 ?_
            exact T_end (fun h => by cases h; exact V_lret dX7_led_76)
set_option maxHeartbeats 4000000 in
set_option maxRecDepth 100000 in
theorem mX7_map (G : Gw) (l : Launch) (o0 : Nat) (ho0 : shp o0 = 6) (x1 : Int32) (x2 : Int32) (M : Mem) (a : Int64 × Mem) (h : fX7_map o0 x1 x2 M = some a) : CtP G l yX7_map cX7_map 4 (some .long) 1 22 [.ref (adr G o0), .int x1, .int x2] M (some (.long a.1)) a.2 := by
  refine CtP.ofV (by decide) (Nat.le_of_ble_eq_true rfl) ?_
  refine (?_ : T G l RX7 cX7_map 4 (some .long) (rmOf 1 22) 0 0 (FinM G (some (.long a.1)) a.2) (fun x => x = a) 0 [(0, .ref (adr G o0)), (1, .int x1), (2, .int x2)] [] M (fX7_map o0 x1 x2 M)) a h rfl
  clear h
  unfold fX7_map
  refine T_iload_n (q := 1) dX7_map_0 rfl rfl ?_
  refine T_callSi (As := [.int x1]) (st := []) ms_X7_187 (by decide) dX7_map_1 (fun b hb => mX7_isMap G l x1 M b hb) rfl rfl (Nat.le_of_ble_eq_true rfl) (fun b1 => ?_)
  refine T_if_eq (tgt := 14) dX7_map_4 (by decide) (fun hc2 => ?_) (fun hc2 => ?_)
  · refine T_aload_n (q := 0) dX7_map_14 rfl rfl ?_
    refine T_ldc2 dX7_map_15 kcl_X7_41 ?_
    refine T_callVlw (As := [.long (-1000000000000000001 : Int64)]) (st := []) mv_X7_43 (by decide) dX7_map_18 ho0 (fun b hb => mX7_refuse G l o0 ho0 (-1000000000000000001 : Int64) M b hb) rfl rfl (Nat.le_of_ble_eq_true rfl) (fun b3 => ?_)
    exact T_end (fun h => by cases h; exact V_lret dX7_map_21)
  · refine T_iload_n (q := 2) dX7_map_7 rfl rfl ?_
    refine T_callSi (As := [.int x2]) (st := []) ms_X7_69 (by decide) dX7_map_8 (fun b hb => mX7_isYear G l x2 M b hb) rfl rfl (Nat.le_of_ble_eq_true rfl) (fun b4 => ?_)
    refine T_if_ne (tgt := 22) dX7_map_11 (by decide) (fun hc5 => ?_) (fun hc5 => ?_)
    · refine T_aload_n (q := 0) dX7_map_14 rfl rfl ?_
      refine T_ldc2 dX7_map_15 kcl_X7_41 ?_
      refine T_callVlw (As := [.long (-1000000000000000001 : Int64)]) (st := []) mv_X7_43 (by decide) dX7_map_18 ho0 (fun b hb => mX7_refuse G l o0 ho0 (-1000000000000000001 : Int64) M b hb) rfl rfl (Nat.le_of_ble_eq_true rfl) (fun b6 => ?_)
      exact T_end (fun h => by cases h; exact V_lret dX7_map_21)
    · refine T_aload_n (q := 0) dX7_map_22 rfl rfl ?_
      refine T_getR cf6 fr_X7_25 dX7_map_23 ho0 rfl ?_
      refine T_iload_n (q := 1) dX7_map_26 rfl rfl ?_
      refine T_aald dX7_map_27 ⟨by have := (sf_6_2 ho0); omega, by have := (sf_6_2 ho0); omega⟩ (fun hi7 => ?_)
      refine T_getI cf1 fr_X7_190 dX7_map_28 (sa_14 (sf_6_2 ho0) hi7) rfl ?_
      refine T_istore_n_G (lv' := fun v8 => [(3, .int v8), (0, .ref (adr G o0)), (1, .int x1), (2, .int x2)]) dX7_map_31 rfl (by decide) (fun _ => rfl) (fun v8 => ?_)
      refine T_aload_n (q := 1) dX7_map_32 rfl rfl ?_
      refine T_getR cf6 fr_X7_25 dX7_map_33 ho0 rfl ?_
      refine T_iload_n (q := 2) dX7_map_36 rfl rfl ?_
      refine T_aald dX7_map_37 ⟨by have := (sf_6_2 ho0); omega, by have := (sf_6_2 ho0); omega⟩ (fun hi9 => ?_)
      refine T_iload_n (q := 3) dX7_map_38 rfl rfl ?_
      refine T_putI cf1 fr_X7_190 pt_1_1 dX7_map_39 (sa_14 (sf_6_2 ho0) hi9) rfl (fun M10 => ?_)
      refine T_iload_n (q := 0) dX7_map_42 rfl rfl ?_
      refine T_i2l dX7_map_43 ?_
      exact T_end (fun h => by cases h; exact V_lret dX7_map_44)
set_option maxHeartbeats 4000000 in
set_option maxRecDepth 100000 in
theorem mX7_pairFinding (G : Gw) (l : Launch) (o0 : Nat) (ho0 : shp o0 = 6) (x1 : Int32) (x2 : Int32) (x3 : Int32) (M : Mem) (a : Int64) (h : fX7_pairFinding o0 x1 x2 x3 M = some a) : CtP G l yX7_pairFinding cX7_pairFinding 4 (some .long) 3 63 [.ref (adr G o0), .int x1, .int x2, .int x3] M (some (.long a)) M := by
  refine CtP.ofV (by decide) (Nat.le_of_ble_eq_true rfl) ?_
  refine (?_ : T G l RX7 cX7_pairFinding 4 (some .long) (rmOf 3 63) 0 0 (FinM G (some (.long a)) M) (fun x => x = a) 0 [(0, .ref (adr G o0)), (1, .int x1), (2, .int x2), (3, .int x3)] [] M (fX7_pairFinding o0 x1 x2 x3 M)) a h rfl
  clear h
  unfold fX7_pairFinding
  refine T_aload_n (q := 0) dX7_pairFinding_0 rfl rfl ?_
  refine T_getR cf6 fr_X7_12 dX7_pairFinding_1 ho0 rfl ?_
  refine T_iload_n (q := 1) dX7_pairFinding_4 rfl rfl ?_
  refine T_callVi (As := [.int x1]) (st := []) mv_X7_57 (by decide) dX7_pairFinding_5 (sf_6_0 ho0) (fun b hb => mX2_hasUnit G l (rf o0 0) (sf_6_0 ho0) x1 M b hb) rfl rfl (Nat.le_of_ble_eq_true rfl) (fun b1 => ?_)
  refine T_if_eq (tgt := 29) dX7_pairFinding_8 (by decide) (fun hc2 => ?_) (fun hc2 => ?_)
  · refine T_ldc2 dX7_pairFinding_29 kcl_X7_41 ?_
    exact T_end (fun h => by cases h; exact V_lret dX7_pairFinding_32)
  · refine T_aload_n (q := 0) dX7_pairFinding_11 rfl rfl ?_
    refine T_getR cf6 fr_X7_12 dX7_pairFinding_12 ho0 rfl ?_
    refine T_iload_n (q := 2) dX7_pairFinding_15 rfl rfl ?_
    refine T_callVi (As := [.int x2]) (st := []) mv_X7_57 (by decide) dX7_pairFinding_16 (sf_6_0 ho0) (fun b hb => mX2_hasUnit G l (rf o0 0) (sf_6_0 ho0) x2 M b hb) rfl rfl (Nat.le_of_ble_eq_true rfl) (fun b3 => ?_)
    refine T_if_eq (tgt := 29) dX7_pairFinding_19 (by decide) (fun hc4 => ?_) (fun hc4 => ?_)
    · refine T_ldc2 dX7_pairFinding_29 kcl_X7_41 ?_
      exact T_end (fun h => by cases h; exact V_lret dX7_pairFinding_32)
    · refine T_iload_n (q := 3) dX7_pairFinding_22 rfl rfl ?_
      refine T_callSi (As := [.int x3]) (st := []) ms_X7_69 (by decide) dX7_pairFinding_23 (fun b hb => mX7_isYear G l x3 M b hb) rfl rfl (Nat.le_of_ble_eq_true rfl) (fun b5 => ?_)
      refine T_if_ne (tgt := 33) dX7_pairFinding_26 (by decide) (fun hc6 => ?_) (fun hc6 => ?_)
      · refine T_ldc2 dX7_pairFinding_29 kcl_X7_41 ?_
        exact T_end (fun h => by cases h; exact V_lret dX7_pairFinding_32)
      · refine T_aload_n (q := 0) dX7_pairFinding_33 rfl rfl ?_
        refine T_getR cf6 fr_X7_12 dX7_pairFinding_34 ho0 rfl ?_
        refine T_iload_n (q := 1) dX7_pairFinding_37 rfl rfl ?_
        refine T_callVi (As := [.int x1]) (st := []) mv_X7_78 (by decide) dX7_pairFinding_38 (sf_6_0 ho0) (fun b hb => mX2_isHundred G l (rf o0 0) (sf_6_0 ho0) x1 M b hb) rfl rfl (Nat.le_of_ble_eq_true rfl) (fun b7 => ?_)
        refine T_if_ne (tgt := 55) dX7_pairFinding_41 (by decide) (fun hc8 => ?_) (fun hc8 => ?_)
        · refine T_aload_n (q := 0) dX7_pairFinding_44 rfl rfl ?_
          refine T_getR cf6 fr_X7_12 dX7_pairFinding_45 ho0 rfl ?_
          refine T_iload_n (q := 2) dX7_pairFinding_48 rfl rfl ?_
          refine T_callVi (As := [.int x2]) (st := []) mv_X7_78 (by decide) dX7_pairFinding_49 (sf_6_0 ho0) (fun b hb => mX2_isHundred G l (rf o0 0) (sf_6_0 ho0) x2 M b hb) rfl rfl (Nat.le_of_ble_eq_true rfl) (fun b9 => ?_)
          refine T_if_eq (tgt := 59) dX7_pairFinding_52 (by decide) (fun hc10 => ?_) (fun hc10 => ?_)
          · refine T_iload_n (q := 1) dX7_pairFinding_59 rfl rfl ?_
            refine T_iload_n (q := 2) dX7_pairFinding_60 rfl rfl ?_
            refine T_icmp_ne (tgt := 70) dX7_pairFinding_61 (by decide) (fun hc11 => ?_) (fun hc11 => ?_)
            · refine T_ldc2 dX7_pairFinding_64 kcl_X7_173 ?_
              refine T_goto (tgt := 71) dX7_pairFinding_67 (by decide) ?_
              exact T_end (fun h => by cases h; exact V_lret dX7_pairFinding_71)
            · refine T_lconst (v := 0) dX7_pairFinding_70 (by decide) ?_
              exact T_end (fun h => by cases h; exact V_lret dX7_pairFinding_71)
          · refine T_ldc2 dX7_pairFinding_55 kcl_X7_67 ?_
            exact T_end (fun h => by cases h; exact V_lret dX7_pairFinding_58)
        · refine T_ldc2 dX7_pairFinding_55 kcl_X7_67 ?_
          exact T_end (fun h => by cases h; exact V_lret dX7_pairFinding_58)
set_option maxHeartbeats 4000000 in
set_option maxRecDepth 100000 in
theorem mX7_move (G : Gw) (l : Launch) (o0 : Nat) (ho0 : shp o0 = 6) (x1 : Int32) (x2 : Int32) (x3 : Int32) (x4 : Int64) (M : Mem) (a : Int64 × Mem) (h : fX7_move o0 x1 x2 x3 x4 M = some a) : CtP G l yX7_move cX7_move 8 (some .long) 6 148 [.ref (adr G o0), .int x1, .int x2, .int x3, .long x4] M (some (.long a.1)) a.2 := by
  refine CtP.ofV (by decide) (Nat.le_of_ble_eq_true rfl) ?_
  refine (?_ : T G l RX7 cX7_move 8 (some .long) (rmOf 6 148) 0 0 (FinM G (some (.long a.1)) a.2) (fun x => x = a) 0 [(0, .ref (adr G o0)), (1, .int x1), (2, .int x2), (3, .int x3), (4, .long x4)] [] M (fX7_move o0 x1 x2 x3 x4 M)) a h rfl
  clear h
  unfold fX7_move
  refine T_lload (q := 4) dX7_move_0 rfl ?_
  refine T_callSi (As := [.long x4]) (st := []) ms_X7_72 (by decide) dX7_move_2 (fun b hb => mX3_isSet G l x4 M b hb) rfl rfl (Nat.le_of_ble_eq_true rfl) (fun b1 => ?_)
  refine T_if_ne (tgt := 16) dX7_move_5 (by decide) (fun hc2 => ?_) (fun hc2 => ?_)
  · refine T_aload_n (q := 0) dX7_move_8 rfl rfl ?_
    refine T_ldc2 dX7_move_9 kcl_X7_41 ?_
    refine T_callVlw (As := [.long (-1000000000000000001 : Int64)]) (st := []) mv_X7_43 (by decide) dX7_move_12 ho0 (fun b hb => mX7_refuse G l o0 ho0 (-1000000000000000001 : Int64) M b hb) rfl rfl (Nat.le_of_ble_eq_true rfl) (fun b3 => ?_)
    exact T_end (fun h => by cases h; exact V_lret dX7_move_15)
  · refine T_aload_n (q := 0) dX7_move_16 rfl rfl ?_
    refine T_iload_n (q := 1) dX7_move_17 rfl rfl ?_
    refine T_iload_n (q := 2) dX7_move_18 rfl rfl ?_
    refine T_iload_n (q := 3) dX7_move_19 rfl rfl ?_
    refine T_callVl (As := [.int x1, .int x2, .int x3]) (st := []) mv_X7_88 (by decide) dX7_move_20 ho0 (fun b hb => mX7_pairFinding G l o0 ho0 x1 x2 x3 M b hb) rfl rfl (Nat.le_of_ble_eq_true rfl) (fun b4 => ?_)
    refine T_lstore (lv' := [(6, .long b4), (0, .ref (adr G o0)), (1, .int x1), (2, .int x2), (3, .int x3), (4, .long x4)]) dX7_move_23 (by decide) rfl ?_
    refine T_lload (q := 0) dX7_move_25 rfl ?_
    refine T_ldc2 dX7_move_27 kcl_X7_92 ?_
    refine T_lcmp dX7_move_30 ?_
    refine T_if_ge (tgt := 43) dX7_move_31 (by decide) (fun hc5 => ?_) (fun hc5 => ?_)
    · refine T_aload_n (q := 1) dX7_move_43 rfl rfl ?_
      refine T_aload_n (q := 1) dX7_move_44 rfl rfl ?_
      refine T_getR cf6 fr_X7_12 dX7_move_45 ho0 rfl ?_
      refine T_iconst (v := 1) dX7_move_48 (by decide) ?_
      refine T_iload_n (q := 2) dX7_move_49 rfl rfl ?_
      refine T_iload_n (q := 3) dX7_move_50 rfl rfl ?_
      refine T_iload_n (q := 4) dX7_move_51 rfl rfl ?_
      refine T_lload (q := 5) dX7_move_52 rfl ?_
      refine T_callVlw (As := [.int (1 : Int32), .int x1, .int x2, .int x3, .long x4]) (st := [.ref (adr G o0)]) mv_X7_81 (by decide) dX7_move_54 (sf_6_0 ho0) (fun b hb => mX2_tell G l (rf o0 0) (sf_6_0 ho0) (1 : Int32) x1 x2 x3 x4 M b hb) rfl rfl (Nat.le_of_ble_eq_true rfl) (fun b6 => ?_)
      refine T_callVlw (As := [.long b6.1]) (st := []) mv_X7_85 (by decide) dX7_move_57 ho0 (fun b hb => mX7_counted G l o0 ho0 b6.1 b6.2 b hb) rfl rfl (Nat.le_of_ble_eq_true rfl) (fun b7 => ?_)
      exact T_end (fun h => by cases h; exact V_lret dX7_move_60)
    · refine T_aload_n (q := 1) dX7_move_34 rfl rfl ?_
      refine T_lload (q := 0) dX7_move_35 rfl ?_
      refine T_callVlw (As := [.long b4]) (st := []) mv_X7_43 (by decide) dX7_move_37 ho0 (fun b hb => mX7_refuse G l o0 ho0 b4 M b hb) rfl rfl (Nat.le_of_ble_eq_true rfl) (fun b8 => ?_)
      refine T_goto (tgt := 60) dX7_move_40 (by decide) ?_
      exact T_end (fun h => by cases h; exact V_lret dX7_move_60)
set_option maxHeartbeats 4000000 in
set_option maxRecDepth 100000 in
theorem mX7_people (G : Gw) (l : Launch) (o0 : Nat) (ho0 : shp o0 = 6) (x1 : Int32) (M : Mem) (a : Int64 × Mem) (h : fX7_people o0 x1 M = some a) : CtP G l yX7_people cX7_people 2 (some .long) 2 47 [.ref (adr G o0), .int x1] M (some (.long a.1)) a.2 := by
  refine CtP.ofV (by decide) (Nat.le_of_ble_eq_true rfl) ?_
  refine (?_ : T G l RX7 cX7_people 2 (some .long) (rmOf 2 47) 0 0 (FinM G (some (.long a.1)) a.2) (fun x => x = a) 0 [(0, .ref (adr G o0)), (1, .int x1)] [] M (fX7_people o0 x1 M)) a h rfl
  clear h
  unfold fX7_people
  refine T_iload_n (q := 1) dX7_people_0 rfl rfl ?_
  refine T_callSi (As := [.int x1]) (st := []) ms_X7_69 (by decide) dX7_people_1 (fun b hb => mX7_isYear G l x1 M b hb) rfl rfl (Nat.le_of_ble_eq_true rfl) (fun b1 => ?_)
  refine T_if_ne (tgt := 15) dX7_people_4 (by decide) (fun hc2 => ?_) (fun hc2 => ?_)
  · refine T_aload_n (q := 0) dX7_people_7 rfl rfl ?_
    refine T_ldc2 dX7_people_8 kcl_X7_41 ?_
    refine T_callVlw (As := [.long (-1000000000000000001 : Int64)]) (st := []) mv_X7_43 (by decide) dX7_people_11 ho0 (fun b hb => mX7_refuse G l o0 ho0 (-1000000000000000001 : Int64) M b hb) rfl rfl (Nat.le_of_ble_eq_true rfl) (fun b3 => ?_)
    exact T_end (fun h => by cases h; exact V_lret dX7_people_14)
  · refine T_aload_n (q := 0) dX7_people_15 rfl rfl ?_
    refine T_getR cf6 fr_X7_19 dX7_people_16 ho0 rfl ?_
    refine T_iload_n (q := 1) dX7_people_19 rfl rfl ?_
    refine T_callVl (As := [.int x1]) (st := []) mv_X7_235 (by decide) dX7_people_20 (sf_6_1 ho0) (fun b hb => mX6_sum G l (rf o0 1) (sf_6_1 ho0) x1 M b hb) rfl rfl (Nat.le_of_ble_eq_true rfl) (fun b4 => ?_)
    exact T_end (fun h => by cases h; exact V_lret dX7_people_23)
set_option maxHeartbeats 4000000 in
set_option maxRecDepth 100000 in
theorem mX7_put (G : Gw) (l : Launch) (o0 : Nat) (ho0 : shp o0 = 6) (x1 : Int32) (x2 : Int32) (x3 : Int32) (M : Mem) (a : Int64 × Mem) (h : fX7_put o0 x1 x2 x3 M = some a) : CtP G l yX7_put cX7_put 5 (some .long) 1 22 [.ref (adr G o0), .int x1, .int x2, .int x3] M (some (.long a.1)) a.2 := by
  refine CtP.ofV (by decide) (Nat.le_of_ble_eq_true rfl) ?_
  refine (?_ : T G l RX7 cX7_put 5 (some .long) (rmOf 1 22) 0 0 (FinM G (some (.long a.1)) a.2) (fun x => x = a) 0 [(0, .ref (adr G o0)), (1, .int x1), (2, .int x2), (3, .int x3)] [] M (fX7_put o0 x1 x2 x3 M)) a h rfl
  clear h
  unfold fX7_put
  refine T_iload_n (q := 1) dX7_put_0 rfl rfl ?_
  refine T_callSi (As := [.int x1]) (st := []) ms_X7_239 (by decide) dX7_put_1 (fun b hb => mX7_isSheet G l x1 M b hb) rfl rfl (Nat.le_of_ble_eq_true rfl) (fun b1 => ?_)
  refine T_if_ne (tgt := 15) dX7_put_4 (by decide) (fun hc2 => ?_) (fun hc2 => ?_)
  · refine T_aload_n (q := 0) dX7_put_7 rfl rfl ?_
    refine T_ldc2 dX7_put_8 kcl_X7_41 ?_
    refine T_callVlw (As := [.long (-1000000000000000001 : Int64)]) (st := []) mv_X7_43 (by decide) dX7_put_11 ho0 (fun b hb => mX7_refuse G l o0 ho0 (-1000000000000000001 : Int64) M b hb) rfl rfl (Nat.le_of_ble_eq_true rfl) (fun b3 => ?_)
    exact T_end (fun h => by cases h; exact V_lret dX7_put_14)
  · refine T_aload_n (q := 0) dX7_put_15 rfl rfl ?_
    refine T_getR cf6 fr_X7_31 dX7_put_16 ho0 rfl ?_
    refine T_iload_n (q := 1) dX7_put_19 rfl rfl ?_
    refine T_aald dX7_put_20 ⟨by have := (sf_6_3 ho0); omega, by have := (sf_6_3 ho0); omega⟩ (fun hi4 => ?_)
    refine T_astore_G (lv' := fun o5 => [(4, .ref (adr G o5)), (0, .ref (adr G o0)), (1, .int x1), (2, .int x2), (3, .int x3)]) (sa_15 (sf_6_3 ho0) hi4) dX7_put_21 (by decide) (fun _ => rfl) (fun o5 ho5 => ?_)
    refine T_aload (q := 0) dX7_put_23 rfl ?_
    refine T_callVi (As := []) (st := []) mv_X7_245 (by decide) dX7_put_25 ho5 (fun b hb => mX5_isMissing G l o5 ho5 M b hb) rfl rfl (Nat.le_of_ble_eq_true rfl) (fun b6 => ?_)
    refine T_if_eq (tgt := 39) dX7_put_28 (by decide) (fun hc7 => ?_) (fun hc7 => ?_)
    · refine T_aload (q := 0) dX7_put_39 rfl ?_
      refine T_iload_n (q := 3) dX7_put_41 rfl rfl ?_
      refine T_iconst (v := 1) dX7_put_42 (by decide) ?_
      refine T_callVi (As := [.int x2, .int (1 : Int32)]) (st := []) mv_X7_250 (by decide) dX7_put_43 ho5 (fun b hb => mX5_hasRun G l o5 ho5 x2 (1 : Int32) M b hb) rfl rfl (Nat.le_of_ble_eq_true rfl) (fun b8 => ?_)
      refine T_if_ne (tgt := 57) dX7_put_46 (by decide) (fun hc9 => ?_) (fun hc9 => ?_)
      · refine T_aload_n (q := 1) dX7_put_49 rfl rfl ?_
        refine T_ldc2 dX7_put_50 kcl_X7_41 ?_
        refine T_callVlw (As := [.long (-1000000000000000001 : Int64)]) (st := []) mv_X7_43 (by decide) dX7_put_53 ho0 (fun b hb => mX7_refuse G l o0 ho0 (-1000000000000000001 : Int64) M b hb) rfl rfl (Nat.le_of_ble_eq_true rfl) (fun b10 => ?_)
        exact T_end (fun h => by cases h; exact V_lret dX7_put_56)
      · refine T_aload (q := 0) dX7_put_57 rfl ?_
        refine T_getR cf4 fr_X7_253 dX7_put_59 ho5 rfl ?_
        refine T_iload_n (q := 3) dX7_put_62 rfl rfl ?_
        refine T_aload (q := 0) dX7_put_63 rfl ?_
        refine T_iload_n (q := 4) dX7_put_65 rfl rfl ?_
        refine T_callVi (As := [.int x3]) (st := [.int x2, .ref (adr G (rf o5 0))]) mv_X7_257 (by decide) dX7_put_66 ho5 (fun b hb => mX5_lowestBits G l o5 ho5 x3 M b hb) rfl rfl (Nat.le_of_ble_eq_true rfl) (fun b11 => ?_)
        refine T_iast dX7_put_69 (sf_4_0 ho5) (fun M12 => ?_)
        refine T_lconst (v := 0) dX7_put_70 (by decide) ?_
        exact T_end (fun h => by cases h; exact V_lret dX7_put_71)
    · refine T_aload_n (q := 1) dX7_put_31 rfl rfl ?_
      refine T_ldc2 dX7_put_32 kcl_X7_248 ?_
      refine T_callVlw (As := [.long (-1000000000000000002 : Int64)]) (st := []) mv_X7_43 (by decide) dX7_put_35 ho0 (fun b hb => mX7_refuse G l o0 ho0 (-1000000000000000002 : Int64) M b hb) rfl rfl (Nat.le_of_ble_eq_true rfl) (fun b13 => ?_)
      exact T_end (fun h => by cases h; exact V_lret dX7_put_38)
set_option maxHeartbeats 4000000 in
set_option maxRecDepth 100000 in
theorem mX7_quarrel (G : Gw) (l : Launch) (o0 : Nat) (ho0 : shp o0 = 6) (x1 : Int32) (x2 : Int32) (M : Mem) (a : Int64 × Mem) (h : fX7_quarrel o0 x1 x2 M = some a) : CtP G l yX7_quarrel cX7_quarrel 4 (some .long) 3 68 [.ref (adr G o0), .int x1, .int x2] M (some (.long a.1)) a.2 := by
  refine CtP.ofV (by decide) (Nat.le_of_ble_eq_true rfl) ?_
  refine (?_ : T G l RX7 cX7_quarrel 4 (some .long) (rmOf 3 68) 0 0 (FinM G (some (.long a.1)) a.2) (fun x => x = a) 0 [(0, .ref (adr G o0)), (1, .int x1), (2, .int x2)] [] M (fX7_quarrel o0 x1 x2 M)) a h rfl
  clear h
  unfold fX7_quarrel
  refine T_iload_n (q := 1) dX7_quarrel_0 rfl rfl ?_
  refine T_callSi (As := [.int x1]) (st := []) ms_X7_187 (by decide) dX7_quarrel_1 (fun b hb => mX7_isMap G l x1 M b hb) rfl rfl (Nat.le_of_ble_eq_true rfl) (fun b1 => ?_)
  refine T_if_eq (tgt := 14) dX7_quarrel_4 (by decide) (fun hc2 => ?_) (fun hc2 => ?_)
  · refine T_aload_n (q := 0) dX7_quarrel_14 rfl rfl ?_
    refine T_ldc2 dX7_quarrel_15 kcl_X7_41 ?_
    refine T_callVlw (As := [.long (-1000000000000000001 : Int64)]) (st := []) mv_X7_43 (by decide) dX7_quarrel_18 ho0 (fun b hb => mX7_refuse G l o0 ho0 (-1000000000000000001 : Int64) M b hb) rfl rfl (Nat.le_of_ble_eq_true rfl) (fun b3 => ?_)
    exact T_end (fun h => by cases h; exact V_lret dX7_quarrel_21)
  · refine T_iload_n (q := 2) dX7_quarrel_7 rfl rfl ?_
    refine T_callSi (As := [.int x2]) (st := []) ms_X7_187 (by decide) dX7_quarrel_8 (fun b hb => mX7_isMap G l x2 M b hb) rfl rfl (Nat.le_of_ble_eq_true rfl) (fun b4 => ?_)
    refine T_if_ne (tgt := 22) dX7_quarrel_11 (by decide) (fun hc5 => ?_) (fun hc5 => ?_)
    · refine T_aload_n (q := 0) dX7_quarrel_14 rfl rfl ?_
      refine T_ldc2 dX7_quarrel_15 kcl_X7_41 ?_
      refine T_callVlw (As := [.long (-1000000000000000001 : Int64)]) (st := []) mv_X7_43 (by decide) dX7_quarrel_18 ho0 (fun b hb => mX7_refuse G l o0 ho0 (-1000000000000000001 : Int64) M b hb) rfl rfl (Nat.le_of_ble_eq_true rfl) (fun b6 => ?_)
      exact T_end (fun h => by cases h; exact V_lret dX7_quarrel_21)
    · refine T_aload_n (q := 0) dX7_quarrel_22 rfl rfl ?_
      refine T_getR cf6 fr_X7_25 dX7_quarrel_23 ho0 rfl ?_
      refine T_iload_n (q := 1) dX7_quarrel_26 rfl rfl ?_
      refine T_aald dX7_quarrel_27 ⟨by have := (sf_6_2 ho0); omega, by have := (sf_6_2 ho0); omega⟩ (fun hi7 => ?_)
      refine T_aload_n (q := 0) dX7_quarrel_28 rfl rfl ?_
      refine T_getR cf6 fr_X7_25 dX7_quarrel_29 ho0 rfl ?_
      refine T_iload_n (q := 2) dX7_quarrel_32 rfl rfl ?_
      refine T_aald dX7_quarrel_33 ⟨by have := (sf_6_2 ho0); omega, by have := (sf_6_2 ho0); omega⟩ (fun hi8 => ?_)
      refine T_callVi (As := [.ref (adr G (ra (rf o0 2) x2.toNatClampNeg))]) (st := []) mv_X7_220 (by decide) dX7_quarrel_34 (sa_14 (sf_6_2 ho0) hi7) (fun b hb => mX1_firstQuarrel G l (ra (rf o0 2) x1.toNatClampNeg) (sa_14 (sf_6_2 ho0) hi7) (ra (rf o0 2) x2.toNatClampNeg) (sa_14 (sf_6_2 ho0) hi8) M b hb) rfl rfl (Nat.le_of_ble_eq_true rfl) (fun b9 => ?_)
      refine T_istore_n (lv' := [(3, .int b9), (0, .ref (adr G o0)), (1, .int x1), (2, .int x2)]) dX7_quarrel_37 rfl (by decide) rfl ?_
      refine T_iload_n (q := 0) dX7_quarrel_38 rfl rfl ?_
      refine T_bipush (v := 36) dX7_quarrel_39 (by decide) ?_
      refine T_icmp_ne (tgt := 54) dX7_quarrel_41 (by decide) (fun hc10 => ?_) (fun hc10 => ?_)
      · refine T_aload_n (q := 1) dX7_quarrel_44 rfl rfl ?_
        refine T_ldc2 dX7_quarrel_45 kcl_X7_137 ?_
        refine T_callVlw (As := [.long (-1000000000000000006 : Int64)]) (st := []) mv_X7_43 (by decide) dX7_quarrel_48 ho0 (fun b hb => mX7_refuse G l o0 ho0 (-1000000000000000006 : Int64) M b hb) rfl rfl (Nat.le_of_ble_eq_true rfl) (fun b11 => ?_)
        refine T_goto (tgt := 56) dX7_quarrel_51 (by decide) ?_
        exact T_end (fun h => by cases h; exact V_lret dX7_quarrel_56)
      · refine T_iload_n (q := 0) dX7_quarrel_54 rfl rfl ?_
        refine T_i2l dX7_quarrel_55 ?_
        exact T_end (fun h => by cases h; exact V_lret dX7_quarrel_56)
set_option maxHeartbeats 4000000 in
set_option maxRecDepth 100000 in
theorem mX7_read (G : Gw) (l : Launch) (o0 : Nat) (ho0 : shp o0 = 6) (x1 : Int32) (x2 : Int32) (M : Mem) (a : Int64 × Mem) (h : fX7_read o0 x1 x2 M = some a) : CtP G l yX7_read cX7_read 4 (some .long) 4 89 [.ref (adr G o0), .int x1, .int x2] M (some (.long a.1)) a.2 := by
  refine CtP.ofV (by decide) (Nat.le_of_ble_eq_true rfl) ?_
  refine (?_ : T G l RX7 cX7_read 4 (some .long) (rmOf 4 89) 0 0 (FinM G (some (.long a.1)) a.2) (fun x => x = a) 0 [(0, .ref (adr G o0)), (1, .int x1), (2, .int x2)] [] M (fX7_read o0 x1 x2 M)) a h rfl
  clear h
  unfold fX7_read
  refine T_iload_n (q := 1) dX7_read_0 rfl rfl ?_
  refine T_callSi (As := [.int x1]) (st := []) ms_X7_187 (by decide) dX7_read_1 (fun b hb => mX7_isMap G l x1 M b hb) rfl rfl (Nat.le_of_ble_eq_true rfl) (fun b1 => ?_)
  refine T_if_ne (tgt := 15) dX7_read_4 (by decide) (fun hc2 => ?_) (fun hc2 => ?_)
  · refine T_aload_n (q := 0) dX7_read_7 rfl rfl ?_
    refine T_ldc2 dX7_read_8 kcl_X7_41 ?_
    refine T_callVlw (As := [.long (-1000000000000000001 : Int64)]) (st := []) mv_X7_43 (by decide) dX7_read_11 ho0 (fun b hb => mX7_refuse G l o0 ho0 (-1000000000000000001 : Int64) M b hb) rfl rfl (Nat.le_of_ble_eq_true rfl) (fun b3 => ?_)
    exact T_end (fun h => by cases h; exact V_lret dX7_read_14)
  · refine T_aload_n (q := 0) dX7_read_15 rfl rfl ?_
    refine T_getR cf6 fr_X7_25 dX7_read_16 ho0 rfl ?_
    refine T_iload_n (q := 1) dX7_read_19 rfl rfl ?_
    refine T_aald dX7_read_20 ⟨by have := (sf_6_2 ho0); omega, by have := (sf_6_2 ho0); omega⟩ (fun hi4 => ?_)
    refine T_astore_n_G (lv' := fun o5 => [(3, .ref (adr G o5)), (0, .ref (adr G o0)), (1, .int x1), (2, .int x2)]) (sa_14 (sf_6_2 ho0) hi4) dX7_read_21 rfl (by decide) (fun _ => rfl) (fun o5 ho5 => ?_)
    refine T_iload_n (q := 3) dX7_read_22 rfl rfl ?_
    refine T_split (fun hs6 => ?_) (fun hs6 => ?_)
    · refine T_tswIn (off := 29) (tgt := 52) dX7_read_23 (by rw [hs6]; decide) (by rw [hs6]; decide) (by rw [hs6]; rfl) (by decide) ?_
      refine T_aload_n (q := 0) dX7_read_52 rfl rfl ?_
      refine T_getI cf1 fr_X7_190 dX7_read_53 ho5 rfl ?_
      refine T_i2l dX7_read_56 ?_
      exact T_end (fun h => by cases h; exact V_lret dX7_read_57)
    · skip
      refine T_split (fun hs7 => ?_) (fun hs7 => ?_)
      · refine T_tswIn (off := 35) (tgt := 58) dX7_read_23 (by rw [hs7]; decide) (by rw [hs7]; decide) (by rw [hs7]; rfl) (by decide) ?_
        refine T_aload_n (q := 0) dX7_read_58 rfl rfl ?_
        refine T_callVi (As := []) (st := []) mv_X7_206 (by decide) dX7_read_59 ho5 (fun b hb => mX1_size G l o5 ho5 M b hb) rfl rfl (Nat.le_of_ble_eq_true rfl) (fun b10 => ?_)
        refine T_i2l dX7_read_62 ?_
        exact T_end (fun h => by cases h; exact V_lret dX7_read_63)
      · skip
        refine T_split (fun hs8 => ?_) (fun hs8 => ?_)
        · refine T_tswIn (off := 41) (tgt := 64) dX7_read_23 (by rw [hs8]; decide) (by rw [hs8]; decide) (by rw [hs8]; rfl) (by decide) ?_
          refine T_aload_n (q := 0) dX7_read_64 rfl rfl ?_
          refine T_aload_n (q := 1) dX7_read_65 rfl rfl ?_
          refine T_getR cf6 fr_X7_12 dX7_read_66 ho0 rfl ?_
          refine T_aload_n (q := 0) dX7_read_69 rfl rfl ?_
          refine T_getI cf1 fr_X7_190 dX7_read_70 ho5 rfl ?_
          refine T_callVr (As := [.int (M.1 o5 1)]) (st := [.ref (adr G o5)]) mv_X7_145 (by decide) dX7_read_73 (sf_6_0 ho0) (fun b hb => mX2_momentAt G l (rf o0 0) (sf_6_0 ho0) (M.1 o5 1) M b hb) rfl rfl (Nat.le_of_ble_eq_true rfl) (fun b11 => ?_)
          refine T_gd (fun hg12 => ?_)
          refine T_callVi (As := [.ref (adr G b11)]) (st := []) mv_X7_209 (by decide) dX7_read_76 ho5 (fun b hb => mX1_agreement G l o5 ho5 b11 hg12 M b hb) rfl rfl (Nat.le_of_ble_eq_true rfl) (fun b13 => ?_)
          refine T_i2l dX7_read_79 ?_
          exact T_end (fun h => by cases h; exact V_lret dX7_read_80)
        · skip
          refine T_split (fun hs9 => ?_) (fun hs9 => ?_)
          · refine T_tswIn (off := 58) (tgt := 81) dX7_read_23 (by rw [hs9]; decide) (by rw [hs9]; decide) (by rw [hs9]; rfl) (by decide) ?_
            refine T_aload_n (q := 0) dX7_read_81 rfl rfl ?_
            refine T_aload_n (q := 1) dX7_read_82 rfl rfl ?_
            refine T_getR cf6 fr_X7_12 dX7_read_83 ho0 rfl ?_
            refine T_aload_n (q := 0) dX7_read_86 rfl rfl ?_
            refine T_getI cf1 fr_X7_190 dX7_read_87 ho5 rfl ?_
            refine T_callVr (As := [.int (M.1 o5 1)]) (st := [.ref (adr G o5)]) mv_X7_145 (by decide) dX7_read_90 (sf_6_0 ho0) (fun b hb => mX2_momentAt G l (rf o0 0) (sf_6_0 ho0) (M.1 o5 1) M b hb) rfl rfl (Nat.le_of_ble_eq_true rfl) (fun b14 => ?_)
            refine T_gd (fun hg15 => ?_)
            refine T_callVi (As := [.ref (adr G b14)]) (st := []) mv_X7_213 (by decide) dX7_read_93 ho5 (fun b hb => mX1_firstWrong G l o5 ho5 b14 hg15 M b hb) rfl rfl (Nat.le_of_ble_eq_true rfl) (fun b16 => ?_)
            refine T_i2l dX7_read_96 ?_
            exact T_end (fun h => by cases h; exact V_lret dX7_read_97)
          · skip
            refine T_tswOut (tgt := 98) dX7_read_23 (by have hz := tsw0 (x := x2) (n := 4) (by decide) (fun j hj => by match j, hj with | 0, _ => exact hs6 | 1, _ => exact hs7 | 2, _ => exact hs8 | 3, _ => exact hs9); exact hz) (by decide) ?_
            refine T_aload_n (q := 1) dX7_read_98 rfl rfl ?_
            refine T_ldc2 dX7_read_99 kcl_X7_41 ?_
            refine T_callVlw (As := [.long (-1000000000000000001 : Int64)]) (st := []) mv_X7_43 (by decide) dX7_read_102 ho0 (fun b hb => mX7_refuse G l o0 ho0 (-1000000000000000001 : Int64) M b hb) rfl rfl (Nat.le_of_ble_eq_true rfl) (fun b17 => ?_)
            exact T_end (fun h => by cases h; exact V_lret dX7_read_105)
set_option maxHeartbeats 4000000 in
set_option maxRecDepth 100000 in
theorem mX7_shape (G : Gw) (l : Launch) (o0 : Nat) (ho0 : shp o0 = 6) (x1 : Int32) (x2 : Int32) (x3 : Int32) (M : Mem) (a : Int64 × Mem) (h : fX7_shape o0 x1 x2 x3 M = some a) : CtP G l yX7_shape cX7_shape 6 (some .long) 4 86 [.ref (adr G o0), .int x1, .int x2, .int x3] M (some (.long a.1)) a.2 := by
  refine CtP.ofV (by decide) (Nat.le_of_ble_eq_true rfl) ?_
  refine (?_ : T G l RX7 cX7_shape 6 (some .long) (rmOf 4 86) 0 0 (FinM G (some (.long a.1)) a.2) (fun x => x = a) 0 [(0, .ref (adr G o0)), (1, .int x1), (2, .int x2), (3, .int x3)] [] M (fX7_shape o0 x1 x2 x3 M)) a h rfl
  clear h
  unfold fX7_shape
  refine T_aload_n (q := 0) dX7_shape_0 rfl rfl ?_
  refine T_getR cf6 fr_X7_12 dX7_shape_1 ho0 rfl ?_
  refine T_iload_n (q := 1) dX7_shape_4 rfl rfl ?_
  refine T_callVi (As := [.int x1]) (st := []) mv_X7_57 (by decide) dX7_shape_5 (sf_6_0 ho0) (fun b hb => mX2_hasUnit G l (rf o0 0) (sf_6_0 ho0) x1 M b hb) rfl rfl (Nat.le_of_ble_eq_true rfl) (fun b1 => ?_)
  refine T_if_eq (tgt := 18) dX7_shape_8 (by decide) (fun hc2 => ?_) (fun hc2 => ?_)
  · refine T_aload_n (q := 0) dX7_shape_18 rfl rfl ?_
    refine T_ldc2 dX7_shape_19 kcl_X7_41 ?_
    refine T_callVlw (As := [.long (-1000000000000000001 : Int64)]) (st := []) mv_X7_43 (by decide) dX7_shape_22 ho0 (fun b hb => mX7_refuse G l o0 ho0 (-1000000000000000001 : Int64) M b hb) rfl rfl (Nat.le_of_ble_eq_true rfl) (fun b3 => ?_)
    exact T_end (fun h => by cases h; exact V_lret dX7_shape_25)
  · refine T_iload_n (q := 2) dX7_shape_11 rfl rfl ?_
    refine T_callSi (As := [.int x2]) (st := []) ms_X7_69 (by decide) dX7_shape_12 (fun b hb => mX7_isYear G l x2 M b hb) rfl rfl (Nat.le_of_ble_eq_true rfl) (fun b4 => ?_)
    refine T_if_ne (tgt := 26) dX7_shape_15 (by decide) (fun hc5 => ?_) (fun hc5 => ?_)
    · refine T_aload_n (q := 0) dX7_shape_18 rfl rfl ?_
      refine T_ldc2 dX7_shape_19 kcl_X7_41 ?_
      refine T_callVlw (As := [.long (-1000000000000000001 : Int64)]) (st := []) mv_X7_43 (by decide) dX7_shape_22 ho0 (fun b hb => mX7_refuse G l o0 ho0 (-1000000000000000001 : Int64) M b hb) rfl rfl (Nat.le_of_ble_eq_true rfl) (fun b6 => ?_)
      exact T_end (fun h => by cases h; exact V_lret dX7_shape_25)
    · refine T_aload_n (q := 0) dX7_shape_26 rfl rfl ?_
      refine T_getR cf6 fr_X7_12 dX7_shape_27 ho0 rfl ?_
      refine T_iload_n (q := 1) dX7_shape_30 rfl rfl ?_
      refine T_iload_n (q := 2) dX7_shape_31 rfl rfl ?_
      refine T_callVl (As := [.int x1, .int x2]) (st := []) mv_X7_157 (by decide) dX7_shape_32 (sf_6_0 ho0) (fun b hb => mX2_heldAt G l (rf o0 0) (sf_6_0 ho0) x1 x2 M b hb) rfl rfl (Nat.le_of_ble_eq_true rfl) (fun b7 => ?_)
      refine T_lstore (lv' := [(4, .long b7), (0, .ref (adr G o0)), (1, .int x1), (2, .int x2), (3, .int x3)]) dX7_shape_35 (by decide) rfl ?_
      refine T_iload_n (q := 4) dX7_shape_37 rfl rfl ?_
      refine T_split (fun hs8 => ?_) (fun hs8 => ?_)
      · refine T_tswIn (off := 26) (tgt := 64) dX7_shape_38 (by rw [hs8]; decide) (by rw [hs8]; decide) (by rw [hs8]; rfl) (by decide) ?_
        refine T_lload (q := 0) dX7_shape_64 rfl ?_
        refine T_callSi (As := [.long b7]) (st := []) ms_X7_125 (by decide) dX7_shape_66 (fun b hb => mJ13_bitCount_95d88 G l b7 M b hb) rfl rfl (Nat.le_of_ble_eq_true rfl) (fun b11 => ?_)
        refine T_i2l dX7_shape_69 ?_
        exact T_end (fun h => by cases h; exact V_lret dX7_shape_70)
      · skip
        refine T_split (fun hs9 => ?_) (fun hs9 => ?_)
        · refine T_tswIn (off := 33) (tgt := 71) dX7_shape_38 (by rw [hs9]; decide) (by rw [hs9]; decide) (by rw [hs9]; rfl) (by decide) ?_
          refine T_lload (q := 0) dX7_shape_71 rfl ?_
          refine T_callSi (As := [.long b7]) (st := []) ms_X7_161 (by decide) dX7_shape_73 (fun b hb => mX3_pieces G l b7 M b hb) rfl rfl (Nat.le_of_ble_eq_true rfl) (fun b12 => ?_)
          refine T_i2l dX7_shape_76 ?_
          exact T_end (fun h => by cases h; exact V_lret dX7_shape_77)
        · skip
          refine T_split (fun hs10 => ?_) (fun hs10 => ?_)
          · refine T_tswIn (off := 40) (tgt := 78) dX7_shape_38 (by rw [hs10]; decide) (by rw [hs10]; decide) (by rw [hs10]; rfl) (by decide) ?_
            refine T_lload (q := 0) dX7_shape_78 rfl ?_
            refine T_callSi (As := [.long b7]) (st := []) ms_X7_164 (by decide) dX7_shape_80 (fun b hb => mX3_sides G l b7 M b hb) rfl rfl (Nat.le_of_ble_eq_true rfl) (fun b13 => ?_)
            refine T_i2l dX7_shape_83 ?_
            exact T_end (fun h => by cases h; exact V_lret dX7_shape_84)
          · skip
            refine T_tswOut (tgt := 85) dX7_shape_38 (by have hz := tsw0 (x := x3) (n := 3) (by decide) (fun j hj => by match j, hj with | 0, _ => exact hs8 | 1, _ => exact hs9 | 2, _ => exact hs10); exact hz) (by decide) ?_
            refine T_aload_n (q := 1) dX7_shape_85 rfl rfl ?_
            refine T_ldc2 dX7_shape_86 kcl_X7_41 ?_
            refine T_callVlw (As := [.long (-1000000000000000001 : Int64)]) (st := []) mv_X7_43 (by decide) dX7_shape_89 ho0 (fun b hb => mX7_refuse G l o0 ho0 (-1000000000000000001 : Int64) M b hb) rfl rfl (Nat.le_of_ble_eq_true rfl) (fun b14 => ?_)
            exact T_end (fun h => by cases h; exact V_lret dX7_shape_92)
set_option maxHeartbeats 4000000 in
set_option maxRecDepth 100000 in
theorem mX7_sheet (G : Gw) (l : Launch) (o0 : Nat) (ho0 : shp o0 = 6) (x1 : Int32) (x2 : Int32) (x3 : Int32) (M : Mem) (a : Int64 × Mem) (h : fX7_sheet o0 x1 x2 x3 M = some a) : CtP G l yX7_sheet cX7_sheet 4 (some .long) 2 45 [.ref (adr G o0), .int x1, .int x2, .int x3] M (some (.long a.1)) a.2 := by
  refine CtP.ofV (by decide) (Nat.le_of_ble_eq_true rfl) ?_
  refine (?_ : T G l RX7 cX7_sheet 4 (some .long) (rmOf 2 45) 0 0 (FinM G (some (.long a.1)) a.2) (fun x => x = a) 0 [(0, .ref (adr G o0)), (1, .int x1), (2, .int x2), (3, .int x3)] [] M (fX7_sheet o0 x1 x2 x3 M)) a h rfl
  clear h
  unfold fX7_sheet
  refine T_iload_n (q := 1) dX7_sheet_0 rfl rfl ?_
  refine T_callSi (As := [.int x1]) (st := []) ms_X7_239 (by decide) dX7_sheet_1 (fun b hb => mX7_isSheet G l x1 M b hb) rfl rfl (Nat.le_of_ble_eq_true rfl) (fun b1 => ?_)
  refine T_if_eq (tgt := 29) dX7_sheet_4 (by decide) (fun hc2 => ?_) (fun hc2 => ?_)
  · refine T_aload_n (q := 0) dX7_sheet_29 rfl rfl ?_
    refine T_ldc2 dX7_sheet_30 kcl_X7_41 ?_
    refine T_callVlw (As := [.long (-1000000000000000001 : Int64)]) (st := []) mv_X7_43 (by decide) dX7_sheet_33 ho0 (fun b hb => mX7_refuse G l o0 ho0 (-1000000000000000001 : Int64) M b hb) rfl rfl (Nat.le_of_ble_eq_true rfl) (fun b3 => ?_)
    exact T_end (fun h => by cases h; exact V_lret dX7_sheet_36)
  · refine T_iload_n (q := 2) dX7_sheet_7 rfl rfl ?_
    refine T_if_eq (tgt := 37) dX7_sheet_8 (by decide) (fun hc4 => ?_) (fun hc4 => ?_)
    · refine T_iload_n (q := 3) dX7_sheet_37 rfl rfl ?_
      refine T_if_ge (tgt := 49) dX7_sheet_38 (by decide) (fun hc5 => ?_) (fun hc5 => ?_)
      · refine T_iload_n (q := 3) dX7_sheet_49 rfl rfl ?_
        refine T_bipush (v := 36) dX7_sheet_50 (by decide) ?_
        refine T_icmp_le (tgt := 63) dX7_sheet_52 (by decide) (fun hc6 => ?_) (fun hc6 => ?_)
        · refine T_aload_n (q := 0) dX7_sheet_63 rfl rfl ?_
          refine T_getR cf6 fr_X7_31 dX7_sheet_64 ho0 rfl ?_
          refine T_iload_n (q := 1) dX7_sheet_67 rfl rfl ?_
          refine T_aald dX7_sheet_68 ⟨by have := (sf_6_3 ho0); omega, by have := (sf_6_3 ho0); omega⟩ (fun hi7 => ?_)
          refine T_iload_n (q := 2) dX7_sheet_69 rfl rfl ?_
          refine T_iload_n (q := 3) dX7_sheet_70 rfl rfl ?_
          refine T_callViw (As := [.int x2, .int x3]) (st := []) mv_X7_242 (by decide) dX7_sheet_71 (sa_15 (sf_6_3 ho0) hi7) (fun b hb => mX5_renew G l (ra (rf o0 3) x1.toNatClampNeg) (sa_15 (sf_6_3 ho0) hi7) x2 x3 M b hb) rfl rfl (Nat.le_of_ble_eq_true rfl) (fun b8 => ?_)
          refine T_i2l dX7_sheet_74 ?_
          exact T_end (fun h => by cases h; exact V_lret dX7_sheet_75)
        · refine T_aload_n (q := 0) dX7_sheet_55 rfl rfl ?_
          refine T_ldc2 dX7_sheet_56 kcl_X7_41 ?_
          refine T_callVlw (As := [.long (-1000000000000000001 : Int64)]) (st := []) mv_X7_43 (by decide) dX7_sheet_59 ho0 (fun b hb => mX7_refuse G l o0 ho0 (-1000000000000000001 : Int64) M b hb) rfl rfl (Nat.le_of_ble_eq_true rfl) (fun b9 => ?_)
          exact T_end (fun h => by cases h; exact V_lret dX7_sheet_62)
      · refine T_aload_n (q := 0) dX7_sheet_41 rfl rfl ?_
        refine T_ldc2 dX7_sheet_42 kcl_X7_173 ?_
        refine T_callVlw (As := [.long (-1000000000000000003 : Int64)]) (st := []) mv_X7_43 (by decide) dX7_sheet_45 ho0 (fun b hb => mX7_refuse G l o0 ho0 (-1000000000000000003 : Int64) M b hb) rfl rfl (Nat.le_of_ble_eq_true rfl) (fun b10 => ?_)
        exact T_end (fun h => by cases h; exact V_lret dX7_sheet_48)
    · refine T_iload_n (q := 2) dX7_sheet_11 rfl rfl ?_
      refine T_bipush (v := 8) dX7_sheet_12 (by decide) ?_
      refine T_icmp_eq (tgt := 37) dX7_sheet_14 (by decide) (fun hc11 => ?_) (fun hc11 => ?_)
      · refine T_iload_n (q := 3) dX7_sheet_37 rfl rfl ?_
        refine T_if_ge (tgt := 49) dX7_sheet_38 (by decide) (fun hc12 => ?_) (fun hc12 => ?_)
        · refine T_iload_n (q := 3) dX7_sheet_49 rfl rfl ?_
          refine T_bipush (v := 36) dX7_sheet_50 (by decide) ?_
          refine T_icmp_le (tgt := 63) dX7_sheet_52 (by decide) (fun hc13 => ?_) (fun hc13 => ?_)
          · refine T_aload_n (q := 0) dX7_sheet_63 rfl rfl ?_
            refine T_getR cf6 fr_X7_31 dX7_sheet_64 ho0 rfl ?_
            refine T_iload_n (q := 1) dX7_sheet_67 rfl rfl ?_
            refine T_aald dX7_sheet_68 ⟨by have := (sf_6_3 ho0); omega, by have := (sf_6_3 ho0); omega⟩ (fun hi14 => ?_)
            refine T_iload_n (q := 2) dX7_sheet_69 rfl rfl ?_
            refine T_iload_n (q := 3) dX7_sheet_70 rfl rfl ?_
            refine T_callViw (As := [.int x2, .int x3]) (st := []) mv_X7_242 (by decide) dX7_sheet_71 (sa_15 (sf_6_3 ho0) hi14) (fun b hb => mX5_renew G l (ra (rf o0 3) x1.toNatClampNeg) (sa_15 (sf_6_3 ho0) hi14) x2 x3 M b hb) rfl rfl (Nat.le_of_ble_eq_true rfl) (fun b15 => ?_)
            refine T_i2l dX7_sheet_74 ?_
            exact T_end (fun h => by cases h; exact V_lret dX7_sheet_75)
          · refine T_aload_n (q := 0) dX7_sheet_55 rfl rfl ?_
            refine T_ldc2 dX7_sheet_56 kcl_X7_41 ?_
            refine T_callVlw (As := [.long (-1000000000000000001 : Int64)]) (st := []) mv_X7_43 (by decide) dX7_sheet_59 ho0 (fun b hb => mX7_refuse G l o0 ho0 (-1000000000000000001 : Int64) M b hb) rfl rfl (Nat.le_of_ble_eq_true rfl) (fun b16 => ?_)
            exact T_end (fun h => by cases h; exact V_lret dX7_sheet_62)
        · refine T_aload_n (q := 0) dX7_sheet_41 rfl rfl ?_
          refine T_ldc2 dX7_sheet_42 kcl_X7_173 ?_
          refine T_callVlw (As := [.long (-1000000000000000003 : Int64)]) (st := []) mv_X7_43 (by decide) dX7_sheet_45 ho0 (fun b hb => mX7_refuse G l o0 ho0 (-1000000000000000003 : Int64) M b hb) rfl rfl (Nat.le_of_ble_eq_true rfl) (fun b17 => ?_)
          exact T_end (fun h => by cases h; exact V_lret dX7_sheet_48)
      · refine T_iload_n (q := 2) dX7_sheet_17 rfl rfl ?_
        refine T_bipush (v := 16) dX7_sheet_18 (by decide) ?_
        refine T_icmp_eq (tgt := 37) dX7_sheet_20 (by decide) (fun hc18 => ?_) (fun hc18 => ?_)
        · refine T_iload_n (q := 3) dX7_sheet_37 rfl rfl ?_
          refine T_if_ge (tgt := 49) dX7_sheet_38 (by decide) (fun hc19 => ?_) (fun hc19 => ?_)
          · refine T_iload_n (q := 3) dX7_sheet_49 rfl rfl ?_
            refine T_bipush (v := 36) dX7_sheet_50 (by decide) ?_
            refine T_icmp_le (tgt := 63) dX7_sheet_52 (by decide) (fun hc20 => ?_) (fun hc20 => ?_)
            · refine T_aload_n (q := 0) dX7_sheet_63 rfl rfl ?_
              refine T_getR cf6 fr_X7_31 dX7_sheet_64 ho0 rfl ?_
              refine T_iload_n (q := 1) dX7_sheet_67 rfl rfl ?_
              refine T_aald dX7_sheet_68 ⟨by have := (sf_6_3 ho0); omega, by have := (sf_6_3 ho0); omega⟩ (fun hi21 => ?_)
              refine T_iload_n (q := 2) dX7_sheet_69 rfl rfl ?_
              refine T_iload_n (q := 3) dX7_sheet_70 rfl rfl ?_
              refine T_callViw (As := [.int x2, .int x3]) (st := []) mv_X7_242 (by decide) dX7_sheet_71 (sa_15 (sf_6_3 ho0) hi21) (fun b hb => mX5_renew G l (ra (rf o0 3) x1.toNatClampNeg) (sa_15 (sf_6_3 ho0) hi21) x2 x3 M b hb) rfl rfl (Nat.le_of_ble_eq_true rfl) (fun b22 => ?_)
              refine T_i2l dX7_sheet_74 ?_
              exact T_end (fun h => by cases h; exact V_lret dX7_sheet_75)
            · refine T_aload_n (q := 0) dX7_sheet_55 rfl rfl ?_
              refine T_ldc2 dX7_sheet_56 kcl_X7_41 ?_
              refine T_callVlw (As := [.long (-1000000000000000001 : Int64)]) (st := []) mv_X7_43 (by decide) dX7_sheet_59 ho0 (fun b hb => mX7_refuse G l o0 ho0 (-1000000000000000001 : Int64) M b hb) rfl rfl (Nat.le_of_ble_eq_true rfl) (fun b23 => ?_)
              exact T_end (fun h => by cases h; exact V_lret dX7_sheet_62)
          · refine T_aload_n (q := 0) dX7_sheet_41 rfl rfl ?_
            refine T_ldc2 dX7_sheet_42 kcl_X7_173 ?_
            refine T_callVlw (As := [.long (-1000000000000000003 : Int64)]) (st := []) mv_X7_43 (by decide) dX7_sheet_45 ho0 (fun b hb => mX7_refuse G l o0 ho0 (-1000000000000000003 : Int64) M b hb) rfl rfl (Nat.le_of_ble_eq_true rfl) (fun b24 => ?_)
            exact T_end (fun h => by cases h; exact V_lret dX7_sheet_48)
        · refine T_iload_n (q := 2) dX7_sheet_23 rfl rfl ?_
          refine T_bipush (v := 32) dX7_sheet_24 (by decide) ?_
          refine T_icmp_eq (tgt := 37) dX7_sheet_26 (by decide) (fun hc25 => ?_) (fun hc25 => ?_)
          · refine T_iload_n (q := 3) dX7_sheet_37 rfl rfl ?_
            refine T_if_ge (tgt := 49) dX7_sheet_38 (by decide) (fun hc26 => ?_) (fun hc26 => ?_)
            · refine T_iload_n (q := 3) dX7_sheet_49 rfl rfl ?_
              refine T_bipush (v := 36) dX7_sheet_50 (by decide) ?_
              refine T_icmp_le (tgt := 63) dX7_sheet_52 (by decide) (fun hc27 => ?_) (fun hc27 => ?_)
              · refine T_aload_n (q := 0) dX7_sheet_63 rfl rfl ?_
                refine T_getR cf6 fr_X7_31 dX7_sheet_64 ho0 rfl ?_
                refine T_iload_n (q := 1) dX7_sheet_67 rfl rfl ?_
                refine T_aald dX7_sheet_68 ⟨by have := (sf_6_3 ho0); omega, by have := (sf_6_3 ho0); omega⟩ (fun hi28 => ?_)
                refine T_iload_n (q := 2) dX7_sheet_69 rfl rfl ?_
                refine T_iload_n (q := 3) dX7_sheet_70 rfl rfl ?_
                refine T_callViw (As := [.int x2, .int x3]) (st := []) mv_X7_242 (by decide) dX7_sheet_71 (sa_15 (sf_6_3 ho0) hi28) (fun b hb => mX5_renew G l (ra (rf o0 3) x1.toNatClampNeg) (sa_15 (sf_6_3 ho0) hi28) x2 x3 M b hb) rfl rfl (Nat.le_of_ble_eq_true rfl) (fun b29 => ?_)
                refine T_i2l dX7_sheet_74 ?_
                exact T_end (fun h => by cases h; exact V_lret dX7_sheet_75)
              · refine T_aload_n (q := 0) dX7_sheet_55 rfl rfl ?_
                refine T_ldc2 dX7_sheet_56 kcl_X7_41 ?_
                refine T_callVlw (As := [.long (-1000000000000000001 : Int64)]) (st := []) mv_X7_43 (by decide) dX7_sheet_59 ho0 (fun b hb => mX7_refuse G l o0 ho0 (-1000000000000000001 : Int64) M b hb) rfl rfl (Nat.le_of_ble_eq_true rfl) (fun b30 => ?_)
                exact T_end (fun h => by cases h; exact V_lret dX7_sheet_62)
            · refine T_aload_n (q := 0) dX7_sheet_41 rfl rfl ?_
              refine T_ldc2 dX7_sheet_42 kcl_X7_173 ?_
              refine T_callVlw (As := [.long (-1000000000000000003 : Int64)]) (st := []) mv_X7_43 (by decide) dX7_sheet_45 ho0 (fun b hb => mX7_refuse G l o0 ho0 (-1000000000000000003 : Int64) M b hb) rfl rfl (Nat.le_of_ble_eq_true rfl) (fun b31 => ?_)
              exact T_end (fun h => by cases h; exact V_lret dX7_sheet_48)
          · refine T_aload_n (q := 0) dX7_sheet_29 rfl rfl ?_
            refine T_ldc2 dX7_sheet_30 kcl_X7_41 ?_
            refine T_callVlw (As := [.long (-1000000000000000001 : Int64)]) (st := []) mv_X7_43 (by decide) dX7_sheet_33 ho0 (fun b hb => mX7_refuse G l o0 ho0 (-1000000000000000001 : Int64) M b hb) rfl rfl (Nat.le_of_ble_eq_true rfl) (fun b32 => ?_)
            exact T_end (fun h => by cases h; exact V_lret dX7_sheet_36)
set_option maxHeartbeats 4000000 in
set_option maxRecDepth 100000 in
theorem mX7_swallow (G : Gw) (l : Launch) (o0 : Nat) (ho0 : shp o0 = 6) (x1 : Int32) (x2 : Int32) (x3 : Int32) (M : Mem) (a : Int64 × Mem) (h : fX7_swallow o0 x1 x2 x3 M = some a) : CtP G l yX7_swallow cX7_swallow 6 (some .long) 6 148 [.ref (adr G o0), .int x1, .int x2, .int x3] M (some (.long a.1)) a.2 := by
  refine CtP.ofV (by decide) (Nat.le_of_ble_eq_true rfl) ?_
  refine (?_ : T G l RX7 cX7_swallow 6 (some .long) (rmOf 6 148) 0 0 (FinM G (some (.long a.1)) a.2) (fun x => x = a) 0 [(0, .ref (adr G o0)), (1, .int x1), (2, .int x2), (3, .int x3)] [] M (fX7_swallow o0 x1 x2 x3 M)) a h rfl
  clear h
  unfold fX7_swallow
  refine T_aload_n (q := 0) dX7_swallow_0 rfl rfl ?_
  refine T_iload_n (q := 1) dX7_swallow_1 rfl rfl ?_
  refine T_iload_n (q := 2) dX7_swallow_2 rfl rfl ?_
  refine T_iload_n (q := 3) dX7_swallow_3 rfl rfl ?_
  refine T_callVl (As := [.int x1, .int x2, .int x3]) (st := []) mv_X7_88 (by decide) dX7_swallow_4 ho0 (fun b hb => mX7_pairFinding G l o0 ho0 x1 x2 x3 M b hb) rfl rfl (Nat.le_of_ble_eq_true rfl) (fun b1 => ?_)
  refine T_lstore (lv' := [(4, .long b1), (0, .ref (adr G o0)), (1, .int x1), (2, .int x2), (3, .int x3)]) dX7_swallow_7 (by decide) rfl ?_
  refine T_lload (q := 0) dX7_swallow_9 rfl ?_
  refine T_ldc2 dX7_swallow_11 kcl_X7_92 ?_
  refine T_lcmp dX7_swallow_14 ?_
  refine T_if_ge (tgt := 27) dX7_swallow_15 (by decide) (fun hc2 => ?_) (fun hc2 => ?_)
  · refine T_aload_n (q := 1) dX7_swallow_27 rfl rfl ?_
    refine T_aload_n (q := 1) dX7_swallow_28 rfl rfl ?_
    refine T_getR cf6 fr_X7_12 dX7_swallow_29 ho0 rfl ?_
    refine T_iconst (v := 2) dX7_swallow_32 (by decide) ?_
    refine T_iload_n (q := 2) dX7_swallow_33 rfl rfl ?_
    refine T_iload_n (q := 3) dX7_swallow_34 rfl rfl ?_
    refine T_iload_n (q := 4) dX7_swallow_35 rfl rfl ?_
    refine T_lconst (v := 0) dX7_swallow_36 (by decide) ?_
    refine T_callVlw (As := [.int (2 : Int32), .int x1, .int x2, .int x3, .long (0 : Int64)]) (st := [.ref (adr G o0)]) mv_X7_81 (by decide) dX7_swallow_37 (sf_6_0 ho0) (fun b hb => mX2_tell G l (rf o0 0) (sf_6_0 ho0) (2 : Int32) x1 x2 x3 (0 : Int64) M b hb) rfl rfl (Nat.le_of_ble_eq_true rfl) (fun b3 => ?_)
    refine T_callVlw (As := [.long b3.1]) (st := []) mv_X7_85 (by decide) dX7_swallow_40 ho0 (fun b hb => mX7_counted G l o0 ho0 b3.1 b3.2 b hb) rfl rfl (Nat.le_of_ble_eq_true rfl) (fun b4 => ?_)
    exact T_end (fun h => by cases h; exact V_lret dX7_swallow_43)
  · refine T_aload_n (q := 1) dX7_swallow_18 rfl rfl ?_
    refine T_lload (q := 0) dX7_swallow_19 rfl ?_
    refine T_callVlw (As := [.long b1]) (st := []) mv_X7_43 (by decide) dX7_swallow_21 ho0 (fun b hb => mX7_refuse G l o0 ho0 b1 M b hb) rfl rfl (Nat.le_of_ble_eq_true rfl) (fun b5 => ?_)
    refine T_goto (tgt := 43) dX7_swallow_24 (by decide) ?_
    exact T_end (fun h => by cases h; exact V_lret dX7_swallow_43)
set_option maxHeartbeats 4000000 in
set_option maxRecDepth 100000 in
theorem mX7_there (G : Gw) (l : Launch) (o0 : Nat) (ho0 : shp o0 = 6) (x1 : Int32) (x2 : Int32) (M : Mem) (a : Int64 × Mem) (h : fX7_there o0 x1 x2 M = some a) : CtP G l yX7_there cX7_there 3 (some .long) 3 63 [.ref (adr G o0), .int x1, .int x2] M (some (.long a.1)) a.2 := by
  refine CtP.ofV (by decide) (Nat.le_of_ble_eq_true rfl) ?_
  refine (?_ : T G l RX7 cX7_there 3 (some .long) (rmOf 3 63) 0 0 (FinM G (some (.long a.1)) a.2) (fun x => x = a) 0 [(0, .ref (adr G o0)), (1, .int x1), (2, .int x2)] [] M (fX7_there o0 x1 x2 M)) a h rfl
  clear h
  unfold fX7_there
  refine T_aload_n (q := 0) dX7_there_0 rfl rfl ?_
  refine T_getR cf6 fr_X7_12 dX7_there_1 ho0 rfl ?_
  refine T_iload_n (q := 1) dX7_there_4 rfl rfl ?_
  refine T_callVi (As := [.int x1]) (st := []) mv_X7_57 (by decide) dX7_there_5 (sf_6_0 ho0) (fun b hb => mX2_hasUnit G l (rf o0 0) (sf_6_0 ho0) x1 M b hb) rfl rfl (Nat.le_of_ble_eq_true rfl) (fun b1 => ?_)
  refine T_if_eq (tgt := 18) dX7_there_8 (by decide) (fun hc2 => ?_) (fun hc2 => ?_)
  · refine T_aload_n (q := 0) dX7_there_18 rfl rfl ?_
    refine T_ldc2 dX7_there_19 kcl_X7_41 ?_
    refine T_callVlw (As := [.long (-1000000000000000001 : Int64)]) (st := []) mv_X7_43 (by decide) dX7_there_22 ho0 (fun b hb => mX7_refuse G l o0 ho0 (-1000000000000000001 : Int64) M b hb) rfl rfl (Nat.le_of_ble_eq_true rfl) (fun b3 => ?_)
    exact T_end (fun h => by cases h; exact V_lret dX7_there_25)
  · refine T_iload_n (q := 2) dX7_there_11 rfl rfl ?_
    refine T_callSi (As := [.int x2]) (st := []) ms_X7_69 (by decide) dX7_there_12 (fun b hb => mX7_isYear G l x2 M b hb) rfl rfl (Nat.le_of_ble_eq_true rfl) (fun b4 => ?_)
    refine T_if_ne (tgt := 26) dX7_there_15 (by decide) (fun hc5 => ?_) (fun hc5 => ?_)
    · refine T_aload_n (q := 0) dX7_there_18 rfl rfl ?_
      refine T_ldc2 dX7_there_19 kcl_X7_41 ?_
      refine T_callVlw (As := [.long (-1000000000000000001 : Int64)]) (st := []) mv_X7_43 (by decide) dX7_there_22 ho0 (fun b hb => mX7_refuse G l o0 ho0 (-1000000000000000001 : Int64) M b hb) rfl rfl (Nat.le_of_ble_eq_true rfl) (fun b6 => ?_)
      exact T_end (fun h => by cases h; exact V_lret dX7_there_25)
    · refine T_aload_n (q := 0) dX7_there_26 rfl rfl ?_
      refine T_getR cf6 fr_X7_12 dX7_there_27 ho0 rfl ?_
      refine T_iload_n (q := 1) dX7_there_30 rfl rfl ?_
      refine T_callVi (As := [.int x1]) (st := []) mv_X7_78 (by decide) dX7_there_31 (sf_6_0 ho0) (fun b hb => mX2_isHundred G l (rf o0 0) (sf_6_0 ho0) x1 M b hb) rfl rfl (Nat.le_of_ble_eq_true rfl) (fun b7 => ?_)
      refine T_if_ne (tgt := 52) dX7_there_34 (by decide) (fun hc8 => ?_) (fun hc8 => ?_)
      · refine T_aload_n (q := 0) dX7_there_37 rfl rfl ?_
        refine T_getR cf6 fr_X7_12 dX7_there_38 ho0 rfl ?_
        refine T_iload_n (q := 2) dX7_there_41 rfl rfl ?_
        refine T_callVr (As := [.int x2]) (st := []) mv_X7_145 (by decide) dX7_there_42 (sf_6_0 ho0) (fun b hb => mX2_momentAt G l (rf o0 0) (sf_6_0 ho0) x2 M b hb) rfl rfl (Nat.le_of_ble_eq_true rfl) (fun b9 => ?_)
        refine T_gd (fun hg10 => ?_)
        refine T_iload_n (q := 1) dX7_there_45 rfl rfl ?_
        refine T_callVi (As := [.int x1]) (st := []) mv_X7_154 (by decide) dX7_there_46 hg10 (fun b hb => mX4_isThere G l b9 hg10 x1 M b hb) rfl rfl (Nat.le_of_ble_eq_true rfl) (fun b11 => ?_)
        refine T_if_eq (tgt := 56) dX7_there_49 (by decide) (fun hc12 => ?_) (fun hc12 => ?_)
        · refine T_iconst (v := 0) dX7_there_56 (by decide) ?_
          refine T_callSl (As := [.int (0 : Int32)]) (st := []) ms_X7_117 (by decide) dX7_there_57 (fun b hb => mX7_oneIf G l (0 : Int32) M b hb) rfl rfl (Nat.le_of_ble_eq_true rfl) (fun b13 => ?_)
          exact T_end (fun h => by cases h; exact V_lret dX7_there_60)
        · refine T_iconst (v := 1) dX7_there_52 (by decide) ?_
          refine T_goto (tgt := 57) dX7_there_53 (by decide) ?_
          refine T_callSl (As := [.int (1 : Int32)]) (st := []) ms_X7_117 (by decide) dX7_there_57 (fun b hb => mX7_oneIf G l (1 : Int32) M b hb) rfl rfl (Nat.le_of_ble_eq_true rfl) (fun b14 => ?_)
          exact T_end (fun h => by cases h; exact V_lret dX7_there_60)
      · refine T_iconst (v := 1) dX7_there_52 (by decide) ?_
        refine T_goto (tgt := 57) dX7_there_53 (by decide) ?_
        refine T_callSl (As := [.int (1 : Int32)]) (st := []) ms_X7_117 (by decide) dX7_there_57 (fun b hb => mX7_oneIf G l (1 : Int32) M b hb) rfl rfl (Nat.le_of_ble_eq_true rfl) (fun b15 => ?_)
        exact T_end (fun h => by cases h; exact V_lret dX7_there_60)
set_option maxHeartbeats 4000000 in
set_option maxRecDepth 100000 in
theorem mX7_told (G : Gw) (l : Launch) (o0 : Nat) (ho0 : shp o0 = 6) (x1 : Int32) (M : Mem) (a : Int64 × Mem) (h : fX7_told o0 x1 M = some a) : CtP G l yX7_told cX7_told 2 (some .long) 1 22 [.ref (adr G o0), .int x1] M (some (.long a.1)) a.2 := by
  refine CtP.ofV (by decide) (Nat.le_of_ble_eq_true rfl) ?_
  refine (?_ : T G l RX7 cX7_told 2 (some .long) (rmOf 1 22) 0 0 (FinM G (some (.long a.1)) a.2) (fun x => x = a) 0 [(0, .ref (adr G o0)), (1, .int x1)] [] M (fX7_told o0 x1 M)) a h rfl
  clear h
  unfold fX7_told
  refine T_iload_n (q := 1) dX7_told_0 rfl rfl ?_
  refine T_split (fun hs1 => ?_) (fun hs1 => ?_)
  · refine T_tswIn (off := 35) (tgt := 36) dX7_told_1 (by rw [hs1]; decide) (by rw [hs1]; decide) (by rw [hs1]; rfl) (by decide) ?_
    refine T_aload_n (q := 0) dX7_told_36 rfl rfl ?_
    refine T_getR cf6 fr_X7_12 dX7_told_37 ho0 rfl ?_
    refine T_getI cf2 fr_X7_274 dX7_told_40 (sf_6_0 ho0) rfl ?_
    refine T_i2l dX7_told_43 ?_
    exact T_end (fun h => by cases h; exact V_lret dX7_told_44)
  · skip
    refine T_split (fun hs2 => ?_) (fun hs2 => ?_)
    · refine T_tswIn (off := 44) (tgt := 45) dX7_told_1 (by rw [hs2]; decide) (by rw [hs2]; decide) (by rw [hs2]; rfl) (by decide) ?_
      refine T_aload_n (q := 0) dX7_told_45 rfl rfl ?_
      refine T_getR cf6 fr_X7_12 dX7_told_46 ho0 rfl ?_
      refine T_getI cf2 fr_X7_134 dX7_told_49 (sf_6_0 ho0) rfl ?_
      refine T_i2l dX7_told_52 ?_
      exact T_end (fun h => by cases h; exact V_lret dX7_told_53)
    · skip
      refine T_split (fun hs3 => ?_) (fun hs3 => ?_)
      · refine T_tswIn (off := 53) (tgt := 54) dX7_told_1 (by rw [hs3]; decide) (by rw [hs3]; decide) (by rw [hs3]; rfl) (by decide) ?_
        refine T_aload_n (q := 0) dX7_told_54 rfl rfl ?_
        refine T_getR cf6 fr_X7_12 dX7_told_55 ho0 rfl ?_
        refine T_callVi (As := []) (st := []) mv_X7_277 (by decide) dX7_told_58 (sf_6_0 ho0) (fun b hb => mX2_voidActs G l (rf o0 0) (sf_6_0 ho0) M b hb) rfl rfl (Nat.le_of_ble_eq_true rfl) (fun b6 => ?_)
        refine T_i2l dX7_told_61 ?_
        exact T_end (fun h => by cases h; exact V_lret dX7_told_62)
      · skip
        refine T_split (fun hs4 => ?_) (fun hs4 => ?_)
        · refine T_tswIn (off := 62) (tgt := 63) dX7_told_1 (by rw [hs4]; decide) (by rw [hs4]; decide) (by rw [hs4]; rfl) (by decide) ?_
          refine T_aload_n (q := 0) dX7_told_63 rfl rfl ?_
          refine T_getR cf6 fr_X7_19 dX7_told_64 ho0 rfl ?_
          refine T_getI cf5 fr_X7_280 dX7_told_67 (sf_6_1 ho0) rfl ?_
          refine T_i2l dX7_told_70 ?_
          exact T_end (fun h => by cases h; exact V_lret dX7_told_71)
        · skip
          refine T_split (fun hs5 => ?_) (fun hs5 => ?_)
          · refine T_tswIn (off := 71) (tgt := 72) dX7_told_1 (by rw [hs5]; decide) (by rw [hs5]; decide) (by rw [hs5]; rfl) (by decide) ?_
            refine T_aload_n (q := 0) dX7_told_72 rfl rfl ?_
            refine T_getI cf6 fr_X7_281 dX7_told_73 ho0 rfl ?_
            refine T_i2l dX7_told_76 ?_
            exact T_end (fun h => by cases h; exact V_lret dX7_told_77)
          · skip
            refine T_tswOut (tgt := 78) dX7_told_1 (by have hz := tsw0 (x := x1) (n := 5) (by decide) (fun j hj => by match j, hj with | 0, _ => exact hs1 | 1, _ => exact hs2 | 2, _ => exact hs3 | 3, _ => exact hs4 | 4, _ => exact hs5); exact hz) (by decide) ?_
            refine T_aload_n (q := 0) dX7_told_78 rfl rfl ?_
            refine T_ldc2 dX7_told_79 kcl_X7_41 ?_
            refine T_callVlw (As := [.long (-1000000000000000001 : Int64)]) (st := []) mv_X7_43 (by decide) dX7_told_82 ho0 (fun b hb => mX7_refuse G l o0 ho0 (-1000000000000000001 : Int64) M b hb) rfl rfl (Nat.le_of_ble_eq_true rfl) (fun b7 => ?_)
            exact T_end (fun h => by cases h; exact V_lret dX7_told_85)
set_option maxHeartbeats 4000000 in
set_option maxRecDepth 100000 in
theorem mX7_under (G : Gw) (l : Launch) (o0 : Nat) (ho0 : shp o0 = 6) (x1 : Int32) (x2 : Int32) (M : Mem) (a : Int64 × Mem) (h : fX7_under o0 x1 x2 M = some a) : CtP G l yX7_under cX7_under 4 (some .long) 3 63 [.ref (adr G o0), .int x1, .int x2] M (some (.long a.1)) a.2 := by
  refine CtP.ofV (by decide) (Nat.le_of_ble_eq_true rfl) ?_
  refine (?_ : T G l RX7 cX7_under 4 (some .long) (rmOf 3 63) 0 0 (FinM G (some (.long a.1)) a.2) (fun x => x = a) 0 [(0, .ref (adr G o0)), (1, .int x1), (2, .int x2)] [] M (fX7_under o0 x1 x2 M)) a h rfl
  clear h
  unfold fX7_under
  refine T_aload_n (q := 0) dX7_under_0 rfl rfl ?_
  refine T_getR cf6 fr_X7_12 dX7_under_1 ho0 rfl ?_
  refine T_iload_n (q := 1) dX7_under_4 rfl rfl ?_
  refine T_callVi (As := [.int x1]) (st := []) mv_X7_57 (by decide) dX7_under_5 (sf_6_0 ho0) (fun b hb => mX2_hasUnit G l (rf o0 0) (sf_6_0 ho0) x1 M b hb) rfl rfl (Nat.le_of_ble_eq_true rfl) (fun b1 => ?_)
  refine T_if_eq (tgt := 18) dX7_under_8 (by decide) (fun hc2 => ?_) (fun hc2 => ?_)
  · refine T_aload_n (q := 0) dX7_under_18 rfl rfl ?_
    refine T_ldc2 dX7_under_19 kcl_X7_41 ?_
    refine T_callVlw (As := [.long (-1000000000000000001 : Int64)]) (st := []) mv_X7_43 (by decide) dX7_under_22 ho0 (fun b hb => mX7_refuse G l o0 ho0 (-1000000000000000001 : Int64) M b hb) rfl rfl (Nat.le_of_ble_eq_true rfl) (fun b3 => ?_)
    exact T_end (fun h => by cases h; exact V_lret dX7_under_25)
  · refine T_iload_n (q := 2) dX7_under_11 rfl rfl ?_
    refine T_callSi (As := [.int x2]) (st := []) ms_X7_69 (by decide) dX7_under_12 (fun b hb => mX7_isYear G l x2 M b hb) rfl rfl (Nat.le_of_ble_eq_true rfl) (fun b4 => ?_)
    refine T_if_ne (tgt := 26) dX7_under_15 (by decide) (fun hc5 => ?_) (fun hc5 => ?_)
    · refine T_aload_n (q := 0) dX7_under_18 rfl rfl ?_
      refine T_ldc2 dX7_under_19 kcl_X7_41 ?_
      refine T_callVlw (As := [.long (-1000000000000000001 : Int64)]) (st := []) mv_X7_43 (by decide) dX7_under_22 ho0 (fun b hb => mX7_refuse G l o0 ho0 (-1000000000000000001 : Int64) M b hb) rfl rfl (Nat.le_of_ble_eq_true rfl) (fun b6 => ?_)
      exact T_end (fun h => by cases h; exact V_lret dX7_under_25)
    · refine T_aload_n (q := 0) dX7_under_26 rfl rfl ?_
      refine T_getR cf6 fr_X7_12 dX7_under_27 ho0 rfl ?_
      refine T_iload_n (q := 1) dX7_under_30 rfl rfl ?_
      refine T_callVi (As := [.int x1]) (st := []) mv_X7_78 (by decide) dX7_under_31 (sf_6_0 ho0) (fun b hb => mX2_isHundred G l (rf o0 0) (sf_6_0 ho0) x1 M b hb) rfl rfl (Nat.le_of_ble_eq_true rfl) (fun b7 => ?_)
      refine T_if_eq (tgt := 45) dX7_under_34 (by decide) (fun hc8 => ?_) (fun hc8 => ?_)
      · refine T_aload_n (q := 0) dX7_under_45 rfl rfl ?_
        refine T_getR cf6 fr_X7_12 dX7_under_46 ho0 rfl ?_
        refine T_iload_n (q := 2) dX7_under_49 rfl rfl ?_
        refine T_callVr (As := [.int x2]) (st := []) mv_X7_145 (by decide) dX7_under_50 (sf_6_0 ho0) (fun b hb => mX2_momentAt G l (rf o0 0) (sf_6_0 ho0) x2 M b hb) rfl rfl (Nat.le_of_ble_eq_true rfl) (fun b9 => ?_)
        refine T_gd (fun hg10 => ?_)
        refine T_iload_n (q := 1) dX7_under_53 rfl rfl ?_
        refine T_callVi (As := [.int x1]) (st := []) mv_X7_167 (by decide) dX7_under_54 hg10 (fun b hb => mX4_hundredOver G l b9 hg10 x1 M b hb) rfl rfl (Nat.le_of_ble_eq_true rfl) (fun b11 => ?_)
        refine T_istore_n (lv' := [(3, .int b11), (0, .ref (adr G o0)), (1, .int x1), (2, .int x2)]) dX7_under_57 rfl (by decide) rfl ?_
        refine T_iload_n (q := 0) dX7_under_58 rfl rfl ?_
        refine T_bipush (v := 10) dX7_under_59 (by decide) ?_
        refine T_icmp_ne (tgt := 74) dX7_under_61 (by decide) (fun hc12 => ?_) (fun hc12 => ?_)
        · refine T_aload_n (q := 1) dX7_under_64 rfl rfl ?_
          refine T_ldc2 dX7_under_65 kcl_X7_137 ?_
          refine T_callVlw (As := [.long (-1000000000000000006 : Int64)]) (st := []) mv_X7_43 (by decide) dX7_under_68 ho0 (fun b hb => mX7_refuse G l o0 ho0 (-1000000000000000006 : Int64) M b hb) rfl rfl (Nat.le_of_ble_eq_true rfl) (fun b13 => ?_)
          refine T_goto (tgt := 76) dX7_under_71 (by decide) ?_
          exact T_end (fun h => by cases h; exact V_lret dX7_under_76)
        · refine T_iload_n (q := 0) dX7_under_74 rfl rfl ?_
          refine T_i2l dX7_under_75 ?_
          exact T_end (fun h => by cases h; exact V_lret dX7_under_76)
      · refine T_aload_n (q := 0) dX7_under_37 rfl rfl ?_
        refine T_ldc2 dX7_under_38 kcl_X7_67 ?_
        refine T_callVlw (As := [.long (-1000000000000000004 : Int64)]) (st := []) mv_X7_43 (by decide) dX7_under_41 ho0 (fun b hb => mX7_refuse G l o0 ho0 (-1000000000000000004 : Int64) M b hb) rfl rfl (Nat.le_of_ble_eq_true rfl) (fun b14 => ?_)
        exact T_end (fun h => by cases h; exact V_lret dX7_under_44)
set_option maxHeartbeats 4000000 in
set_option maxRecDepth 100000 in
theorem mX7_unit (G : Gw) (l : Launch) (o0 : Nat) (ho0 : shp o0 = 6) (x1 : Int32) (M : Mem) (a : Int64 × Mem) (h : fX7_unit o0 x1 M = some a) : CtP G l yX7_unit cX7_unit 2 (some .long) 2 41 [.ref (adr G o0), .int x1] M (some (.long a.1)) a.2 := by
  refine CtP.ofV (by decide) (Nat.le_of_ble_eq_true rfl) ?_
  refine (?_ : T G l RX7 cX7_unit 2 (some .long) (rmOf 2 41) 0 0 (FinM G (some (.long a.1)) a.2) (fun x => x = a) 0 [(0, .ref (adr G o0)), (1, .int x1)] [] M (fX7_unit o0 x1 M)) a h rfl
  clear h
  unfold fX7_unit
  refine T_iload_n (q := 1) dX7_unit_0 rfl rfl ?_
  refine T_callSi (As := [.int x1]) (st := []) ms_X7_37 (by decide) dX7_unit_1 (fun b hb => mX7_isKind G l x1 M b hb) rfl rfl (Nat.le_of_ble_eq_true rfl) (fun b1 => ?_)
  refine T_if_ne (tgt := 15) dX7_unit_4 (by decide) (fun hc2 => ?_) (fun hc2 => ?_)
  · refine T_aload_n (q := 0) dX7_unit_7 rfl rfl ?_
    refine T_ldc2 dX7_unit_8 kcl_X7_41 ?_
    refine T_callVlw (As := [.long (-1000000000000000001 : Int64)]) (st := []) mv_X7_43 (by decide) dX7_unit_11 ho0 (fun b hb => mX7_refuse G l o0 ho0 (-1000000000000000001 : Int64) M b hb) rfl rfl (Nat.le_of_ble_eq_true rfl) (fun b3 => ?_)
    exact T_end (fun h => by cases h; exact V_lret dX7_unit_14)
  · refine T_aload_n (q := 0) dX7_unit_15 rfl rfl ?_
    refine T_getR cf6 fr_X7_12 dX7_unit_16 ho0 rfl ?_
    refine T_callVi (As := []) (st := []) mv_X7_47 (by decide) dX7_unit_19 (sf_6_0 ho0) (fun b hb => mX2_hasAllUnits G l (rf o0 0) (sf_6_0 ho0) M b hb) rfl rfl (Nat.le_of_ble_eq_true rfl) (fun b4 => ?_)
    refine T_if_eq (tgt := 33) dX7_unit_22 (by decide) (fun hc5 => ?_) (fun hc5 => ?_)
    · refine T_aload_n (q := 0) dX7_unit_33 rfl rfl ?_
      refine T_getR cf6 fr_X7_12 dX7_unit_34 ho0 rfl ?_
      refine T_iload_n (q := 1) dX7_unit_37 rfl rfl ?_
      refine T_callViw (As := [.int x1]) (st := []) mv_X7_53 (by decide) dX7_unit_38 (sf_6_0 ho0) (fun b hb => mX2_addUnit G l (rf o0 0) (sf_6_0 ho0) x1 M b hb) rfl rfl (Nat.le_of_ble_eq_true rfl) (fun b6 => ?_)
      refine T_i2l dX7_unit_41 ?_
      exact T_end (fun h => by cases h; exact V_lret dX7_unit_42)
    · refine T_aload_n (q := 0) dX7_unit_25 rfl rfl ?_
      refine T_ldc2 dX7_unit_26 kcl_X7_51 ?_
      refine T_callVlw (As := [.long (-1000000000000000005 : Int64)]) (st := []) mv_X7_43 (by decide) dX7_unit_29 ho0 (fun b hb => mX7_refuse G l o0 ho0 (-1000000000000000005 : Int64) M b hb) rfl rfl (Nat.le_of_ble_eq_true rfl) (fun b7 => ?_)
      exact T_end (fun h => by cases h; exact V_lret dX7_unit_32)
set_option maxHeartbeats 4000000 in
set_option maxRecDepth 100000 in
theorem mX7_untell (G : Gw) (l : Launch) (o0 : Nat) (ho0 : shp o0 = 6) (M : Mem) (a : Int64 × Mem) (h : fX7_untell o0 M = some a) : CtP G l yX7_untell cX7_untell 1 (some .long) 6 140 [.ref (adr G o0)] M (some (.long a.1)) a.2 := by
  refine CtP.ofV (by decide) (Nat.le_of_ble_eq_true rfl) ?_
  refine (?_ : T G l RX7 cX7_untell 1 (some .long) (rmOf 6 140) 0 0 (FinM G (some (.long a.1)) a.2) (fun x => x = a) 0 [(0, .ref (adr G o0))] [] M (fX7_untell o0 M)) a h rfl
  clear h
  unfold fX7_untell
  refine T_aload_n (q := 0) dX7_untell_0 rfl rfl ?_
  refine T_getR cf6 fr_X7_12 dX7_untell_1 ho0 rfl ?_
  refine T_getI cf2 fr_X7_134 dX7_untell_4 (sf_6_0 ho0) rfl ?_
  refine T_if_ne (tgt := 18) dX7_untell_7 (by decide) (fun hc1 => ?_) (fun hc1 => ?_)
  · refine T_aload_n (q := 0) dX7_untell_10 rfl rfl ?_
    refine T_ldc2 dX7_untell_11 kcl_X7_137 ?_
    refine T_callVlw (As := [.long (-1000000000000000006 : Int64)]) (st := []) mv_X7_43 (by decide) dX7_untell_14 ho0 (fun b hb => mX7_refuse G l o0 ho0 (-1000000000000000006 : Int64) M b hb) rfl rfl (Nat.le_of_ble_eq_true rfl) (fun b2 => ?_)
    exact T_end (fun h => by cases h; exact V_lret dX7_untell_17)
  · refine T_aload_n (q := 0) dX7_untell_18 rfl rfl ?_
    refine T_getR cf6 fr_X7_12 dX7_untell_19 ho0 rfl ?_
    refine T_callVvw (As := []) (st := []) mv_X7_139 (by decide) dX7_untell_22 (sf_6_0 ho0) (fun b hb => mX2_dropLatest G l (rf o0 0) (sf_6_0 ho0) M b hb) rfl rfl (Nat.le_of_ble_eq_true rfl) (fun b3 => ?_)
    refine T_aload_n (q := 0) dX7_untell_25 rfl rfl ?_
    refine T_getR cf6 fr_X7_12 dX7_untell_26 ho0 rfl ?_
    refine T_getI cf2 fr_X7_134 dX7_untell_29 (sf_6_0 ho0) rfl ?_
    refine T_i2l dX7_untell_32 ?_
    exact T_end (fun h => by cases h; exact V_lret dX7_untell_33)
set_option maxHeartbeats 4000000 in
set_option maxRecDepth 100000 in
theorem mX7_who (G : Gw) (l : Launch) (o0 : Nat) (ho0 : shp o0 = 6) (x1 : Int32) (x2 : Int32) (M : Mem) (a : Int64 × Mem) (h : fX7_who o0 x1 x2 M = some a) : CtP G l yX7_who cX7_who 3 (some .long) 2 44 [.ref (adr G o0), .int x1, .int x2] M (some (.long a.1)) a.2 := by
  refine CtP.ofV (by decide) (Nat.le_of_ble_eq_true rfl) ?_
  refine (?_ : T G l RX7 cX7_who 3 (some .long) (rmOf 2 44) 0 0 (FinM G (some (.long a.1)) a.2) (fun x => x = a) 0 [(0, .ref (adr G o0)), (1, .int x1), (2, .int x2)] [] M (fX7_who o0 x1 x2 M)) a h rfl
  clear h
  unfold fX7_who
  refine T_iload_n (q := 1) dX7_who_0 rfl rfl ?_
  refine T_callSi (As := [.int x1]) (st := []) ms_X7_142 (by decide) dX7_who_1 (fun b hb => mX3_isCell G l x1 M b hb) rfl rfl (Nat.le_of_ble_eq_true rfl) (fun b1 => ?_)
  refine T_if_eq (tgt := 14) dX7_who_4 (by decide) (fun hc2 => ?_) (fun hc2 => ?_)
  · refine T_aload_n (q := 0) dX7_who_14 rfl rfl ?_
    refine T_ldc2 dX7_who_15 kcl_X7_41 ?_
    refine T_callVlw (As := [.long (-1000000000000000001 : Int64)]) (st := []) mv_X7_43 (by decide) dX7_who_18 ho0 (fun b hb => mX7_refuse G l o0 ho0 (-1000000000000000001 : Int64) M b hb) rfl rfl (Nat.le_of_ble_eq_true rfl) (fun b3 => ?_)
    exact T_end (fun h => by cases h; exact V_lret dX7_who_21)
  · refine T_iload_n (q := 2) dX7_who_7 rfl rfl ?_
    refine T_callSi (As := [.int x2]) (st := []) ms_X7_69 (by decide) dX7_who_8 (fun b hb => mX7_isYear G l x2 M b hb) rfl rfl (Nat.le_of_ble_eq_true rfl) (fun b4 => ?_)
    refine T_if_ne (tgt := 22) dX7_who_11 (by decide) (fun hc5 => ?_) (fun hc5 => ?_)
    · refine T_aload_n (q := 0) dX7_who_14 rfl rfl ?_
      refine T_ldc2 dX7_who_15 kcl_X7_41 ?_
      refine T_callVlw (As := [.long (-1000000000000000001 : Int64)]) (st := []) mv_X7_43 (by decide) dX7_who_18 ho0 (fun b hb => mX7_refuse G l o0 ho0 (-1000000000000000001 : Int64) M b hb) rfl rfl (Nat.le_of_ble_eq_true rfl) (fun b6 => ?_)
      exact T_end (fun h => by cases h; exact V_lret dX7_who_21)
    · refine T_aload_n (q := 0) dX7_who_22 rfl rfl ?_
      refine T_getR cf6 fr_X7_12 dX7_who_23 ho0 rfl ?_
      refine T_iload_n (q := 2) dX7_who_26 rfl rfl ?_
      refine T_callVr (As := [.int x2]) (st := []) mv_X7_145 (by decide) dX7_who_27 (sf_6_0 ho0) (fun b hb => mX2_momentAt G l (rf o0 0) (sf_6_0 ho0) x2 M b hb) rfl rfl (Nat.le_of_ble_eq_true rfl) (fun b7 => ?_)
      refine T_gd (fun hg8 => ?_)
      refine T_iload_n (q := 1) dX7_who_30 rfl rfl ?_
      refine T_callVi (As := [.int x1]) (st := []) mv_X7_149 (by decide) dX7_who_31 hg8 (fun b hb => mX4_holderOf G l b7 hg8 x1 M b hb) rfl rfl (Nat.le_of_ble_eq_true rfl) (fun b9 => ?_)
      refine T_i2l dX7_who_34 ?_
      exact T_end (fun h => by cases h; exact V_lret dX7_who_35)
