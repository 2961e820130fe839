set_option maxHeartbeats 4000000 in
set_option maxRecDepth 100000 in
theorem i_fill (g : Gz) (l : Launch) (o n N : Nat) (v : Int32) (h : Nat → va_E) (f : Nat → Int32) (ho : o < n) (he : h o = .inl (g.2.1 0, N, .inl f)) (hN : N < 1000000) : CtI g l yJ7_fill_53178 cJ7_fill_53178 4 0 0 0 0 [.ref (g.2.2 + o), .int v] n h (va_up h o (.inl (g.2.1 0, N, .inl (fun k => if k < N then v else f k)))) := by
  refine CtI.ofV (by decide) (Nat.le_of_ble_eq_true rfl) ?_
  have loop : ∀ (m i : Nat), i ≤ N → N < i + m → V0 g l yJ7_fill_53178.name yJ7_fill_53178.cls cJ7_fill_53178 4 none (rmI 0 0 0 0) (FinI g (n + 0) (va_up h o (.inl (g.2.1 0, N, .inl (fun k => if k < N then v else f k)))) 0 0) 5 [(3, .int (nI N)), (2, .int (nI i)), (0, .ref (g.2.2 + o)), (1, .int v)] [] n (va_up h o (.inl (g.2.1 0, N, .inl (fun k => if k < i then v else f k)))) 0 0 := by
    intro m
    induction m with
    | zero => intro i h1 h2; omega
    | succ m ih =>
      intro i hi hm
      refine U_iload_n (q := 1) dJ7_fill_53178_5 rfl rfl ?_
      refine U_iload_n (q := 0) dJ7_fill_53178_6 rfl rfl ?_
      refine U_icmp_ge (tgt := 20) dJ7_fill_53178_7 (by decide) (fun hc => ?_) (fun hc => ?_)
      · have hNi : N ≤ i := (nI_leI (by omega) (by omega)).mp hc
        have hiN : i = N := by omega
        subst hiN
        exact U_vret rfl (fun k _ => rfl) dJ7_fill_53178_20
      · have hlt : i < N := Nat.lt_of_not_le (fun q => hc ((nI_leI (by omega) (by omega)).mpr q))
        refine U_aload_n (q := 2) dJ7_fill_53178_10 rfl rfl ?_
        refine U_iload_n (q := 1) dJ7_fill_53178_11 rfl rfl ?_
        refine U_iload_n (q := 3) dJ7_fill_53178_12 rfl rfl ?_
        refine U_iast (o := o) ho ups (vp_in_nI hlt (by omega)) dJ7_fill_53178_13 ?_
        refine U_iinc (q := 1) (y := nI (i + 1)) (lv' := [(2, .int (nI (i + 1))), (3, .int (nI N)), (0, .ref (g.2.2 + o)), (1, .int v)]) dJ7_fill_53178_14 rfl (nI_1 i) (by decide) rfl ?_
        refine U_goto (tgt := 5) dJ7_fill_53178_17 (by decide) ?_
        refine U_sub [1, 0, 2, 3] rfl ?_
        refine U_ext (h' := va_up h o (.inl (g.2.1 0, N, .inl (fun k => if k < i + 1 then v else f k)))) (fun k _ => ?_) (ih (i + 1) (by omega) (by omega))
        by_cases hk : k = o
        · subst hk
          simp only [va_up, if_true, nI_clamp (show i < 2 ^ 31 by omega)]
          congr 3
          congr 1
          funext q
          simp only [upd]
          rcases Nat.lt_trichotomy q i with z | z | z
          · rw [if_neg (by omega), if_pos z, if_pos (by omega)]
          · rw [if_pos z, if_pos (by omega)]
          · rw [if_neg (by omega), if_neg (by omega), if_neg (by omega)]
        · simp [va_up, hk]
  refine U_iconst (v := 0) dJ7_fill_53178_0 (by decide) ?_
  refine U_istore_n (lv' := [(2, .int 0), (0, .ref (g.2.2 + o)), (1, .int v)]) dJ7_fill_53178_1 rfl (by decide) rfl ?_
  refine U_aload_n (q := 1) dJ7_fill_53178_2 rfl rfl ?_
  refine U_alen (o := o) (N := N) ho he dJ7_fill_53178_3 ?_
  refine U_istore_n (lv' := [(3, .int (nI N)), (2, .int 0), (0, .ref (g.2.2 + o)), (1, .int v)]) dJ7_fill_53178_4 rfl (by decide) rfl ?_
  refine U_ext (h' := va_up h o (.inl (g.2.1 0, N, .inl (fun k => if k < 0 then v else f k)))) (fun k _ => ?_) (loop (N + 1) 0 (by omega) (by omega))
  by_cases hk : k = o
  · subst hk; simp [va_up, he]
  · simp [va_up, hk]
set_option maxHeartbeats 4000000 in
set_option maxRecDepth 100000 in
theorem i_X0 (g : Gz) (l : Launch) (a n : Nat) (h : Nat → va_E) : CtI g l yX0_init cX0_init 1 1 12 0 0 [.ref a] n h h := by
  refine CtI.ofV (by decide) (Nat.le_of_ble_eq_true rfl) ?_
  refine U_aload_n (q := 0) dX0_init_0 rfl rfl ?_
  refine U_obj oi_X0 ⟨by decide, by decide⟩ dX0_init_1 ?_
  exact U_vret rfl (fun _ _ => rfl) dX0_init_4
set_option maxHeartbeats 4000000 in
set_option maxRecDepth 100000 in
theorem i_X1 (g : Gz) (l : Launch) (j n : Nat) (h : Nat → va_E) (hjn : j < n) (hj : h j = .inr (1, [.null, .int 0])) : CtI g l yX1_init cX1_init 1 1 12 1 11 [.ref (g.2.2 + j)] n h (hL h j (.inr (1, [.ref (g.2.2 + (n + 0)), .int 1000])) n [.inl (g.2.1 1, 11, .inr (.inl (fun _ => 0)))]) := by
  refine CtI.ofV (by decide) (Nat.le_of_ble_eq_true rfl) ?_
  refine U_ext (hL_nil hj) ?_
  refine U_aload_n (q := 0) dX1_init_0 rfl rfl ?_
  refine U_obj oi_X1 ⟨by decide, by decide⟩ dX1_init_1 ?_
  refine U_aload_n (q := 0) dX1_init_4 rfl rfl ?_
  refine U_bipush (v := 11) dX1_init_5 (by decide) ?_
  refine U_newaL (atype := .long) (ty := .long) (n := n) (i := 0) (L := []) (N := 11) (v := 11) (a0 := (11, .inr (.inl (fun _ => 0)))) hjn rfl rfl (t := 1) rfl (ha_long 11) ac_long ⟨by decide, by decide, by decide⟩ (by decide) dX1_init_7 ?_
  refine U_putFL (n := n) (i := 1) (fs := [.null, .int 0]) (L := [.inl (g.2.1 1, 11, .inr (.inl (fun _ => 0)))]) cf1 fr_X1_9 pf_1_0 ⟨rfl, rfl⟩ rfl fl_X1_9 (by omega) (Nat.le_of_ble_eq_true rfl) dX1_init_9 ?_
  refine U_aload_n (q := 0) dX1_init_12 rfl rfl ?_
  refine U_sipush (v := 1000) dX1_init_13 (by decide) ?_
  refine U_putI (o := j) (fs := [.ref (g.2.2 + (n + 0)), .int 0]) cf1 fr_X1_15 pt_1_1 fl_X1_15 (by omega) hL_j (Nat.le_of_ble_eq_true rfl) dX1_init_16 (U_ext (fun k _ => hL_put k) ?_)
  exact U_vret rfl (fun _ _ => rfl) dX1_init_19
set_option maxHeartbeats 4000000 in
set_option maxRecDepth 100000 in
theorem i_X5 (g : Gz) (l : Launch) (j n : Nat) (h : Nat → va_E) (hjn : j < n) (hj : h j = .inr (4, [.null, .int 0, .int 0])) : CtI g l yX5_init cX5_init 1 1 12 1 36 [.ref (g.2.2 + j)] n h (hL h j (.inr (4, [.ref (g.2.2 + (n + 0)), .int 0, .int 0])) n [.inl (g.2.1 0, 36, .inl (fun _ => 0))]) := by
  refine CtI.ofV (by decide) (Nat.le_of_ble_eq_true rfl) ?_
  refine U_ext (hL_nil hj) ?_
  refine U_aload_n (q := 0) dX5_init_0 rfl rfl ?_
  refine U_obj oi_X5 ⟨by decide, by decide⟩ dX5_init_1 ?_
  refine U_aload_n (q := 0) dX5_init_4 rfl rfl ?_
  refine U_bipush (v := 36) dX5_init_5 (by decide) ?_
  refine U_newaL (atype := .int) (ty := .int) (n := n) (i := 0) (L := []) (N := 36) (v := 36) (a0 := (36, .inl (fun _ => 0))) hjn rfl rfl (t := 0) rfl (ha_int 36) ac_int ⟨by decide, by decide, by decide⟩ (by decide) dX5_init_7 ?_
  refine U_putFL (n := n) (i := 1) (fs := [.null, .int 0, .int 0]) (L := [.inl (g.2.1 0, 36, .inl (fun _ => 0))]) cf4 fr_X5_9 pf_4_0 ⟨rfl, rfl⟩ rfl fl_X5_9 (by omega) (Nat.le_of_ble_eq_true rfl) dX5_init_9 ?_
  exact U_vret rfl (fun _ _ => rfl) dX5_init_12
set_option maxHeartbeats 4000000 in
set_option maxRecDepth 100000 in
theorem i_X6 (g : Gz) (l : Launch) (j n : Nat) (h : Nat → va_E) (hjn : j < n) (hj : h j = .inr (5, [.null, .null, .null, .int 0])) : CtI g l yX6_init cX6_init 1 1 12 3 60 [.ref (g.2.2 + j)] n h (hL h j (.inr (5, [.ref (g.2.2 + (n + 0)), .ref (g.2.2 + (n + 1)), .ref (g.2.2 + (n + 2)), .int 0])) n [.inl (g.2.1 0, 20, .inl (fun _ => 0)), .inl (g.2.1 0, 20, .inl (fun _ => 0)), .inl (g.2.1 0, 20, .inl (fun _ => 0))]) := by
  refine CtI.ofV (by decide) (Nat.le_of_ble_eq_true rfl) ?_
  refine U_ext (hL_nil hj) ?_
  refine U_aload_n (q := 0) dX6_init_0 rfl rfl ?_
  refine U_obj oi_X6 ⟨by decide, by decide⟩ dX6_init_1 ?_
  refine U_aload_n (q := 0) dX6_init_4 rfl rfl ?_
  refine U_bipush (v := 20) dX6_init_5 (by decide) ?_
  refine U_newaL (atype := .int) (ty := .int) (n := n) (i := 0) (L := []) (N := 20) (v := 20) (a0 := (20, .inl (fun _ => 0))) hjn rfl rfl (t := 0) rfl (ha_int 20) ac_int ⟨by decide, by decide, by decide⟩ (by decide) dX6_init_7 ?_
  refine U_putFL (n := n) (i := 1) (fs := [.null, .null, .null, .int 0]) (L := [.inl (g.2.1 0, 20, .inl (fun _ => 0))]) cf5 fr_X6_9 pf_5_0 ⟨rfl, rfl⟩ rfl fl_X6_9 (by omega) (Nat.le_of_ble_eq_true rfl) dX6_init_9 ?_
  refine U_aload_n (q := 0) dX6_init_12 rfl rfl ?_
  refine U_bipush (v := 20) dX6_init_13 (by decide) ?_
  refine U_newaL (atype := .int) (ty := .int) (n := n) (i := 1) (L := [.inl (g.2.1 0, 20, .inl (fun _ => 0))]) (N := 20) (v := 20) (a0 := (20, .inl (fun _ => 0))) hjn rfl rfl (t := 0) rfl (ha_int 20) ac_int ⟨by decide, by decide, by decide⟩ (by decide) dX6_init_15 ?_
  refine U_putFL (n := n) (i := 2) (fs := [.ref (g.2.2 + (n + 0)), .null, .null, .int 0]) (L := [.inl (g.2.1 0, 20, .inl (fun _ => 0)), .inl (g.2.1 0, 20, .inl (fun _ => 0))]) cf5 fr_X6_15 pf_5_1 ⟨rfl, rfl⟩ rfl fl_X6_15 (by omega) (Nat.le_of_ble_eq_true rfl) dX6_init_17 ?_
  refine U_aload_n (q := 0) dX6_init_20 rfl rfl ?_
  refine U_bipush (v := 20) dX6_init_21 (by decide) ?_
  refine U_newaL (atype := .int) (ty := .int) (n := n) (i := 2) (L := [.inl (g.2.1 0, 20, .inl (fun _ => 0)), .inl (g.2.1 0, 20, .inl (fun _ => 0))]) (N := 20) (v := 20) (a0 := (20, .inl (fun _ => 0))) hjn rfl rfl (t := 0) rfl (ha_int 20) ac_int ⟨by decide, by decide, by decide⟩ (by decide) dX6_init_23 ?_
  refine U_putFL (n := n) (i := 3) (fs := [.ref (g.2.2 + (n + 0)), .ref (g.2.2 + (n + 1)), .null, .int 0]) (L := [.inl (g.2.1 0, 20, .inl (fun _ => 0)), .inl (g.2.1 0, 20, .inl (fun _ => 0)), .inl (g.2.1 0, 20, .inl (fun _ => 0))]) cf5 fr_X6_18 pf_5_2 ⟨rfl, rfl⟩ rfl fl_X6_18 (by omega) (Nat.le_of_ble_eq_true rfl) dX6_init_25 ?_
  exact U_vret rfl (fun _ _ => rfl) dX6_init_28
set_option maxHeartbeats 4000000 in
set_option maxRecDepth 100000 in
theorem i_X4 (g : Gz) (l : Launch) (j n : Nat) (h : Nat → va_E) (hjn : j < n) (hj : h j = .inr (3, [.null, .null, .int 0])) : CtI g l yX4_init cX4_init 1 1 23 2 20 [.ref (g.2.2 + j)] n h (hL h j (.inr (3, [.ref (g.2.2 + (n + 0)), .ref (g.2.2 + (n + 1)), .int 0])) n [.inl (g.2.1 1, 10, .inr (.inl (fun _ => 0))), .inl (g.2.1 0, 10, .inl (fun k => if k < 10 then 10 else 0))]) := by
  refine CtI.ofV (by decide) (Nat.le_of_ble_eq_true rfl) ?_
  refine U_ext (hL_nil hj) ?_
  refine U_aload_n (q := 0) dX4_init_0 rfl rfl ?_
  refine U_obj oi_X4 ⟨by decide, by decide⟩ dX4_init_1 ?_
  refine U_aload_n (q := 0) dX4_init_4 rfl rfl ?_
  refine U_bipush (v := 10) dX4_init_5 (by decide) ?_
  refine U_newaL (atype := .long) (ty := .long) (n := n) (i := 0) (L := []) (N := 10) (v := 10) (a0 := (10, .inr (.inl (fun _ => 0)))) hjn rfl rfl (t := 1) rfl (ha_long 10) ac_long ⟨by decide, by decide, by decide⟩ (by decide) dX4_init_7 ?_
  refine U_putFL (n := n) (i := 1) (fs := [.null, .null, .int 0]) (L := [.inl (g.2.1 1, 10, .inr (.inl (fun _ => 0)))]) cf3 fr_X4_9 pf_3_0 ⟨rfl, rfl⟩ rfl fl_X4_9 (by omega) (Nat.le_of_ble_eq_true rfl) dX4_init_9 ?_
  refine U_aload_n (q := 0) dX4_init_12 rfl rfl ?_
  refine U_bipush (v := 10) dX4_init_13 (by decide) ?_
  refine U_newaL (atype := .int) (ty := .int) (n := n) (i := 1) (L := [.inl (g.2.1 1, 10, .inr (.inl (fun _ => 0)))]) (N := 10) (v := 10) (a0 := (10, .inl (fun _ => 0))) hjn rfl rfl (t := 0) rfl (ha_int 10) ac_int ⟨by decide, by decide, by decide⟩ (by decide) dX4_init_15 ?_
  refine U_putFL (n := n) (i := 2) (fs := [.ref (g.2.2 + (n + 0)), .null, .int 0]) (L := [.inl (g.2.1 1, 10, .inr (.inl (fun _ => 0))), .inl (g.2.1 0, 10, .inl (fun _ => 0))]) cf3 fr_X4_15 pf_3_1 ⟨rfl, rfl⟩ rfl fl_X4_15 (by omega) (Nat.le_of_ble_eq_true rfl) dX4_init_17 ?_
  refine U_aload_n (q := 0) dX4_init_20 rfl rfl ?_
  refine U_getR (o := j) (fs := [.ref (g.2.2 + (n + 0)), .ref (g.2.2 + (n + 1)), .int 0]) cf3 fr_X4_15 fl_X4_15 (by omega) hL_j rfl dX4_init_21 ?_
  refine U_bipush (v := 10) dX4_init_24 (by decide) ?_
  refine U_stat (nc := 0) (ns := 0) (As := [.ref (g.2.2 + (n + 1)), .int 10]) (st := []) ms_X4_19 (by decide) dX4_init_26 rfl rfl (Nat.le_of_ble_eq_true rfl) (by omega) (i_fill g l (n + 1) (n + 2) 10 10 _ (fun _ => 0) (by omega) (hL_n hjn rfl) (by decide)) ?_
  exact U_vret rfl (fun k _ => hL_set hjn (Nat.le_of_ble_eq_true rfl) k) dX4_init_29
