theorem fl_X7_31 : ∀ q : vw_C, vwCl[6]? = some q → Cond.fieldLink RX7 31 (q.2.1 3).1 (q.2.1 3).2.1 (q.2.1 3).2.2.1 ∈ lwT := fun q hq => by cases hq; exact (inW (List.mem_of_getElem? (i := 198) (by decide +kernel)) rfl)
theorem iw_X7_36 : Cond.methodLinkNest RX7 36 yX5_init "ShireLines" ∈ nmT ∧ Cond.code yX5_init cX5_init 1 none ∈ lwT ∧ Cond.initialized yX5_init.cls ∈ lwT ∧ (yX5_init.cls ≠ "java/lang/invoke/MethodHandle" ∧ yX5_init.cls ≠ "java/lang/invoke/VarHandle" ∧ (parseMethodDescriptor yX5_init.desc).map (fun d => d.parameters.length) = some 0) ∧ yX5_init.name = "<init>" ∧ Cond.instanceMethod yX5_init ∈ lwT := ⟨(inNM (List.mem_of_getElem? (i := 178) (by decide +kernel)) rfl), (inW (List.mem_of_getElem? (i := 180) (by decide +kernel)) rfl), (inW (List.mem_of_getElem? (i := 36) (by decide +kernel)) rfl), ⟨by decide +kernel, by decide +kernel, by decide +kernel⟩, rfl, (inW (List.mem_of_getElem? (i := 179) (by decide +kernel)) rfl)⟩
theorem cw_X7_29 : Cond.classLink RX7 29 RX5 ∈ lwT ∧ Cond.instantiable RX5 3 ∈ lwT ∧ Cond.initialized RX5 ∈ lwT := ⟨(inW (List.mem_of_getElem? (i := 162) (by decide +kernel)) rfl), (inW (List.mem_of_getElem? (i := 177) (by decide +kernel)) rfl), (inW (List.mem_of_getElem? (i := 36) (by decide +kernel)) rfl)⟩
theorem fl_X7_25 : ∀ q : vw_C, vwCl[6]? = some q → Cond.fieldLink RX7 25 (q.2.1 2).1 (q.2.1 2).2.1 (q.2.1 2).2.2.1 ∈ lwT := fun q hq => by cases hq; exact (inW (List.mem_of_getElem? (i := 197) (by decide +kernel)) rfl)
theorem iw_X7_35 : Cond.methodLinkNest RX7 35 yX1_init "ShireLines" ∈ nmT ∧ Cond.code yX1_init cX1_init 1 none ∈ lwT ∧ Cond.initialized yX1_init.cls ∈ lwT ∧ (yX1_init.cls ≠ "java/lang/invoke/MethodHandle" ∧ yX1_init.cls ≠ "java/lang/invoke/VarHandle" ∧ (parseMethodDescriptor yX1_init.desc).map (fun d => d.parameters.length) = some 0) ∧ yX1_init.name = "<init>" ∧ Cond.instanceMethod yX1_init ∈ lwT := ⟨(inNM (List.mem_of_getElem? (i := 165) (by decide +kernel)) rfl), (inW (List.mem_of_getElem? (i := 167) (by decide +kernel)) rfl), (inW (List.mem_of_getElem? (i := 35) (by decide +kernel)) rfl), ⟨by decide +kernel, by decide +kernel, by decide +kernel⟩, rfl, (inW (List.mem_of_getElem? (i := 166) (by decide +kernel)) rfl)⟩
theorem cw_X7_23 : Cond.classLink RX7 23 RX1 ∈ lwT ∧ Cond.instantiable RX1 2 ∈ lwT ∧ Cond.initialized RX1 ∈ lwT := ⟨(inW (List.mem_of_getElem? (i := 160) (by decide +kernel)) rfl), (inW (List.mem_of_getElem? (i := 164) (by decide +kernel)) rfl), (inW (List.mem_of_getElem? (i := 35) (by decide +kernel)) rfl)⟩
theorem oi_X7 : OI RX7 3 := ⟨(inW (List.mem_of_getElem? (i := 47) (by decide +kernel)) rfl), (inW (List.mem_of_getElem? (i := 48) (by decide +kernel)) rfl), (inW (List.mem_of_getElem? (i := 49) (by decide +kernel)) rfl)⟩
theorem cw_X7_9 : Cond.classLink RX7 9 RX2 ∈ lwT ∧ Cond.instantiable RX2 6 ∈ lwT ∧ Cond.initialized RX2 ∈ lwT := ⟨(inW (List.mem_of_getElem? (i := 50) (by decide +kernel)) rfl), (inW (List.mem_of_getElem? (i := 51) (by decide +kernel)) rfl), (inW (List.mem_of_getElem? (i := 30) (by decide +kernel)) rfl)⟩
theorem iw_X7_11 : Cond.methodLink RX7 11 yX2_init ∈ lwT ∧ Cond.code yX2_init cX2_init 2 none ∈ lwT ∧ Cond.initialized yX2_init.cls ∈ lwT ∧ (yX2_init.cls ≠ "java/lang/invoke/MethodHandle" ∧ yX2_init.cls ≠ "java/lang/invoke/VarHandle" ∧ (parseMethodDescriptor yX2_init.desc).map (fun d => d.parameters.length) = some 0) ∧ yX2_init.name = "<init>" ∧ Cond.instanceMethod yX2_init ∈ lwT := ⟨(inW (List.mem_of_getElem? (i := 52) (by decide +kernel)) rfl), (inW (List.mem_of_getElem? (i := 54) (by decide +kernel)) rfl), (inW (List.mem_of_getElem? (i := 30) (by decide +kernel)) rfl), ⟨by decide +kernel, by decide +kernel, by decide +kernel⟩, rfl, (inW (List.mem_of_getElem? (i := 53) (by decide +kernel)) rfl)⟩
theorem fl_X7_12 : ∀ q : vw_C, vwCl[6]? = some q → Cond.fieldLink RX7 12 (q.2.1 0).1 (q.2.1 0).2.1 (q.2.1 0).2.2.1 ∈ lwT := fun q hq => by cases hq; exact (inW (List.mem_of_getElem? (i := 195) (by decide +kernel)) rfl)
theorem pf_6_0 : ∀ q : vw_C, vwCl[6]? = some q → parseFieldDescriptor (q.2.1 0).2.2.1 = some (.object "ShireLines$Chronicle") ∧ (q.2.1 0).2.2.2 = true ∧ (q.2.1 0).1 = RX7 ∧ q.1 = RX7 := fun q hq => by cases hq; exact ⟨by decide +kernel, rfl, rfl, rfl⟩
theorem cw_X7_16 : Cond.classLink RX7 16 RX6 ∈ lwT ∧ Cond.instantiable RX6 4 ∈ lwT ∧ Cond.initialized RX6 ∈ lwT := ⟨(inW (List.mem_of_getElem? (i := 140) (by decide +kernel)) rfl), (inW (List.mem_of_getElem? (i := 141) (by decide +kernel)) rfl), (inW (List.mem_of_getElem? (i := 34) (by decide +kernel)) rfl)⟩
theorem iw_X7_18 : Cond.methodLinkNest RX7 18 yX6_init "ShireLines" ∈ nmT ∧ Cond.code yX6_init cX6_init 1 none ∈ lwT ∧ Cond.initialized yX6_init.cls ∈ lwT ∧ (yX6_init.cls ≠ "java/lang/invoke/MethodHandle" ∧ yX6_init.cls ≠ "java/lang/invoke/VarHandle" ∧ (parseMethodDescriptor yX6_init.desc).map (fun d => d.parameters.length) = some 0) ∧ yX6_init.name = "<init>" ∧ Cond.instanceMethod yX6_init ∈ lwT := ⟨(inNM (List.mem_of_getElem? (i := 142) (by decide +kernel)) rfl), (inW (List.mem_of_getElem? (i := 144) (by decide +kernel)) rfl), (inW (List.mem_of_getElem? (i := 34) (by decide +kernel)) rfl), ⟨by decide +kernel, by decide +kernel, by decide +kernel⟩, rfl, (inW (List.mem_of_getElem? (i := 143) (by decide +kernel)) rfl)⟩
theorem fl_X7_19 : ∀ q : vw_C, vwCl[6]? = some q → Cond.fieldLink RX7 19 (q.2.1 1).1 (q.2.1 1).2.1 (q.2.1 1).2.2.1 ∈ lwT := fun q hq => by cases hq; exact (inW (List.mem_of_getElem? (i := 196) (by decide +kernel)) rfl)
theorem pf_6_1 : ∀ q : vw_C, vwCl[6]? = some q → parseFieldDescriptor (q.2.1 1).2.2.1 = some (.object "ShireLines$Tally") ∧ (q.2.1 1).2.2.2 = true ∧ (q.2.1 1).1 = RX7 ∧ q.1 = RX7 := fun q hq => by cases hq; exact ⟨by decide +kernel, rfl, rfl, rfl⟩
theorem pf_6_2 : ∀ q : vw_C, vwCl[6]? = some q → parseFieldDescriptor (q.2.1 2).2.2.1 = some (.array (.object "ShireLines$Chart")) ∧ (q.2.1 2).2.2.2 = true ∧ (q.2.1 2).1 = RX7 ∧ q.1 = RX7 := fun q hq => by cases hq; exact ⟨by decide +kernel, rfl, rfl, rfl⟩
theorem pf_6_3 : ∀ q : vw_C, vwCl[6]? = some q → parseFieldDescriptor (q.2.1 3).2.2.1 = some (.array (.object "ShireLines$Sheet")) ∧ (q.2.1 3).2.2.2 = true ∧ (q.2.1 3).1 = RX7 ∧ q.1 = RX7 := fun q hq => by cases hq; exact ⟨by decide +kernel, rfl, rfl, rfl⟩
set_option maxHeartbeats 4000000 in
set_option maxRecDepth 100000 in
theorem i_X7_tail (g : Gz) (l : Launch) (j n : Nat) (h : Nat → va_E) (hjn : j < n) (B : List va_E) (hB : B.length = 132) : V0 g l yX7_init.name yX7_init.cls cX7_init 2 none (rmI 3 64 150 1340) (FinI g (n + 150) (hL h j (.inr (6, [.ref (g.2.2 + (n + 0)), .ref (g.2.2 + (n + 128)), .ref (g.2.2 + (n + 132)), .ref (g.2.2 + (n + 133)), .int 0])) n (B ++ ([rfs g 5 4 4 (n + 134) 2, rfs g 6 4 4 (n + 142) 2] ++ (lot (chs g (n + 134)) 4 ++ lot (shs g (n + 142)) 4)))) 150 1340) 42 [(0, .ref (g.2.2 + j))] [] (n + 134) (hL h j (.inr (6, [.ref (g.2.2 + (n + 0)), .ref (g.2.2 + (n + 128)), .ref (g.2.2 + (n + 132)), .ref (g.2.2 + (n + 133)), .int 0])) n (B ++ [rfs g 5 4 0 (n + 134) 2, rfs g 6 4 0 (n + 142) 2])) 134 1132 := by
  have lp2 : ∀ (m i : Nat), i ≤ 4 → 4 < i + m → V0 g l yX7_init.name yX7_init.cls cX7_init 2 none (rmI 3 64 150 1340) (FinI g (n + 150) (hL h j (.inr (6, [.ref (g.2.2 + (n + 0)), .ref (g.2.2 + (n + 128)), .ref (g.2.2 + (n + 132)), .ref (g.2.2 + (n + 133)), .int 0])) n (B ++ ([rfs g 5 4 4 (n + 134) 2, rfs g 6 4 4 (n + 142) 2] ++ (lot (chs g (n + 134)) 4 ++ lot (shs g (n + 142)) 4)))) 150 1340) 70 [(1, .int (nI i)), (0, .ref (g.2.2 + j))] [] (n + (142 + 2 * i)) (hL h j (.inr (6, [.ref (g.2.2 + (n + 0)), .ref (g.2.2 + (n + 128)), .ref (g.2.2 + (n + 132)), .ref (g.2.2 + (n + 133)), .int 0])) n (B ++ ([rfs g 5 4 4 (n + 134) 2, rfs g 6 4 i (n + 142) 2] ++ (lot (chs g (n + 134)) 4 ++ lot (shs g (n + 142)) i)))) (142 + 2 * i) (1184 + 39 * i) := by
    intro m
    induction m with
    | zero => intro i h1 h2; omega
    | succ m ih =>
      intro i hi hm
      have hlen : (B ++ ([rfs g 5 4 4 (n + 134) 2, rfs g 6 4 i (n + 142) 2] ++ (lot (chs g (n + 134)) 4 ++ lot (shs g (n + 142)) i))).length = (142 + 2 * i) := by simp [lot_len (shs g (n + 142)) 2 (fun _ => rfl), lot_len (acs g n) 1 (fun _ => rfl), lot_len (chs g (n + 134)) 2 (fun _ => rfl), hB]; try omega
      refine U_iload_n (q := 0) dX7_init_70 rfl rfl ?_
      refine U_iconst (v := 4) dX7_init_71 (by decide) ?_
      refine U_icmp_ge (tgt := 94) dX7_init_72 (by decide) (fun hc => ?_) (fun hc => ?_)
      · have hNi : 4 ≤ i := (nI_leI (a := 4) (b := i) (by omega) (by omega)).mp hc
        have hiN : i = 4 := by omega
        subst hiN
        exact U_vret (by omega) (fun _ _ => rfl) dX7_init_94
      · have hlt : i < 4 := Nat.lt_of_not_le (fun q => hc ((nI_leI (a := 4) (b := i) (by omega) (by omega)).mpr q))
        refine U_aload_n (q := 1) dX7_init_75 rfl rfl ?_
        refine U_getR (o := j) (fs := [.ref (g.2.2 + (n + 0)), .ref (g.2.2 + (n + 128)), .ref (g.2.2 + (n + 132)), .ref (g.2.2 + (n + 133)), .int 0]) cf6 fr_X7_31 fl_X7_31 (by omega) hL_j rfl dX7_init_76 ?_
        refine U_iload_n (q := 0) dX7_init_79 rfl rfl ?_
        refine U_newL (n := n) (i := (142 + 2 * i)) (fs := [.null, .int 0, .int 0]) (ci := 4) hjn hlen tyX5 tyX5_ok (fun j hj => by match j, hj with | 0, _ => rfl | 1, _ => rfl | 2, _ => rfl) rfl (cf4 _ rfl).1 cw_X7_29 ⟨by show _ ≤ (rmI _ _ _ _).cells; simp only [rmI]; omega, by show _ ≤ (rmI _ _ _ _).slots; simp only [rmI]; omega⟩ dX7_init_80 ?_
        refine U_dup dX7_init_83 rfl ?_
        refine U_initN (nc := 1) (ns := 36) (fr := 1) (lo := 12) iw_X7_36 ⟨by decide, by show _ ≤ (rmI _ _ _ _).cells; simp only [rmI]; omega, by show _ ≤ (rmI _ _ _ _).slots; simp only [rmI]; omega⟩ dX7_init_84 (Nat.le_of_ble_eq_true rfl) (by omega) (i_X5 g l (n + (142 + 2 * i)) (n + ((142 + 2 * i) + 1)) _ (by omega) (hL_n hjn (by rw [List.getElem?_append_right (by rw [hlen]; exact Nat.le_refl _), hlen, Nat.sub_self]; rfl))) ?_
        have hz : (.inr (4, [.ref (g.2.2 + (n + ((142 + 2 * i) + 1) + 0)), .int 0, .int 0]) : va_E) :: [.inl (g.2.1 0, 36, .inl (fun _ => 0))] = shs g (n + 142) i := by
          rw [show (n + ((142 + 2 * i) + 1) + 0) = (n + 142 + 2 * i + 1) by omega]
          rfl
        refine U_ext (h' := (hL h j (.inr (6, [.ref (g.2.2 + (n + 0)), .ref (g.2.2 + (n + 128)), .ref (g.2.2 + (n + 132)), .ref (g.2.2 + (n + 133)), .int 0])) n (B ++ ([rfs g 5 4 4 (n + 134) 2, rfs g 6 4 i (n + 142) 2] ++ (lot (chs g (n + 134)) 4 ++ lot (shs g (n + 142)) i)) ++ shs g (n + 142) i))) (fun k _ => (hL_hL hjn hlen k).trans (by rw [hz])) ?_
        refine U_aast (o := n + 133) (v := n + (142 + 2 * i)) (ci := 4) (t := 6) (N := 4) rfl rfl (by omega) (hL_n hjn (by rw [List.getElem?_append_left (by rw [hlen]; omega), List.getElem?_append_right (by omega), hB]; rfl)) (by omega) (hL_n hjn (by rw [List.getElem?_append_right (by rw [hlen]; exact Nat.le_refl _), hlen, Nat.sub_self]; rfl)) (vp_in_nI hlt (by omega)) dX7_init_87 ?_
        refine U_iinc (q := 0) (y := nI (i + 1)) (lv' := [(1, .int (nI (i + 1))), (0, .ref (g.2.2 + j))]) dX7_init_88 rfl (nI_1 i) (by decide) rfl ?_
        refine U_goto (tgt := 70) dX7_init_91 (by decide) ?_
        have hgo := ih (i + 1) (by omega) (by omega)
        rw [lot_s (shs g (n + 142)) i] at hgo
        refine V0_cast (by omega) (by omega) (by omega) (U_ext (fun k _ => ?_) hgo)
        rw [hL_set hjn (by simp only [List.length_append, List.length_cons]; omega) k, nI_clamp (show i < 2 ^ 31 by omega), rfs_up (n + (142 + 2 * i)) (by omega)]
        rw [List.append_assoc B, List.set_append_right _ _ (by omega), hB]
        simp only [List.append_assoc, List.cons_append, List.nil_append, List.set_cons_succ, List.set_cons_zero, Nat.sub_self, Nat.reduceSub]
        rfl
  have lp1 : ∀ (m i : Nat), i ≤ 4 → 4 < i + m → V0 g l yX7_init.name yX7_init.cls cX7_init 2 none (rmI 3 64 150 1340) (FinI g (n + 150) (hL h j (.inr (6, [.ref (g.2.2 + (n + 0)), .ref (g.2.2 + (n + 128)), .ref (g.2.2 + (n + 132)), .ref (g.2.2 + (n + 133)), .int 0])) n (B ++ ([rfs g 5 4 4 (n + 134) 2, rfs g 6 4 4 (n + 142) 2] ++ (lot (chs g (n + 134)) 4 ++ lot (shs g (n + 142)) 4)))) 150 1340) 44 [(1, .int (nI i)), (0, .ref (g.2.2 + j))] [] (n + (134 + 2 * i)) (hL h j (.inr (6, [.ref (g.2.2 + (n + 0)), .ref (g.2.2 + (n + 128)), .ref (g.2.2 + (n + 132)), .ref (g.2.2 + (n + 133)), .int 0])) n (B ++ ([rfs g 5 4 i (n + 134) 2, rfs g 6 4 0 (n + 142) 2] ++ lot (chs g (n + 134)) i))) (134 + 2 * i) (1132 + 13 * i) := by
    intro m
    induction m with
    | zero => intro i h1 h2; omega
    | succ m ih =>
      intro i hi hm
      have hlen : (B ++ ([rfs g 5 4 i (n + 134) 2, rfs g 6 4 0 (n + 142) 2] ++ lot (chs g (n + 134)) i)).length = (134 + 2 * i) := by simp [lot_len (chs g (n + 134)) 2 (fun _ => rfl), lot_len (acs g n) 1 (fun _ => rfl), hB]; try omega
      refine U_iload_n (q := 0) dX7_init_44 rfl rfl ?_
      refine U_iconst (v := 4) dX7_init_45 (by decide) ?_
      refine U_icmp_ge (tgt := 68) dX7_init_46 (by decide) (fun hc => ?_) (fun hc => ?_)
      · have hNi : 4 ≤ i := (nI_leI (a := 4) (b := i) (by omega) (by omega)).mp hc
        have hiN : i = 4 := by omega
        subst hiN
        refine U_iconst (v := 0) dX7_init_68 (by decide) ?_
        refine U_istore_n (lv' := [(1, .int 0), (0, .ref (g.2.2 + j))]) dX7_init_69 rfl (by decide) rfl ?_
        refine V0_cast rfl rfl rfl (U_ext (fun k _ => ?_) (lp2 5 0 (by omega) (by omega)))
        simp only [lot, List.range_zero, List.flatMap_nil, List.append_nil]
      · have hlt : i < 4 := Nat.lt_of_not_le (fun q => hc ((nI_leI (a := 4) (b := i) (by omega) (by omega)).mpr q))
        refine U_aload_n (q := 1) dX7_init_49 rfl rfl ?_
        refine U_getR (o := j) (fs := [.ref (g.2.2 + (n + 0)), .ref (g.2.2 + (n + 128)), .ref (g.2.2 + (n + 132)), .ref (g.2.2 + (n + 133)), .int 0]) cf6 fr_X7_25 fl_X7_25 (by omega) hL_j rfl dX7_init_50 ?_
        refine U_iload_n (q := 0) dX7_init_53 rfl rfl ?_
        refine U_newL (n := n) (i := (134 + 2 * i)) (fs := [.null, .int 0]) (ci := 1) hjn hlen tyX1 tyX1_ok (fun j hj => by match j, hj with | 0, _ => rfl | 1, _ => rfl) rfl (cf1 _ rfl).1 cw_X7_23 ⟨by show _ ≤ (rmI _ _ _ _).cells; simp only [rmI]; omega, by show _ ≤ (rmI _ _ _ _).slots; simp only [rmI]; omega⟩ dX7_init_54 ?_
        refine U_dup dX7_init_57 rfl ?_
        refine U_initN (nc := 1) (ns := 11) (fr := 1) (lo := 12) iw_X7_35 ⟨by decide, by show _ ≤ (rmI _ _ _ _).cells; simp only [rmI]; omega, by show _ ≤ (rmI _ _ _ _).slots; simp only [rmI]; omega⟩ dX7_init_58 (Nat.le_of_ble_eq_true rfl) (by omega) (i_X1 g l (n + (134 + 2 * i)) (n + ((134 + 2 * i) + 1)) _ (by omega) (hL_n hjn (by rw [List.getElem?_append_right (by rw [hlen]; exact Nat.le_refl _), hlen, Nat.sub_self]; rfl))) ?_
        have hz : (.inr (1, [.ref (g.2.2 + (n + ((134 + 2 * i) + 1) + 0)), .int 1000]) : va_E) :: [.inl (g.2.1 1, 11, .inr (.inl (fun _ => 0)))] = chs g (n + 134) i := by
          rw [show (n + ((134 + 2 * i) + 1) + 0) = (n + 134 + 2 * i + 1) by omega]
          rfl
        refine U_ext (h' := (hL h j (.inr (6, [.ref (g.2.2 + (n + 0)), .ref (g.2.2 + (n + 128)), .ref (g.2.2 + (n + 132)), .ref (g.2.2 + (n + 133)), .int 0])) n (B ++ ([rfs g 5 4 i (n + 134) 2, rfs g 6 4 0 (n + 142) 2] ++ lot (chs g (n + 134)) i) ++ chs g (n + 134) i))) (fun k _ => (hL_hL hjn hlen k).trans (by rw [hz])) ?_
        refine U_aast (o := n + 132) (v := n + (134 + 2 * i)) (ci := 1) (t := 5) (N := 4) rfl rfl (by omega) (hL_n hjn (by rw [List.getElem?_append_left (by rw [hlen]; omega), List.getElem?_append_right (by omega), hB]; rfl)) (by omega) (hL_n hjn (by rw [List.getElem?_append_right (by rw [hlen]; exact Nat.le_refl _), hlen, Nat.sub_self]; rfl)) (vp_in_nI hlt (by omega)) dX7_init_61 ?_
        refine U_iinc (q := 0) (y := nI (i + 1)) (lv' := [(1, .int (nI (i + 1))), (0, .ref (g.2.2 + j))]) dX7_init_62 rfl (nI_1 i) (by decide) rfl ?_
        refine U_goto (tgt := 44) dX7_init_65 (by decide) ?_
        have hgo := ih (i + 1) (by omega) (by omega)
        rw [lot_s (chs g (n + 134)) i] at hgo
        refine V0_cast (by omega) (by omega) (by omega) (U_ext (fun k _ => ?_) hgo)
        rw [hL_set hjn (by simp only [List.length_append, List.length_cons]; omega) k, nI_clamp (show i < 2 ^ 31 by omega), rfs_up (n + (134 + 2 * i)) (by omega)]
        rw [List.append_assoc B, List.set_append_right _ _ (by omega), hB]
        simp only [List.append_assoc, List.cons_append, List.nil_append, List.set_cons_succ, List.set_cons_zero, Nat.sub_self, Nat.reduceSub]
        rfl
  refine U_iconst (v := 0) dX7_init_42 (by decide) ?_
  refine U_istore_n (lv' := [(1, .int 0), (0, .ref (g.2.2 + j))]) dX7_init_43 rfl (by decide) rfl ?_
  refine V0_cast rfl rfl rfl (U_ext (fun k _ => ?_) (lp1 5 0 (by omega) (by omega)))
  simp only [lot, List.range_zero, List.flatMap_nil, List.append_nil]
set_option maxHeartbeats 4000000 in
set_option maxRecDepth 100000 in
theorem i_X7 (g : Gz) (l : Launch) (j n : Nat) (h : Nat → va_E) (hjn : j < n) (hj : h j = .inr (6, [.null, .null, .null, .null, .int 0])) : CtI g l yX7_init cX7_init 2 3 64 150 1340 [.ref (g.2.2 + j)] n h (hL h j (.inr (6, [.ref (g.2.2 + (n + 0)), .ref (g.2.2 + (n + 128)), .ref (g.2.2 + (n + 132)), .ref (g.2.2 + (n + 133)), .int 0])) n ((((.inr (2, [.ref (g.2.2 + ((n + (0 + 1)) + 0)), .ref (g.2.2 + ((n + (0 + 1)) + 1)), .ref (g.2.2 + ((n + (0 + 1)) + 2)), .ref (g.2.2 + ((n + (0 + 1)) + 3)), .int 0, .int 0]) : va_E) :: ([.inl (g.2.1 0, 10, .inl (fun _ => 0)), rfs g 3 30 30 ((n + (0 + 1)) + 4) 1, .inl (g.2.1 0, 30, .inl (fun _ => 0)), rfs g 4 31 31 ((n + (0 + 1)) + 34) 3] ++ lot (acs g (n + (0 + 1))) 30 ++ lot (mos g ((n + (0 + 1)) + 34)) 31)) ++ ((.inr (5, [.ref (g.2.2 + ((n + (128 + 1)) + 0)), .ref (g.2.2 + ((n + (128 + 1)) + 1)), .ref (g.2.2 + ((n + (128 + 1)) + 2)), .int 0]) : va_E) :: [.inl (g.2.1 0, 20, .inl (fun _ => 0)), .inl (g.2.1 0, 20, .inl (fun _ => 0)), .inl (g.2.1 0, 20, .inl (fun _ => 0))])) ++ ([rfs g 5 4 4 (n + 134) 2, rfs g 6 4 4 (n + 142) 2] ++ (lot (chs g (n + 134)) 4 ++ lot (shs g (n + 142)) 4)))) := by
  refine CtI.ofV (by decide) (Nat.le_of_ble_eq_true rfl) ?_
  refine U_ext (hL_nil hj) ?_
  refine U_aload_n (q := 0) dX7_init_0 rfl rfl ?_
  refine U_obj oi_X7 ⟨by decide, by decide⟩ dX7_init_1 ?_
  refine U_aload_n (q := 0) dX7_init_4 rfl rfl ?_
  refine U_newL (n := n) (i := 0) (L := []) (fs := [.null, .null, .null, .null, .int 0, .int 0]) (ci := 2) hjn rfl tyX2 tyX2_ok (fun j hj => by match j, hj with | 0, _ => rfl | 1, _ => rfl | 2, _ => rfl | 3, _ => rfl | 4, _ => rfl | 5, _ => rfl) rfl (cf2 _ rfl).1 cw_X7_9 (by decide) dX7_init_5 ?_
  refine U_dup dX7_init_8 rfl ?_
  refine U_init (nc := 127) (ns := 1054) (fr := 2) (lo := 43) iw_X7_11 (by decide) dX7_init_9 (Nat.le_of_ble_eq_true rfl) (by omega) (i_X2 g l (n + 0) (n + (0 + 1)) _ (by omega) (hL_n hjn rfl)) ?_
  refine U_ext (fun k _ => hL_hL (L := []) hjn rfl k) ?_
  obtain ⟨B0, hB0⟩ : ∃ B0 : List va_E, B0 = ((.inr (2, [.ref (g.2.2 + ((n + (0 + 1)) + 0)), .ref (g.2.2 + ((n + (0 + 1)) + 1)), .ref (g.2.2 + ((n + (0 + 1)) + 2)), .ref (g.2.2 + ((n + (0 + 1)) + 3)), .int 0, .int 0]) : va_E) :: ([.inl (g.2.1 0, 10, .inl (fun _ => 0)), rfs g 3 30 30 ((n + (0 + 1)) + 4) 1, .inl (g.2.1 0, 30, .inl (fun _ => 0)), rfs g 4 31 31 ((n + (0 + 1)) + 34) 3] ++ lot (acs g (n + (0 + 1))) 30 ++ lot (mos g ((n + (0 + 1)) + 34)) 31)) := ⟨_, rfl⟩
  have hB0l : B0.length = 128 := by rw [hB0]; simp [lot_len (acs g (n + (0 + 1))) 1 (fun _ => rfl), lot_len (mos g ((n + (0 + 1)) + 34)) 3 (fun _ => rfl)]
  refine V0_cast (n := n + 128) (kc := 128) (ks := 1060) (by omega) rfl rfl (U_ext (h' := hL h j (.inr (6, [.null, .null, .null, .null, .int 0])) n B0) (fun k _ => by rw [hB0]; rfl) ?_)
  refine U_putR (j := j) (n := n) (i := 128) (fs := [.null, .null, .null, .null, .int 0]) (L := B0) cf6 fr_X7_12 pf_6_0 ⟨rfl, rfl⟩ rfl fl_X7_12 (by omega) (Nat.le_of_ble_eq_true rfl) dX7_init_12 ?_
  refine U_aload_n (q := 0) dX7_init_15 rfl rfl ?_
  refine U_newL (n := n) (i := 128) (L := B0) (fs := [.null, .null, .null, .int 0]) (ci := 5) hjn hB0l tyX6 tyX6_ok (fun j hj => by match j, hj with | 0, _ => rfl | 1, _ => rfl | 2, _ => rfl | 3, _ => rfl) rfl (cf5 _ rfl).1 cw_X7_16 (by decide) dX7_init_16 ?_
  refine U_dup dX7_init_19 rfl ?_
  refine U_initN (nc := 3) (ns := 60) (fr := 1) (lo := 12) iw_X7_18 (by decide) dX7_init_20 (Nat.le_of_ble_eq_true rfl) (by omega) (i_X6 g l (n + 128) (n + (128 + 1)) _ (by omega) (hL_n hjn (by rw [List.getElem?_append_right (by omega), hB0l]; rfl))) ?_
  refine U_ext (fun k _ => hL_hL hjn hB0l k) ?_
  obtain ⟨B, hBe⟩ : ∃ B : List va_E, B = B0 ++ ((.inr (5, [.ref (g.2.2 + ((n + (128 + 1)) + 0)), .ref (g.2.2 + ((n + (128 + 1)) + 1)), .ref (g.2.2 + ((n + (128 + 1)) + 2)), .int 0]) : va_E) :: [.inl (g.2.1 0, 20, .inl (fun _ => 0)), .inl (g.2.1 0, 20, .inl (fun _ => 0)), .inl (g.2.1 0, 20, .inl (fun _ => 0))]) := ⟨_, rfl⟩
  have hB : B.length = 132 := by rw [hBe]; simp [hB0l]
  refine V0_cast (n := n + 132) (kc := 132) (ks := 1124) (by omega) rfl rfl (U_ext (h' := hL h j (.inr (6, [.ref (g.2.2 + (n + 0)), .null, .null, .null, .int 0])) n B) (fun k _ => by rw [hBe]; rfl) ?_)
  refine U_putR (j := j) (n := n) (i := 132) (fs := [.ref (g.2.2 + (n + 0)), .null, .null, .null, .int 0]) (L := B) cf6 fr_X7_19 pf_6_1 ⟨rfl, rfl⟩ rfl fl_X7_19 (by omega) (Nat.le_of_ble_eq_true rfl) dX7_init_23 ?_
  refine U_aload_n (q := 0) dX7_init_26 rfl rfl ?_
  refine U_iconst (v := 4) dX7_init_27 (by decide) ?_
  refine U_anewL (R := rmI 3 64 150 1340) (kc := 132) (ks := 1124) (j := j) (n := n) (i := 132) (L := B) (N := 4) (v := 4) (t := 5) hjn hB rfl (by decide) cw_X7_23.1 ⟨by decide, by decide, by decide⟩ (by decide) dX7_init_28 ?_
  refine U_putR (j := j) (n := n) (i := 133) (fs := [.ref (g.2.2 + (n + 0)), .ref (g.2.2 + (n + 128)), .null, .null, .int 0]) (L := (B ++ [.inl (g.2.1 5, 4, .inr (.inr (.inr (.inr (fun _ => none)))))])) cf6 fr_X7_25 pf_6_2 ⟨rfl, rfl⟩ rfl fl_X7_25 (by omega) (Nat.le_of_ble_eq_true rfl) dX7_init_31 ?_
  refine U_aload_n (q := 0) dX7_init_34 rfl rfl ?_
  refine U_iconst (v := 4) dX7_init_35 (by decide) ?_
  refine U_anewL (R := rmI 3 64 150 1340) (kc := 133) (ks := 1128) (j := j) (n := n) (i := 133) (L := B ++ [.inl (g.2.1 5, 4, .inr (.inr (.inr (.inr (fun _ => none)))))]) (N := 4) (v := 4) (t := 6) hjn (by simp [hB]) rfl (by decide) cw_X7_29.1 ⟨by decide, by decide, by decide⟩ (by decide) dX7_init_36 ?_
  refine U_putR (j := j) (n := n) (i := 134) (fs := [.ref (g.2.2 + (n + 0)), .ref (g.2.2 + (n + 128)), .ref (g.2.2 + (n + 132)), .null, .int 0]) (L := (B ++ [.inl (g.2.1 5, 4, .inr (.inr (.inr (.inr (fun _ => none)))))] ++ [.inl (g.2.1 6, 4, .inr (.inr (.inr (.inr (fun _ => none)))))])) cf6 fr_X7_31 pf_6_3 ⟨rfl, rfl⟩ rfl fl_X7_31 (by omega) (Nat.le_of_ble_eq_true rfl) dX7_init_39 ?_
  refine U_ext (h' := hL h j (.inr (6, [.ref (g.2.2 + (n + 0)), .ref (g.2.2 + (n + 128)), .ref (g.2.2 + (n + 132)), .ref (g.2.2 + (n + 133)), .int 0])) n (B ++ [rfs g 5 4 0 (n + 134) 2, rfs g 6 4 0 (n + 142) 2])) (fun k _ => by rw [rfs_0, rfs_0, List.append_assoc]; rfl) ?_
  have ht := i_X7_tail g l j n h hjn B hB
  rw [hBe, hB0] at ht ⊢
  exact ht
