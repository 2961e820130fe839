theorem cw_L_7 : Cond.classLink RL 7 RX7 ∈ lwT ∧ Cond.instantiable RX7 5 ∈ lwT ∧ Cond.initialized RX7 ∈ lwT := ⟨(inW (List.mem_of_getElem? (i := 42) (by decide +kernel)) rfl), (inW (List.mem_of_getElem? (i := 43) (by decide +kernel)) rfl), (inW (List.mem_of_getElem? (i := 29) (by decide +kernel)) rfl)⟩
theorem cw_L_10 : Cond.classLink RL 10 RX8 ∈ lwT ∧ Cond.instantiable RX8 26 ∈ lwT ∧ Cond.initialized RX8 ∈ lwT := ⟨(inW (List.mem_of_getElem? (i := 686) (by decide +kernel)) rfl), (inW (List.mem_of_getElem? (i := 687) (by decide +kernel)) rfl), (inW (List.mem_of_getElem? (i := 37) (by decide +kernel)) rfl)⟩
theorem iw_L_9 : Cond.methodLink RL 9 yX7_init ∈ lwT ∧ Cond.code yX7_init cX7_init 2 none ∈ lwT ∧ Cond.initialized yX7_init.cls ∈ lwT ∧ (yX7_init.cls ≠ "java/lang/invoke/MethodHandle" ∧ yX7_init.cls ≠ "java/lang/invoke/VarHandle" ∧ (parseMethodDescriptor yX7_init.desc).map (fun d => d.parameters.length) = some 0) ∧ yX7_init.name = "<init>" ∧ Cond.instanceMethod yX7_init ∈ lwT := ⟨(inW (List.mem_of_getElem? (i := 44) (by decide +kernel)) rfl), (inW (List.mem_of_getElem? (i := 46) (by decide +kernel)) rfl), (inW (List.mem_of_getElem? (i := 29) (by decide +kernel)) rfl), ⟨by decide +kernel, by decide +kernel, by decide +kernel⟩, rfl, (inW (List.mem_of_getElem? (i := 45) (by decide +kernel)) rfl)⟩
theorem iw_L_12 : Cond.methodLink RL 12 yX8_init ∈ lwT ∧ Cond.code yX8_init cX8_init 2 none ∈ lwT ∧ Cond.initialized yX8_init.cls ∈ lwT ∧ (yX8_init.cls ≠ "java/lang/invoke/MethodHandle" ∧ yX8_init.cls ≠ "java/lang/invoke/VarHandle" ∧ (parseMethodDescriptor yX8_init.desc).map (fun d => d.parameters.length) = some 0) ∧ yX8_init.name = "<init>" ∧ Cond.instanceMethod yX8_init ∈ lwT := ⟨(inW (List.mem_of_getElem? (i := 688) (by decide +kernel)) rfl), (inW (List.mem_of_getElem? (i := 690) (by decide +kernel)) rfl), (inW (List.mem_of_getElem? (i := 37) (by decide +kernel)) rfl), ⟨by decide +kernel, by decide +kernel, by decide +kernel⟩, rfl, (inW (List.mem_of_getElem? (i := 689) (by decide +kernel)) rfl)⟩
theorem arrV_congr {c : ClassId} {N : Nat} {f f' : Nat → Value} (h : ∀ j, j < N → f j = f' j) : arrV c N f = arrV c N f' := by
  unfold arrV
  congr 2
  funext i
  exact h i.val i.isLt
theorem PH_of (g : Gz) (tz : Nat) (H : Heap) (hP : va_P g.1 vwCl (WZ g.2.2 174 (hF g)) H) : PH (Gof g tz) M0 H := by
  intro k q hq
  have hl : k < 174 := by
    have := (List.getElem?_eq_some_iff.mp hq).1
    simpa [WL, NC] using this
  rw [WL_at hl] at hq
  cases hq
  have hc := hP k _ (WZ_at hl)
  have key : ∀ (c N i b st : Nat) (f' : Nat → Option Nat), (∀ t, t < N → t < i ∧ f' t = some (g.2.2 + (b + st * t))) → vp_cell (g.2.1 c) (N, .inr (.inr (.inr (.inr (fun t => if t < i then some (g.2.2 + (b + st * t)) else none))))) = vp_cell (g.2.1 c) (N, .inr (.inr (.inr (.inr f')))) := by
    intro c N i b st f' hf
    rw [vp_cell_q, vp_cell_q]
    exact arrV_congr (fun t ht => by rw [(hf t ht).2, if_pos (hf t ht).1])
  by_cases e3 : k = 3
  · subst e3
    exact Eq.trans hc (congrArg some (key 3 30 30 6 1 _ (fun t ht => ⟨ht, by show some (g.2.2 + ra 3 t) = _; simp [ra]⟩)))
  · by_cases e5 : k = 5
    · subst e5
      exact Eq.trans hc (congrArg some (key 4 31 31 36 3 _ (fun t ht => ⟨ht, by show some (g.2.2 + ra 5 t) = _; simp [ra]⟩)))
    · by_cases e133 : k = 133
      · subst e133
        exact Eq.trans hc (congrArg some (key 5 4 4 135 2 _ (fun t ht => ⟨ht, by show some (g.2.2 + ra 133 t) = _; simp [ra]⟩)))
      · by_cases e134 : k = 134
        · subst e134
          exact Eq.trans hc (congrArg some (key 6 4 4 143 2 _ (fun t ht => ⟨ht, by show some (g.2.2 + ra 134 t) = _; simp [ra]⟩)))
        · have hm : k ∈ [0, 1, 2, 4, 6, 7, 8, 9, 10, 11, 12, 13, 14, 15, 16, 17, 18, 19, 20, 21, 22, 23, 24, 25, 26, 27, 28, 29, 30, 31, 32, 33, 34, 35, 36, 37, 38, 39, 40, 41, 42, 43, 44, 45, 46, 47, 48, 49, 50, 51, 52, 53, 54, 55, 56, 57, 58, 59, 60, 61, 62, 63, 64, 65, 66, 67, 68, 69, 70, 71, 72, 73, 74, 75, 76, 77, 78, 79, 80, 81, 82, 83, 84, 85, 86, 87, 88, 89, 90, 91, 92, 93, 94, 95, 96, 97, 98, 99, 100, 101, 102, 103, 104, 105, 106, 107, 108, 109, 110, 111, 112, 113, 114, 115, 116, 117, 118, 119, 120, 121, 122, 123, 124, 125, 126, 127, 128, 129, 130, 131, 132, 135, 136, 137, 138, 139, 140, 141, 142, 143, 144, 145, 146, 147, 148, 149, 150, 151, 152, 153, 154, 155, 156, 157, 158, 159, 160, 161, 162, 163, 164, 165, 166, 167, 168, 169, 170, 171, 172, 173] := by
            have h1 : k ∈ List.range 174 := List.mem_range.mpr hl
            have h2 : ∀ x ∈ List.range 174, x ≠ 3 → x ≠ 5 → x ≠ 133 → x ≠ 134 → x ∈ [0, 1, 2, 4, 6, 7, 8, 9, 10, 11, 12, 13, 14, 15, 16, 17, 18, 19, 20, 21, 22, 23, 24, 25, 26, 27, 28, 29, 30, 31, 32, 33, 34, 35, 36, 37, 38, 39, 40, 41, 42, 43, 44, 45, 46, 47, 48, 49, 50, 51, 52, 53, 54, 55, 56, 57, 58, 59, 60, 61, 62, 63, 64, 65, 66, 67, 68, 69, 70, 71, 72, 73, 74, 75, 76, 77, 78, 79, 80, 81, 82, 83, 84, 85, 86, 87, 88, 89, 90, 91, 92, 93, 94, 95, 96, 97, 98, 99, 100, 101, 102, 103, 104, 105, 106, 107, 108, 109, 110, 111, 112, 113, 114, 115, 116, 117, 118, 119, 120, 121, 122, 123, 124, 125, 126, 127, 128, 129, 130, 131, 132, 135, 136, 137, 138, 139, 140, 141, 142, 143, 144, 145, 146, 147, 148, 149, 150, 151, 152, 153, 154, 155, 156, 157, 158, 159, 160, 161, 162, 163, 164, 165, 166, 167, 168, 169, 170, 171, 172, 173] := by decide +kernel
            exact h2 k h1 e3 e5 e133 e134
          have hc2 : va_at g.1 vwCl (g.2.2 + k, cel (Gof g tz) M0 k) H := by rw [← fc_all g tz k hm]; exact hc
          exact hc2
def Fn0 (G : Gw) (b L : Nat) (xs : Nat → Int32) : Array Value → List Frame → State → State → Prop := fun args below s t => GS G s → FnL G b L xs args below s t
theorem V0_law {g : Gz} {tz : Nat} {l : Launch} {nm : String} {b L : Nat} {xs : Nat → Int32} {pc : Nat} {lv lv' : List (Nat × Value)} (hlv : lv = lv') (k : V (Gof g tz) l RL code 4 ret room_1 174 3783 (FnL (Gof g tz) b L xs) pc lv' [] M0) : V0 g l nm RL code 4 ret room_1 (Fn0 (Gof g tz) b L xs) pc lv [] 174 (hF g) 174 3783 := by
  intro p e s m args below meth c H locs ls C hn hP hS hl
  subst hlv
  obtain ⟨C1, C2, C3, C4, C5, C6, C7, C8, C9⟩ := C
  by_cases hG : GS (Gof g tz) s
  · intro Ts hT X
    obtain ⟨t, a1, b1⟩ := k p e s m args below meth c H locs ls ⟨C1, C2, C3, C4, C5, C6, C7, hG⟩ (PH_of g tz H hP) hS hl Ts hT X
    exact ⟨t, a1, fun _ => b1⟩
  · exact fun Ts hT X => ⟨_, Steps.refl _, fun w => absurd w hG⟩
set_option maxHeartbeats 4000000 in
set_option maxRecDepth 100000 in
theorem law_start (g : Gz) (tz : Nat) (l : Launch) (nm : String) (b L : Nat) (xs : Nat → Int32) (k : V (Gof g tz) l RL code 4 ret room_1 174 3783 (FnL (Gof g tz) b L xs) 16 [(2, .ref (adr (Gof g tz) 151)), (1, .ref (adr (Gof g tz) 0)), (0, .ref b)] [] M0) : V0 g l nm RL code 4 ret room_1 (Fn0 (Gof g tz) b L xs) 0 [(0, .ref b)] [] 0 (fun _ => actD) 0 0 := by
  refine U_new (fs := [.null, .null, .null, .null, .int 0]) (ci := 6) tyX7 tyX7_ok (fun j hj => by match j, hj with | 0, _ => rfl | 1, _ => rfl | 2, _ => rfl | 3, _ => rfl | 4, _ => rfl) rfl (cf6 _ rfl).1 cw_L_7 (by decide) dL_law_0 ?_
  refine U_dup dL_law_3 rfl ?_
  refine U_init (nc := 150) (ns := 1340) (fr := 3) (lo := 64) iw_L_9 (by decide) dL_law_4 (Nat.le_of_ble_eq_true rfl) (by omega) (i_X7 g l 0 1 _ (by omega) ups) ?_
  refine U_astore_n (lv' := [(1, .ref (g.2.2 + 0)), (0, .ref b)]) dL_law_7 rfl (by decide) rfl ?_
  refine U_new (fs := [.int 0, .int 0, .int 0, .long 0, .null, .null, .null, .null, .null, .null, .null, .null, .null, .null, .null, .null, .null, .null, .null, .null, .null, .null, .null, .null, .null, .null]) (ci := 7) tyX8 tyX8_ok (fun j hj => by match j, hj with | 0, _ => rfl | 1, _ => rfl | 2, _ => rfl | 3, _ => rfl | 4, _ => rfl | 5, _ => rfl | 6, _ => rfl | 7, _ => rfl | 8, _ => rfl | 9, _ => rfl | 10, _ => rfl | 11, _ => rfl | 12, _ => rfl | 13, _ => rfl | 14, _ => rfl | 15, _ => rfl | 16, _ => rfl | 17, _ => rfl | 18, _ => rfl | 19, _ => rfl | 20, _ => rfl | 21, _ => rfl | 22, _ => rfl | 23, _ => rfl | 24, _ => rfl | 25, _ => rfl | j + 26, hj => exact absurd hj (by omega)) rfl (cf7 _ rfl).1 cw_L_10 (by decide) dL_law_8 ?_
  refine U_dup dL_law_11 rfl ?_
  refine U_init (nc := 22) (ns := 2412) (fr := 1) (lo := 12) iw_L_12 (by decide) dL_law_12 (Nat.le_of_ble_eq_true rfl) (by omega) (i_X8 g l 151 152 _ (by omega) ups) ?_
  refine U_astore_n (lv' := [(2, .ref (g.2.2 + 151)), (1, .ref (g.2.2 + 0)), (0, .ref b)]) dL_law_15 rfl (by decide) rfl ?_
  exact V0_law rfl k
set_option maxHeartbeats 4000000 in
set_option maxRecDepth 100000 in
theorem whole_open (hp : ∀ (xs : Nat → Int32) (L : Nat), L ≤ 3072 → fL_law xs L M0 = some ()) {p : Program} {e : Env} {s : State} {m : MethodId} {below : List Frame} {meth : Method} {c : Code} (l : Launch) {b L : Nat} {xs : Nat → Int32} (hL : L ≤ 3072) (C0 : lw_At p s m meth c b L xs) : W p l e room_1 s m #[Value.ref b] below meth c s.heap [] 0 0 (lw_Z below #[Value.ref b] s) (entryFrame m ([Value.ref b] : List Value).toArray 4) := by
  obtain ⟨hx, hb, hr, hml, hown, hts, hX, hbl, hlocks, hgv⟩ := id C0
  have hwT : ∀ w ∈ lwT, w.before #[Value.ref b] s = true := fun w hw => hts w (List.mem_filter.mp hw).1
  obtain ⟨c0, iS0, hKn0⟩ := u_known (C := RX0) (T := TX0) (N := 8) (n := 8) hwT (cf0 _ rfl).1 (hts (.instantiable RX0 8) (List.mem_of_getElem? (i := 60) (by decide +kernel)))
  obtain ⟨c1, iS1, hKn1⟩ := u_known (C := RX1) (T := TX1) (N := 2) (n := 2) hwT (cf1 _ rfl).1 (hts (.instantiable RX1 2) (List.mem_of_getElem? (i := 164) (by decide +kernel)))
  obtain ⟨c2, iS2, hKn2⟩ := u_known (C := RX2) (T := TX2) (N := 6) (n := 6) hwT (cf2 _ rfl).1 (hts (.instantiable RX2 6) (List.mem_of_getElem? (i := 51) (by decide +kernel)))
  obtain ⟨c3, iS3, hKn3⟩ := u_known (C := RX4) (T := TX4) (N := 3) (n := 3) hwT (cf3 _ rfl).1 (hts (.instantiable RX4 3) (List.mem_of_getElem? (i := 99) (by decide +kernel)))
  obtain ⟨c4, iS4, hKn4⟩ := u_known (C := RX5) (T := TX5) (N := 3) (n := 3) hwT (cf4 _ rfl).1 (hts (.instantiable RX5 3) (List.mem_of_getElem? (i := 177) (by decide +kernel)))
  obtain ⟨c5, iS5, hKn5⟩ := u_known (C := RX6) (T := TX6) (N := 4) (n := 4) hwT (cf5 _ rfl).1 (hts (.instantiable RX6 4) (List.mem_of_getElem? (i := 141) (by decide +kernel)))
  obtain ⟨c6, iS6, hKn6⟩ := u_known (C := RX7) (T := TX7) (N := 5) (n := 5) hwT (cf6 _ rfl).1 (hts (.instantiable RX7 5) (List.mem_of_getElem? (i := 43) (by decide +kernel)))
  obtain ⟨c7, iS7, hKn7⟩ := u_known (C := RX8) (T := TX8) (N := 26) (n := 26) hwT (cf7 _ rfl).1 (hts (.instantiable RX8 26) (List.mem_of_getElem? (i := 687) (by decide +kernel)))
  obtain ⟨D, hD⟩ : ∃ D : va_G, ∀ (k : Nat) (q : vw_C), vwCl[k]? = some q → u_Kn s q.1 q.2.1 q.2.2 (D.1 k) (D.2 k) := by
    refine ⟨(fun k => if k = 0 then c0 else if k = 1 then c1 else if k = 2 then c2 else if k = 3 then c3 else if k = 4 then c4 else if k = 5 then c5 else if k = 6 then c6 else c7, fun k => if k = 0 then iS0 else if k = 1 then iS1 else if k = 2 then iS2 else if k = 3 then iS3 else if k = 4 then iS4 else if k = 5 then iS5 else if k = 6 then iS6 else iS7), ?_⟩
    intro k q hq
    match k, hq with
    | 0, hq => cases hq; exact hKn0
    | 1, hq => cases hq; exact hKn1
    | 2, hq => cases hq; exact hKn2
    | 3, hq => cases hq; exact hKn3
    | 4, hq => cases hq; exact hKn4
    | 5, hq => cases hq; exact hKn5
    | 6, hq => cases hq; exact hKn6
    | 7, hq => cases hq; exact hKn7
    | k + 8, hq => simp [vwCl] at hq
  obtain ⟨a0, k0, p0, f0, g0, e0⟩ := Cond.arrayClass_spec (hts (.arrayClass .int) (List.mem_of_getElem? (i := 98) (by decide +kernel)))
  obtain ⟨a1, k1, p1, f1, g1, e1⟩ := Cond.arrayClass_spec (hts (.arrayClass .long) (List.mem_of_getElem? (i := 117) (by decide +kernel)))
  obtain ⟨a2, k2, p2, f2, g2, e2⟩ := Cond.arrayClass_spec (hts (.arrayClass .boolean) (List.mem_of_getElem? (i := 771) (by decide +kernel)))
  have ho3 := hts (.arrayOver (.object "ShireLines$Act")) (List.mem_of_getElem? (i := 57) (by decide +kernel))
  obtain ⟨m3, a3, k3, f3, -, g3, e3, n3⟩ := Cond.arrayOver_spec ho3
  have ho4 := hts (.arrayOver (.object "ShireLines$Moment")) (List.mem_of_getElem? (i := 59) (by decide +kernel))
  obtain ⟨m4, a4, k4, f4, -, g4, e4, n4⟩ := Cond.arrayOver_spec ho4
  have ho5 := hts (.arrayOver (.object "ShireLines$Chart")) (List.mem_of_getElem? (i := 161) (by decide +kernel))
  obtain ⟨m5, a5, k5, f5, -, g5, e5, n5⟩ := Cond.arrayOver_spec ho5
  have ho6 := hts (.arrayOver (.object "ShireLines$Sheet")) (List.mem_of_getElem? (i := 163) (by decide +kernel))
  obtain ⟨m6, a6, k6, f6, -, g6, e6, n6⟩ := Cond.arrayOver_spec ho6
  obtain ⟨cA, hcA⟩ : ∃ cA : Nat → ClassId, cA 0 = a0 ∧ cA 1 = a1 ∧ cA 2 = a2 ∧ cA 3 = a3 ∧ cA 4 = a4 ∧ cA 5 = a5 ∧ cA 6 = a6 := ⟨fun k => if k = 0 then a0 else if k = 1 then a1 else if k = 2 then a2 else if k = 3 then a3 else if k = 4 then a4 else if k = 5 then a5 else a6, rfl, rfl, rfl, rfl, rfl, rfl, rfl⟩
  obtain ⟨rfl, rfl, rfl, rfl, rfl, rfl, rfl⟩ := hcA
  have hK : va_K D vwCl (tysL cA) s := by
    refine ⟨hD, fun k q hq => ?_⟩
    match k, hq with
    | 0, hq => cases hq; exact ⟨fun n z => ⟨fun k h => (by cases h), k0, g0, p0, e0⟩, f0⟩
    | 1, hq => cases hq; exact ⟨fun n z => ⟨fun k h => (by cases h), k1, g1, p1, e1⟩, f1⟩
    | 2, hq => cases hq; exact ⟨fun n z => ⟨fun k h => (by cases h), k2, g2, p2, e2⟩, f2⟩
    | 3, hq => cases hq; exact ⟨fun n z => ⟨fun k h => (by cases h), k3, g3, m3, e3⟩, k3, m3, g3, e3, f3, n3⟩
    | 4, hq => cases hq; exact ⟨fun n z => ⟨fun k h => (by cases h), k4, g4, m4, e4⟩, k4, m4, g4, e4, f4, n4⟩
    | 5, hq => cases hq; exact ⟨fun n z => ⟨fun k h => (by cases h), k5, g5, m5, e5⟩, k5, m5, g5, e5, f5, n5⟩
    | 6, hq => cases hq; exact ⟨fun n z => ⟨fun k h => (by cases h), k6, g6, m6, e6⟩, k6, m6, g6, e6, f6, n6⟩
    | k + 7, hq => simp [tysL] at hq
  have hfl := flat_of_before _ hgv
  have hA : ∀ a : Nat, a < s.heap.size → ¬ (fun q : Nat => s.heap.size ≤ q) a := fun a h => Nat.not_le.mpr h
  obtain ⟨tz, htz, hTz⟩ := va_Tof (tm := .static "ShireLines" "KIND_OVER" "[I") (ty := .int) (N := 4) (f := kov) (A := fun q : Nat => s.heap.size ≤ q) (by decide) (hfl _ (by decide +kernel)) (va_eqt (hfl _ (by decide +kernel))) (fun j hj => by
    match j, hj with
    | 0, _ => exact va_eqt (z := -1) (hfl _ (by decide +kernel))
    | 1, _ => exact va_eqt (z := 0) (hfl _ (by decide +kernel))
    | 2, _ => exact va_eqt (z := 1) (hfl _ (by decide +kernel))
    | 3, _ => exact va_eqt (z := 0) (hfl _ (by decide +kernel))) hA
  have hZ := va_Zof (v := .ref tz) (A := fun q : Nat => s.heap.size ≤ q) (hts (.laysStatic "ShireLines" "KIND_OVER" "[I") (List.mem_of_getElem? (i := 250) (by decide +kernel))) (hts (.initialized "ShireLines") (List.mem_of_getElem? (i := 29) (by decide +kernel))) htz hA
  have hGS : GS (Gof (D, cA, s.heap.size) tz) s := ⟨⟨fun i j _ _ h => by simp only [adr, Gof] at h; omega, fun k _ => by simp only [adr, Gof]; omega⟩, hK, fun w hw => va_Nw.of (nest_on hw) (hts w (List.mem_filter.mp hw).1), hZ, hTz⟩
  have hG0 : GS0 (D, cA, s.heap.size) s := ⟨hK, fun w hw => va_Nw.of (nm_on hw) (hts w (List.mem_filter.mp hw).1), fun C hC => by
    simp only [aoL, List.mem_cons, List.not_mem_nil, or_false] at hC
    rcases hC with rfl | rfl | rfl | rfl
    · exact va_AO.of ho3
    · exact va_AO.of ho4
    · exact va_AO.of ho5
    · exact va_AO.of ho6
    , Nat.le_refl _⟩
  have hl := lv_entry ([.ref b]) (n := 4) (Nat.le_of_ble_eq_true rfl)
  rw [lg_entry_eq]
  generalize (lg_sl ([.ref b]) ++ List.replicate (4 - (lg_sl ([.ref b])).length) Slot.unset).toArray = ls at hl ⊢
  have hl : lv_has ls 4 [(0, .ref b)] := hl
  have hW := law_start (D, cA, s.heap.size) tz l meth.name b L xs (mL_law _ l b L xs M0 (hp xs L hL)) p e s m #[Value.ref b] below meth c s.heap [] ls ⟨hx, hb, hr, hlocks, hml, hown, hwT, hG0, rfl⟩ (by rfl) (fun k q h => by simp [WZ] at h) va_S.rf hl
  intro Ts hT Xs
  obtain ⟨t, a9, b9⟩ := hW Ts hT Xs
  exact ⟨t, a9, b9 hGS ⟨rfl, hX, hbl, Nat.not_le.mpr hbl, fun q h => h⟩⟩
