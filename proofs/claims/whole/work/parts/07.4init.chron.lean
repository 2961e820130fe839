def actD : va_E := .inr (0, [.int 0, .int 0, .int 0, .int 0, .long 0, .int 0, .int 0, .long 0])
def rfs (g : Gz) (c N i b st : Nat) : va_E := .inl (g.2.1 c, N, .inr (.inr (.inr (.inr (fun t => if t < i then some (g.2.2 + (b + st * t)) else none)))))
def acs (_ : Gz) (_ : Nat) (_ : Nat) : List va_E := [actD]
def mos (g : Gz) (b t : Nat) : List va_E := [.inr (3, [.ref (g.2.2 + (b + 3 * t + 1)), .ref (g.2.2 + (b + 3 * t + 2)), .int 0]), .inl (g.2.1 1, 10, .inr (.inl (fun _ => 0))), .inl (g.2.1 0, 10, .inl (fun k => if k < 10 then 10 else 0))]
def chs (g : Gz) (b t : Nat) : List va_E := [.inr (1, [.ref (g.2.2 + (b + 2 * t + 1)), .int 1000]), .inl (g.2.1 1, 11, .inr (.inl (fun _ => 0)))]
def shs (g : Gz) (b t : Nat) : List va_E := [.inr (4, [.ref (g.2.2 + (b + 2 * t + 1)), .int 0, .int 0]), .inl (g.2.1 0, 36, .inl (fun _ => 0))]
def lot (F : Nat → List va_E) (i : Nat) : List va_E := (List.range i).flatMap F
theorem lot_s (F : Nat → List va_E) (i : Nat) : lot F (i + 1) = lot F i ++ F i := by simp [lot, List.range_succ]
theorem lot_len (F : Nat → List va_E) (c : Nat) (h : ∀ t, (F t).length = c) : ∀ i, (lot F i).length = c * i := by
  intro i
  induction i with
  | zero => simp [lot]
  | succ i ih => rw [lot_s, List.length_append, ih, h, Nat.mul_succ]
theorem hL_hL {h : Nat → va_E} {j n i : Nat} {q q' d : va_E} {L L2 : List va_E} (hjn : j < n) (hi : L.length = i) : ∀ k, hL (hL h j q n (L ++ [d])) (n + i) q' (n + (i + 1)) L2 k = hL h j q n (L ++ (q' :: L2)) k := by
  intro k
  by_cases z : k = n + i
  · subst z
    rw [hL_j, hL_n (i := i) (x := q') hjn (by rw [← hi]; simp)]
  · unfold hL
    by_cases y : k = j
    · subst y
      have : k < n + (i + 1) := by omega
      simp only [if_neg z, if_true, if_pos this]
    · by_cases x : k < n
      · have : k < n + (i + 1) := by omega
        simp only [if_neg z, if_neg y, if_pos x, if_pos this]
      · by_cases v : k < n + (i + 1)
        · simp only [if_neg z, if_neg y, if_neg x, if_pos v, List.getD]
          rw [List.getElem?_append_left (by omega), List.getElem?_append_left (by omega)]
        · simp only [if_neg z, if_neg y, if_neg x, if_neg v, List.getD]
          rw [List.getElem?_append_right (by omega)]
          have e : k - n - L.length = (k - (n + (i + 1))) + 1 := by omega
          rw [e, List.getElem?_cons_succ]
section UOBJ
variable {g : Gz} {l : Launch} {nm own : String} {cc : ByteArray} {nL : Nat} {rt : Option FieldType} {R : Room} {kc ks n : Nat} {h : Nat → va_E} {Fn : Array Value → List Frame → State → State → Prop} {pc : Nat} {lv : List (Nat × Value)} {st : List Value}
theorem U_anewL {j i : Nat} {q : va_E} {L : List va_E} {C : String} {idx t N : Nat} {v : Int32} {c1 : ClassId} (hjn : j < n) (hi : L.length = i) (ht : (tysL g.2.1)[t]? = some (c1, .object C)) (hao : C ∈ aoL) (hw : Cond.classLink own idx C ∈ lwT) (hv : ¬ v < 0 ∧ v.toNatClampNeg = N ∧ N * 4 ≤ 536870912) (hR : kc + 1 ≤ R.cells ∧ ks + N ≤ R.slots) (hd : decode cc pc = .ok (.anewarray idx, 3)) (k : V0 g l nm own cc nL rt R Fn (pc + 3) lv (.ref (g.2.2 + (n + i)) :: st) (n + (i + 1)) (hL h j q n (L ++ [.inl (c1, N, .inr (.inr (.inr (.inr (fun _ => none)))))])) (kc + 1) (ks + N)) : V0 g l nm own cc nL rt R Fn pc lv (.int v :: st) (n + i) (hL h j q n L) kc ks :=
  U_anew ht hao hw hv hR hd (U_ext (hL_push hjn hi) k)
theorem U_newL {j i : Nat} {q : va_E} {L : List va_E} {C : String} {Tt : u_T} {N ci idx : Nat} {fs : List Value} (hjn : j < n) (hi : L.length = i) (ty : Nat → FieldType) (hty : ∀ k, k < N → parseFieldDescriptor (Tt k).2.2.1 = some (ty k)) (hfs : ∀ j, j < N → defaultValue (ty j) = vp_V fs j) (hc : vwCl[ci]? = some (C, Tt, N)) (hin : ∀ w ∈ u_ws C Tt N, w ∈ lwT) (hw : Cond.classLink own idx C ∈ lwT ∧ Cond.instantiable C N ∈ lwT ∧ Cond.initialized C ∈ lwT) (hR : kc + 1 ≤ R.cells ∧ ks + N ≤ R.slots) (hd : decode cc pc = .ok (.new idx, 3)) (k : V0 g l nm own cc nL rt R Fn (pc + 3) lv (.ref (g.2.2 + (n + i)) :: st) (n + (i + 1)) (hL h j q n (L ++ [.inr (ci, fs)])) (kc + 1) (ks + N)) : V0 g l nm own cc nL rt R Fn pc lv st (n + i) (hL h j q n L) kc ks :=
  U_new ty hty hfs hc hin hw hR hd (U_ext (hL_push hjn hi) k)
theorem U_putR {j i ci jj idx : Nat} {L : List va_E} {fs : List Value} {x : Nat} {ty : FieldType} (hcf : CF ci) (hF : FR own idx ci jj) (hpt : ∀ q : vw_C, vwCl[ci]? = some q → parseFieldDescriptor (q.2.1 jj).2.2.1 = some ty ∧ (q.2.1 jj).2.2.2 = true ∧ (q.2.1 jj).1 = own ∧ q.1 = own) (hty : narrow ty (.ref x) = .ref x ∧ fits ty (.ref x) = true) (hnm : nm = "<init>") (hlk : ∀ q : vw_C, vwCl[ci]? = some q → Cond.fieldLink own idx (q.2.1 jj).1 (q.2.1 jj).2.1 (q.2.1 jj).2.2.1 ∈ lwT) (ho : j < n + i) (hlen : jj < fs.length) (hd : decode cc pc = .ok (.putfield idx, 3)) (k : V0 g l nm own cc nL rt R Fn (pc + 3) lv st (n + i) (hL h j (.inr (ci, fs.set jj (.ref x))) n L) kc ks) : V0 g l nm own cc nL rt R Fn pc lv (.ref x :: .ref (g.2.2 + j) :: st) (n + i) (hL h j (.inr (ci, fs)) n L) kc ks :=
  U_putF hcf hF hpt hty hnm hlk ho hL_j hlen hd (U_ext (fun k _ => hL_put k) k)
end UOBJ
theorem rfs_up {g : Gz} {i b st : Nat} (x : Nat) (hx : x = b + st * i) : va_up (fun t => if t < i then some (g.2.2 + (b + st * t)) else none) i (some (g.2.2 + x)) = fun t => if t < i + 1 then some (g.2.2 + (b + st * t)) else none := by
  subst hx
  funext t
  unfold va_up
  dsimp only
  rcases Nat.lt_trichotomy t i with z | z | z
  · rw [if_neg (by omega), if_pos z, if_pos (by omega)]
  · rw [if_pos z, if_pos (by omega), z]
  · rw [if_neg (by omega), if_neg (by omega), if_neg (by omega)]
theorem rfs_0 {g : Gz} {c N b st : Nat} : rfs g c N 0 b st = .inl (g.2.1 c, N, .inr (.inr (.inr (.inr (fun _ => none))))) := by simp [rfs]
theorem fl_X2_26 : ∀ q : vw_C, vwCl[2]? = some q → Cond.fieldLink RX2 26 (q.2.1 3).1 (q.2.1 3).2.1 (q.2.1 3).2.2.1 ∈ lwT := fun q hq => by cases hq; exact (inW (List.mem_of_getElem? (i := 122) (by decide +kernel)) rfl)
theorem iw_X2_31 : Cond.methodLink RX2 31 yX4_init ∈ lwT ∧ Cond.code yX4_init cX4_init 1 none ∈ lwT ∧ Cond.initialized yX4_init.cls ∈ lwT ∧ (yX4_init.cls ≠ "java/lang/invoke/MethodHandle" ∧ yX4_init.cls ≠ "java/lang/invoke/VarHandle" ∧ (parseMethodDescriptor yX4_init.desc).map (fun d => d.parameters.length) = some 0) ∧ yX4_init.name = "<init>" ∧ Cond.instanceMethod yX4_init ∈ lwT := ⟨(inW (List.mem_of_getElem? (i := 100) (by decide +kernel)) rfl), (inW (List.mem_of_getElem? (i := 102) (by decide +kernel)) rfl), (inW (List.mem_of_getElem? (i := 32) (by decide +kernel)) rfl), ⟨by decide +kernel, by decide +kernel, by decide +kernel⟩, rfl, (inW (List.mem_of_getElem? (i := 101) (by decide +kernel)) rfl)⟩
theorem cw_X2_24 : Cond.classLink RX2 24 RX4 ∈ lwT ∧ Cond.instantiable RX4 3 ∈ lwT ∧ Cond.initialized RX4 ∈ lwT := ⟨(inW (List.mem_of_getElem? (i := 58) (by decide +kernel)) rfl), (inW (List.mem_of_getElem? (i := 99) (by decide +kernel)) rfl), (inW (List.mem_of_getElem? (i := 32) (by decide +kernel)) rfl)⟩
theorem fl_X2_17 : ∀ q : vw_C, vwCl[2]? = some q → Cond.fieldLink RX2 17 (q.2.1 1).1 (q.2.1 1).2.1 (q.2.1 1).2.2.1 ∈ lwT := fun q hq => by cases hq; exact (inW (List.mem_of_getElem? (i := 119) (by decide +kernel)) rfl)
theorem iw_X2_30 : Cond.methodLinkNest RX2 30 yX0_init "ShireLines" ∈ nmT ∧ Cond.code yX0_init cX0_init 1 none ∈ lwT ∧ Cond.initialized yX0_init.cls ∈ lwT ∧ (yX0_init.cls ≠ "java/lang/invoke/MethodHandle" ∧ yX0_init.cls ≠ "java/lang/invoke/VarHandle" ∧ (parseMethodDescriptor yX0_init.desc).map (fun d => d.parameters.length) = some 0) ∧ yX0_init.name = "<init>" ∧ Cond.instanceMethod yX0_init ∈ lwT := ⟨(inNM (List.mem_of_getElem? (i := 61) (by decide +kernel)) rfl), (inW (List.mem_of_getElem? (i := 63) (by decide +kernel)) rfl), (inW (List.mem_of_getElem? (i := 31) (by decide +kernel)) rfl), ⟨by decide +kernel, by decide +kernel, by decide +kernel⟩, rfl, (inW (List.mem_of_getElem? (i := 62) (by decide +kernel)) rfl)⟩
theorem cw_X2_15 : Cond.classLink RX2 15 RX0 ∈ lwT ∧ Cond.instantiable RX0 8 ∈ lwT ∧ Cond.initialized RX0 ∈ lwT := ⟨(inW (List.mem_of_getElem? (i := 56) (by decide +kernel)) rfl), (inW (List.mem_of_getElem? (i := 60) (by decide +kernel)) rfl), (inW (List.mem_of_getElem? (i := 31) (by decide +kernel)) rfl)⟩
theorem oi_X2 : OI RX2 3 := ⟨(inW (List.mem_of_getElem? (i := 55) (by decide +kernel)) rfl), (inW (List.mem_of_getElem? (i := 48) (by decide +kernel)) rfl), (inW (List.mem_of_getElem? (i := 49) (by decide +kernel)) rfl)⟩
theorem fl_X2_9 : ∀ q : vw_C, vwCl[2]? = some q → Cond.fieldLink RX2 9 (q.2.1 0).1 (q.2.1 0).2.1 (q.2.1 0).2.2.1 ∈ lwT := fun q hq => by cases hq; exact (inW (List.mem_of_getElem? (i := 118) (by decide +kernel)) rfl)
theorem pf_2_0 : ∀ q : vw_C, vwCl[2]? = some q → parseFieldDescriptor (q.2.1 0).2.2.1 = some (.array .int) ∧ (q.2.1 0).2.2.2 = true ∧ (q.2.1 0).1 = RX2 ∧ q.1 = RX2 := fun q hq => by cases hq; exact ⟨by decide +kernel, rfl, rfl, rfl⟩
theorem pf_2_1 : ∀ q : vw_C, vwCl[2]? = some q → parseFieldDescriptor (q.2.1 1).2.2.1 = some (.array (.object "ShireLines$Act")) ∧ (q.2.1 1).2.2.2 = true ∧ (q.2.1 1).1 = RX2 ∧ q.1 = RX2 := fun q hq => by cases hq; exact ⟨by decide +kernel, rfl, rfl, rfl⟩
theorem fl_X2_21 : ∀ q : vw_C, vwCl[2]? = some q → Cond.fieldLink RX2 21 (q.2.1 2).1 (q.2.1 2).2.1 (q.2.1 2).2.2.1 ∈ lwT := fun q hq => by cases hq; exact (inW (List.mem_of_getElem? (i := 121) (by decide +kernel)) rfl)
theorem pf_2_2 : ∀ q : vw_C, vwCl[2]? = some q → parseFieldDescriptor (q.2.1 2).2.2.1 = some (.array .int) ∧ (q.2.1 2).2.2.2 = true ∧ (q.2.1 2).1 = RX2 ∧ q.1 = RX2 := fun q hq => by cases hq; exact ⟨by decide +kernel, rfl, rfl, rfl⟩
theorem pf_2_3 : ∀ q : vw_C, vwCl[2]? = some q → parseFieldDescriptor (q.2.1 3).2.2.1 = some (.array (.object "ShireLines$Moment")) ∧ (q.2.1 3).2.2.2 = true ∧ (q.2.1 3).1 = RX2 ∧ q.1 = RX2 := fun q hq => by cases hq; exact ⟨by decide +kernel, rfl, rfl, rfl⟩
theorem V0_cast {g : Gz} {l : Launch} {nm own : String} {cc : ByteArray} {nL : Nat} {rt : Option FieldType} {R : Room} {kc ks n kc' ks' n' : Nat} {h : Nat → va_E} {Fn : Array Value → List Frame → State → State → Prop} {pc : Nat} {lv : List (Nat × Value)} {st : List Value} (e1 : n = n') (e2 : kc = kc') (e3 : ks = ks') (k : V0 g l nm own cc nL rt R Fn pc lv st n h kc ks) : V0 g l nm own cc nL rt R Fn pc lv st n' h kc' ks' := by
  subst e1; subst e2; subst e3; exact k
set_option maxHeartbeats 4000000 in
set_option maxRecDepth 100000 in
theorem i_X2 (g : Gz) (l : Launch) (j n : Nat) (h : Nat → va_E) (hjn : j < n) (hj : h j = .inr (2, [.null, .null, .null, .null, .int 0, .int 0])) : CtI g l yX2_init cX2_init 2 2 43 127 1054 [.ref (g.2.2 + j)] n h (hL h j (.inr (2, [.ref (g.2.2 + (n + 0)), .ref (g.2.2 + (n + 1)), .ref (g.2.2 + (n + 2)), .ref (g.2.2 + (n + 3)), .int 0, .int 0])) n ([.inl (g.2.1 0, 10, .inl (fun _ => 0)), rfs g 3 30 30 (n + 4) 1, .inl (g.2.1 0, 30, .inl (fun _ => 0)), rfs g 4 31 31 (n + 34) 3] ++ lot (acs g n) 30 ++ lot (mos g (n + 34)) 31)) := by
  have lp2 : ∀ (m i : Nat), i ≤ 31 → 31 < i + m → V0 g l yX2_init.name yX2_init.cls cX2_init 2 none (rmI 2 43 127 1054) (FinI g (n + 127) (hL h j (.inr (2, [.ref (g.2.2 + (n + 0)), .ref (g.2.2 + (n + 1)), .ref (g.2.2 + (n + 2)), .ref (g.2.2 + (n + 3)), .int 0, .int 0])) n ([.inl (g.2.1 0, 10, .inl (fun _ => 0)), rfs g 3 30 30 (n + 4) 1, .inl (g.2.1 0, 30, .inl (fun _ => 0)), rfs g 4 31 31 (n + 34) 3] ++ lot (acs g n) 30 ++ lot (mos g (n + 34)) 31)) 127 1054) 67 [(1, .int (nI i)), (0, .ref (g.2.2 + j))] [] (n + (34 + 3 * i)) (hL h j (.inr (2, [.ref (g.2.2 + (n + 0)), .ref (g.2.2 + (n + 1)), .ref (g.2.2 + (n + 2)), .ref (g.2.2 + (n + 3)), .int 0, .int 0])) n ([.inl (g.2.1 0, 10, .inl (fun _ => 0)), rfs g 3 30 30 (n + 4) 1, .inl (g.2.1 0, 30, .inl (fun _ => 0)), rfs g 4 31 i (n + 34) 3] ++ lot (acs g n) 30 ++ lot (mos g (n + 34)) i)) (34 + 3 * i) (341 + 23 * i) := by
    intro m
    induction m with
    | zero => intro i h1 h2; omega
    | succ m ih =>
      intro i hi hm
      have hlen : ([.inl (g.2.1 0, 10, .inl (fun _ => 0)), rfs g 3 30 30 (n + 4) 1, .inl (g.2.1 0, 30, .inl (fun _ => 0)), rfs g 4 31 i (n + 34) 3] ++ lot (acs g n) 30 ++ lot (mos g (n + 34)) i).length = (34 + 3 * i) := by simp [lot_len (mos g (n + 34)) 3 (fun _ => rfl), lot_len (acs g n) 1 (fun _ => rfl)]; try omega
      refine U_iload_n (q := 0) dX2_init_67 rfl rfl ?_
      refine U_bipush (v := 30) dX2_init_68 (by decide) ?_
      refine U_icmp_gt (tgt := 92) dX2_init_70 (by decide) (fun hc => ?_) (fun hc => ?_)
      · have hNi : 31 ≤ i := (nI_ltI (a := 30) (b := i) (by omega) (by omega)).mp hc
        have hiN : i = 31 := by omega
        subst hiN
        exact U_vret (by omega) (fun _ _ => rfl) dX2_init_92
      · have hlt : i < 31 := Nat.lt_of_not_le (fun q => hc ((nI_ltI (a := 30) (b := i) (by omega) (by omega)).mpr q))
        refine U_aload_n (q := 1) dX2_init_73 rfl rfl ?_
        refine U_getR (o := j) (fs := [.ref (g.2.2 + (n + 0)), .ref (g.2.2 + (n + 1)), .ref (g.2.2 + (n + 2)), .ref (g.2.2 + (n + 3)), .int 0, .int 0]) cf2 fr_X2_26 fl_X2_26 (by omega) hL_j rfl dX2_init_74 ?_
        refine U_iload_n (q := 0) dX2_init_77 rfl rfl ?_
        refine U_newL (n := n) (i := (34 + 3 * i)) (fs := [.null, .null, .int 0]) (ci := 3) hjn hlen tyX4 tyX4_ok (fun j hj => by match j, hj with | 0, _ => rfl | 1, _ => rfl | 2, _ => rfl) rfl (cf3 _ rfl).1 cw_X2_24 ⟨by show _ ≤ (rmI _ _ _ _).cells; simp only [rmI]; omega, by show _ ≤ (rmI _ _ _ _).slots; simp only [rmI]; omega⟩ dX2_init_78 ?_
        refine U_dup dX2_init_81 rfl ?_
        refine U_init (nc := 2) (ns := 20) (fr := 1) (lo := 23) iw_X2_31 ⟨by decide, by show _ ≤ (rmI _ _ _ _).cells; simp only [rmI]; omega, by show _ ≤ (rmI _ _ _ _).slots; simp only [rmI]; omega⟩ dX2_init_82 (Nat.le_of_ble_eq_true rfl) (by omega) (i_X4 g l (n + (34 + 3 * i)) (n + ((34 + 3 * i) + 1)) _ (by omega) (hL_n hjn (by rw [List.getElem?_append_right (by rw [hlen]; exact Nat.le_refl _), hlen, Nat.sub_self]; rfl))) ?_
        have hz : (.inr (3, [.ref (g.2.2 + (n + ((34 + 3 * i) + 1) + 0)), .ref (g.2.2 + (n + ((34 + 3 * i) + 1) + 1)), .int 0]) : va_E) :: [.inl (g.2.1 1, 10, .inr (.inl (fun _ => 0))), .inl (g.2.1 0, 10, .inl (fun k => if k < 10 then 10 else 0))] = mos g (n + 34) i := by
          rw [show (n + ((34 + 3 * i) + 1) + 0) = (n + 34 + 3 * i + 1) by omega, show (n + ((34 + 3 * i) + 1) + 1) = (n + 34 + 3 * i + 2) by omega]
          rfl
        refine U_ext (h' := (hL h j (.inr (2, [.ref (g.2.2 + (n + 0)), .ref (g.2.2 + (n + 1)), .ref (g.2.2 + (n + 2)), .ref (g.2.2 + (n + 3)), .int 0, .int 0])) n ([.inl (g.2.1 0, 10, .inl (fun _ => 0)), rfs g 3 30 30 (n + 4) 1, .inl (g.2.1 0, 30, .inl (fun _ => 0)), rfs g 4 31 i (n + 34) 3] ++ lot (acs g n) 30 ++ lot (mos g (n + 34)) i ++ mos g (n + 34) i))) (fun k _ => (hL_hL hjn hlen k).trans (by rw [hz])) ?_
        refine U_aast (o := n + 3) (v := n + (34 + 3 * i)) (ci := 3) (t := 4) (N := 31) rfl rfl (by omega) (hL_n hjn (by rw [List.getElem?_append_left (by rw [hlen]; omega)]; rfl)) (by omega) (hL_n hjn (by rw [List.getElem?_append_right (by rw [hlen]; exact Nat.le_refl _), hlen, Nat.sub_self]; rfl)) (vp_in_nI hlt (by omega)) dX2_init_85 ?_
        refine U_iinc (q := 0) (y := nI (i + 1)) (lv' := [(1, .int (nI (i + 1))), (0, .ref (g.2.2 + j))]) dX2_init_86 rfl (nI_1 i) (by decide) rfl ?_
        refine U_goto (tgt := 67) dX2_init_89 (by decide) ?_
        have hgo := ih (i + 1) (by omega) (by omega)
        rw [lot_s (mos g (n + 34)) i] at hgo
        refine V0_cast (by omega) (by omega) (by omega) (U_ext (fun k _ => ?_) hgo)
        rw [hL_set hjn (by simp only [List.length_append, List.length_cons]; omega) k, nI_clamp (show i < 2 ^ 31 by omega), rfs_up (n + (34 + 3 * i)) (by omega)]
        simp only [List.append_assoc, List.cons_append, List.nil_append, List.set_cons_succ, List.set_cons_zero]
        rfl
  have lp1 : ∀ (m i : Nat), i ≤ 30 → 30 < i + m → V0 g l yX2_init.name yX2_init.cls cX2_init 2 none (rmI 2 43 127 1054) (FinI g (n + 127) (hL h j (.inr (2, [.ref (g.2.2 + (n + 0)), .ref (g.2.2 + (n + 1)), .ref (g.2.2 + (n + 2)), .ref (g.2.2 + (n + 3)), .int 0, .int 0])) n ([.inl (g.2.1 0, 10, .inl (fun _ => 0)), rfs g 3 30 30 (n + 4) 1, .inl (g.2.1 0, 30, .inl (fun _ => 0)), rfs g 4 31 31 (n + 34) 3] ++ lot (acs g n) 30 ++ lot (mos g (n + 34)) 31)) 127 1054) 40 [(1, .int (nI i)), (0, .ref (g.2.2 + j))] [] (n + (4 + i)) (hL h j (.inr (2, [.ref (g.2.2 + (n + 0)), .ref (g.2.2 + (n + 1)), .ref (g.2.2 + (n + 2)), .ref (g.2.2 + (n + 3)), .int 0, .int 0])) n ([.inl (g.2.1 0, 10, .inl (fun _ => 0)), rfs g 3 30 i (n + 4) 1, .inl (g.2.1 0, 30, .inl (fun _ => 0)), rfs g 4 31 0 (n + 34) 3] ++ lot (acs g n) i)) (4 + 1 * i) (101 + 8 * i) := by
    intro m
    induction m with
    | zero => intro i h1 h2; omega
    | succ m ih =>
      intro i hi hm
      have hlen : ([.inl (g.2.1 0, 10, .inl (fun _ => 0)), rfs g 3 30 i (n + 4) 1, .inl (g.2.1 0, 30, .inl (fun _ => 0)), rfs g 4 31 0 (n + 34) 3] ++ lot (acs g n) i).length = (4 + i) := by simp [lot_len (acs g n) 1 (fun _ => rfl), lot_len (acs g n) 1 (fun _ => rfl)]; try omega
      refine U_iload_n (q := 0) dX2_init_40 rfl rfl ?_
      refine U_bipush (v := 30) dX2_init_41 (by decide) ?_
      refine U_icmp_ge (tgt := 65) dX2_init_43 (by decide) (fun hc => ?_) (fun hc => ?_)
      · have hNi : 30 ≤ i := (nI_leI (a := 30) (b := i) (by omega) (by omega)).mp hc
        have hiN : i = 30 := by omega
        subst hiN
        refine U_iconst (v := 0) dX2_init_65 (by decide) ?_
        refine U_istore_n (lv' := [(1, .int 0), (0, .ref (g.2.2 + j))]) dX2_init_66 rfl (by decide) rfl ?_
        refine V0_cast rfl rfl rfl (U_ext (fun k _ => ?_) (lp2 32 0 (by omega) (by omega)))
        simp [lot]
      · have hlt : i < 30 := Nat.lt_of_not_le (fun q => hc ((nI_leI (a := 30) (b := i) (by omega) (by omega)).mpr q))
        refine U_aload_n (q := 1) dX2_init_46 rfl rfl ?_
        refine U_getR (o := j) (fs := [.ref (g.2.2 + (n + 0)), .ref (g.2.2 + (n + 1)), .ref (g.2.2 + (n + 2)), .ref (g.2.2 + (n + 3)), .int 0, .int 0]) cf2 fr_X2_17 fl_X2_17 (by omega) hL_j rfl dX2_init_47 ?_
        refine U_iload_n (q := 0) dX2_init_50 rfl rfl ?_
        refine U_newL (n := n) (i := (4 + i)) (fs := [.int 0, .int 0, .int 0, .int 0, .long 0, .int 0, .int 0, .long 0]) (ci := 0) hjn hlen tyX0 tyX0_ok (fun j hj => by match j, hj with | 0, _ => rfl | 1, _ => rfl | 2, _ => rfl | 3, _ => rfl | 4, _ => rfl | 5, _ => rfl | 6, _ => rfl | 7, _ => rfl) rfl (cf0 _ rfl).1 cw_X2_15 ⟨by show _ ≤ (rmI _ _ _ _).cells; simp only [rmI]; omega, by show _ ≤ (rmI _ _ _ _).slots; simp only [rmI]; omega⟩ dX2_init_51 ?_
        refine U_dup dX2_init_54 rfl ?_
        refine U_initN (nc := 0) (ns := 0) (fr := 1) (lo := 12) iw_X2_30 ⟨by decide, by show _ ≤ (rmI _ _ _ _).cells; simp only [rmI]; omega, by show _ ≤ (rmI _ _ _ _).slots; simp only [rmI]; omega⟩ dX2_init_55 (Nat.le_of_ble_eq_true rfl) (by omega) (i_X0 g l _ _ _) ?_
        refine U_ext (h' := (hL h j (.inr (2, [.ref (g.2.2 + (n + 0)), .ref (g.2.2 + (n + 1)), .ref (g.2.2 + (n + 2)), .ref (g.2.2 + (n + 3)), .int 0, .int 0])) n ([.inl (g.2.1 0, 10, .inl (fun _ => 0)), rfs g 3 30 i (n + 4) 1, .inl (g.2.1 0, 30, .inl (fun _ => 0)), rfs g 4 31 0 (n + 34) 3] ++ lot (acs g n) i ++ acs g n i))) (fun _ _ => rfl) ?_
        refine U_aast (o := n + 1) (v := n + (4 + i)) (ci := 0) (t := 3) (N := 30) rfl rfl (by omega) (hL_n hjn (by rw [List.getElem?_append_left (by rw [hlen]; omega)]; rfl)) (by omega) (hL_n hjn (by rw [List.getElem?_append_right (by rw [hlen]; exact Nat.le_refl _), hlen, Nat.sub_self]; rfl)) (vp_in_nI hlt (by omega)) dX2_init_58 ?_
        refine U_iinc (q := 0) (y := nI (i + 1)) (lv' := [(1, .int (nI (i + 1))), (0, .ref (g.2.2 + j))]) dX2_init_59 rfl (nI_1 i) (by decide) rfl ?_
        refine U_goto (tgt := 40) dX2_init_62 (by decide) ?_
        have hgo := ih (i + 1) (by omega) (by omega)
        rw [lot_s (acs g n) i] at hgo
        refine V0_cast (by omega) (by omega) (by omega) (U_ext (fun k _ => ?_) hgo)
        rw [hL_set hjn (by simp only [List.length_append, List.length_cons]; omega) k, nI_clamp (show i < 2 ^ 31 by omega), rfs_up (n + (4 + i)) (by omega)]
        simp only [List.append_assoc, List.cons_append, List.nil_append, List.set_cons_succ, List.set_cons_zero]
        rfl
  refine CtI.ofV (by decide) (Nat.le_of_ble_eq_true rfl) ?_
  refine U_ext (hL_nil hj) ?_
  refine U_aload_n (q := 0) dX2_init_0 rfl rfl ?_
  refine U_obj oi_X2 ⟨by decide, by decide⟩ dX2_init_1 ?_
  refine U_aload_n (q := 0) dX2_init_4 rfl rfl ?_
  refine U_bipush (v := 10) dX2_init_5 (by decide) ?_
  refine U_newaL (atype := .int) (ty := .int) (n := n) (i := 0) (L := []) (N := 10) (v := 10) (a0 := (10, .inl (fun _ => 0))) hjn rfl rfl (t := 0) rfl (ha_int 10) ac_int ⟨by decide, by decide, by decide⟩ (by decide) dX2_init_7 ?_
  refine U_putR (n := n) (i := 1) (fs := [.null, .null, .null, .null, .int 0, .int 0]) (L := [.inl (g.2.1 0, 10, .inl (fun _ => 0))]) cf2 fr_X2_9 pf_2_0 ⟨rfl, rfl⟩ rfl fl_X2_9 (by omega) (Nat.le_of_ble_eq_true rfl) dX2_init_9 ?_
  refine U_aload_n (q := 0) dX2_init_12 rfl rfl ?_
  refine U_bipush (v := 30) dX2_init_13 (by decide) ?_
  refine U_anewL (n := n) (i := 1) (L := [.inl (g.2.1 0, 10, .inl (fun _ => 0))]) (N := 30) (v := 30) (t := 3) hjn rfl rfl (by decide) cw_X2_15.1 ⟨by decide, by decide, by decide⟩ (by decide) dX2_init_15 ?_
  refine U_putR (n := n) (i := 2) (fs := [.ref (g.2.2 + (n + 0)), .null, .null, .null, .int 0, .int 0]) (L := [.inl (g.2.1 0, 10, .inl (fun _ => 0)), .inl (g.2.1 3, 30, .inr (.inr (.inr (.inr (fun _ => none)))))]) cf2 fr_X2_17 pf_2_1 ⟨rfl, rfl⟩ rfl fl_X2_17 (by omega) (Nat.le_of_ble_eq_true rfl) dX2_init_18 ?_
  refine U_aload_n (q := 0) dX2_init_21 rfl rfl ?_
  refine U_bipush (v := 30) dX2_init_22 (by decide) ?_
  refine U_newaL (atype := .int) (ty := .int) (n := n) (i := 2) (L := [.inl (g.2.1 0, 10, .inl (fun _ => 0)), .inl (g.2.1 3, 30, .inr (.inr (.inr (.inr (fun _ => none)))))]) (N := 30) (v := 30) (a0 := (30, .inl (fun _ => 0))) hjn rfl rfl (t := 0) rfl (ha_int 30) ac_int ⟨by decide, by decide, by decide⟩ (by decide) dX2_init_24 ?_
  refine U_putR (n := n) (i := 3) (fs := [.ref (g.2.2 + (n + 0)), .ref (g.2.2 + (n + 1)), .null, .null, .int 0, .int 0]) (L := [.inl (g.2.1 0, 10, .inl (fun _ => 0)), .inl (g.2.1 3, 30, .inr (.inr (.inr (.inr (fun _ => none))))), .inl (g.2.1 0, 30, .inl (fun _ => 0))]) cf2 fr_X2_21 pf_2_2 ⟨rfl, rfl⟩ rfl fl_X2_21 (by omega) (Nat.le_of_ble_eq_true rfl) dX2_init_26 ?_
  refine U_aload_n (q := 0) dX2_init_29 rfl rfl ?_
  refine U_bipush (v := 31) dX2_init_30 (by decide) ?_
  refine U_anewL (n := n) (i := 3) (L := [.inl (g.2.1 0, 10, .inl (fun _ => 0)), .inl (g.2.1 3, 30, .inr (.inr (.inr (.inr (fun _ => none))))), .inl (g.2.1 0, 30, .inl (fun _ => 0))]) (N := 31) (v := 31) (t := 4) hjn rfl rfl (by decide) cw_X2_24.1 ⟨by decide, by decide, by decide⟩ (by decide) dX2_init_32 ?_
  refine U_putR (n := n) (i := 4) (fs := [.ref (g.2.2 + (n + 0)), .ref (g.2.2 + (n + 1)), .ref (g.2.2 + (n + 2)), .null, .int 0, .int 0]) (L := [.inl (g.2.1 0, 10, .inl (fun _ => 0)), .inl (g.2.1 3, 30, .inr (.inr (.inr (.inr (fun _ => none))))), .inl (g.2.1 0, 30, .inl (fun _ => 0)), .inl (g.2.1 4, 31, .inr (.inr (.inr (.inr (fun _ => none)))))]) cf2 fr_X2_26 pf_2_3 ⟨rfl, rfl⟩ rfl fl_X2_26 (by omega) (Nat.le_of_ble_eq_true rfl) dX2_init_35 ?_
  refine U_iconst (v := 0) dX2_init_38 (by decide) ?_
  refine U_istore_n (lv' := [(1, .int 0), (0, .ref (g.2.2 + j))]) dX2_init_39 rfl (by decide) rfl ?_
  refine V0_cast rfl rfl rfl (U_ext (fun k _ => ?_) (lp1 31 0 (by omega) (by omega)))
  simp [lot, rfs_0]
