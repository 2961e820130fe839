/-! objects in the making: cells lie one behind another from z on -/
def WZ (z n : Nat) (h : Nat → va_E) : va_W := (List.range n).map (fun k => (z + k, h k))
theorem WZ_at {z n k : Nat} {h : Nat → va_E} (hk : k < n) : (WZ z n h)[k]? = some (z + k, h k) := by simp [WZ, hk]
theorem WZ_D {z n : Nat} {h : Nat → va_E} : va_D (fun q => z ≤ q) (WZ z n h) := by
  have key : ∀ (k : Nat) (q : Nat × va_E), (WZ z n h)[k]? = some q → k < n ∧ q.1 = z + k := by
    intro k q hk
    have hl : k < n := by
      have := (List.getElem?_eq_some_iff.mp hk).1
      simpa [WZ] using this
    rw [WZ_at hl] at hk
    cases hk
    exact ⟨hl, rfl⟩
  refine ⟨fun i j x y hi hj hxy => ?_, fun k q hk => ?_⟩
  · have a := (key i x hi).2
    have b := (key j y hj).2
    omega
  · have a := (key k q hk).2
    show z ≤ q.1
    omega
theorem WZ_set {z n o : Nat} {h : Nat → va_E} {e : va_E} (ho : o < n) : (WZ z n h).set o (z + o, e) = WZ z n (va_up h o e) := by
  apply List.ext_getElem?
  intro i
  by_cases hi : i < n
  · by_cases hio : i = o
    · subst hio
      rw [List.getElem?_set_self (by simpa [WZ] using hi), WZ_at hi]
      simp [va_up]
    · rw [List.getElem?_set_ne (Ne.symm hio), WZ_at hi, WZ_at hi]
      simp [va_up, hio]
  · rw [List.getElem?_eq_none (by simp [WZ]; omega), List.getElem?_eq_none (by simp [WZ]; omega)]
theorem WZ_push {z n : Nat} {h : Nat → va_E} {e : va_E} : WZ z n h ++ [(z + n, e)] = WZ z (n + 1) (va_up h n e) := by
  apply List.ext_getElem?
  intro i
  rcases Nat.lt_trichotomy i n with hi | hi | hi
  · rw [List.getElem?_append_left (by simpa [WZ] using hi), WZ_at hi, WZ_at (by omega)]
    have : i ≠ n := by omega
    simp [va_up, this]
  · subst hi
    rw [WZ_at (by omega), List.getElem?_append_right (by simp [WZ])]
    simp [WZ, va_up]
  · rw [List.getElem?_eq_none (by simp [WZ]; omega), List.getElem?_eq_none (by simp [WZ]; omega)]
theorem WZ_last {z n q : Nat} {h : Nat → va_E} {e : va_E} : (WZ z n h ++ [(q, e)])[n]? = some (q, e) := by
  rw [List.getElem?_append_right (by simp [WZ])]
  simp [WZ]
theorem WZ_old {z n q k : Nat} {h : Nat → va_E} {e : va_E} (hk : k < n) : (WZ z n h ++ [(q, e)])[k]? = some (z + k, h k) := by
  rw [List.getElem?_append_left (by simpa [WZ] using hk), WZ_at hk]
theorem WZ_ext {z n : Nat} {h h' : Nat → va_E} (e : ∀ k, k < n → h k = h' k) : WZ z n h = WZ z n h' := by
  apply List.ext_getElem?
  intro i
  by_cases hi : i < n
  · rw [WZ_at hi, WZ_at hi, e i hi]
  · rw [List.getElem?_eq_none (by simp [WZ]; omega), List.getElem?_eq_none (by simp [WZ]; omega)]
def isNM : Cond → Bool
  | .methodLinkNest .. => true
  | _ => false
def nmT : List Cond := lw_tbl.filter isNM
theorem inNM {w : Cond} (h : w ∈ lw_tbl) (g : isNM w = true) : w ∈ nmT := List.mem_filter.mpr ⟨h, g⟩
def aoL : List String := ["ShireLines$Act", "ShireLines$Moment", "ShireLines$Chart", "ShireLines$Sheet"]
abbrev Gz : Type := va_G × (Nat → ClassId) × Nat
def GS0 (g : Gz) (s : State) : Prop := va_K g.1 vwCl (tysL g.2.1) s ∧ (∀ w ∈ nmT, va_Nw w s) ∧ (∀ C ∈ aoL, va_AO C s) ∧ g.2.2 ≤ s.heap.size
theorem nm_warm {w : Cond} (hw : w ∈ nmT) {s U : State} (hW : s.WarmedH U.vm) (h : va_Nw w s) : va_Nw w U := by
  have g := (List.mem_filter.mp hw).2
  cases w <;> first | exact va_Nw.warmM hW h | (simp [isNM] at g; done)
theorem nm_on {w : Cond} (hw : w ∈ nmT) : w.onTables = true := by
  have g := (List.mem_filter.mp hw).2
  cases w <;> first | rfl | (simp [isNM] at g; done)
theorem GS0.warm {g : Gz} {s U : State} {H : Heap} {locs : List Loc} {A : Nat → Prop} (h : GS0 g s) (hS : va_S A s.heap H locs) (hU : U.heap = H) (hW : s.WarmedH U.vm) : GS0 g U := by
  obtain ⟨h1, h2, h3, h4⟩ := h
  exact ⟨va_K.moved hW.alike h1, fun w hw => nm_warm hw hW (h2 w hw), fun C hC => va_AO.moved hW.alike (h3 C hC), by rw [hU]; exact Nat.le_trans h4 hS.1⟩
theorem GS0.blind {g : Gz} {U : State} {f : JFrame} {mk : MethodId} {a : Array Value} (h : GS0 g U) : GS0 g (U.calling f mk a) := by
  obtain ⟨h1, h2, h3, h4⟩ := h
  exact ⟨va_K.moved (u := U) (U := U.calling f mk a) (Vm.Alike.refl U.vm) h1, fun w hw => va_Nw.same (u := U) (U := U.calling f mk a) (nm_on hw) rfl (h2 w hw), fun C hC => va_AO.moved (u := U) (U := U.calling f mk a) (Vm.Alike.refl U.vm) (h3 C hC), h4⟩
def Cx0 (g : Gz) (nm own : String) (cc : ByteArray) (nL : Nat) (rt : Option FieldType) (p : Program) (s : State) (m : MethodId) (args : Array Value) (meth : Method) (c : Code) : Prop :=
  p.tables.exec = Jvm.exec ∧ c.code = cc ∧ meth.sig.returnType = rt ∧ meth.locks = false ∧ c.maxLocals = nL ∧ s.vm.findClass own = some m.cls ∧ (∀ w ∈ lwT, w.before args s = true) ∧ GS0 g s ∧ meth.name = nm
def V0 (g : Gz) (l : Launch) (nm own : String) (cc : ByteArray) (nL : Nat) (rt : Option FieldType) (R : Room) (Fn : Array Value → List Frame → State → State → Prop) (pc : Nat) (lv : List (Nat × Value)) (st : List Value) (n : Nat) (h : Nat → va_E) (kc ks : Nat) : Prop :=
  ∀ (p : Program) (e : Env) (s : State) (m : MethodId) (args : Array Value) (below : List Frame) (meth : Method) (c : Code) (H : Heap) (locs : List Loc) (ls : Array Slot), Cx0 g nm own cc nL rt p s m args meth c → s.heap.size + kc = g.2.2 + n → va_P g.1 vwCl (WZ g.2.2 n h) H → va_S (fun q => g.2.2 ≤ q) s.heap H locs → lv_has ls nL lv →
    W p l e R s m args below meth c H locs kc ks (Fn args below s) (F0 m pc ls st)
section UROWS
variable {g : Gz} {l : Launch} {nm own : String} {cc : ByteArray} {nL : Nat} {rt : Option FieldType} {R : Room} {kc ks n : Nat} {h : Nat → va_E} {Fn : Array Value → List Frame → State → State → Prop} {pc : Nat} {lv : List (Nat × Value)} {st : List Value}
theorem U_iconst {i : Int} {v : Int32} (hd : decode cc pc = .ok (.iconst i, 1)) (hv : Int32.ofInt i = v) (k : V0 g l nm own cc nL rt R Fn (pc + 1) lv (.int v :: st) n h kc ks) : V0 g l nm own cc nL rt R Fn pc lv (st) n h kc ks := fun p e s m args below meth c H locs ls C hn hP hS hl => lv_iconst C.1 C.2.1 hd hv (k p e s m args below meth c H locs ls C hn hP hS hl)
theorem U_bipush {i : Int} {v : Int32} (hd : decode cc pc = .ok (.bipush i, 2)) (hv : (Int8.ofInt i).toInt32 = v) (k : V0 g l nm own cc nL rt R Fn (pc + 2) lv (.int v :: st) n h kc ks) : V0 g l nm own cc nL rt R Fn pc lv (st) n h kc ks := fun p e s m args below meth c H locs ls C hn hP hS hl => lv_bipush C.1 C.2.1 hd hv (k p e s m args below meth c H locs ls C hn hP hS hl)
theorem U_sipush {i : Int} {v : Int32} (hd : decode cc pc = .ok (.sipush i, 3)) (hv : (Int16.ofInt i).toInt32 = v) (k : V0 g l nm own cc nL rt R Fn (pc + 3) lv (.int v :: st) n h kc ks) : V0 g l nm own cc nL rt R Fn pc lv (st) n h kc ks := fun p e s m args below meth c H locs ls C hn hP hS hl => lv_sipush C.1 C.2.1 hd hv (k p e s m args below meth c H locs ls C hn hP hS hl)
theorem U_iload_n {kk : Fin 4} {i q : Nat} {x : Int32} (hd : decode cc pc = .ok (.iload_n kk, 1)) (hi : (kk : Nat) = i) (hq : lv[q]? = some (i, .int x)) (k : V0 g l nm own cc nL rt R Fn (pc + 1) lv (.int x :: st) n h kc ks) : V0 g l nm own cc nL rt R Fn pc lv (st) n h kc ks := fun p e s m args below meth c H locs ls C hn hP hS hl => lv_iload_n C.1 C.2.1 hd hi (lv_at hl q hq) (k p e s m args below meth c H locs ls C hn hP hS hl)
theorem U_aload_n {kk : Fin 4} {i q : Nat} {x : Nat} (hd : decode cc pc = .ok (.aload_n kk, 1)) (hi : (kk : Nat) = i) (hq : lv[q]? = some (i, .ref x)) (k : V0 g l nm own cc nL rt R Fn (pc + 1) lv (.ref x :: st) n h kc ks) : V0 g l nm own cc nL rt R Fn pc lv (st) n h kc ks := fun p e s m args below meth c H locs ls C hn hP hS hl => lv_aload_n C.1 C.2.1 hd hi (lv_at hl q hq) (k p e s m args below meth c H locs ls C hn hP hS hl)
theorem U_dup {va : Value} (hd : decode cc pc = .ok (.dup, 1)) (hc : va.category = 1) (k : V0 g l nm own cc nL rt R Fn (pc + 1) lv (va :: va :: st) n h kc ks) : V0 g l nm own cc nL rt R Fn pc lv (va :: st) n h kc ks := fun p e s m args below meth c H locs ls C hn hP hS hl => lv_dup C.1 C.2.1 hd hc (k p e s m args below meth c H locs ls C hn hP hS hl)
theorem U_goto {off : Int} {tgt : Nat} (hd : decode cc pc = .ok (.goto off, 3)) (ht : (pc : Int) + off = (tgt : Int)) (k : V0 g l nm own cc nL rt R Fn tgt lv (st) n h kc ks) : V0 g l nm own cc nL rt R Fn pc lv (st) n h kc ks := fun p e s m args below meth c H locs ls C hn hP hS hl => lv_goto C.1 C.2.1 hd ht (k p e s m args below meth c H locs ls C hn hP hS hl)
theorem U_istore_n {kk : Fin 4} {i : Nat} {x : Int32} {lv' : List (Nat × Value)} (hd : decode cc pc = .ok (.istore_n kk, 1)) (hi : (kk : Nat) = i) (hm : i < nL) (hf : (i, .int x) :: lv.filter (fun q => !(q.1 == i) && !(q.1 + 1 == i && q.2.category == 2)) = lv') (k : V0 g l nm own cc nL rt R Fn (pc + 1) lv' st n h kc ks) : V0 g l nm own cc nL rt R Fn pc lv (.int x :: st) n h kc ks := fun p e s m args below meth c H locs ls C hn hP hS hl => lv_istore_n C.1 C.2.1 hd hi hl hm hf (fun ls' hl' => k p e s m args below meth c H locs ls' C hn hP hS hl')
theorem U_astore_n {kk : Fin 4} {i : Nat} {x : Nat} {lv' : List (Nat × Value)} (hd : decode cc pc = .ok (.astore_n kk, 1)) (hi : (kk : Nat) = i) (hm : i < nL) (hf : (i, .ref x) :: lv.filter (fun q => !(q.1 == i) && !(q.1 + 1 == i && q.2.category == 2)) = lv') (k : V0 g l nm own cc nL rt R Fn (pc + 1) lv' st n h kc ks) : V0 g l nm own cc nL rt R Fn pc lv (.ref x :: st) n h kc ks := fun p e s m args below meth c H locs ls C hn hP hS hl => lv_astore_n C.1 C.2.1 hd hi hl hm hf (fun ls' hl' => k p e s m args below meth c H locs ls' C hn hP hS hl')
theorem U_iinc {i q : Nat} {a : Int} {x y : Int32} {lv' : List (Nat × Value)} (hd : decode cc pc = .ok (.iinc i a, 3)) (hq : lv[q]? = some (i, .int x)) (hv : x + Int32.ofInt a = y) (hm : i < nL) (hf : (i, .int y) :: lv.filter (fun q => !(q.1 == i) && !(q.1 + 1 == i && q.2.category == 2)) = lv') (k : V0 g l nm own cc nL rt R Fn (pc + 3) lv' st n h kc ks) : V0 g l nm own cc nL rt R Fn pc lv st n h kc ks := fun p e s m args below meth c H locs ls C hn hP hS hl => lv_iinc C.1 C.2.1 hd hl hq hv hm hf (fun ls' hl' => k p e s m args below meth c H locs ls' C hn hP hS hl')
theorem U_icmp_ge {x y : Int32} {off : Int} {tgt : Nat} (hd : decode cc pc = .ok (.if_icmp .ge off, 3)) (ht : (pc : Int) + off = (tgt : Int)) (kt : y ≤ x → V0 g l nm own cc nL rt R Fn tgt lv st n h kc ks) (kf : ¬ y ≤ x → V0 g l nm own cc nL rt R Fn (pc + 3) lv st n h kc ks) : V0 g l nm own cc nL rt R Fn pc lv (.int y :: .int x :: st) n h kc ks := fun p e s m args below meth c H locs ls C hn hP hS hl => lv_icmp_ge C.1 C.2.1 hd ht (fun z => kt z p e s m args below meth c H locs ls C hn hP hS hl) (fun z => kf z p e s m args below meth c H locs ls C hn hP hS hl)
theorem U_icmp_gt {x y : Int32} {off : Int} {tgt : Nat} (hd : decode cc pc = .ok (.if_icmp .gt off, 3)) (ht : (pc : Int) + off = (tgt : Int)) (kt : y < x → V0 g l nm own cc nL rt R Fn tgt lv st n h kc ks) (kf : ¬ y < x → V0 g l nm own cc nL rt R Fn (pc + 3) lv st n h kc ks) : V0 g l nm own cc nL rt R Fn pc lv (.int y :: .int x :: st) n h kc ks := fun p e s m args below meth c H locs ls C hn hP hS hl => lv_icmp_gt C.1 C.2.1 hd ht (fun z => kt z p e s m args below meth c H locs ls C hn hP hS hl) (fun z => kf z p e s m args below meth c H locs ls C hn hP hS hl)
theorem new_at {T : State} {p : Program} {e : Env} {s : State} {m : MethodId} {args : Array Value} {below : List Frame} {meth : Method} {c : Code} {locs : List Loc} {H1 : Heap} {q : Nat} {x : va_E} (hn : s.heap.size + kc = g.2.2 + n) (hP1 : va_P g.1 vwCl (WZ g.2.2 n h ++ [(q, x)]) H1) (hD1 : va_D (fun q => g.2.2 ≤ q) (WZ g.2.2 n h ++ [(q, x)])) (hT : T.heap = H1) (X : Stand p l e R s m args below meth c T locs (kc + 1) ks) : q = g.2.2 + n := by
  have h1 : g.2.2 ≤ q := hD1.2 n (q, x) WZ_last
  have h2 : ¬ q < g.2.2 + n := by
    intro w
    have := hD1.1 (q - g.2.2) n _ _ (WZ_old (k := q - g.2.2) (by omega)) WZ_last (by show g.2.2 + (q - g.2.2) = q; omega)
    omega
  have h3 : q < H1.size := (hP1 n (q, x) WZ_last).lt
  have h4 : T.heap.size ≤ s.heap.size + (kc + 1) := X.same.2.2.1
  rw [hT] at h4
  omega
theorem U_new {C : String} {Tt : u_T} {N ci idx : Nat} {fs : List Value} (ty : Nat → FieldType) (hty : ∀ k, k < N → parseFieldDescriptor (Tt k).2.2.1 = some (ty k)) (hfs : ∀ j, j < N → defaultValue (ty j) = vp_V fs j) (hc : vwCl[ci]? = some (C, Tt, N)) (hin : ∀ w ∈ u_ws C Tt N, w ∈ lwT) (hw : Cond.classLink own idx C ∈ lwT ∧ Cond.instantiable C N ∈ lwT ∧ Cond.initialized C ∈ lwT) (hR : kc + 1 ≤ R.cells ∧ ks + N ≤ R.slots) (hd : decode cc pc = .ok (.new idx, 3)) (k : V0 g l nm own cc nL rt R Fn (pc + 3) lv (.ref (g.2.2 + n) :: st) (n + 1) (va_up h n (.inr (ci, fs))) (kc + 1) (ks + N)) : V0 g l nm own cc nL rt R Fn pc lv st n h kc ks := by
  intro p e s m args below meth c H locs ls C0 hn hP hS hl
  obtain ⟨C1, C2, C3, C4, C5, C6, C7, C8, C9⟩ := id C0
  refine va_new (A := fun q => g.2.2 ≤ q) C1 C2 C7 hin ty hty C6 (C7 _ hw.1) (C7 _ hw.2.1) (C7 _ hw.2.2) C8.1 hP WZ_D hS (fun q hq => Nat.le_trans C8.2.2.2 hq) hc hfs hR.1 hR.2 hd (fun q H1 hP1 hD1 hS1 => ?_)
  intro T hT X
  have hq := new_at hn hP1 hD1 hT X
  subst hq
  rw [WZ_push] at hP1
  exact k p e s m args below meth c H1 locs ls C0 (by omega) hP1 hS1 hl T hT X
theorem ra_eq {s : State} {a b : ClassId} {ty : FieldType} (h1 : va_RA s a ty) (h2 : va_RA s b ty) : a = b := by
  cases ty with
  | object C =>
    obtain ⟨_, _, _, _, _, e1⟩ := h1
    obtain ⟨_, _, _, _, _, e2⟩ := h2
    exact Option.some.inj (e1.symm.trans e2)
  | _ => exact Option.some.inj (Eq.trans (Eq.symm h1) h2)
theorem K_last {s : State} {c0 : ClassId} {ty : FieldType} {t : Nat} {c1 : ClassId} (hK : va_K g.1 vwCl (tysL g.2.1) s) (hK1 : va_K g.1 vwCl (tysL g.2.1 ++ [(c0, ty)]) s) (ht : (tysL g.2.1)[t]? = some (c1, ty)) : c0 = c1 := ra_eq (hK1.2 7 (c0, ty) rfl).2 (hK.2 t _ ht).2
theorem U_newa {atype : ArrayType} {ty : FieldType} {t N : Nat} {v : Int32} {c1 : ClassId} {a0 : vp_A} (hty : newarray.typeOf atype = ty) (ht : (tysL g.2.1)[t]? = some (c1, ty)) (ha : ∀ cA : ClassId, vp_cell cA a0 = arrV cA N (fun _ => defaultValue ty)) (hw : Cond.arrayClass (newarray.typeOf atype) ∈ lwT) (hv : ¬ v < 0 ∧ v.toNatClampNeg = N ∧ N * componentBytes ty ≤ 536870912) (hR : kc + 1 ≤ R.cells ∧ ks + N ≤ R.slots) (hd : decode cc pc = .ok (.newarray atype, 2)) (k : V0 g l nm own cc nL rt R Fn (pc + 2) lv (.ref (g.2.2 + n) :: st) (n + 1) (va_up h n (.inl (c1, a0))) (kc + 1) (ks + N)) : V0 g l nm own cc nL rt R Fn pc lv (.int v :: st) n h kc ks := by
  intro p e s m args below meth c H locs ls C0 hn hP hS hl
  obtain ⟨C1, C2, C3, C4, C5, C6, C7, C8, C9⟩ := id C0
  refine va_newa (A := fun q => g.2.2 ≤ q) C1 C2 (C7 _ hw) hty C8.1 hP WZ_D hS (fun q hq => Nat.le_trans C8.2.2.2 hq) ha hv.1 hv.2.1 hv.2.2 hR.1 hR.2 hd (fun q cA H1 hK1 hP1 hD1 hS1 => ?_)
  intro T hT X
  have hcA := K_last C8.1 hK1 ht
  subst hcA
  have hq := new_at hn hP1 hD1 hT X
  subst hq
  rw [WZ_push] at hP1
  exact k p e s m args below meth c H1 locs ls C0 (by omega) hP1 hS1 hl T hT X
theorem U_anew {C : String} {idx t N : Nat} {v : Int32} {c1 : ClassId} (ht : (tysL g.2.1)[t]? = some (c1, .object C)) (hao : C ∈ aoL) (hw : Cond.classLink own idx C ∈ lwT) (hv : ¬ v < 0 ∧ v.toNatClampNeg = N ∧ N * 4 ≤ 536870912) (hR : kc + 1 ≤ R.cells ∧ ks + N ≤ R.slots) (hd : decode cc pc = .ok (.anewarray idx, 3)) (k : V0 g l nm own cc nL rt R Fn (pc + 3) lv (.ref (g.2.2 + n) :: st) (n + 1) (va_up h n (.inl (c1, N, .inr (.inr (.inr (.inr (fun _ => none))))))) (kc + 1) (ks + N)) : V0 g l nm own cc nL rt R Fn pc lv (.int v :: st) n h kc ks := by
  intro p e s m args below meth c H locs ls C0 hn hP hS hl
  obtain ⟨C1, C2, C3, C4, C5, C6, C7, C8, C9⟩ := id C0
  refine va_newq (A := fun q => g.2.2 ≤ q) C1 C2 C6 (C7 _ hw) (C8.2.2.1 _ hao) C8.1 hP WZ_D hS (fun q hq => Nat.le_trans C8.2.2.2 hq) hv.1 hv.2.1 hv.2.2 hR.1 hR.2 hd (fun q cA H1 hK1 hP1 hD1 hS1 => ?_)
  intro T hT X
  have hcA := K_last C8.1 hK1 ht
  subst hcA
  have hq := new_at hn hP1 hD1 hT X
  subst hq
  rw [WZ_push] at hP1
  exact k p e s m args below meth c H1 locs ls C0 (by omega) hP1 hS1 hl T hT X
theorem U_putF {o ci j idx : Nat} {fs : List Value} {x : Nat} {ty : FieldType} (hcf : CF ci) (hF : FR own idx ci j) (hpt : ∀ q : vw_C, vwCl[ci]? = some q → parseFieldDescriptor (q.2.1 j).2.2.1 = some ty ∧ (q.2.1 j).2.2.2 = true ∧ (q.2.1 j).1 = own ∧ q.1 = own) (hty : narrow ty (.ref x) = .ref x ∧ fits ty (.ref x) = true) (hnm : nm = "<init>") (hlk : ∀ q : vw_C, vwCl[ci]? = some q → Cond.fieldLink own idx (q.2.1 j).1 (q.2.1 j).2.1 (q.2.1 j).2.2.1 ∈ lwT) (ho : o < n) (he : h o = .inr (ci, fs)) (hlen : j < fs.length) (hd : decode cc pc = .ok (.putfield idx, 3)) (k : V0 g l nm own cc nL rt R Fn (pc + 3) lv st n (va_up h o (.inr (ci, fs.set j (.ref x)))) kc ks) : V0 g l nm own cc nL rt R Fn pc lv (.ref x :: .ref (g.2.2 + o) :: st) n h kc ks := by
  intro p e s m args below meth c H locs ls C0 hn hP hS hl
  obtain ⟨C1, C2, C3, C4, C5, C6, C7, C8, C9⟩ := id C0
  obtain ⟨q, hq, hj, h9, -⟩ := hF
  obtain ⟨hin, ty0, hty0, hnm0⟩ := hcf q hq
  obtain ⟨p1, p2, p3, p4⟩ := hpt q hq
  refine va_putF (D := g.1) C1 C2 C7 hin ty0 hty0 hnm0 C6 C8.1 hP WZ_D hS o (by rw [WZ_at ho, he]) hq j hj (C7 _ (hlk q hq)) (fun _ z => z) p2 (by rw [C9]; exact hnm) p3 p1 hty.1 hty.2 hlen hd (fun H1 locs1 hP1 _ hS1 => ?_)
  rw [WZ_set ho] at hP1
  exact k p e s m args below meth c H1 locs1 ls C0 hn hP1 hS1 hl
theorem U_putI {o ci j idx : Nat} {fs : List Value} {x : Int32} (hcf : CF ci) (hF : FR own idx ci j) (hpt : PT ci j .int) (hlk : ∀ q : vw_C, vwCl[ci]? = some q → Cond.fieldLink own idx (q.2.1 j).1 (q.2.1 j).2.1 (q.2.1 j).2.2.1 ∈ lwT) (ho : o < n) (he : h o = .inr (ci, fs)) (hlen : j < fs.length) (hd : decode cc pc = .ok (.putfield idx, 3)) (k : V0 g l nm own cc nL rt R Fn (pc + 3) lv st n (va_up h o (.inr (ci, fs.set j (.int x)))) kc ks) : V0 g l nm own cc nL rt R Fn pc lv (.int x :: .ref (g.2.2 + o) :: st) n h kc ks := by
  intro p e s m args below meth c H locs ls C0 hn hP hS hl
  obtain ⟨C1, C2, C3, C4, C5, C6, C7, C8, C9⟩ := id C0
  obtain ⟨q, hq, hj, h9, -⟩ := hF
  obtain ⟨hin, ty0, hty0, hnm0⟩ := hcf q hq
  obtain ⟨p1, p2⟩ := hpt q hq
  refine va_put (D := g.1) C1 C2 C7 hin ty0 hty0 hnm0 C6 C8.1 hP WZ_D hS o (by rw [WZ_at ho, he]) hq j hj (C7 _ (hlk q hq)) (fun _ z => z) p2 p1 rfl rfl hlen hd (fun H1 locs1 hP1 _ hS1 => ?_)
  rw [WZ_set ho] at hP1
  exact k p e s m args below meth c H1 locs1 ls C0 hn hP1 hS1 hl
theorem U_getR {o ci j idx : Nat} {fs : List Value} {x : Nat} (hcf : CF ci) (hF : FR own idx ci j) (hlk : ∀ q : vw_C, vwCl[ci]? = some q → Cond.fieldLink own idx (q.2.1 j).1 (q.2.1 j).2.1 (q.2.1 j).2.2.1 ∈ lwT) (ho : o < n) (he : h o = .inr (ci, fs)) (hv : fs[j]? = some (.ref x)) (hd : decode cc pc = .ok (.getfield idx, 3)) (k : V0 g l nm own cc nL rt R Fn (pc + 3) lv (.ref x :: st) n h kc ks) : V0 g l nm own cc nL rt R Fn pc lv (.ref (g.2.2 + o) :: st) n h kc ks := by
  intro p e s m args below meth c H locs ls C0 hn hP hS hl
  obtain ⟨C1, C2, C3, C4, C5, C6, C7, C8, C9⟩ := id C0
  obtain ⟨q, hq, hj, h9, -⟩ := hF
  obtain ⟨hin, -⟩ := hcf q hq
  exact va_get (D := g.1) C1 C2 C7 hin C6 C8.1 hP o (by rw [WZ_at ho, he]) hq j hj (C7 _ (hlk q hq)) (fun _ z => z) hv hd (k p e s m args below meth c H locs ls C0 hn hP hS hl)
theorem U_iast {o N : Nat} {f : Nat → Int32} {i x : Int32} (ho : o < n) (he : h o = .inl (g.2.1 0, N, .inl f)) (hin : vp_in i N) (hd : decode cc pc = .ok (.iastore, 1)) (k : V0 g l nm own cc nL rt R Fn (pc + 1) lv st n (va_up h o (.inl (g.2.1 0, N, .inl (upd f i.toNatClampNeg x)))) kc ks) : V0 g l nm own cc nL rt R Fn pc lv (.int x :: .int i :: .ref (g.2.2 + o) :: st) n h kc ks := by
  intro p e s m args below meth c H locs ls C0 hn hP hS hl
  obtain ⟨C1, C2, C3, C4, C5, C6, C7, C8, C9⟩ := id C0
  refine va_iast (D := g.1) C1 C2 C8.1 hP WZ_D hS o 0 (by rw [WZ_at ho, he]) rfl hin hd (fun H1 locs1 hP1 _ hS1 => ?_)
  rw [WZ_set ho] at hP1
  exact k p e s m args below meth c H1 locs1 ls C0 hn hP1 hS1 hl
theorem U_alen {o N : Nat} {f : Nat → Int32} (ho : o < n) (he : h o = .inl (g.2.1 0, N, .inl f)) (hd : decode cc pc = .ok (.arraylength, 1)) (k : V0 g l nm own cc nL rt R Fn (pc + 1) lv (.int (nI N) :: st) n h kc ks) : V0 g l nm own cc nL rt R Fn pc lv (.ref (g.2.2 + o) :: st) n h kc ks := by
  intro p e s m args below meth c H locs ls C0 hn hP hS hl
  obtain ⟨C1, C2, C3, C4, C5, C6, C7, C8, C9⟩ := id C0
  exact va_alen (D := g.1) C1 C2 C8.1 hP o 0 (x := (N, .inl f)) (by rw [WZ_at ho, he]) (ty := .int) rfl rfl hd (k p e s m args below meth c H locs ls C0 hn hP hS hl)
theorem U_aast {o N t v ci : Nat} {r : vw_C} {c1 : ClassId} {vs : List Value} {f : Nat → Option Nat} {i : Int32} (ht : (tysL g.2.1)[t]? = some (c1, .object r.1)) (hc : vwCl[ci]? = some r) (ho : o < n) (he : h o = .inl (c1, N, .inr (.inr (.inr (.inr f))))) (hv : v < n) (hve : h v = .inr (ci, vs)) (hin : vp_in i N) (hd : decode cc pc = .ok (.aastore, 1)) (k : V0 g l nm own cc nL rt R Fn (pc + 1) lv st n (va_up h o (.inl (c1, N, .inr (.inr (.inr (.inr (va_up f i.toNatClampNeg (some (g.2.2 + v)))))))) ) kc ks) : V0 g l nm own cc nL rt R Fn pc lv (.ref (g.2.2 + v) :: .int i :: .ref (g.2.2 + o) :: st) n h kc ks := by
  intro p e s m args below meth c H locs ls C0 hn hP hS hl
  obtain ⟨C1, C2, C3, C4, C5, C6, C7, C8, C9⟩ := id C0
  refine va_astq (D := g.1) C1 C2 C8.1 hP WZ_D hS o t v ci (by rw [WZ_at ho, he]) ht (by rw [WZ_at hv, hve]) hc hin hd (fun H1 locs1 hP1 _ hS1 => ?_)
  rw [WZ_set ho] at hP1
  exact k p e s m args below meth c H1 locs1 ls C0 hn hP1 hS1 hl
def OI (own : String) (idx : Nat) : Prop := Cond.methodLink own idx objectInit ∈ lwT ∧ Cond.instanceMethod objectInit ∈ lwT ∧ Cond.code objectInit ⟨#[0xb1]⟩ 1 none ∈ lwT
theorem U_obj {idx a : Nat} (hw : OI own idx) (hR : 1 ≤ R.frames ∧ (st.map fun v => v.category).sum + 12 ≤ R.locals) (hd : decode cc pc = .ok (.invokespecial idx, 3)) (k : V0 g l nm own cc nL rt R Fn (pc + 3) lv st n h kc ks) : V0 g l nm own cc nL rt R Fn pc lv (.ref a :: st) n h kc ks := by
  intro p e s m args below meth c H locs ls C0 hn hP hS hl
  obtain ⟨C1, C2, C3, C4, C5, C6, C7, C8, C9⟩ := id C0
  exact W.objInit C1 C2 C6 (C7 _ hw.1) (C7 _ hw.2.1) (C7 _ hw.2.2) rfl (by rw [C5]; exact hl.1) rfl hd hR.1 (by show 2 * 0 + _ + 12 ≤ _; have := hR.2; omega) (k p e s m args below meth c H locs ls C0 hn hP hS hl)
theorem U_sub {lv' : List (Nat × Value)} (js : List Nat) (hs : lv_pick lv js = lv') (k : V0 g l nm own cc nL rt R Fn pc lv' st n h kc ks) : V0 g l nm own cc nL rt R Fn pc lv st n h kc ks := fun p e s m args below meth c H locs ls C hn hP hS hl => k p e s m args below meth c H locs ls C hn hP hS (lv_sub hl js hs)
theorem U_ext {h' : Nat → va_E} (e : ∀ k, k < n → h k = h' k) (k : V0 g l nm own cc nL rt R Fn pc lv st n h' kc ks) : V0 g l nm own cc nL rt R Fn pc lv st n h kc ks := fun p e' s m args below meth c H locs ls C hn hP hS hl => k p e' s m args below meth c H locs ls C hn (by rw [← WZ_ext e]; exact hP) hS hl
end UROWS
def QI (g : Gz) (n : Nat) (h : Nat → va_E) : Array Value → State → Outcome → State → Prop := fun _ st o t => o = .returned none ∧ va_P g.1 vwCl (WZ g.2.2 n h) t.heap ∧ va_F (fun q => g.2.2 ≤ q) st t
def FinI (g : Gz) (n : Nat) (h : Nat → va_E) (nc ns : Nat) : Array Value → List Frame → State → State → Prop := fun args below s => MQ below (QI g n h) args s nc ns (fun q => g.2.2 ≤ q)
def PI (g : Gz) (av : List Value) (n : Nat) (h : Nat → va_E) : Array Value → State → Prop := va_Pc av (fun U => GS0 g U ∧ U.heap.size = g.2.2 + n ∧ va_P g.1 vwCl (WZ g.2.2 n h) U.heap)
def rmI (fr lo nc ns : Nat) : Room := { frames := fr, cells := nc, slots := ns, locals := lo }
def CtI (g : Gz) (l : Launch) (y : MethodName) (cc : ByteArray) (nL fr lo nc ns : Nat) (av : List Value) (n : Nat) (h : Nat → va_E) (h' : Nat → va_E) : Prop :=
  Met l y (.code y cc nL none :: lwT) (rmI fr lo nc ns) (PI g av n h) (QI g (n + nc) h') nc ns (fun q => g.2.2 ≤ q)
theorem CtI.ofV {g : Gz} {l : Launch} {y : MethodName} {cc : ByteArray} {nL fr lo nc ns : Nat} {av : List Value} {n : Nat} {h h' : Nat → va_E} (hy : plainName y.cls = true) (hle : (lg_sl av).length ≤ nL)
    (k : V0 g l y.name y.cls cc nL none (rmI fr lo nc ns) (FinI g (n + nc) h' nc ns) 0 (lv_args 0 av) [] n h 0 0) : CtI g l y cc nL fr lo nc ns av n h h' := by
  refine Met.ofW (cc := cc) (maxL := nL) (ret := none) hy rfl ?_
  intro p e s m args below meth c s₁ B hml hv
  obtain ⟨rfl, hG, hz, hP⟩ := hv
  have hts := atoms_spec (ws := .code y cc nL none :: lwT) B.pre
  have hl := lv_entry av hle
  rw [lg_entry_eq]
  exact k p e s m av.toArray below meth c s.heap [] _ ⟨B.exec, B.bytes, B.returns, B.notSynchronized, hml, findClass_of_methodNamed B.named, fun w hw => hts w (List.mem_cons_of_mem _ hw), hG, (name_of_methodNamed B.named B.method).1⟩ (by omega) hP va_S.rf hl
section URET
variable {g : Gz} {l : Launch} {nm own : String} {cc : ByteArray} {nL : Nat} {rt : Option FieldType} {R : Room} {kc ks n : Nat} {h : Nat → va_E} {Fn : Array Value → List Frame → State → State → Prop} {pc : Nat} {lv : List (Nat × Value)} {st : List Value}
theorem U_vret {n' : Nat} {h' : Nat → va_E} (hnn : n = n') (hh : ∀ k, k < n → h k = h' k) (hd : decode cc pc = .ok (.return_, 1)) : V0 g l nm own cc nL none R (FinI g n' h' kc ks) pc lv [] n h kc ks := fun p e s m args below meth c H locs ls C hn hP hS hl => by
  have hlk := C.2.2.2.1
  subst hnn
  rw [WZ_ext hh] at hP
  exact W.vret C.1 C.2.1 C.2.2.1 (fun t ht _ => ⟨rfl, by rw [ht]; exact hP, hS.F ht⟩) hS.2.2 hd
theorem PI_blind {av : List Value} : FrameBlind (PI g av n h) := fun a U f mk z => ⟨z.1, z.2.1.blind, z.2.2.1, z.2.2.2⟩
theorem U_run {st0 : List Value} {nc ns : Nat} {h' : Nat → va_E} (hr : ∀ (p : Program) (e : Env) (s : State) (m : MethodId) (args : Array Value) (below : List Frame) (meth : Method) (c : Code) (H : Heap) (locs : List Loc) (ls : Array Slot), Cx0 g nm own cc nL rt p s m args meth c → H.size = g.2.2 + n → va_P g.1 vwCl (WZ g.2.2 n h) H → va_S (fun q => g.2.2 ≤ q) s.heap H locs → lv_has ls nL lv → va_Run p l e R s m args below meth c H locs kc ks nc ns (F0 m pc ls st0) st (fun st₀ o t => o = .returned none ∧ va_P g.1 vwCl (WZ g.2.2 (n + nc) h') t.heap ∧ va_F (fun q => g.2.2 ≤ q) st₀ t) (fun q => g.2.2 ≤ q)) (h1 : 1 ≤ n)
    (k : V0 g l nm own cc nL rt R Fn (pc + 3) lv st (n + nc) h' (kc + nc) (ks + ns)) : V0 g l nm own cc nL rt R Fn pc lv st0 n h kc ks := by
  intro p e s m args below meth c H locs ls C hn hP hS hl Ts hT X
  have hsz : H.size = g.2.2 + n := by
    have a1 : g.2.2 + (n - 1) < H.size := (hP (n - 1) _ (WZ_at (by omega))).lt
    have a2 : Ts.heap.size ≤ s.heap.size + kc := X.same.2.2.1
    rw [hT] at a2
    omega
  obtain ⟨v', st₀, t, T', L, h0, X', hL, e1, e2, ⟨hv, hPt, hz, hk⟩, stp⟩ := hr p e s m args below meth c H locs ls C hsz hP hS hl Ts hT X
  cases hv
  rw [h0] at hz hk
  obtain ⟨t2, a1, b1⟩ := k p e s m args below meth c T'.heap (locs ++ L) ls C (by omega) (by rw [e1]; exact hPt)
    ⟨Nat.le_trans hS.1 (by rw [e1]; exact hz), fun q z1 z2 => by rw [e1, hk q (Nat.lt_of_lt_of_le z1 hS.1) z2]; exact hS.2.1 q z1 z2, fun q hq => by
      rcases List.mem_append.mp hq with z | z
      · exact hS.2.2 q z
      · exact hL q z⟩ hl T' rfl X'
  exact ⟨t2, stp t2 a1, b1⟩
/-- a constructor's call, by a plain link -/
theorem U_init {y : MethodName} {cy : ByteArray} {nY idx fr lo nc ns a : Nat} {h' : Nat → va_E} (hm : Cond.methodLink own idx y ∈ lwT ∧ Cond.code y cy nY none ∈ lwT ∧ Cond.initialized y.cls ∈ lwT ∧ (y.cls ≠ "java/lang/invoke/MethodHandle" ∧ y.cls ≠ "java/lang/invoke/VarHandle" ∧ (parseMethodDescriptor y.desc).map (fun d => d.parameters.length) = some 0) ∧ y.name = "<init>" ∧ Cond.instanceMethod y ∈ lwT) (hR : (fr + 1 ≤ R.frames ∧ 8 + (nY + 11) + lo ≤ R.locals) ∧ kc + nc ≤ R.cells ∧ ks + ns ≤ R.slots) (hd : decode cc pc = .ok (.invokespecial idx, 3)) (hW : (st.map fun v => v.category).sum ≤ 8) (h1 : 1 ≤ n)
    (hM : CtI g l y cy nY fr lo nc ns [.ref a] n h h') (k : V0 g l nm own cc nL rt R Fn (pc + 3) lv st (n + nc) h' (kc + nc) (ks + ns)) : V0 g l nm own cc nL rt R Fn pc lv (.ref a :: st) n h kc ks := by
  refine U_run (h' := h') (fun p e s m args below meth c H locs ls C hsz hP hS hl => ?_) h1 k
  obtain ⟨C1, C2, C3, C4, C5, C6, C7, C8, C9⟩ := C
  obtain ⟨m1, m2, m3, m4, m5, m6⟩ := hm
  exact va_runI (As := []) (rest := st) (b := a) (Ts := lwT) ⟨C1, C2, C5, C6, C7⟩ hM ⟨callB_of 0 C7 (goodT m2) rfl rfl rfl (C7 _ m3) (C7 _ m1) m4 hR.1, m5, C7 _ m6⟩ ⟨PI_blind, fun U hU hWm => ⟨rfl, C8.warm hS hU hWm, by rw [hU]; exact hsz, by rw [hU]; exact hP⟩⟩ rfl rfl hl.1 rfl (lv_room hW) hd hR.2
/-- by a nest mate's link -/
theorem U_initN {y : MethodName} {cy : ByteArray} {nY idx fr lo nc ns a : Nat} {host : String} {h' : Nat → va_E} (hm : Cond.methodLinkNest own idx y host ∈ nmT ∧ Cond.code y cy nY none ∈ lwT ∧ Cond.initialized y.cls ∈ lwT ∧ (y.cls ≠ "java/lang/invoke/MethodHandle" ∧ y.cls ≠ "java/lang/invoke/VarHandle" ∧ (parseMethodDescriptor y.desc).map (fun d => d.parameters.length) = some 0) ∧ y.name = "<init>" ∧ Cond.instanceMethod y ∈ lwT) (hR : (fr + 1 ≤ R.frames ∧ 8 + (nY + 11) + lo ≤ R.locals) ∧ kc + nc ≤ R.cells ∧ ks + ns ≤ R.slots) (hd : decode cc pc = .ok (.invokespecial idx, 3)) (hW : (st.map fun v => v.category).sum ≤ 8) (h1 : 1 ≤ n)
    (hM : CtI g l y cy nY fr lo nc ns [.ref a] n h h') (k : V0 g l nm own cc nL rt R Fn (pc + 3) lv st (n + nc) h' (kc + nc) (ks + ns)) : V0 g l nm own cc nL rt R Fn pc lv (.ref a :: st) n h kc ks := by
  refine U_run (h' := h') (fun p e s m args below meth c H locs ls C hsz hP hS hl => ?_) h1 k
  obtain ⟨C1, C2, C3, C4, C5, C6, C7, C8, C9⟩ := C
  obtain ⟨m1, m2, m3, m4, m5, m6⟩ := hm
  exact va_runIN (As := []) (rest := st) (b := a) (Ts := lwT) ⟨C1, C2, C5, C6, C7⟩ hM ⟨va_cnB 0 C7 (goodT m2) rfl rfl rfl (C8.2.1 _ m1) (C7 _ m3) m4 hR.1, m5, C7 _ m6⟩ ⟨PI_blind, fun U hU hWm => ⟨rfl, C8.warm hS hU hWm, by rw [hU]; exact hsz, by rw [hU]; exact hP⟩⟩ rfl rfl hl.1 rfl (lv_room hW) hd hR.2
theorem U_stat {y : MethodName} {cy : ByteArray} {nY idx fr lo nc ns na : Nat} {As st0 : List Value} {h' : Nat → va_E} (hm : MS own idx y cy nY none na) (hR : (fr + 1 ≤ R.frames ∧ 8 + (nY + 11) + lo ≤ R.locals) ∧ kc + nc ≤ R.cells ∧ ks + ns ≤ R.slots) (hd : decode cc pc = .ok (.invokestatic idx, 3)) (hna : As.length = na) (hst : st0 = As.reverse ++ st) (hW : (st.map fun v => v.category).sum ≤ 8) (h1 : 1 ≤ n)
    (hM : CtI g l y cy nY fr lo nc ns As n h h') (k : V0 g l nm own cc nL rt R Fn (pc + 3) lv st (n + nc) h' (kc + nc) (ks + ns)) : V0 g l nm own cc nL rt R Fn pc lv st0 n h kc ks := by
  refine U_run (h' := h') (fun p e s m args below meth c H locs ls C hsz hP hS hl => ?_) h1 k
  obtain ⟨C1, C2, C3, C4, C5, C6, C7, C8, C9⟩ := C
  obtain ⟨m1, m2, m3, m4, m5⟩ := hm
  exact va_runS (As := As) (rest := st) (Ts := lwT) ⟨C1, C2, C5, C6, C7⟩ hM ⟨callB_of na C7 (goodT m2) rfl rfl rfl (C7 _ m3) (C7 _ m1) m4 hR.1, C7 _ m5⟩ ⟨PI_blind, fun U hU hWm => ⟨rfl, C8.warm hS hU hWm, by rw [hU]; exact hsz, by rw [hU]; exact hP⟩⟩ rfl hna hl.1 hst (lv_room hW) hd hR.2
end URET
