/-! the heap of class and reference: a fixed shape; numbers in two tables -/
abbrev Mem : Type := (Nat → Nat → Int32) × (Nat → Nat → Int64)
abbrev Gw : Type := va_G × (Nat → Nat) × (Nat → ClassId) × (Nat → Prop) × Nat
def mi (M : Mem) (k j : Nat) (v : Int32) : Mem := (fun a b => if a = k ∧ b = j then v else M.1 a b, M.2)
def ml (M : Mem) (k j : Nat) (v : Int64) : Mem := (M.1, fun a b => if a = k ∧ b = j then v else M.2 a b)
def mci (M : Mem) (k0 k1 sp dp n : Nat) : Mem := (fun a => if a = k1 then va_cpy (M.1 k0) (M.1 k1) sp dp n else M.1 a, M.2)
def mcl (M : Mem) (k0 k1 sp dp n : Nat) : Mem := (M.1, fun a => if a = k1 then va_cpy (M.2 k0) (M.2 k1) sp dp n else M.2 a)
def NC : Nat := 174
def shp (k : Nat) : Nat :=
  if k < 6 then (if k = 0 then 6 else if k = 1 then 2 else if k = 2 then 9 else if k = 3 then 12 else if k = 4 then 9 else 13)
  else if k < 36 then 0
  else if k < 129 then (if k % 3 = 0 then 3 else if k % 3 = 1 then 10 else 9)
  else if k < 133 then (if k = 129 then 5 else 9)
  else if k < 135 then (if k = 133 then 14 else 15)
  else if k < 143 then (if k % 2 = 1 then 1 else 10)
  else if k < 151 then (if k % 2 = 1 then 4 else 9)
  else if k = 151 then 7
  else if k < 174 then (if k = 157 then 10 else if k = 171 then 11 else if k = 172 then 11 else 9)
  else 16
def ln (k : Nat) : Nat :=
  if k < 6 then (if k = 2 then 10 else if k = 5 then 31 else 30)
  else if k < 129 then 10
  else if k < 133 then 20
  else if k < 135 then 4
  else if k < 143 then 11 else if k < 151 then 36
  else if k < 153 then 10 else if k < 158 then 30 else if k = 158 then 4 else if k = 159 then 144 else if k < 163 then 20
  else if k < 165 then 4 else if k = 165 then 144 else if k < 168 then 30 else if k = 168 then 1116 else if k = 169 then 310
  else if k = 170 then 30 else if k = 171 then 310 else if k = 172 then 30 else 36
def rf (o j : Nat) : Nat :=
  if o = 0 then (if j = 0 then 1 else if j = 1 then 129 else if j = 2 then 133 else 134)
  else if o = 1 then 2 + j
  else if o < 129 then o + 1 + j
  else if o = 129 then 130 + j
  else if o < 151 then o + 1
  else 148 + j
def ra (k i : Nat) : Nat := if k = 3 then 6 + i else if k = 5 then 36 + 3 * i else if k = 133 then 135 + 2 * i else 143 + 2 * i
def fk (ci : Nat) : List Nat := match ci with
  | 0 => [0, 0, 0, 0, 1, 0, 0, 1]
  | 1 => [2, 0]
  | 2 => [2, 2, 2, 2, 0, 0]
  | 3 => [2, 2, 0]
  | 4 => [2, 0, 0]
  | 5 => [2, 2, 2, 0]
  | 6 => [2, 2, 2, 2, 0]
  | _ => [0, 0, 0, 1, 2, 2, 2, 2, 2, 2, 2, 2, 2, 2, 2, 2, 2, 2, 2, 2, 2, 2, 2, 2, 2, 2]
def adr (G : Gw) (k : Nat) : Nat := G.2.1 k
def fval (G : Gw) (M : Mem) (o j t : Nat) : Value := if t = 0 then .int (M.1 o j) else if t = 1 then .long (M.2 o j) else .ref (adr G (rf o j))
def flds (G : Gw) (M : Mem) (ci o : Nat) : List Value := (fk ci).mapIdx (fun j t => fval G M o j t)
def cel (G : Gw) (M : Mem) (k : Nat) : va_E :=
  if shp k < 9 then .inr (shp k, flds G M (shp k) k)
  else if shp k = 10 then .inl (G.2.2.1 1, ln k, .inr (.inl (M.2 k)))
  else if shp k < 12 then .inl (G.2.2.1 (shp k - 9), ln k, .inl (M.1 k))
  else .inl (G.2.2.1 (shp k - 9), ln k, .inr (.inr (.inr (.inr (fun i => some (adr G (ra k i)))))))
def tysL (cA : Nat → ClassId) : List (ClassId × FieldType) := [(cA 0, .int), (cA 1, .long), (cA 2, .boolean), (cA 3, .object "ShireLines$Act"), (cA 4, .object "ShireLines$Moment"), (cA 5, .object "ShireLines$Chart"), (cA 6, .object "ShireLines$Sheet")]
def WL (G : Gw) (M : Mem) : va_W := (List.range NC).map (fun k => (adr G k, cel G M k))
def PH (G : Gw) (M : Mem) (H : Heap) : Prop := va_P G.1 vwCl (WL G M) H
theorem shp_ge {k : Nat} (h : 174 ≤ k) : shp k = 16 := by
  unfold shp
  rw [if_neg (by omega), if_neg (by omega), if_neg (by omega), if_neg (by omega), if_neg (by omega), if_neg (by omega), if_neg (by omega), if_neg (by omega), if_neg (by omega)]
theorem shp_lt {k : Nat} (h : shp k < 16) : k < NC := by
  rcases Nat.lt_or_ge k 174 with z | z
  · exact z
  · rw [shp_ge z] at h; omega
theorem WL_at {G : Gw} {M : Mem} {k : Nat} (h : k < NC) : (WL G M)[k]? = some (adr G k, cel G M k) := by
  simp [WL, h]
theorem WL_set {G : Gw} {M M' : Mem} {o : Nat} {x : va_E} (ho : o < NC) (h1 : cel G M' o = x) (h2 : ∀ k, k ≠ o → cel G M' k = cel G M k) : (WL G M).set o (adr G o, x) = WL G M' := by
  apply List.ext_getElem?
  intro i
  by_cases hi : i < NC
  · by_cases hio : i = o
    · subst hio
      rw [List.getElem?_set_self (by simpa [WL] using hi), WL_at hi, h1]
    · rw [List.getElem?_set_ne (Ne.symm hio), WL_at hi, WL_at hi, h2 i hio]
  · rw [List.getElem?_eq_none (by simp [WL]; omega), List.getElem?_eq_none (by simp [WL]; omega)]
theorem cel_obj {G : Gw} {M : Mem} {o ci : Nat} (ho : shp o = ci) (h9 : ci < 9) : cel G M o = .inr (ci, flds G M ci o) := by
  subst ho; simp [cel, h9]
theorem cel_i {G : Gw} {M : Mem} {k : Nat} (h : shp k = 9) : cel G M k = .inl (G.2.2.1 0, ln k, .inl (M.1 k)) := by simp [cel, h]
theorem cel_l {G : Gw} {M : Mem} {k : Nat} (h : shp k = 10) : cel G M k = .inl (G.2.2.1 1, ln k, .inr (.inl (M.2 k))) := by simp [cel, h]
theorem cel_z {G : Gw} {M : Mem} {k : Nat} (h : shp k = 11) : cel G M k = .inl (G.2.2.1 2, ln k, .inl (M.1 k)) := by simp [cel, h]
theorem cel_r {G : Gw} {M : Mem} {k : Nat} (h : 12 ≤ shp k) : cel G M k = .inl (G.2.2.1 (shp k - 9), ln k, .inr (.inr (.inr (.inr (fun i => some (adr G (ra k i))))))) := by
  have h1 : ¬ shp k < 9 := by omega
  have h2 : ¬ shp k = 10 := by omega
  have h3 : ¬ shp k < 12 := by omega
  simp [cel, h1, h2, h3]
theorem flds_mi {G : Gw} {M : Mem} {k o j ci : Nat} {v : Int32} (h : k ≠ o) : flds G (mi M o j v) ci k = flds G M ci k := by
  have e : ∀ i t, fval G (mi M o j v) k i t = fval G M k i t := fun i t => by simp [fval, mi, h]
  simp [flds, e]
theorem flds_ml {G : Gw} {M : Mem} {k o j ci : Nat} {v : Int64} (h : k ≠ o) : flds G (ml M o j v) ci k = flds G M ci k := by
  have e : ∀ i t, fval G (ml M o j v) k i t = fval G M k i t := fun i t => by simp [fval, ml, h]
  simp [flds, e]
theorem cel_mi {G : Gw} {M : Mem} {o j : Nat} {v : Int32} : ∀ k, k ≠ o → cel G (mi M o j v) k = cel G M k := by
  intro k h
  have e1 : (mi M o j v).1 k = M.1 k := by funext b; simp [mi, h]
  have e2 : (mi M o j v).2 = M.2 := rfl
  unfold cel
  rw [flds_mi h, e1, e2]
theorem cel_ml {G : Gw} {M : Mem} {o j : Nat} {v : Int64} : ∀ k, k ≠ o → cel G (ml M o j v) k = cel G M k := by
  intro k h
  have e1 : (ml M o j v).2 k = M.2 k := by funext b; simp [ml, h]
  have e2 : (ml M o j v).1 = M.1 := rfl
  unfold cel
  rw [flds_ml h, e1, e2]
theorem flds_at {G : Gw} {M : Mem} {ci o j t : Nat} (h : (fk ci)[j]? = some t) : (flds G M ci o)[j]? = some (fval G M o j t) := by
  simp [flds, List.getElem?_mapIdx, h]
theorem flds_seti {G : Gw} {M : Mem} {ci o j : Nat} {v : Int32} (h : (fk ci)[j]? = some 0) : (flds G M ci o).set j (.int v) = flds G (mi M o j v) ci o := by
  apply List.ext_getElem?
  intro i
  by_cases hij : i = j
  · subst hij
    have hl : i < (fk ci).length := (List.getElem?_eq_some_iff.mp h).1
    rw [List.getElem?_set_self (by simpa [flds] using hl), flds_at h]
    simp [fval, mi]
  · rw [List.getElem?_set_ne (Ne.symm hij)]
    simp only [flds, List.getElem?_mapIdx]
    congr 1
    funext t
    simp [fval, mi, hij]
theorem flds_setl {G : Gw} {M : Mem} {ci o j : Nat} {v : Int64} (h : (fk ci)[j]? = some 1) : (flds G M ci o).set j (.long v) = flds G (ml M o j v) ci o := by
  apply List.ext_getElem?
  intro i
  by_cases hij : i = j
  · subst hij
    have hl : i < (fk ci).length := (List.getElem?_eq_some_iff.mp h).1
    rw [List.getElem?_set_self (by simpa [flds] using hl), flds_at h]
    simp [fval, ml]
  · rw [List.getElem?_set_ne (Ne.symm hij)]
    simp only [flds, List.getElem?_mapIdx]
    congr 1
    funext t
    simp [fval, ml, hij]
/-! words -/
def lwT : List Cond := lw_tbl.filter goodWord
def isNF : Cond → Bool
  | .fieldLinkNest .. => true
  | _ => false
def nstT : List Cond := lw_tbl.filter isNF
theorem inW {w : Cond} (h : w ∈ lw_tbl) (g : goodWord w = true) : w ∈ lwT := List.mem_filter.mpr ⟨h, g⟩
theorem inN {w : Cond} (h : w ∈ lw_tbl) (g : isNF w = true) : w ∈ nstT := List.mem_filter.mpr ⟨h, g⟩
theorem goodT {y : MethodName} {cc : ByteArray} {nL : Nat} {ret : Option FieldType} (h : Cond.code y cc nL ret ∈ lwT) : GoodIn lwT (.code y cc nL ret :: lwT) := by
  intro w hw
  have hm : w ∈ lwT := by
    rcases List.mem_cons.mp hw with rfl | hw
    · exact h
    · exact hw
  exact ⟨hm, good_of_word (List.mem_filter.mp hm).2⟩
def kov : Nat → Value := fun j => .int (if j = 0 then -1 else if j = 1 then 0 else if j = 2 then 1 else 0)
def GD (G : Gw) : Prop := (∀ i j, i < NC → j < NC → adr G i = adr G j → i = j) ∧ ∀ k, k < NC → G.2.2.2.1 (adr G k)
def GS (G : Gw) (s : State) : Prop := GD G ∧ va_K G.1 vwCl (tysL G.2.2.1) s ∧ (∀ w ∈ nstT, va_Nw w s) ∧ va_Z "ShireLines" "KIND_OVER" "[I" (.ref G.2.2.2.2) G.2.2.2.1 s s.heap ∧ va_T .int G.2.2.2.2 4 kov G.2.2.2.1 s s.heap
theorem GD.D {G : Gw} {M : Mem} (h : GD G) : va_D G.2.2.2.1 (WL G M) := by
  have key : ∀ (k : Nat) (q : Nat × va_E), (WL G M)[k]? = some q → k < NC ∧ q.1 = adr G k := by
    intro k q hk
    have hl : k < NC := by
      have := (List.getElem?_eq_some_iff.mp hk).1
      simpa [WL] using this
    rw [WL_at hl] at hk
    cases hk
    exact ⟨hl, rfl⟩
  refine ⟨fun i j x y hi hj hxy => ?_, fun k q hk => ?_⟩
  · obtain ⟨a1, a2⟩ := key i x hi
    obtain ⟨b1, b2⟩ := key j y hj
    exact h.1 i j a1 b1 (by rw [← a2, ← b2]; exact hxy)
  · obtain ⟨a1, a2⟩ := key k q hk
    rw [a2]
    exact h.2 k a1
theorem nest_warm {w : Cond} (hw : w ∈ nstT) {s U : State} (hW : s.WarmedH U.vm) (h : va_Nw w s) : va_Nw w U := by
  have g := (List.mem_filter.mp hw).2
  cases w <;> first | exact va_Nw.warmF hW h | (simp [isNF] at g; done)
theorem nest_on {w : Cond} (hw : w ∈ nstT) : w.onTables = true := by
  have g := (List.mem_filter.mp hw).2
  cases w <;> first | rfl | (simp [isNF] at g; done)
theorem GS.warm {G : Gw} {s U : State} {H : Heap} {locs : List Loc} (h : GS G s) (hS : va_S G.2.2.2.1 s.heap H locs) (hU : U.heap = H) (hW : s.WarmedH U.vm) : GS G U := by
  obtain ⟨h1, h2, h3, h4, h5⟩ := h
  refine ⟨h1, va_K.moved hW.alike h2, fun w hw => nest_warm hw hW (h3 w hw), ?_, ?_⟩
  · rw [hU]; exact va_Z.moved hW.alike (h4.kept hS.2.1)
  · rw [hU]; exact va_T.moved hW.alike (h5.kept hS.2.1)
theorem GS.blind {G : Gw} {U : State} {g : JFrame} {mk : MethodId} {a : Array Value} (h : GS G U) : GS G (U.calling g mk a) := by
  obtain ⟨h1, h2, h3, h4, h5⟩ := h
  exact ⟨h1, va_K.moved (u := U) (U := U.calling g mk a) (Vm.Alike.refl U.vm) h2, fun w hw => va_Nw.same (u := U) (U := U.calling g mk a) (nest_on hw) rfl (h3 w hw), va_Z.moved (u := U) (U := U.calling g mk a) (Vm.Alike.refl U.vm) h4, va_T.moved (u := U) (U := U.calling g mk a) (Vm.Alike.refl U.vm) h5⟩
/-! the judgements -/
def Cx (G : Gw) (own : String) (cc : ByteArray) (nL : Nat) (ret : Option FieldType) (p : Program) (s : State) (m : MethodId) (args : Array Value) (meth : Method) (c : Code) : Prop :=
  p.tables.exec = Jvm.exec ∧ c.code = cc ∧ meth.sig.returnType = ret ∧ meth.locks = false ∧ c.maxLocals = nL ∧ s.vm.findClass own = some m.cls ∧ (∀ w ∈ lwT, w.before args s = true) ∧ GS G s
def V (G : Gw) (l : Launch) (own : String) (cc : ByteArray) (nL : Nat) (ret : Option FieldType) (R : Room) (kc ks : Nat) (Fn : Array Value → List Frame → State → State → Prop) (pc : Nat) (lv : List (Nat × Value)) (st : List Value) (M : Mem) : Prop :=
  ∀ (p : Program) (e : Env) (s : State) (m : MethodId) (args : Array Value) (below : List Frame) (meth : Method) (c : Code) (H : Heap) (locs : List Loc) (ls : Array Slot), Cx G own cc nL ret p s m args meth c → PH G M H → va_S G.2.2.2.1 s.heap H locs → lv_has ls nL lv →
    W p l e R s m args below meth c H locs kc ks (Fn args below s) (F0 m pc ls st)
def T (G : Gw) (l : Launch) (own : String) (cc : ByteArray) (nL : Nat) (ret : Option FieldType) (R : Room) (kc ks : Nat) (Fn : Array Value → List Frame → State → State → Prop) {α : Type} (Dn : α → Prop) (pc : Nat) (lv : List (Nat × Value)) (st : List Value) (M : Mem) (r : Option α) : Prop :=
  ∀ a : α, r = some a → Dn a → V G l own cc nL ret R kc ks Fn pc lv st M
def lt {α β : Type} (x : α) (K : α → β) : β := K x
def gi {α : Type} (i : Int32) (n : Nat) (E : Option α) : Option α := if 0 ≤ i.toInt ∧ i.toInt < (n : Int) then E else none
def gd {α : Type} (c : Prop) (hc : Decidable c) (E : Option α) : Option α := if c then E else none
def gz {α : Type} (i : Int32) (E : Option α) : Option α := if i = 0 then none else E
def gzl {α : Type} (i : Int64) (E : Option α) : Option α := if i = 0 then none else E
def gb {α : Type} (i : Int32) (E : Option α) : Option α := if i = 0 ∨ i = 1 then E else none
def gcp {α : Type} (n0 n1 : Nat) (sp dp n : Int32) (E : Option α) : Option α := if ¬ sp < 0 ∧ ¬ dp < 0 ∧ ¬ n < 0 ∧ sp.toNatClampNeg + n.toNatClampNeg ≤ n0 ∧ dp.toNatClampNeg + n.toNatClampNeg ≤ n1 then E else none
def itN {S R : Type} (b : S → Option (S ⊕ R)) : Nat → S → Option R
  | 0, _ => none
  | n + 1, s => match b s with
    | none => none
    | some (.inl s') => itN b n s'
    | some (.inr r) => some r
noncomputable def wh {S R : Type} (b : S → Option (S ⊕ R)) (s : S) : Option R := @dite (Option R) (∃ r, ∃ n, itN b n s = some r) (Classical.propDecidable _) (fun h => some (Classical.choose h)) (fun _ => none)
theorem itN_mono {S R : Type} {b : S → Option (S ⊕ R)} : ∀ (n : Nat) (s : S) (r : R), itN b n s = some r → ∀ k, itN b (n + k) s = some r
  | 0, s, r, h, _ => by simp [itN] at h
  | n + 1, s, r, h, k => by
    rw [show n + 1 + k = (n + k) + 1 from by omega]
    unfold itN at h ⊢
    cases hb : b s with
    | none => rw [hb] at h; exact h
    | some q =>
      rw [hb] at h
      cases q with
      | inl s' => exact itN_mono n s' r h k
      | inr r' => exact h
theorem itN_det {S R : Type} {b : S → Option (S ⊕ R)} {n k : Nat} {s : S} {r r' : R} (h : itN b n s = some r) (h' : itN b k s = some r') : r = r' := by
  have h1 := itN_mono n s r h k
  have h2 := itN_mono k s r' h' n
  rw [Nat.add_comm] at h2
  exact Option.some.inj (h1.symm.trans h2)
theorem wh_ex {S R : Type} {b : S → Option (S ⊕ R)} {s : S} {r : R} (h : wh b s = some r) : ∃ n, itN b n s = some r := by
  unfold wh at h
  split at h
  · rename_i hx
    cases h
    exact Classical.choose_spec hx
  · cases h
theorem wh_of {S R : Type} {b : S → Option (S ⊕ R)} {s : S} {r : R} {n : Nat} (h : itN b n s = some r) : wh b s = some r := by
  have hx : ∃ r, ∃ n, itN b n s = some r := ⟨r, n, h⟩
  unfold wh
  rw [dif_pos hx]
  obtain ⟨k, hk⟩ := Classical.choose_spec hx
  rw [itN_det hk h]
theorem wh_inl {S R : Type} {b : S → Option (S ⊕ R)} {s s' : S} (h : b s = some (.inl s')) : wh b s = wh b s' := by
  cases h2 : wh b s' with
  | some r =>
    obtain ⟨n, hn⟩ := wh_ex h2
    exact wh_of (n := n + 1) (by unfold itN; rw [h]; exact hn)
  | none =>
    cases h1 : wh b s with
    | none => rfl
    | some r =>
      obtain ⟨n, hn⟩ := wh_ex h1
      cases n with
      | zero => simp [itN] at hn
      | succ n =>
        unfold itN at hn
        rw [h] at hn
        rw [wh_of hn] at h2
        cases h2
theorem wh_inr {S R : Type} {b : S → Option (S ⊕ R)} {s : S} {r : R} (h : b s = some (.inr r)) : wh b s = some r := wh_of (n := 1) (by unfold itN; rw [h])
section VROWS
variable {G : Gw} {l : Launch} {own : String} {cc : ByteArray} {nL : Nat} {ret : Option FieldType} {R : Room} {kc ks : Nat} {Fn : Array Value → List Frame → State → State → Prop} {α : Type} {Dn : α → Prop} {pc : Nat} {lv : List (Nat × Value)} {st : List Value} {M : Mem} {r : Option α}
theorem V_iconst {n : Int} {v : Int32} (hd : decode cc pc = .ok (.iconst n, 1)) (hv : Int32.ofInt n = v) (k : V G l own cc nL ret R kc ks Fn (pc + 1) lv (.int v :: st) M) : V G l own cc nL ret R kc ks Fn pc lv (st) M := fun p e s m args below meth c H locs ls C hP hS hl => lv_iconst C.1 C.2.1 hd hv (k p e s m args below meth c H locs ls C hP hS hl)
theorem T_iconst {n : Int} {v : Int32} (hd : decode cc pc = .ok (.iconst n, 1)) (hv : Int32.ofInt n = v) (k : T G l own cc nL ret R kc ks Fn Dn (pc + 1) lv (.int v :: st) M r) : T G l own cc nL ret R kc ks Fn Dn pc lv (st) M r := fun a h d => V_iconst hd hv (k a h d)
theorem V_bipush {n : Int} {v : Int32} (hd : decode cc pc = .ok (.bipush n, 2)) (hv : (Int8.ofInt n).toInt32 = v) (k : V G l own cc nL ret R kc ks Fn (pc + 2) lv (.int v :: st) M) : V G l own cc nL ret R kc ks Fn pc lv (st) M := fun p e s m args below meth c H locs ls C hP hS hl => lv_bipush C.1 C.2.1 hd hv (k p e s m args below meth c H locs ls C hP hS hl)
theorem T_bipush {n : Int} {v : Int32} (hd : decode cc pc = .ok (.bipush n, 2)) (hv : (Int8.ofInt n).toInt32 = v) (k : T G l own cc nL ret R kc ks Fn Dn (pc + 2) lv (.int v :: st) M r) : T G l own cc nL ret R kc ks Fn Dn pc lv (st) M r := fun a h d => V_bipush hd hv (k a h d)
theorem V_sipush {n : Int} {v : Int32} (hd : decode cc pc = .ok (.sipush n, 3)) (hv : (Int16.ofInt n).toInt32 = v) (k : V G l own cc nL ret R kc ks Fn (pc + 3) lv (.int v :: st) M) : V G l own cc nL ret R kc ks Fn pc lv (st) M := fun p e s m args below meth c H locs ls C hP hS hl => lv_sipush C.1 C.2.1 hd hv (k p e s m args below meth c H locs ls C hP hS hl)
theorem T_sipush {n : Int} {v : Int32} (hd : decode cc pc = .ok (.sipush n, 3)) (hv : (Int16.ofInt n).toInt32 = v) (k : T G l own cc nL ret R kc ks Fn Dn (pc + 3) lv (.int v :: st) M r) : T G l own cc nL ret R kc ks Fn Dn pc lv (st) M r := fun a h d => V_sipush hd hv (k a h d)
theorem V_lconst {n : Fin 2} {v : Int64} (hd : decode cc pc = .ok (.lconst n, 1)) (hv : Int64.ofNat (n : Nat) = v) (k : V G l own cc nL ret R kc ks Fn (pc + 1) lv (.long v :: st) M) : V G l own cc nL ret R kc ks Fn pc lv (st) M := fun p e s m args below meth c H locs ls C hP hS hl => lv_lconst C.1 C.2.1 hd hv (k p e s m args below meth c H locs ls C hP hS hl)
theorem T_lconst {n : Fin 2} {v : Int64} (hd : decode cc pc = .ok (.lconst n, 1)) (hv : Int64.ofNat (n : Nat) = v) (k : T G l own cc nL ret R kc ks Fn Dn (pc + 1) lv (.long v :: st) M r) : T G l own cc nL ret R kc ks Fn Dn pc lv (st) M r := fun a h d => V_lconst hd hv (k a h d)
theorem V_ldc {idx : Nat} {v : Int32} (hd : decode cc pc = .ok (.ldc idx, 2)) (hw : Cond.constant own idx v ∈ lwT) (k : V G l own cc nL ret R kc ks Fn (pc + 2) lv (.int v :: st) M) : V G l own cc nL ret R kc ks Fn pc lv (st) M := fun p e s m args below meth c H locs ls C hP hS hl => lv_ldc C.1 C.2.1 C.2.2.2.2.2.1 (C.2.2.2.2.2.2.1 _ hw) hd (k p e s m args below meth c H locs ls C hP hS hl)
theorem T_ldc {idx : Nat} {v : Int32} (hd : decode cc pc = .ok (.ldc idx, 2)) (hw : Cond.constant own idx v ∈ lwT) (k : T G l own cc nL ret R kc ks Fn Dn (pc + 2) lv (.int v :: st) M r) : T G l own cc nL ret R kc ks Fn Dn pc lv (st) M r := fun a h d => V_ldc hd hw (k a h d)
theorem V_ldc2 {idx : Nat} {v : Int64} (hd : decode cc pc = .ok (.ldc2_w idx, 3)) (hw : Cond.constantLong own idx v ∈ lwT) (k : V G l own cc nL ret R kc ks Fn (pc + 3) lv (.long v :: st) M) : V G l own cc nL ret R kc ks Fn pc lv (st) M := fun p e s m args below meth c H locs ls C hP hS hl => lv_ldc2 C.1 C.2.1 C.2.2.2.2.2.1 (C.2.2.2.2.2.2.1 _ hw) hd (k p e s m args below meth c H locs ls C hP hS hl)
theorem T_ldc2 {idx : Nat} {v : Int64} (hd : decode cc pc = .ok (.ldc2_w idx, 3)) (hw : Cond.constantLong own idx v ∈ lwT) (k : T G l own cc nL ret R kc ks Fn Dn (pc + 3) lv (.long v :: st) M r) : T G l own cc nL ret R kc ks Fn Dn pc lv (st) M r := fun a h d => V_ldc2 hd hw (k a h d)
theorem V_iload_n {kk : Fin 4} {i q : Nat} {x : Int32} (hd : decode cc pc = .ok (.iload_n kk, 1)) (hi : (kk : Nat) = i) (hq : lv[q]? = some (i, .int x)) (k : V G l own cc nL ret R kc ks Fn (pc + 1) lv (.int x :: st) M) : V G l own cc nL ret R kc ks Fn pc lv (st) M := fun p e s m args below meth c H locs ls C hP hS hl => lv_iload_n C.1 C.2.1 hd hi (lv_at hl q hq) (k p e s m args below meth c H locs ls C hP hS hl)
theorem T_iload_n {kk : Fin 4} {i q : Nat} {x : Int32} (hd : decode cc pc = .ok (.iload_n kk, 1)) (hi : (kk : Nat) = i) (hq : lv[q]? = some (i, .int x)) (k : T G l own cc nL ret R kc ks Fn Dn (pc + 1) lv (.int x :: st) M r) : T G l own cc nL ret R kc ks Fn Dn pc lv (st) M r := fun a h d => V_iload_n hd hi hq (k a h d)
theorem V_iload {i q : Nat} {x : Int32} (hd : decode cc pc = .ok (.iload i, 2)) (hq : lv[q]? = some (i, .int x)) (k : V G l own cc nL ret R kc ks Fn (pc + 2) lv (.int x :: st) M) : V G l own cc nL ret R kc ks Fn pc lv (st) M := fun p e s m args below meth c H locs ls C hP hS hl => lv_iload C.1 C.2.1 hd (lv_at hl q hq) (k p e s m args below meth c H locs ls C hP hS hl)
theorem T_iload {i q : Nat} {x : Int32} (hd : decode cc pc = .ok (.iload i, 2)) (hq : lv[q]? = some (i, .int x)) (k : T G l own cc nL ret R kc ks Fn Dn (pc + 2) lv (.int x :: st) M r) : T G l own cc nL ret R kc ks Fn Dn pc lv (st) M r := fun a h d => V_iload hd hq (k a h d)
theorem V_lload_n {kk : Fin 4} {i q : Nat} {x : Int64} (hd : decode cc pc = .ok (.lload_n kk, 1)) (hi : (kk : Nat) = i) (hq : lv[q]? = some (i, .long x)) (k : V G l own cc nL ret R kc ks Fn (pc + 1) lv (.long x :: st) M) : V G l own cc nL ret R kc ks Fn pc lv (st) M := fun p e s m args below meth c H locs ls C hP hS hl => lv_lload_n C.1 C.2.1 hd hi (lv_at hl q hq) (k p e s m args below meth c H locs ls C hP hS hl)
theorem T_lload_n {kk : Fin 4} {i q : Nat} {x : Int64} (hd : decode cc pc = .ok (.lload_n kk, 1)) (hi : (kk : Nat) = i) (hq : lv[q]? = some (i, .long x)) (k : T G l own cc nL ret R kc ks Fn Dn (pc + 1) lv (.long x :: st) M r) : T G l own cc nL ret R kc ks Fn Dn pc lv (st) M r := fun a h d => V_lload_n hd hi hq (k a h d)
theorem V_lload {i q : Nat} {x : Int64} (hd : decode cc pc = .ok (.lload i, 2)) (hq : lv[q]? = some (i, .long x)) (k : V G l own cc nL ret R kc ks Fn (pc + 2) lv (.long x :: st) M) : V G l own cc nL ret R kc ks Fn pc lv (st) M := fun p e s m args below meth c H locs ls C hP hS hl => lv_lload C.1 C.2.1 hd (lv_at hl q hq) (k p e s m args below meth c H locs ls C hP hS hl)
theorem T_lload {i q : Nat} {x : Int64} (hd : decode cc pc = .ok (.lload i, 2)) (hq : lv[q]? = some (i, .long x)) (k : T G l own cc nL ret R kc ks Fn Dn (pc + 2) lv (.long x :: st) M r) : T G l own cc nL ret R kc ks Fn Dn pc lv (st) M r := fun a h d => V_lload hd hq (k a h d)
theorem V_aload_n {kk : Fin 4} {i q : Nat} {x : Nat} (hd : decode cc pc = .ok (.aload_n kk, 1)) (hi : (kk : Nat) = i) (hq : lv[q]? = some (i, .ref x)) (k : V G l own cc nL ret R kc ks Fn (pc + 1) lv (.ref x :: st) M) : V G l own cc nL ret R kc ks Fn pc lv (st) M := fun p e s m args below meth c H locs ls C hP hS hl => lv_aload_n C.1 C.2.1 hd hi (lv_at hl q hq) (k p e s m args below meth c H locs ls C hP hS hl)
theorem T_aload_n {kk : Fin 4} {i q : Nat} {x : Nat} (hd : decode cc pc = .ok (.aload_n kk, 1)) (hi : (kk : Nat) = i) (hq : lv[q]? = some (i, .ref x)) (k : T G l own cc nL ret R kc ks Fn Dn (pc + 1) lv (.ref x :: st) M r) : T G l own cc nL ret R kc ks Fn Dn pc lv (st) M r := fun a h d => V_aload_n hd hi hq (k a h d)
theorem V_aload {i q : Nat} {x : Nat} (hd : decode cc pc = .ok (.aload i, 2)) (hq : lv[q]? = some (i, .ref x)) (k : V G l own cc nL ret R kc ks Fn (pc + 2) lv (.ref x :: st) M) : V G l own cc nL ret R kc ks Fn pc lv (st) M := fun p e s m args below meth c H locs ls C hP hS hl => lv_aload C.1 C.2.1 hd (lv_at hl q hq) (k p e s m args below meth c H locs ls C hP hS hl)
theorem T_aload {i q : Nat} {x : Nat} (hd : decode cc pc = .ok (.aload i, 2)) (hq : lv[q]? = some (i, .ref x)) (k : T G l own cc nL ret R kc ks Fn Dn (pc + 2) lv (.ref x :: st) M r) : T G l own cc nL ret R kc ks Fn Dn pc lv (st) M r := fun a h d => V_aload hd hq (k a h d)
theorem V_iadd {x y : Int32} (hd : decode cc pc = .ok (.iadd, 1))  (k : V G l own cc nL ret R kc ks Fn (pc + 1) lv (.int (x + y) :: st) M) : V G l own cc nL ret R kc ks Fn pc lv (.int y :: .int x :: st) M := fun p e s m args below meth c H locs ls C hP hS hl => lv_iadd C.1 C.2.1 hd (k p e s m args below meth c H locs ls C hP hS hl)
theorem T_iadd {x y : Int32} (hd : decode cc pc = .ok (.iadd, 1))  (k : T G l own cc nL ret R kc ks Fn Dn (pc + 1) lv (.int (x + y) :: st) M r) : T G l own cc nL ret R kc ks Fn Dn pc lv (.int y :: .int x :: st) M r := fun a h d => V_iadd hd  (k a h d)
theorem V_isub {x y : Int32} (hd : decode cc pc = .ok (.isub, 1))  (k : V G l own cc nL ret R kc ks Fn (pc + 1) lv (.int (x - y) :: st) M) : V G l own cc nL ret R kc ks Fn pc lv (.int y :: .int x :: st) M := fun p e s m args below meth c H locs ls C hP hS hl => lv_isub C.1 C.2.1 hd (k p e s m args below meth c H locs ls C hP hS hl)
theorem T_isub {x y : Int32} (hd : decode cc pc = .ok (.isub, 1))  (k : T G l own cc nL ret R kc ks Fn Dn (pc + 1) lv (.int (x - y) :: st) M r) : T G l own cc nL ret R kc ks Fn Dn pc lv (.int y :: .int x :: st) M r := fun a h d => V_isub hd  (k a h d)
theorem V_imul {x y : Int32} (hd : decode cc pc = .ok (.imul, 1))  (k : V G l own cc nL ret R kc ks Fn (pc + 1) lv (.int (x * y) :: st) M) : V G l own cc nL ret R kc ks Fn pc lv (.int y :: .int x :: st) M := fun p e s m args below meth c H locs ls C hP hS hl => lv_imul C.1 C.2.1 hd (k p e s m args below meth c H locs ls C hP hS hl)
theorem T_imul {x y : Int32} (hd : decode cc pc = .ok (.imul, 1))  (k : T G l own cc nL ret R kc ks Fn Dn (pc + 1) lv (.int (x * y) :: st) M r) : T G l own cc nL ret R kc ks Fn Dn pc lv (.int y :: .int x :: st) M r := fun a h d => V_imul hd  (k a h d)
theorem V_iand {x y : Int32} (hd : decode cc pc = .ok (.iand, 1))  (k : V G l own cc nL ret R kc ks Fn (pc + 1) lv (.int (x &&& y) :: st) M) : V G l own cc nL ret R kc ks Fn pc lv (.int y :: .int x :: st) M := fun p e s m args below meth c H locs ls C hP hS hl => lv_iand C.1 C.2.1 hd (k p e s m args below meth c H locs ls C hP hS hl)
theorem T_iand {x y : Int32} (hd : decode cc pc = .ok (.iand, 1))  (k : T G l own cc nL ret R kc ks Fn Dn (pc + 1) lv (.int (x &&& y) :: st) M r) : T G l own cc nL ret R kc ks Fn Dn pc lv (.int y :: .int x :: st) M r := fun a h d => V_iand hd  (k a h d)
theorem V_ior {x y : Int32} (hd : decode cc pc = .ok (.ior, 1))  (k : V G l own cc nL ret R kc ks Fn (pc + 1) lv (.int (x ||| y) :: st) M) : V G l own cc nL ret R kc ks Fn pc lv (.int y :: .int x :: st) M := fun p e s m args below meth c H locs ls C hP hS hl => lv_ior C.1 C.2.1 hd (k p e s m args below meth c H locs ls C hP hS hl)
theorem T_ior {x y : Int32} (hd : decode cc pc = .ok (.ior, 1))  (k : T G l own cc nL ret R kc ks Fn Dn (pc + 1) lv (.int (x ||| y) :: st) M r) : T G l own cc nL ret R kc ks Fn Dn pc lv (.int y :: .int x :: st) M r := fun a h d => V_ior hd  (k a h d)
theorem V_ixor {x y : Int32} (hd : decode cc pc = .ok (.ixor, 1))  (k : V G l own cc nL ret R kc ks Fn (pc + 1) lv (.int (x ^^^ y) :: st) M) : V G l own cc nL ret R kc ks Fn pc lv (.int y :: .int x :: st) M := fun p e s m args below meth c H locs ls C hP hS hl => lv_ixor C.1 C.2.1 hd (k p e s m args below meth c H locs ls C hP hS hl)
theorem T_ixor {x y : Int32} (hd : decode cc pc = .ok (.ixor, 1))  (k : T G l own cc nL ret R kc ks Fn Dn (pc + 1) lv (.int (x ^^^ y) :: st) M r) : T G l own cc nL ret R kc ks Fn Dn pc lv (.int y :: .int x :: st) M r := fun a h d => V_ixor hd  (k a h d)
theorem V_ladd {x y : Int64} (hd : decode cc pc = .ok (.ladd, 1))  (k : V G l own cc nL ret R kc ks Fn (pc + 1) lv (.long (x + y) :: st) M) : V G l own cc nL ret R kc ks Fn pc lv (.long y :: .long x :: st) M := fun p e s m args below meth c H locs ls C hP hS hl => lv_ladd C.1 C.2.1 hd (k p e s m args below meth c H locs ls C hP hS hl)
theorem T_ladd {x y : Int64} (hd : decode cc pc = .ok (.ladd, 1))  (k : T G l own cc nL ret R kc ks Fn Dn (pc + 1) lv (.long (x + y) :: st) M r) : T G l own cc nL ret R kc ks Fn Dn pc lv (.long y :: .long x :: st) M r := fun a h d => V_ladd hd  (k a h d)
theorem V_lsub {x y : Int64} (hd : decode cc pc = .ok (.lsub, 1))  (k : V G l own cc nL ret R kc ks Fn (pc + 1) lv (.long (x - y) :: st) M) : V G l own cc nL ret R kc ks Fn pc lv (.long y :: .long x :: st) M := fun p e s m args below meth c H locs ls C hP hS hl => lv_lsub C.1 C.2.1 hd (k p e s m args below meth c H locs ls C hP hS hl)
theorem T_lsub {x y : Int64} (hd : decode cc pc = .ok (.lsub, 1))  (k : T G l own cc nL ret R kc ks Fn Dn (pc + 1) lv (.long (x - y) :: st) M r) : T G l own cc nL ret R kc ks Fn Dn pc lv (.long y :: .long x :: st) M r := fun a h d => V_lsub hd  (k a h d)
theorem V_lmul {x y : Int64} (hd : decode cc pc = .ok (.lmul, 1))  (k : V G l own cc nL ret R kc ks Fn (pc + 1) lv (.long (x * y) :: st) M) : V G l own cc nL ret R kc ks Fn pc lv (.long y :: .long x :: st) M := fun p e s m args below meth c H locs ls C hP hS hl => lv_lmul C.1 C.2.1 hd (k p e s m args below meth c H locs ls C hP hS hl)
theorem T_lmul {x y : Int64} (hd : decode cc pc = .ok (.lmul, 1))  (k : T G l own cc nL ret R kc ks Fn Dn (pc + 1) lv (.long (x * y) :: st) M r) : T G l own cc nL ret R kc ks Fn Dn pc lv (.long y :: .long x :: st) M r := fun a h d => V_lmul hd  (k a h d)
theorem V_land {x y : Int64} (hd : decode cc pc = .ok (.land, 1))  (k : V G l own cc nL ret R kc ks Fn (pc + 1) lv (.long (x &&& y) :: st) M) : V G l own cc nL ret R kc ks Fn pc lv (.long y :: .long x :: st) M := fun p e s m args below meth c H locs ls C hP hS hl => lv_land C.1 C.2.1 hd (k p e s m args below meth c H locs ls C hP hS hl)
theorem T_land {x y : Int64} (hd : decode cc pc = .ok (.land, 1))  (k : T G l own cc nL ret R kc ks Fn Dn (pc + 1) lv (.long (x &&& y) :: st) M r) : T G l own cc nL ret R kc ks Fn Dn pc lv (.long y :: .long x :: st) M r := fun a h d => V_land hd  (k a h d)
theorem V_lor {x y : Int64} (hd : decode cc pc = .ok (.lor, 1))  (k : V G l own cc nL ret R kc ks Fn (pc + 1) lv (.long (x ||| y) :: st) M) : V G l own cc nL ret R kc ks Fn pc lv (.long y :: .long x :: st) M := fun p e s m args below meth c H locs ls C hP hS hl => lv_lor C.1 C.2.1 hd (k p e s m args below meth c H locs ls C hP hS hl)
theorem T_lor {x y : Int64} (hd : decode cc pc = .ok (.lor, 1))  (k : T G l own cc nL ret R kc ks Fn Dn (pc + 1) lv (.long (x ||| y) :: st) M r) : T G l own cc nL ret R kc ks Fn Dn pc lv (.long y :: .long x :: st) M r := fun a h d => V_lor hd  (k a h d)
theorem V_lxor {x y : Int64} (hd : decode cc pc = .ok (.lxor, 1))  (k : V G l own cc nL ret R kc ks Fn (pc + 1) lv (.long (x ^^^ y) :: st) M) : V G l own cc nL ret R kc ks Fn pc lv (.long y :: .long x :: st) M := fun p e s m args below meth c H locs ls C hP hS hl => lv_lxor C.1 C.2.1 hd (k p e s m args below meth c H locs ls C hP hS hl)
theorem T_lxor {x y : Int64} (hd : decode cc pc = .ok (.lxor, 1))  (k : T G l own cc nL ret R kc ks Fn Dn (pc + 1) lv (.long (x ^^^ y) :: st) M r) : T G l own cc nL ret R kc ks Fn Dn pc lv (.long y :: .long x :: st) M r := fun a h d => V_lxor hd  (k a h d)
theorem V_ishl {x y : Int32} (hd : decode cc pc = .ok (.ishl, 1))  (k : V G l own cc nL ret R kc ks Fn (pc + 1) lv (.int (x <<< (y &&& 31)) :: st) M) : V G l own cc nL ret R kc ks Fn pc lv (.int y :: .int x :: st) M := fun p e s m args below meth c H locs ls C hP hS hl => lv_ishl C.1 C.2.1 hd (k p e s m args below meth c H locs ls C hP hS hl)
theorem T_ishl {x y : Int32} (hd : decode cc pc = .ok (.ishl, 1))  (k : T G l own cc nL ret R kc ks Fn Dn (pc + 1) lv (.int (x <<< (y &&& 31)) :: st) M r) : T G l own cc nL ret R kc ks Fn Dn pc lv (.int y :: .int x :: st) M r := fun a h d => V_ishl hd  (k a h d)
theorem V_ineg {x : Int32} (hd : decode cc pc = .ok (.ineg, 1))  (k : V G l own cc nL ret R kc ks Fn (pc + 1) lv (.int (-x) :: st) M) : V G l own cc nL ret R kc ks Fn pc lv (.int x :: st) M := fun p e s m args below meth c H locs ls C hP hS hl => lv_ineg C.1 C.2.1 hd (k p e s m args below meth c H locs ls C hP hS hl)
theorem T_ineg {x : Int32} (hd : decode cc pc = .ok (.ineg, 1))  (k : T G l own cc nL ret R kc ks Fn Dn (pc + 1) lv (.int (-x) :: st) M r) : T G l own cc nL ret R kc ks Fn Dn pc lv (.int x :: st) M r := fun a h d => V_ineg hd  (k a h d)
def ushr (x y : Int32) : Int32 := (x.toUInt32 >>> (y.toUInt32 &&& Int32.toUInt32 31)).toInt32
def lushr (x : Int64) (y : Int32) : Int64 := (x.toUInt64 >>> (y.toInt64.toUInt64 &&& Int64.toUInt64 63)).toInt64
def lshl (x : Int64) (y : Int32) : Int64 := x <<< (y.toInt64 &&& 63)
def lshr (x : Int64) (y : Int32) : Int64 := x >>> (y.toInt64 &&& 63)
theorem V_iushr {x y : Int32} (hd : decode cc pc = .ok (.iushr, 1))  (k : V G l own cc nL ret R kc ks Fn (pc + 1) lv (.int (ushr x y) :: st) M) : V G l own cc nL ret R kc ks Fn pc lv (.int y :: .int x :: st) M := fun p e s m args below meth c H locs ls C hP hS hl => lv_iushr C.1 C.2.1 hd rfl (k p e s m args below meth c H locs ls C hP hS hl)
theorem T_iushr {x y : Int32} (hd : decode cc pc = .ok (.iushr, 1))  (k : T G l own cc nL ret R kc ks Fn Dn (pc + 1) lv (.int (ushr x y) :: st) M r) : T G l own cc nL ret R kc ks Fn Dn pc lv (.int y :: .int x :: st) M r := fun a h d => V_iushr hd  (k a h d)
theorem V_lushr {x : Int64} {y : Int32} (hd : decode cc pc = .ok (.lushr, 1))  (k : V G l own cc nL ret R kc ks Fn (pc + 1) lv (.long (lushr x y) :: st) M) : V G l own cc nL ret R kc ks Fn pc lv (.int y :: .long x :: st) M := fun p e s m args below meth c H locs ls C hP hS hl => lv_lushr C.1 C.2.1 hd rfl (k p e s m args below meth c H locs ls C hP hS hl)
theorem T_lushr {x : Int64} {y : Int32} (hd : decode cc pc = .ok (.lushr, 1))  (k : T G l own cc nL ret R kc ks Fn Dn (pc + 1) lv (.long (lushr x y) :: st) M r) : T G l own cc nL ret R kc ks Fn Dn pc lv (.int y :: .long x :: st) M r := fun a h d => V_lushr hd  (k a h d)
theorem V_lshl {x : Int64} {y : Int32} (hd : decode cc pc = .ok (.lshl, 1))  (k : V G l own cc nL ret R kc ks Fn (pc + 1) lv (.long (lshl x y) :: st) M) : V G l own cc nL ret R kc ks Fn pc lv (.int y :: .long x :: st) M := fun p e s m args below meth c H locs ls C hP hS hl => lv_lshl C.1 C.2.1 hd rfl (k p e s m args below meth c H locs ls C hP hS hl)
theorem T_lshl {x : Int64} {y : Int32} (hd : decode cc pc = .ok (.lshl, 1))  (k : T G l own cc nL ret R kc ks Fn Dn (pc + 1) lv (.long (lshl x y) :: st) M r) : T G l own cc nL ret R kc ks Fn Dn pc lv (.int y :: .long x :: st) M r := fun a h d => V_lshl hd  (k a h d)
theorem V_lshr {x : Int64} {y : Int32} (hd : decode cc pc = .ok (.lshr, 1))  (k : V G l own cc nL ret R kc ks Fn (pc + 1) lv (.long (lshr x y) :: st) M) : V G l own cc nL ret R kc ks Fn pc lv (.int y :: .long x :: st) M := fun p e s m args below meth c H locs ls C hP hS hl => lv_lshr C.1 C.2.1 hd rfl (k p e s m args below meth c H locs ls C hP hS hl)
theorem T_lshr {x : Int64} {y : Int32} (hd : decode cc pc = .ok (.lshr, 1))  (k : T G l own cc nL ret R kc ks Fn Dn (pc + 1) lv (.long (lshr x y) :: st) M r) : T G l own cc nL ret R kc ks Fn Dn pc lv (.int y :: .long x :: st) M r := fun a h d => V_lshr hd  (k a h d)
theorem V_i2l {x : Int32} (hd : decode cc pc = .ok (.i2l, 1))  (k : V G l own cc nL ret R kc ks Fn (pc + 1) lv (.long x.toInt64 :: st) M) : V G l own cc nL ret R kc ks Fn pc lv (.int x :: st) M := fun p e s m args below meth c H locs ls C hP hS hl => lv_i2l C.1 C.2.1 hd rfl (k p e s m args below meth c H locs ls C hP hS hl)
theorem T_i2l {x : Int32} (hd : decode cc pc = .ok (.i2l, 1))  (k : T G l own cc nL ret R kc ks Fn Dn (pc + 1) lv (.long x.toInt64 :: st) M r) : T G l own cc nL ret R kc ks Fn Dn pc lv (.int x :: st) M r := fun a h d => V_i2l hd  (k a h d)
theorem V_l2i {x : Int64} (hd : decode cc pc = .ok (.l2i, 1))  (k : V G l own cc nL ret R kc ks Fn (pc + 1) lv (.int x.toInt32 :: st) M) : V G l own cc nL ret R kc ks Fn pc lv (.long x :: st) M := fun p e s m args below meth c H locs ls C hP hS hl => lv_l2i C.1 C.2.1 hd rfl (k p e s m args below meth c H locs ls C hP hS hl)
theorem T_l2i {x : Int64} (hd : decode cc pc = .ok (.l2i, 1))  (k : T G l own cc nL ret R kc ks Fn Dn (pc + 1) lv (.int x.toInt32 :: st) M r) : T G l own cc nL ret R kc ks Fn Dn pc lv (.long x :: st) M r := fun a h d => V_l2i hd  (k a h d)
theorem V_i2b {x : Int32} (hd : decode cc pc = .ok (.i2b, 1))  (k : V G l own cc nL ret R kc ks Fn (pc + 1) lv (.int x.toInt8.toInt32 :: st) M) : V G l own cc nL ret R kc ks Fn pc lv (.int x :: st) M := fun p e s m args below meth c H locs ls C hP hS hl => lv_i2b C.1 C.2.1 hd rfl (k p e s m args below meth c H locs ls C hP hS hl)
theorem T_i2b {x : Int32} (hd : decode cc pc = .ok (.i2b, 1))  (k : T G l own cc nL ret R kc ks Fn Dn (pc + 1) lv (.int x.toInt8.toInt32 :: st) M r) : T G l own cc nL ret R kc ks Fn Dn pc lv (.int x :: st) M r := fun a h d => V_i2b hd  (k a h d)
theorem V_i2s {x : Int32} (hd : decode cc pc = .ok (.i2s, 1))  (k : V G l own cc nL ret R kc ks Fn (pc + 1) lv (.int x.toInt16.toInt32 :: st) M) : V G l own cc nL ret R kc ks Fn pc lv (.int x :: st) M := fun p e s m args below meth c H locs ls C hP hS hl => lv_i2s C.1 C.2.1 hd rfl (k p e s m args below meth c H locs ls C hP hS hl)
theorem T_i2s {x : Int32} (hd : decode cc pc = .ok (.i2s, 1))  (k : T G l own cc nL ret R kc ks Fn Dn (pc + 1) lv (.int x.toInt16.toInt32 :: st) M r) : T G l own cc nL ret R kc ks Fn Dn pc lv (.int x :: st) M r := fun a h d => V_i2s hd  (k a h d)
theorem V_lcmp {x y : Int64} (hd : decode cc pc = .ok (.lcmp, 1))  (k : V G l own cc nL ret R kc ks Fn (pc + 1) lv (.int (lg_cmp x y) :: st) M) : V G l own cc nL ret R kc ks Fn pc lv (.long y :: .long x :: st) M := fun p e s m args below meth c H locs ls C hP hS hl => W.lcmp C.1 C.2.1 hd (k p e s m args below meth c H locs ls C hP hS hl)
theorem T_lcmp {x y : Int64} (hd : decode cc pc = .ok (.lcmp, 1))  (k : T G l own cc nL ret R kc ks Fn Dn (pc + 1) lv (.int (lg_cmp x y) :: st) M r) : T G l own cc nL ret R kc ks Fn Dn pc lv (.long y :: .long x :: st) M r := fun a h d => V_lcmp hd  (k a h d)
theorem V_dup {va : Value} (hd : decode cc pc = .ok (.dup, 1)) (hc : va.category = 1) (k : V G l own cc nL ret R kc ks Fn (pc + 1) lv (va :: va :: st) M) : V G l own cc nL ret R kc ks Fn pc lv (va :: st) M := fun p e s m args below meth c H locs ls C hP hS hl => lv_dup C.1 C.2.1 hd hc (k p e s m args below meth c H locs ls C hP hS hl)
theorem T_dup {va : Value} (hd : decode cc pc = .ok (.dup, 1)) (hc : va.category = 1) (k : T G l own cc nL ret R kc ks Fn Dn (pc + 1) lv (va :: va :: st) M r) : T G l own cc nL ret R kc ks Fn Dn pc lv (va :: st) M r := fun a h d => V_dup hd hc (k a h d)
theorem V_dup2_11 {va vb : Value} (hd : decode cc pc = .ok (.dup2, 1)) (hc : va.category = 1) (hc2 : vb.category = 1) (k : V G l own cc nL ret R kc ks Fn (pc + 1) lv (va :: vb :: va :: vb :: st) M) : V G l own cc nL ret R kc ks Fn pc lv (va :: vb :: st) M := fun p e s m args below meth c H locs ls C hP hS hl => lv_dup2_11 C.1 C.2.1 hd hc hc2 (k p e s m args below meth c H locs ls C hP hS hl)
theorem T_dup2_11 {va vb : Value} (hd : decode cc pc = .ok (.dup2, 1)) (hc : va.category = 1) (hc2 : vb.category = 1) (k : T G l own cc nL ret R kc ks Fn Dn (pc + 1) lv (va :: vb :: va :: vb :: st) M r) : T G l own cc nL ret R kc ks Fn Dn pc lv (va :: vb :: st) M r := fun a h d => V_dup2_11 hd hc hc2 (k a h d)
theorem V_goto {off : Int} {tgt : Nat} (hd : decode cc pc = .ok (.goto off, 3)) (ht : (pc : Int) + off = (tgt : Int)) (k : V G l own cc nL ret R kc ks Fn tgt lv (st) M) : V G l own cc nL ret R kc ks Fn pc lv (st) M := fun p e s m args below meth c H locs ls C hP hS hl => lv_goto C.1 C.2.1 hd ht (k p e s m args below meth c H locs ls C hP hS hl)
theorem T_goto {off : Int} {tgt : Nat} (hd : decode cc pc = .ok (.goto off, 3)) (ht : (pc : Int) + off = (tgt : Int)) (k : T G l own cc nL ret R kc ks Fn Dn tgt lv (st) M r) : T G l own cc nL ret R kc ks Fn Dn pc lv (st) M r := fun a h d => V_goto hd ht (k a h d)
theorem V_istore_n {kk : Fin 4} {i : Nat} {x : Int32} {lv' : List (Nat × Value)} (hd : decode cc pc = .ok (.istore_n kk, 1)) (hi : (kk : Nat) = i) (hn : i < nL) (hf : (i, .int x) :: lv.filter (fun q => !(q.1 == i) && !(q.1 + 1 == i && q.2.category == 2)) = lv') (k : V G l own cc nL ret R kc ks Fn (pc + 1) lv' st M) : V G l own cc nL ret R kc ks Fn pc lv (.int x :: st) M := fun p e s m args below meth c H locs ls C hP hS hl => lv_istore_n C.1 C.2.1 hd hi hl hn hf (fun ls' hl' => k p e s m args below meth c H locs ls' C hP hS hl')
theorem T_istore_n {kk : Fin 4} {i : Nat} {x : Int32} {lv' : List (Nat × Value)} (hd : decode cc pc = .ok (.istore_n kk, 1)) (hi : (kk : Nat) = i) (hn : i < nL) (hf : (i, .int x) :: lv.filter (fun q => !(q.1 == i) && !(q.1 + 1 == i && q.2.category == 2)) = lv') (k : T G l own cc nL ret R kc ks Fn Dn (pc + 1) lv' st M r) : T G l own cc nL ret R kc ks Fn Dn pc lv (.int x :: st) M r := fun a h d => V_istore_n hd hi hn hf (k a h d)
theorem T_istore_n_G {kk : Fin 4} {i : Nat} {x : Int32} {K : Int32 → Option α} {lv' : Int32 → List (Nat × Value)} (hd : decode cc pc = .ok (.istore_n kk, 1)) (hi : (kk : Nat) = i) (hn : i < nL) (hf : ∀ z, (i, .int z) :: lv.filter (fun q => !(q.1 == i) && !(q.1 + 1 == i && q.2.category == 2)) = lv' z) (k : ∀ z, T G l own cc nL ret R kc ks Fn Dn (pc + 1) (lv' z) st M (K z)) : T G l own cc nL ret R kc ks Fn Dn pc lv (.int x :: st) M (lt x K) := fun a h d => V_istore_n hd hi hn (hf x) (k x a h d)
theorem V_istore  {i : Nat} {x : Int32} {lv' : List (Nat × Value)} (hd : decode cc pc = .ok (.istore i, 2))  (hn : i < nL) (hf : (i, .int x) :: lv.filter (fun q => !(q.1 == i) && !(q.1 + 1 == i && q.2.category == 2)) = lv') (k : V G l own cc nL ret R kc ks Fn (pc + 2) lv' st M) : V G l own cc nL ret R kc ks Fn pc lv (.int x :: st) M := fun p e s m args below meth c H locs ls C hP hS hl => lv_istore C.1 C.2.1 hd  hl hn hf (fun ls' hl' => k p e s m args below meth c H locs ls' C hP hS hl')
theorem T_istore  {i : Nat} {x : Int32} {lv' : List (Nat × Value)} (hd : decode cc pc = .ok (.istore i, 2))  (hn : i < nL) (hf : (i, .int x) :: lv.filter (fun q => !(q.1 == i) && !(q.1 + 1 == i && q.2.category == 2)) = lv') (k : T G l own cc nL ret R kc ks Fn Dn (pc + 2) lv' st M r) : T G l own cc nL ret R kc ks Fn Dn pc lv (.int x :: st) M r := fun a h d => V_istore hd  hn hf (k a h d)
theorem T_istore_G  {i : Nat} {x : Int32} {K : Int32 → Option α} {lv' : Int32 → List (Nat × Value)} (hd : decode cc pc = .ok (.istore i, 2))  (hn : i < nL) (hf : ∀ z, (i, .int z) :: lv.filter (fun q => !(q.1 == i) && !(q.1 + 1 == i && q.2.category == 2)) = lv' z) (k : ∀ z, T G l own cc nL ret R kc ks Fn Dn (pc + 2) (lv' z) st M (K z)) : T G l own cc nL ret R kc ks Fn Dn pc lv (.int x :: st) M (lt x K) := fun a h d => V_istore hd  hn (hf x) (k x a h d)
theorem V_lstore_n {kk : Fin 4} {i : Nat} {x : Int64} {lv' : List (Nat × Value)} (hd : decode cc pc = .ok (.lstore_n kk, 1)) (hi : (kk : Nat) = i) (hn : i + 1 < nL) (hf : (i, .long x) :: lv.filter (fun q => !(q.1 == i) && (!(q.1 == i + 1) && !(q.1 + 1 == i && q.2.category == 2))) = lv') (k : V G l own cc nL ret R kc ks Fn (pc + 1) lv' st M) : V G l own cc nL ret R kc ks Fn pc lv (.long x :: st) M := fun p e s m args below meth c H locs ls C hP hS hl => lv_lstore_n C.1 C.2.1 hd hi hl hn hf (fun ls' hl' => k p e s m args below meth c H locs ls' C hP hS hl')
theorem T_lstore_n {kk : Fin 4} {i : Nat} {x : Int64} {lv' : List (Nat × Value)} (hd : decode cc pc = .ok (.lstore_n kk, 1)) (hi : (kk : Nat) = i) (hn : i + 1 < nL) (hf : (i, .long x) :: lv.filter (fun q => !(q.1 == i) && (!(q.1 == i + 1) && !(q.1 + 1 == i && q.2.category == 2))) = lv') (k : T G l own cc nL ret R kc ks Fn Dn (pc + 1) lv' st M r) : T G l own cc nL ret R kc ks Fn Dn pc lv (.long x :: st) M r := fun a h d => V_lstore_n hd hi hn hf (k a h d)
theorem T_lstore_n_G {kk : Fin 4} {i : Nat} {x : Int64} {K : Int64 → Option α} {lv' : Int64 → List (Nat × Value)} (hd : decode cc pc = .ok (.lstore_n kk, 1)) (hi : (kk : Nat) = i) (hn : i + 1 < nL) (hf : ∀ z, (i, .long z) :: lv.filter (fun q => !(q.1 == i) && (!(q.1 == i + 1) && !(q.1 + 1 == i && q.2.category == 2))) = lv' z) (k : ∀ z, T G l own cc nL ret R kc ks Fn Dn (pc + 1) (lv' z) st M (K z)) : T G l own cc nL ret R kc ks Fn Dn pc lv (.long x :: st) M (lt x K) := fun a h d => V_lstore_n hd hi hn (hf x) (k x a h d)
theorem V_lstore  {i : Nat} {x : Int64} {lv' : List (Nat × Value)} (hd : decode cc pc = .ok (.lstore i, 2))  (hn : i + 1 < nL) (hf : (i, .long x) :: lv.filter (fun q => !(q.1 == i) && (!(q.1 == i + 1) && !(q.1 + 1 == i && q.2.category == 2))) = lv') (k : V G l own cc nL ret R kc ks Fn (pc + 2) lv' st M) : V G l own cc nL ret R kc ks Fn pc lv (.long x :: st) M := fun p e s m args below meth c H locs ls C hP hS hl => lv_lstore C.1 C.2.1 hd  hl hn hf (fun ls' hl' => k p e s m args below meth c H locs ls' C hP hS hl')
theorem T_lstore  {i : Nat} {x : Int64} {lv' : List (Nat × Value)} (hd : decode cc pc = .ok (.lstore i, 2))  (hn : i + 1 < nL) (hf : (i, .long x) :: lv.filter (fun q => !(q.1 == i) && (!(q.1 == i + 1) && !(q.1 + 1 == i && q.2.category == 2))) = lv') (k : T G l own cc nL ret R kc ks Fn Dn (pc + 2) lv' st M r) : T G l own cc nL ret R kc ks Fn Dn pc lv (.long x :: st) M r := fun a h d => V_lstore hd  hn hf (k a h d)
theorem T_lstore_G  {i : Nat} {x : Int64} {K : Int64 → Option α} {lv' : Int64 → List (Nat × Value)} (hd : decode cc pc = .ok (.lstore i, 2))  (hn : i + 1 < nL) (hf : ∀ z, (i, .long z) :: lv.filter (fun q => !(q.1 == i) && (!(q.1 == i + 1) && !(q.1 + 1 == i && q.2.category == 2))) = lv' z) (k : ∀ z, T G l own cc nL ret R kc ks Fn Dn (pc + 2) (lv' z) st M (K z)) : T G l own cc nL ret R kc ks Fn Dn pc lv (.long x :: st) M (lt x K) := fun a h d => V_lstore hd  hn (hf x) (k x a h d)
theorem V_astore_n {kk : Fin 4} {i : Nat} {x : Nat} {lv' : List (Nat × Value)} (hd : decode cc pc = .ok (.astore_n kk, 1)) (hi : (kk : Nat) = i) (hn : i < nL) (hf : (i, .ref x) :: lv.filter (fun q => !(q.1 == i) && !(q.1 + 1 == i && q.2.category == 2)) = lv') (k : V G l own cc nL ret R kc ks Fn (pc + 1) lv' st M) : V G l own cc nL ret R kc ks Fn pc lv (.ref x :: st) M := fun p e s m args below meth c H locs ls C hP hS hl => lv_astore_n C.1 C.2.1 hd hi hl hn hf (fun ls' hl' => k p e s m args below meth c H locs ls' C hP hS hl')
theorem T_astore_n {kk : Fin 4} {i : Nat} {x : Nat} {lv' : List (Nat × Value)} (hd : decode cc pc = .ok (.astore_n kk, 1)) (hi : (kk : Nat) = i) (hn : i < nL) (hf : (i, .ref x) :: lv.filter (fun q => !(q.1 == i) && !(q.1 + 1 == i && q.2.category == 2)) = lv') (k : T G l own cc nL ret R kc ks Fn Dn (pc + 1) lv' st M r) : T G l own cc nL ret R kc ks Fn Dn pc lv (.ref x :: st) M r := fun a h d => V_astore_n hd hi hn hf (k a h d)
theorem T_astore_n_G {kk : Fin 4} {i : Nat} {x ci : Nat} {K : Nat → Option α} {lv' : Nat → List (Nat × Value)} (hs : shp x = ci) (hd : decode cc pc = .ok (.astore_n kk, 1)) (hi : (kk : Nat) = i) (hn : i < nL) (hf : ∀ z, (i, .ref (adr G z)) :: lv.filter (fun q => !(q.1 == i) && !(q.1 + 1 == i && q.2.category == 2)) = lv' z) (k : ∀ z, shp z = ci → T G l own cc nL ret R kc ks Fn Dn (pc + 1) (lv' z) st M (K z)) : T G l own cc nL ret R kc ks Fn Dn pc lv (.ref (adr G x) :: st) M (lt x K) := fun a h d => V_astore_n hd hi hn (hf x) (k x hs a h d)
theorem V_astore  {i : Nat} {x : Nat} {lv' : List (Nat × Value)} (hd : decode cc pc = .ok (.astore i, 2))  (hn : i < nL) (hf : (i, .ref x) :: lv.filter (fun q => !(q.1 == i) && !(q.1 + 1 == i && q.2.category == 2)) = lv') (k : V G l own cc nL ret R kc ks Fn (pc + 2) lv' st M) : V G l own cc nL ret R kc ks Fn pc lv (.ref x :: st) M := fun p e s m args below meth c H locs ls C hP hS hl => lv_astore C.1 C.2.1 hd  hl hn hf (fun ls' hl' => k p e s m args below meth c H locs ls' C hP hS hl')
theorem T_astore  {i : Nat} {x : Nat} {lv' : List (Nat × Value)} (hd : decode cc pc = .ok (.astore i, 2))  (hn : i < nL) (hf : (i, .ref x) :: lv.filter (fun q => !(q.1 == i) && !(q.1 + 1 == i && q.2.category == 2)) = lv') (k : T G l own cc nL ret R kc ks Fn Dn (pc + 2) lv' st M r) : T G l own cc nL ret R kc ks Fn Dn pc lv (.ref x :: st) M r := fun a h d => V_astore hd  hn hf (k a h d)
theorem T_astore_G  {i : Nat} {x ci : Nat} {K : Nat → Option α} {lv' : Nat → List (Nat × Value)} (hs : shp x = ci) (hd : decode cc pc = .ok (.astore i, 2))  (hn : i < nL) (hf : ∀ z, (i, .ref (adr G z)) :: lv.filter (fun q => !(q.1 == i) && !(q.1 + 1 == i && q.2.category == 2)) = lv' z) (k : ∀ z, shp z = ci → T G l own cc nL ret R kc ks Fn Dn (pc + 2) (lv' z) st M (K z)) : T G l own cc nL ret R kc ks Fn Dn pc lv (.ref (adr G x) :: st) M (lt x K) := fun a h d => V_astore hd  hn (hf x) (k x hs a h d)
theorem T_iinc_G {i q : Nat} {n : Int} {x y : Int32} {K : Int32 → Option α} {lv' : Int32 → List (Nat × Value)} (hd : decode cc pc = .ok (.iinc i n, 3)) (hq : lv[q]? = some (i, .int x)) (hv : x + Int32.ofInt n = y) (hn : i < nL) (hf : ∀ z, (i, .int z) :: lv.filter (fun q => !(q.1 == i) && !(q.1 + 1 == i && q.2.category == 2)) = lv' z) (k : ∀ z, T G l own cc nL ret R kc ks Fn Dn (pc + 3) (lv' z) st M (K z)) : T G l own cc nL ret R kc ks Fn Dn pc lv st M (lt y K) := fun a h d p e s m args below meth c H locs ls C hP hS hl  => lv_iinc C.1 C.2.1 hd hl hq hv hn (hf y) (fun ls' hl' => k y a h d p e s m args below meth c H locs ls' C hP hS hl')
theorem T_if_eq {x : Int32} {off : Int} {tgt : Nat} {E1 E2 : Option α} (hd : decode cc pc = .ok (.ifCond .eq off, 3)) (ht : (pc : Int) + off = (tgt : Int)) (kt : x = 0 → T G l own cc nL ret R kc ks Fn Dn tgt lv st M E1) (kf : ¬ x = 0 → T G l own cc nL ret R kc ks Fn Dn (pc + 3) lv st M E2) : T G l own cc nL ret R kc ks Fn Dn pc lv (.int x :: st) M (if x = 0 then E1 else E2) := fun a h d p e s m args below meth c H locs ls C hP hS hl  => lv_if_eq C.1 C.2.1 hd ht (fun z => kt z a (by rw [if_pos z] at h; exact h) d p e s m args below meth c H locs ls C hP hS hl) (fun z => kf z a (by rw [if_neg z] at h; exact h) d p e s m args below meth c H locs ls C hP hS hl)
theorem T_if_ne {x : Int32} {off : Int} {tgt : Nat} {E1 E2 : Option α} (hd : decode cc pc = .ok (.ifCond .ne off, 3)) (ht : (pc : Int) + off = (tgt : Int)) (kf : x = 0 → T G l own cc nL ret R kc ks Fn Dn (pc + 3) lv st M E1) (kt : ¬ x = 0 → T G l own cc nL ret R kc ks Fn Dn tgt lv st M E2) : T G l own cc nL ret R kc ks Fn Dn pc lv (.int x :: st) M (if x = 0 then E1 else E2) := fun a h d p e s m args below meth c H locs ls C hP hS hl  => lv_if_ne C.1 C.2.1 hd ht (fun z => kt z a (by rw [if_neg z] at h; exact h) d p e s m args below meth c H locs ls C hP hS hl) (fun z => kf z a (by rw [if_pos z] at h; exact h) d p e s m args below meth c H locs ls C hP hS hl)
theorem T_if_lt {x : Int32} {off : Int} {tgt : Nat} {E1 E2 : Option α} (hd : decode cc pc = .ok (.ifCond .lt off, 3)) (ht : (pc : Int) + off = (tgt : Int)) (kt : x < 0 → T G l own cc nL ret R kc ks Fn Dn tgt lv st M E1) (kf : ¬ x < 0 → T G l own cc nL ret R kc ks Fn Dn (pc + 3) lv st M E2) : T G l own cc nL ret R kc ks Fn Dn pc lv (.int x :: st) M (if x < 0 then E1 else E2) := fun a h d p e s m args below meth c H locs ls C hP hS hl  => lv_if_lt C.1 C.2.1 hd ht (fun z => kt z a (by rw [if_pos z] at h; exact h) d p e s m args below meth c H locs ls C hP hS hl) (fun z => kf z a (by rw [if_neg z] at h; exact h) d p e s m args below meth c H locs ls C hP hS hl)
theorem T_if_ge {x : Int32} {off : Int} {tgt : Nat} {E1 E2 : Option α} (hd : decode cc pc = .ok (.ifCond .ge off, 3)) (ht : (pc : Int) + off = (tgt : Int)) (kt : 0 ≤ x → T G l own cc nL ret R kc ks Fn Dn tgt lv st M E1) (kf : ¬ 0 ≤ x → T G l own cc nL ret R kc ks Fn Dn (pc + 3) lv st M E2) : T G l own cc nL ret R kc ks Fn Dn pc lv (.int x :: st) M (if 0 ≤ x then E1 else E2) := fun a h d p e s m args below meth c H locs ls C hP hS hl  => lv_if_ge C.1 C.2.1 hd ht (fun z => kt z a (by rw [if_pos z] at h; exact h) d p e s m args below meth c H locs ls C hP hS hl) (fun z => kf z a (by rw [if_neg z] at h; exact h) d p e s m args below meth c H locs ls C hP hS hl)
theorem T_if_gt {x : Int32} {off : Int} {tgt : Nat} {E1 E2 : Option α} (hd : decode cc pc = .ok (.ifCond .gt off, 3)) (ht : (pc : Int) + off = (tgt : Int)) (kt : 0 < x → T G l own cc nL ret R kc ks Fn Dn tgt lv st M E1) (kf : ¬ 0 < x → T G l own cc nL ret R kc ks Fn Dn (pc + 3) lv st M E2) : T G l own cc nL ret R kc ks Fn Dn pc lv (.int x :: st) M (if 0 < x then E1 else E2) := fun a h d p e s m args below meth c H locs ls C hP hS hl  => lv_if_gt C.1 C.2.1 hd ht (fun z => kt z a (by rw [if_pos z] at h; exact h) d p e s m args below meth c H locs ls C hP hS hl) (fun z => kf z a (by rw [if_neg z] at h; exact h) d p e s m args below meth c H locs ls C hP hS hl)
theorem T_if_le {x : Int32} {off : Int} {tgt : Nat} {E1 E2 : Option α} (hd : decode cc pc = .ok (.ifCond .le off, 3)) (ht : (pc : Int) + off = (tgt : Int)) (kt : x ≤ 0 → T G l own cc nL ret R kc ks Fn Dn tgt lv st M E1) (kf : ¬ x ≤ 0 → T G l own cc nL ret R kc ks Fn Dn (pc + 3) lv st M E2) : T G l own cc nL ret R kc ks Fn Dn pc lv (.int x :: st) M (if x ≤ 0 then E1 else E2) := fun a h d p e s m args below meth c H locs ls C hP hS hl  => lv_if_le C.1 C.2.1 hd ht (fun z => kt z a (by rw [if_pos z] at h; exact h) d p e s m args below meth c H locs ls C hP hS hl) (fun z => kf z a (by rw [if_neg z] at h; exact h) d p e s m args below meth c H locs ls C hP hS hl)
theorem T_icmp_eq {x y : Int32} {off : Int} {tgt : Nat} {E1 E2 : Option α} (hd : decode cc pc = .ok (.if_icmp .eq off, 3)) (ht : (pc : Int) + off = (tgt : Int)) (kt : x = y → T G l own cc nL ret R kc ks Fn Dn tgt lv st M E1) (kf : ¬ x = y → T G l own cc nL ret R kc ks Fn Dn (pc + 3) lv st M E2) : T G l own cc nL ret R kc ks Fn Dn pc lv (.int y :: .int x :: st) M (if x = y then E1 else E2) := fun a h d p e s m args below meth c H locs ls C hP hS hl  => lv_icmp_eq C.1 C.2.1 hd ht (fun z => kt z a (by rw [if_pos z] at h; exact h) d p e s m args below meth c H locs ls C hP hS hl) (fun z => kf z a (by rw [if_neg z] at h; exact h) d p e s m args below meth c H locs ls C hP hS hl)
theorem T_icmp_ne {x y : Int32} {off : Int} {tgt : Nat} {E1 E2 : Option α} (hd : decode cc pc = .ok (.if_icmp .ne off, 3)) (ht : (pc : Int) + off = (tgt : Int)) (kf : x = y → T G l own cc nL ret R kc ks Fn Dn (pc + 3) lv st M E1) (kt : ¬ x = y → T G l own cc nL ret R kc ks Fn Dn tgt lv st M E2) : T G l own cc nL ret R kc ks Fn Dn pc lv (.int y :: .int x :: st) M (if x = y then E1 else E2) := fun a h d p e s m args below meth c H locs ls C hP hS hl  => lv_icmp_ne C.1 C.2.1 hd ht (fun z => kt z a (by rw [if_neg z] at h; exact h) d p e s m args below meth c H locs ls C hP hS hl) (fun z => kf z a (by rw [if_pos z] at h; exact h) d p e s m args below meth c H locs ls C hP hS hl)
theorem T_icmp_lt {x y : Int32} {off : Int} {tgt : Nat} {E1 E2 : Option α} (hd : decode cc pc = .ok (.if_icmp .lt off, 3)) (ht : (pc : Int) + off = (tgt : Int)) (kt : x < y → T G l own cc nL ret R kc ks Fn Dn tgt lv st M E1) (kf : ¬ x < y → T G l own cc nL ret R kc ks Fn Dn (pc + 3) lv st M E2) : T G l own cc nL ret R kc ks Fn Dn pc lv (.int y :: .int x :: st) M (if x < y then E1 else E2) := fun a h d p e s m args below meth c H locs ls C hP hS hl  => lv_icmp_lt C.1 C.2.1 hd ht (fun z => kt z a (by rw [if_pos z] at h; exact h) d p e s m args below meth c H locs ls C hP hS hl) (fun z => kf z a (by rw [if_neg z] at h; exact h) d p e s m args below meth c H locs ls C hP hS hl)
theorem T_icmp_ge {x y : Int32} {off : Int} {tgt : Nat} {E1 E2 : Option α} (hd : decode cc pc = .ok (.if_icmp .ge off, 3)) (ht : (pc : Int) + off = (tgt : Int)) (kt : y ≤ x → T G l own cc nL ret R kc ks Fn Dn tgt lv st M E1) (kf : ¬ y ≤ x → T G l own cc nL ret R kc ks Fn Dn (pc + 3) lv st M E2) : T G l own cc nL ret R kc ks Fn Dn pc lv (.int y :: .int x :: st) M (if y ≤ x then E1 else E2) := fun a h d p e s m args below meth c H locs ls C hP hS hl  => lv_icmp_ge C.1 C.2.1 hd ht (fun z => kt z a (by rw [if_pos z] at h; exact h) d p e s m args below meth c H locs ls C hP hS hl) (fun z => kf z a (by rw [if_neg z] at h; exact h) d p e s m args below meth c H locs ls C hP hS hl)
theorem T_icmp_gt {x y : Int32} {off : Int} {tgt : Nat} {E1 E2 : Option α} (hd : decode cc pc = .ok (.if_icmp .gt off, 3)) (ht : (pc : Int) + off = (tgt : Int)) (kt : y < x → T G l own cc nL ret R kc ks Fn Dn tgt lv st M E1) (kf : ¬ y < x → T G l own cc nL ret R kc ks Fn Dn (pc + 3) lv st M E2) : T G l own cc nL ret R kc ks Fn Dn pc lv (.int y :: .int x :: st) M (if y < x then E1 else E2) := fun a h d p e s m args below meth c H locs ls C hP hS hl  => lv_icmp_gt C.1 C.2.1 hd ht (fun z => kt z a (by rw [if_pos z] at h; exact h) d p e s m args below meth c H locs ls C hP hS hl) (fun z => kf z a (by rw [if_neg z] at h; exact h) d p e s m args below meth c H locs ls C hP hS hl)
theorem T_icmp_le {x y : Int32} {off : Int} {tgt : Nat} {E1 E2 : Option α} (hd : decode cc pc = .ok (.if_icmp .le off, 3)) (ht : (pc : Int) + off = (tgt : Int)) (kt : x ≤ y → T G l own cc nL ret R kc ks Fn Dn tgt lv st M E1) (kf : ¬ x ≤ y → T G l own cc nL ret R kc ks Fn Dn (pc + 3) lv st M E2) : T G l own cc nL ret R kc ks Fn Dn pc lv (.int y :: .int x :: st) M (if x ≤ y then E1 else E2) := fun a h d p e s m args below meth c H locs ls C hP hS hl  => lv_icmp_le C.1 C.2.1 hd ht (fun z => kt z a (by rw [if_pos z] at h; exact h) d p e s m args below meth c H locs ls C hP hS hl) (fun z => kf z a (by rw [if_neg z] at h; exact h) d p e s m args below meth c H locs ls C hP hS hl)
theorem T_split {c : Prop} {hc : Decidable c} {E1 E2 : Option α} (kt : c → T G l own cc nL ret R kc ks Fn Dn pc lv st M E1) (kf : ¬ c → T G l own cc nL ret R kc ks Fn Dn pc lv st M E2) : T G l own cc nL ret R kc ks Fn Dn pc lv st M (if c then E1 else E2) := fun a h d => by
  by_cases z : c
  · rw [if_pos z] at h; exact kt z a h d
  · rw [if_neg z] at h; exact kf z a h d
theorem T_tswIn {dflt lo hi : Int} {offs : Array Int} {len : Nat} {x : Int32} {off : Int} {tgt : Nat} (hd : decode cc pc = .ok (.tableswitch dflt lo hi offs, len)) (h1 : ¬ x.toInt < lo) (h2 : ¬ hi < x.toInt) (ho : offs[(x.toInt - lo).toNat]? = some off) (ht : (pc : Int) + off = (tgt : Int)) (k : T G l own cc nL ret R kc ks Fn Dn tgt lv st M r) : T G l own cc nL ret R kc ks Fn Dn pc lv (.int x :: st) M r := fun a h d p e s m args below meth c H locs ls C hP hS hl  => lv_tableIn C.1 C.2.1 hd h1 h2 ho ht (k a h d p e s m args below meth c H locs ls C hP hS hl)
theorem T_tswOut {dflt lo hi : Int} {offs : Array Int} {len : Nat} {x : Int32} {tgt : Nat} (hd : decode cc pc = .ok (.tableswitch dflt lo hi offs, len)) (hx : x.toInt < lo ∨ hi < x.toInt) (ht : (pc : Int) + dflt = (tgt : Int)) (k : T G l own cc nL ret R kc ks Fn Dn tgt lv st M r) : T G l own cc nL ret R kc ks Fn Dn pc lv (.int x :: st) M r := fun a h d p e s m args below meth c H locs ls C hP hS hl  => lv_tableOut C.1 C.2.1 hd hx ht (k a h d p e s m args below meth c H locs ls C hP hS hl)
theorem T_idiv {x y : Int32} (hd : decode cc pc = .ok (.idiv, 1)) (k : T G l own cc nL ret R kc ks Fn Dn (pc + 1) lv (.int (x / y) :: st) M r) : T G l own cc nL ret R kc ks Fn Dn pc lv (.int y :: .int x :: st) M (gz y r) := fun a h d p e s m args below meth c H locs ls C hP hS hl  => by
  by_cases z : y = 0
  · rw [gz, if_pos z] at h; cases h
  · rw [gz, if_neg z] at h; exact lv_idiv C.1 C.2.1 hd z (k a h d p e s m args below meth c H locs ls C hP hS hl)
theorem T_irem {x y : Int32} (hd : decode cc pc = .ok (.irem, 1)) (k : T G l own cc nL ret R kc ks Fn Dn (pc + 1) lv (.int (x - x / y * y) :: st) M r) : T G l own cc nL ret R kc ks Fn Dn pc lv (.int y :: .int x :: st) M (gz y r) := fun a h d p e s m args below meth c H locs ls C hP hS hl  => by
  by_cases z : y = 0
  · rw [gz, if_pos z] at h; cases h
  · rw [gz, if_neg z] at h; exact lv_irem C.1 C.2.1 hd z (k a h d p e s m args below meth c H locs ls C hP hS hl)
theorem T_ldiv {x y : Int64} (hd : decode cc pc = .ok (.ldiv, 1)) (k : T G l own cc nL ret R kc ks Fn Dn (pc + 1) lv (.long (x / y) :: st) M r) : T G l own cc nL ret R kc ks Fn Dn pc lv (.long y :: .long x :: st) M (gzl y r) := fun a h d p e s m args below meth c H locs ls C hP hS hl  => by
  by_cases z : y = 0
  · rw [gzl, if_pos z] at h; cases h
  · rw [gzl, if_neg z] at h; exact lv_ldiv C.1 C.2.1 hd z (k a h d p e s m args below meth c H locs ls C hP hS hl)
theorem T_lrem {x y : Int64} (hd : decode cc pc = .ok (.lrem, 1)) (k : T G l own cc nL ret R kc ks Fn Dn (pc + 1) lv (.long (x - x / y * y) :: st) M r) : T G l own cc nL ret R kc ks Fn Dn pc lv (.long y :: .long x :: st) M (gzl y r) := fun a h d p e s m args below meth c H locs ls C hP hS hl  => by
  by_cases z : y = 0
  · rw [gzl, if_pos z] at h; cases h
  · rw [gzl, if_neg z] at h; exact lv_lrem C.1 C.2.1 hd z (k a h d p e s m args below meth c H locs ls C hP hS hl)
/-- a class's field number j of class ci, as the constant pool of own has it at idx -/
def FR (own : String) (idx ci j : Nat) : Prop := ∃ q : vw_C, vwCl[ci]? = some q ∧ j < q.2.2 ∧ ci < 9 ∧ (Cond.fieldLink own idx (q.2.1 j).1 (q.2.1 j).2.1 (q.2.1 j).2.2.1 ∈ lwT ∨ ∃ h, Cond.fieldLinkNest own idx (q.2.1 j).1 (q.2.1 j).2.1 (q.2.1 j).2.2.1 h ∈ nstT)
def PT (ci j : Nat) (ty : FieldType) : Prop := ∀ q : vw_C, vwCl[ci]? = some q → parseFieldDescriptor (q.2.1 j).2.2.1 = some ty ∧ (q.2.1 j).2.2.2 = false
def CF (ci : Nat) : Prop := ∀ q : vw_C, vwCl[ci]? = some q → (∀ w ∈ u_ws q.1 q.2.1 q.2.2, w ∈ lwT) ∧ ∃ ty : Nat → FieldType, (∀ k, k < q.2.2 → parseFieldDescriptor (q.2.1 k).2.2.1 = some (ty k)) ∧ ∀ a, a < q.2.2 → ∀ b, b < q.2.2 → a ≠ b → (q.2.1 a).2.1 ≠ (q.2.1 b).2.1
theorem V_get {o ci j idx : Nat} {v : Value} (hcf : CF ci) (hF : FR own idx ci j) (hd : decode cc pc = .ok (.getfield idx, 3)) (ho : shp o = ci) (hv : (flds G M ci o)[j]? = some v) (k : V G l own cc nL ret R kc ks Fn (pc + 3) lv (v :: st) M) : V G l own cc nL ret R kc ks Fn pc lv (.ref (adr G o) :: st) M := by
  intro p e s m args below meth c H locs ls C hP hS hl
  obtain ⟨q, hq, hj, h9, hlk⟩ := hF
  obtain ⟨hin, -⟩ := hcf q hq
  have hoN : o < NC := shp_lt (by omega)
  have he : (WL G M)[o]? = some (adr G o, .inr (ci, flds G M ci o)) := by rw [WL_at hoN, cel_obj ho h9]
  have kk := k p e s m args below meth c H locs ls C hP hS hl
  obtain ⟨C1, C2, C3, C4, C5, C6, C7, C8⟩ := C
  rcases hlk with hlk | ⟨host, hlk⟩
  · exact va_get (D := G.1) C1 C2 C7 hin C6 C8.2.1 hP o he hq j hj (C7 _ hlk) (fun _ h => h) hv hd kk
  · exact va_getN (D := G.1) C1 C2 C7 hin C6 C8.2.1 hP o he hq j hj (va_Nw.use rfl (C8.2.2.1 _ hlk)) (fun _ h => h) hv hd kk
theorem T_getI {o ci j idx : Nat} (hcf : CF ci) (hF : FR own idx ci j) (hd : decode cc pc = .ok (.getfield idx, 3)) (ho : shp o = ci) (hj : (fk ci)[j]? = some 0) (k : T G l own cc nL ret R kc ks Fn Dn (pc + 3) lv (.int (M.1 o j) :: st) M r) : T G l own cc nL ret R kc ks Fn Dn pc lv (.ref (adr G o) :: st) M r := fun a h d => V_get hcf hF hd ho (flds_at hj) (k a h d)
theorem T_getL {o ci j idx : Nat} (hcf : CF ci) (hF : FR own idx ci j) (hd : decode cc pc = .ok (.getfield idx, 3)) (ho : shp o = ci) (hj : (fk ci)[j]? = some 1) (k : T G l own cc nL ret R kc ks Fn Dn (pc + 3) lv (.long (M.2 o j) :: st) M r) : T G l own cc nL ret R kc ks Fn Dn pc lv (.ref (adr G o) :: st) M r := fun a h d => V_get hcf hF hd ho (flds_at hj) (k a h d)
theorem T_getR {o ci j idx : Nat} (hcf : CF ci) (hF : FR own idx ci j) (hd : decode cc pc = .ok (.getfield idx, 3)) (ho : shp o = ci) (hj : (fk ci)[j]? = some 2) (k : T G l own cc nL ret R kc ks Fn Dn (pc + 3) lv (.ref (adr G (rf o j)) :: st) M r) : T G l own cc nL ret R kc ks Fn Dn pc lv (.ref (adr G o) :: st) M r := fun a h d => V_get hcf hF hd ho (flds_at hj) (k a h d)
theorem V_put {o ci j idx : Nat} {v : Value} {ty : FieldType} {M' : Mem} (hcf : CF ci) (hF : FR own idx ci j) (hpt : PT ci j ty) (hd : decode cc pc = .ok (.putfield idx, 3)) (ho : shp o = ci) (hn : narrow ty v = v) (hfit : fits ty v = true) (hlen : j < (flds G M ci o).length) (hs : (flds G M ci o).set j v = flds G M' ci o) (hot : ∀ k, k ≠ o → cel G M' k = cel G M k) (k : V G l own cc nL ret R kc ks Fn (pc + 3) lv st M') : V G l own cc nL ret R kc ks Fn pc lv (v :: .ref (adr G o) :: st) M := by
  intro p e s m args below meth c H locs ls C hP hS hl
  obtain ⟨q, hq, hj, h9, hlk⟩ := hF
  obtain ⟨hin, ty0, hty, hnm⟩ := hcf q hq
  obtain ⟨hp1, hp2⟩ := hpt q hq
  have hoN : o < NC := shp_lt (by omega)
  have he : (WL G M)[o]? = some (adr G o, .inr (ci, flds G M ci o)) := by rw [WL_at hoN, cel_obj ho h9]
  have hset : (WL G M).set o (adr G o, .inr (ci, (flds G M ci o).set j v)) = WL G M' := WL_set hoN (by rw [cel_obj ho h9, hs]) hot
  have hD := C.2.2.2.2.2.2.2.1.D (M := M)
  have kk : ∀ (H1 : Heap) (locs1 : List Loc), va_P G.1 vwCl ((WL G M).set o (adr G o, .inr (ci, (flds G M ci o).set j v))) H1 → va_D G.2.2.2.1 ((WL G M).set o (adr G o, .inr (ci, (flds G M ci o).set j v))) → va_S G.2.2.2.1 s.heap H1 locs1 → W p l e R s m args below meth c H1 locs1 kc ks (Fn args below s) (F0 m (pc + 3) ls st) := by
    intro H1 locs1 hP1 _ hS1
    rw [hset] at hP1
    exact k p e s m args below meth c H1 locs1 ls C hP1 hS1 hl
  obtain ⟨C1, C2, C3, C4, C5, C6, C7, C8⟩ := C
  rcases hlk with hlk | ⟨host, hlk⟩
  · exact va_put (D := G.1) C1 C2 C7 hin ty0 hty hnm C6 C8.2.1 hP hD hS o he hq j hj (C7 _ hlk) (fun _ h => h) hp2 hp1 hn hfit hlen hd kk
  · exact va_putN (D := G.1) C1 C2 C7 hin ty0 hty hnm C6 C8.2.1 hP hD hS o he hq j hj (va_Nw.use rfl (C8.2.2.1 _ hlk)) (fun _ h => h) hp2 hp1 hn hfit hlen hd kk
theorem T_putI {o ci j idx : Nat} {v : Int32} {K : Mem → Option α} (hcf : CF ci) (hF : FR own idx ci j) (hpt : PT ci j .int) (hd : decode cc pc = .ok (.putfield idx, 3)) (ho : shp o = ci) (hj : (fk ci)[j]? = some 0) (k : ∀ M', T G l own cc nL ret R kc ks Fn Dn (pc + 3) lv st M' (K M')) : T G l own cc nL ret R kc ks Fn Dn pc lv (.int v :: .ref (adr G o) :: st) M (lt (mi M o j v) K) := fun a h d => V_put hcf hF hpt hd ho rfl rfl (by have := (List.getElem?_eq_some_iff.mp hj).1; simpa [flds] using this) (flds_seti hj) cel_mi (k (mi M o j v) a h d)
theorem T_putZ {o ci j idx : Nat} {v : Int32} {K : Mem → Option α} (hcf : CF ci) (hF : FR own idx ci j) (hpt : PT ci j .boolean) (hd : decode cc pc = .ok (.putfield idx, 3)) (ho : shp o = ci) (hj : (fk ci)[j]? = some 0) (k : ∀ M', T G l own cc nL ret R kc ks Fn Dn (pc + 3) lv st M' (K M')) : T G l own cc nL ret R kc ks Fn Dn pc lv (.int v :: .ref (adr G o) :: st) M (gb v (lt (mi M o j v) K)) := fun a h d => by
  by_cases z : v = 0 ∨ v = 1
  · rw [gb, if_pos z] at h
    exact V_put hcf hF hpt hd ho (by rcases z with rfl | rfl <;> decide) (by rcases z with rfl | rfl <;> decide) (by have := (List.getElem?_eq_some_iff.mp hj).1; simpa [flds] using this) (flds_seti hj) cel_mi (k (mi M o j v) a h d)
  · rw [gb, if_neg z] at h; cases h
theorem T_putL {o ci j idx : Nat} {v : Int64} {K : Mem → Option α} (hcf : CF ci) (hF : FR own idx ci j) (hpt : PT ci j .long) (hd : decode cc pc = .ok (.putfield idx, 3)) (ho : shp o = ci) (hj : (fk ci)[j]? = some 1) (k : ∀ M', T G l own cc nL ret R kc ks Fn Dn (pc + 3) lv st M' (K M')) : T G l own cc nL ret R kc ks Fn Dn pc lv (.long v :: .ref (adr G o) :: st) M (lt (ml M o j v) K) := fun a h d => V_put hcf hF hpt hd ho rfl rfl (by have := (List.getElem?_eq_some_iff.mp hj).1; simpa [flds] using this) (flds_setl hj) cel_ml (k (ml M o j v) a h d)
theorem T_iald {q : Nat} {i : Int32} (hd : decode cc pc = .ok (.iaload, 1)) (ho : shp q = 9) (k : T G l own cc nL ret R kc ks Fn Dn (pc + 1) lv (.int (M.1 q i.toNatClampNeg) :: st) M r) : T G l own cc nL ret R kc ks Fn Dn pc lv (.int i :: .ref (adr G q) :: st) M (gi i (ln q) r) := fun a h d p e s m args below meth c H locs ls C hP hS hl => by
  by_cases z : 0 ≤ i.toInt ∧ i.toInt < (ln q : Int)
  · rw [gi, if_pos z] at h
    exact va_iald (D := G.1) C.1 C.2.1 C.2.2.2.2.2.2.2.2.1 hP q 0 (by rw [WL_at (shp_lt (by omega)), cel_i ho]) rfl (vp_in_iff.mpr z) hd (k a h d p e s m args below meth c H locs ls C hP hS hl)
  · rw [gi, if_neg z] at h; cases h
theorem T_zald {q : Nat} {i : Int32} (hd : decode cc pc = .ok (.baload, 1)) (ho : shp q = 11) (k : T G l own cc nL ret R kc ks Fn Dn (pc + 1) lv (.int (M.1 q i.toNatClampNeg) :: st) M r) : T G l own cc nL ret R kc ks Fn Dn pc lv (.int i :: .ref (adr G q) :: st) M (gi i (ln q) r) := fun a h d p e s m args below meth c H locs ls C hP hS hl => by
  by_cases z : 0 ≤ i.toInt ∧ i.toInt < (ln q : Int)
  · rw [gi, if_pos z] at h
    exact va_zald (D := G.1) C.1 C.2.1 C.2.2.2.2.2.2.2.2.1 hP q 2 (by rw [WL_at (shp_lt (by omega)), cel_z ho]) rfl (vp_in_iff.mpr z) hd (k a h d p e s m args below meth c H locs ls C hP hS hl)
  · rw [gi, if_neg z] at h; cases h
theorem T_lald {q : Nat} {i : Int32} (hd : decode cc pc = .ok (.laload, 1)) (ho : shp q = 10) (k : T G l own cc nL ret R kc ks Fn Dn (pc + 1) lv (.long (M.2 q i.toNatClampNeg) :: st) M r) : T G l own cc nL ret R kc ks Fn Dn pc lv (.int i :: .ref (adr G q) :: st) M (gi i (ln q) r) := fun a h d p e s m args below meth c H locs ls C hP hS hl => by
  by_cases z : 0 ≤ i.toInt ∧ i.toInt < (ln q : Int)
  · rw [gi, if_pos z] at h
    exact va_lald (D := G.1) C.1 C.2.1 C.2.2.2.2.2.2.2.2.1 hP q 1 (by rw [WL_at (shp_lt (by omega)), cel_l ho]) rfl (vp_in_iff.mpr z) hd (k a h d p e s m args below meth c H locs ls C hP hS hl)
  · rw [gi, if_neg z] at h; cases h
theorem T_aald {q : Nat} {i : Int32} (hd : decode cc pc = .ok (.aaload, 1)) (ho : 12 ≤ shp q ∧ shp q ≤ 15) (k : i.toNatClampNeg < ln q → T G l own cc nL ret R kc ks Fn Dn (pc + 1) lv (.ref (adr G (ra q i.toNatClampNeg)) :: st) M r) : T G l own cc nL ret R kc ks Fn Dn pc lv (.int i :: .ref (adr G q) :: st) M (gi i (ln q) r) := fun a h d p e s m args below meth c H locs ls C hP hS hl => by
  by_cases z : 0 ≤ i.toInt ∧ i.toInt < (ln q : Int)
  · rw [gi, if_pos z] at h
    have hin : vp_in i (ln q) := vp_in_iff.mpr z
    have hlt : i.toNatClampNeg < ln q := by
      rcases Nat.lt_or_ge i.toNatClampNeg (ln q) with w | w
      · exact w
      · exact absurd (Or.inr w) hin
    have hs : shp q = 12 ∨ shp q = 13 ∨ shp q = 14 ∨ shp q = 15 := by omega
    rcases hs with hs | hs | hs | hs
    · exact va_aldq (D := G.1) C.1 C.2.1 C.2.2.2.2.2.2.2.2.1 hP q 3 (f := fun i => some (adr G (ra q i))) (by rw [WL_at (shp_lt (by omega)), cel_r (by omega), hs]) rfl hin hd (k hlt a h d p e s m args below meth c H locs ls C hP hS hl)
    · exact va_aldq (D := G.1) C.1 C.2.1 C.2.2.2.2.2.2.2.2.1 hP q 4 (f := fun i => some (adr G (ra q i))) (by rw [WL_at (shp_lt (by omega)), cel_r (by omega), hs]) rfl hin hd (k hlt a h d p e s m args below meth c H locs ls C hP hS hl)
    · exact va_aldq (D := G.1) C.1 C.2.1 C.2.2.2.2.2.2.2.2.1 hP q 5 (f := fun i => some (adr G (ra q i))) (by rw [WL_at (shp_lt (by omega)), cel_r (by omega), hs]) rfl hin hd (k hlt a h d p e s m args below meth c H locs ls C hP hS hl)
    · exact va_aldq (D := G.1) C.1 C.2.1 C.2.2.2.2.2.2.2.2.1 hP q 6 (f := fun i => some (adr G (ra q i))) (by rw [WL_at (shp_lt (by omega)), cel_r (by omega), hs]) rfl hin hd (k hlt a h d p e s m args below meth c H locs ls C hP hS hl)
  · rw [gi, if_neg z] at h; cases h
theorem upd_mi {M : Mem} {q j : Nat} {v : Int32} : upd (M.1 q) j v = (mi M q j v).1 q := by
  funext b
  simp [upd, mi]
theorem updL_ml {M : Mem} {q j : Nat} {v : Int64} : vp_updL (M.2 q) j v = (ml M q j v).2 q := by
  funext b
  simp [vp_updL, ml]
theorem T_iast {q : Nat} {i v : Int32} {K : Mem → Option α} (hd : decode cc pc = .ok (.iastore, 1)) (ho : shp q = 9) (k : ∀ M', T G l own cc nL ret R kc ks Fn Dn (pc + 1) lv st M' (K M')) : T G l own cc nL ret R kc ks Fn Dn pc lv (.int v :: .int i :: .ref (adr G q) :: st) M (gi i (ln q) (lt (mi M q i.toNatClampNeg v) K)) := fun a h d p e s m args below meth c H locs ls C hP hS hl => by
  by_cases z : 0 ≤ i.toInt ∧ i.toInt < (ln q : Int)
  · rw [gi, if_pos z] at h
    have hq : q < NC := shp_lt (by omega)
    exact va_iast (D := G.1) C.1 C.2.1 C.2.2.2.2.2.2.2.2.1 hP (C.2.2.2.2.2.2.2.1.D (M := M)) hS q 0 (by rw [WL_at hq, cel_i ho]) rfl (vp_in_iff.mpr z) hd (fun H1 locs1 hP1 _ hS1 => k (mi M q i.toNatClampNeg v) a h d p e s m args below meth c H1 locs1 ls C (by rw [WL_set (M' := mi M q i.toNatClampNeg v) hq (by rw [cel_i ho, upd_mi]) cel_mi] at hP1; exact hP1) hS1 hl)
  · rw [gi, if_neg z] at h; cases h
theorem T_zast {q : Nat} {i v : Int32} {K : Mem → Option α} (hd : decode cc pc = .ok (.bastore, 1)) (ho : shp q = 11) (k : ∀ M', T G l own cc nL ret R kc ks Fn Dn (pc + 1) lv st M' (K M')) : T G l own cc nL ret R kc ks Fn Dn pc lv (.int v :: .int i :: .ref (adr G q) :: st) M (gb v (gi i (ln q) (lt (mi M q i.toNatClampNeg v) K))) := fun a h d p e s m args below meth c H locs ls C hP hS hl => by
  by_cases y : v = 0 ∨ v = 1
  · rw [gb, if_pos y] at h
    have hv : vp_nar .boolean v = v := by rcases y with rfl | rfl <;> decide
    by_cases z : 0 ≤ i.toInt ∧ i.toInt < (ln q : Int)
    · rw [gi, if_pos z] at h
      have hq : q < NC := shp_lt (by omega)
      exact va_zast (D := G.1) C.1 C.2.1 C.2.2.2.2.2.2.2.2.1 hP (C.2.2.2.2.2.2.2.1.D (M := M)) hS q 2 (by rw [WL_at hq, cel_z ho]) rfl (vp_in_iff.mpr z) hd (fun H1 locs1 hP1 _ hS1 => k (mi M q i.toNatClampNeg v) a h d p e s m args below meth c H1 locs1 ls C (by rw [hv, WL_set (M' := mi M q i.toNatClampNeg v) hq (by rw [cel_z ho, upd_mi]) cel_mi] at hP1; exact hP1) hS1 hl)
    · rw [gi, if_neg z] at h; cases h
  · rw [gb, if_neg y] at h; cases h
theorem T_last {q : Nat} {i : Int32} {v : Int64} {K : Mem → Option α} (hd : decode cc pc = .ok (.lastore, 1)) (ho : shp q = 10) (k : ∀ M', T G l own cc nL ret R kc ks Fn Dn (pc + 1) lv st M' (K M')) : T G l own cc nL ret R kc ks Fn Dn pc lv (.long v :: .int i :: .ref (adr G q) :: st) M (gi i (ln q) (lt (ml M q i.toNatClampNeg v) K)) := fun a h d p e s m args below meth c H locs ls C hP hS hl => by
  by_cases z : 0 ≤ i.toInt ∧ i.toInt < (ln q : Int)
  · rw [gi, if_pos z] at h
    have hq : q < NC := shp_lt (by omega)
    exact va_last (D := G.1) C.1 C.2.1 C.2.2.2.2.2.2.2.2.1 hP (C.2.2.2.2.2.2.2.1.D (M := M)) hS q 1 (by rw [WL_at hq, cel_l ho]) rfl (vp_in_iff.mpr z) hd (fun H1 locs1 hP1 _ hS1 => k (ml M q i.toNatClampNeg v) a h d p e s m args below meth c H1 locs1 ls C (by rw [WL_set (M' := ml M q i.toNatClampNeg v) hq (by rw [cel_l ho, updL_ml]) cel_ml] at hP1; exact hP1) hS1 hl)
  · rw [gi, if_neg z] at h; cases h
theorem T_alen {q : Nat} (hd : decode cc pc = .ok (.arraylength, 1)) (ho : shp q = 9) (k : T G l own cc nL ret R kc ks Fn Dn (pc + 1) lv (.int (nI (ln q)) :: st) M r) : T G l own cc nL ret R kc ks Fn Dn pc lv (.ref (adr G q) :: st) M r := fun a h d p e s m args below meth c H locs ls C hP hS hl =>
  va_alen (D := G.1) C.1 C.2.1 C.2.2.2.2.2.2.2.2.1 hP q 0 (x := (ln q, .inl (M.1 q))) (by rw [WL_at (shp_lt (by omega)), cel_i ho]) (ty := .int) rfl rfl hd (k a h d p e s m args below meth c H locs ls C hP hS hl)
theorem cel_mci {M : Mem} {k0 k1 sp dp n : Nat} (h1 : shp k1 = 9) : cel G (mci M k0 k1 sp dp n) k1 = .inl (G.2.2.1 0, ln k1, .inl (va_cpy (M.1 k0) (M.1 k1) sp dp n)) := by rw [cel_i h1]; simp [mci]
theorem cel_mcl {M : Mem} {k0 k1 sp dp n : Nat} (h1 : shp k1 = 10) : cel G (mcl M k0 k1 sp dp n) k1 = .inl (G.2.2.1 1, ln k1, .inr (.inl (va_cpy (M.2 k0) (M.2 k1) sp dp n))) := by rw [cel_l h1]; simp [mcl]
theorem cel_mci_ne {M : Mem} {k0 k1 sp dp n : Nat} : ∀ k, k ≠ k1 → cel G (mci M k0 k1 sp dp n) k = cel G M k := by
  intro k h
  have e1 : (mci M k0 k1 sp dp n).1 k = M.1 k := by simp [mci, h]
  have e2 : (mci M k0 k1 sp dp n).2 = M.2 := rfl
  have e3 : ∀ ci, flds G (mci M k0 k1 sp dp n) ci k = flds G M ci k := by
    intro ci
    have e : ∀ i t, fval G (mci M k0 k1 sp dp n) k i t = fval G M k i t := fun i t => by simp only [fval, e1, e2]
    simp [flds, e]
  unfold cel
  rw [e3, e1, e2]
theorem cel_mcl_ne {M : Mem} {k0 k1 sp dp n : Nat} : ∀ k, k ≠ k1 → cel G (mcl M k0 k1 sp dp n) k = cel G M k := by
  intro k h
  have e1 : (mcl M k0 k1 sp dp n).2 k = M.2 k := by simp [mcl, h]
  have e2 : (mcl M k0 k1 sp dp n).1 = M.1 := rfl
  have e3 : ∀ ci, flds G (mcl M k0 k1 sp dp n) ci k = flds G M ci k := by
    intro ci
    have e : ∀ i t, fval G (mcl M k0 k1 sp dp n) k i t = fval G M k i t := fun i t => by simp only [fval, e1, e2]
    simp [flds, e]
  unfold cel
  rw [e3, e1, e2]
def AW (own : String) (idx : Nat) : Prop := Cond.methodLink own idx arraycopyName ∈ lwT ∧ Cond.native arraycopyName ∈ lwT ∧ Cond.static arraycopyName ∈ lwT ∧ Cond.initialized "java/lang/System" ∈ lwT
theorem T_cpi {q0 q1 idx : Nat} {sp dp n : Int32} {K : Mem → Option α} (hw : AW own idx) (hR : 1 ≤ R.frames ∧ (st.map fun v => v.category).sum + (nativeFrameWords "java/lang/System" "arraycopy" 5 + 11) ≤ R.locals) (hd : decode cc pc = .ok (.invokestatic idx, 3)) (ho0 : shp q0 = 9) (ho : shp q1 = 9) (k : ∀ M', T G l own cc nL ret R kc ks Fn Dn (pc + 3) lv st M' (K M')) : T G l own cc nL ret R kc ks Fn Dn pc lv (.int n :: .int dp :: .ref (adr G q1) :: .int sp :: .ref (adr G q0) :: st) M (gcp (ln q0) (ln q1) sp dp n (lt (mci M q0 q1 sp.toNatClampNeg dp.toNatClampNeg n.toNatClampNeg) K)) := fun a h d p e s m args below meth c H locs ls C hP hS hl => by
  by_cases z : ¬ sp < 0 ∧ ¬ dp < 0 ∧ ¬ n < 0 ∧ sp.toNatClampNeg + n.toNatClampNeg ≤ ln q0 ∧ dp.toNatClampNeg + n.toNatClampNeg ≤ ln q1
  · rw [gcp, if_pos z] at h
    obtain ⟨z1, z2, z3, z4, z5⟩ := z
    have hq0 : q0 < NC := shp_lt (by omega)
    have hq : q1 < NC := shp_lt (by omega)
    have hw7 := C.2.2.2.2.2.2.1
    exact va_copyi (D := G.1) C.1 C.2.1 (by rw [C.2.2.2.2.1]; exact hl.1.symm) C.2.2.2.2.2.1 (hw7 _ hw.1) (hw7 _ hw.2.1) (hw7 _ hw.2.2.1) (hw7 _ hw.2.2.2) C.2.2.2.2.2.2.2.2.1 hP (C.2.2.2.2.2.2.2.1.D (M := M)) hS q0 q1 0 0 (by rw [WL_at hq0, cel_i ho0]) (by rw [WL_at hq, cel_i ho]) (ty := .int) rfl rfl rfl z1 z2 z3 z4 z5 (fun _ _ => rfl) hR.1 hR.2 hd (fun H1 locs1 hP1 _ hS1 => k (mci M q0 q1 sp.toNatClampNeg dp.toNatClampNeg n.toNatClampNeg) a h d p e s m args below meth c H1 locs1 ls C (by rw [WL_set (M' := mci M q0 q1 sp.toNatClampNeg dp.toNatClampNeg n.toNatClampNeg) hq (cel_mci ho) cel_mci_ne] at hP1; exact hP1) hS1 hl)
  · rw [gcp, if_neg z] at h; cases h
theorem T_cpl {q0 q1 idx : Nat} {sp dp n : Int32} {K : Mem → Option α} (hw : AW own idx) (hR : 1 ≤ R.frames ∧ (st.map fun v => v.category).sum + (nativeFrameWords "java/lang/System" "arraycopy" 5 + 11) ≤ R.locals) (hd : decode cc pc = .ok (.invokestatic idx, 3)) (ho0 : shp q0 = 10) (ho : shp q1 = 10) (k : ∀ M', T G l own cc nL ret R kc ks Fn Dn (pc + 3) lv st M' (K M')) : T G l own cc nL ret R kc ks Fn Dn pc lv (.int n :: .int dp :: .ref (adr G q1) :: .int sp :: .ref (adr G q0) :: st) M (gcp (ln q0) (ln q1) sp dp n (lt (mcl M q0 q1 sp.toNatClampNeg dp.toNatClampNeg n.toNatClampNeg) K)) := fun a h d p e s m args below meth c H locs ls C hP hS hl => by
  by_cases z : ¬ sp < 0 ∧ ¬ dp < 0 ∧ ¬ n < 0 ∧ sp.toNatClampNeg + n.toNatClampNeg ≤ ln q0 ∧ dp.toNatClampNeg + n.toNatClampNeg ≤ ln q1
  · rw [gcp, if_pos z] at h
    obtain ⟨z1, z2, z3, z4, z5⟩ := z
    have hq0 : q0 < NC := shp_lt (by omega)
    have hq : q1 < NC := shp_lt (by omega)
    have hw7 := C.2.2.2.2.2.2.1
    exact va_copyl (D := G.1) C.1 C.2.1 (by rw [C.2.2.2.2.1]; exact hl.1.symm) C.2.2.2.2.2.1 (hw7 _ hw.1) (hw7 _ hw.2.1) (hw7 _ hw.2.2.1) (hw7 _ hw.2.2.2) C.2.2.2.2.2.2.2.2.1 hP (C.2.2.2.2.2.2.2.1.D (M := M)) hS q0 q1 1 1 (by rw [WL_at hq0, cel_l ho0]) (by rw [WL_at hq, cel_l ho]) (ty := .long) rfl rfl rfl z1 z2 z3 z4 z5 (fun _ _ => rfl) hR.1 hR.2 hd (fun H1 locs1 hP1 _ hS1 => k (mcl M q0 q1 sp.toNatClampNeg dp.toNatClampNeg n.toNatClampNeg) a h d p e s m args below meth c H1 locs1 ls C (by rw [WL_set (M' := mcl M q0 q1 sp.toNatClampNeg dp.toNatClampNeg n.toNatClampNeg) hq (cel_mcl ho) cel_mcl_ne] at hP1; exact hP1) hS1 hl)
  · rw [gcp, if_neg z] at h; cases h
/-- the static row KIND_OVER -/
theorem T_gets {idx : Nat} (hw : Cond.fieldLink own idx "ShireLines" "KIND_OVER" "[I" ∈ lwT) (hd : decode cc pc = .ok (.getstatic idx, 3)) (k : T G l own cc nL ret R kc ks Fn Dn (pc + 3) lv (.ref G.2.2.2.2 :: st) M r) : T G l own cc nL ret R kc ks Fn Dn pc lv st M r := fun a h d p e s m args below meth c H locs ls C hP hS hl =>
  va_gets C.1 C.2.1 C.2.2.2.2.2.2.2.2.2.2.1 hS C.2.2.2.2.2.1 (C.2.2.2.2.2.2.1 _ hw) (fun _ h => h) hd (k a h d p e s m args below meth c H locs ls C hP hS hl)
def kovI (i : Int32) : Int32 := if i.toNatClampNeg = 0 then -1 else if i.toNatClampNeg = 1 then 0 else if i.toNatClampNeg = 2 then 1 else 0
theorem T_kov {i : Int32} (hd : decode cc pc = .ok (.iaload, 1)) (k : T G l own cc nL ret R kc ks Fn Dn (pc + 1) lv (.int (kovI i) :: st) M r) : T G l own cc nL ret R kc ks Fn Dn pc lv (.int i :: .ref G.2.2.2.2 :: st) M (gi i 4 r) := fun a h d p e s m args below meth c H locs ls C hP hS hl => by
  by_cases z : 0 ≤ i.toInt ∧ i.toInt < ((4 : Nat) : Int)
  · rw [gi, if_pos z] at h
    exact va_ti C.1 C.2.1 C.2.2.2.2.2.2.2.2.2.2.2 hS (vp_in_iff.mpr z) rfl hd (k a h d p e s m args below meth c H locs ls C hP hS hl)
  · rw [gi, if_neg z] at h; cases h
/-! locals fewer; ends of a stretch -/
theorem V_sub {lv' : List (Nat × Value)} (js : List Nat) (hs : lv_pick lv js = lv') (k : V G l own cc nL ret R kc ks Fn pc lv' st M) : V G l own cc nL ret R kc ks Fn pc lv st M := fun p e s m args below meth c H locs ls C hP hS hl => k p e s m args below meth c H locs ls C hP hS (lv_sub hl js hs)
theorem T_sub {lv' : List (Nat × Value)} (js : List Nat) (hs : lv_pick lv js = lv') (k : T G l own cc nL ret R kc ks Fn Dn pc lv' st M r) : T G l own cc nL ret R kc ks Fn Dn pc lv st M r := fun a h d => V_sub js hs (k a h d)
theorem T_end {b : α} (k : Dn b → V G l own cc nL ret R kc ks Fn pc lv st M) : T G l own cc nL ret R kc ks Fn Dn pc lv st M (some b) := fun a h d => by cases h; exact k d
theorem T_gd {c : Prop} {hc : Decidable c} (k : c → T G l own cc nL ret R kc ks Fn Dn pc lv st M r) : T G l own cc nL ret R kc ks Fn Dn pc lv st M (gd c hc r) := fun a h d => by
  by_cases z : c
  · rw [gd, if_pos z] at h; exact k z a h d
  · rw [gd, if_neg z] at h; cases h
theorem T_gb {i : Int32} (k : i = 0 ∨ i = 1 → T G l own cc nL ret R kc ks Fn Dn pc lv st M r) : T G l own cc nL ret R kc ks Fn Dn pc lv st M (gb i r) := fun a h d => by
  by_cases z : i = 0 ∨ i = 1
  · rw [gb, if_pos z] at h; exact k z a h d
  · rw [gb, if_neg z] at h; cases h
theorem T_bind {β : Type} {f : Option β} {K : β → Option α} {X : β → Prop} (h1 : T G l own cc nL ret R kc ks Fn X pc lv st M f) (h2 : ∀ b a, K b = some a → Dn a → X b) : T G l own cc nL ret R kc ks Fn Dn pc lv st M (f.bind K) := fun a h d => by
  cases hf : f with
  | none => rw [hf] at h; cases h
  | some b => rw [hf] at h; exact h1 b hf (h2 b a h d)
theorem T_loop {S Q : Type} {body : S → Option (S ⊕ Q)} {X : Q → Prop} (lvS : S → List (Nat × Value)) (MS : S → Mem)
    (hb : ∀ s : S, T G l own cc nL ret R kc ks Fn (fun q : S ⊕ Q => match q with | .inl s' => V G l own cc nL ret R kc ks Fn pc (lvS s') st (MS s') | .inr x => X x) pc (lvS s) st (MS s) (body s)) (s0 : S) :
    T G l own cc nL ret R kc ks Fn X pc (lvS s0) st (MS s0) (wh body s0) := by
  intro x hx dx
  obtain ⟨n, hn⟩ := wh_ex hx
  clear hx
  induction n generalizing s0 with
  | zero => simp [itN] at hn
  | succ n ih =>
    unfold itN at hn
    cases hbs : body s0 with
    | none => rw [hbs] at hn; cases hn
    | some q =>
      rw [hbs] at hn
      cases q with
      | inl s' => exact hb s0 _ hbs (ih s' hn)
      | inr y => cases hn; exact hb s0 _ hbs dx
end VROWS
/-! contracts -/
def QM (G : Gw) (v : Option Value) (M' : Mem) : Array Value → State → Outcome → State → Prop := fun _ st o t => o = .returned v ∧ PH G M' t.heap ∧ va_F G.2.2.2.1 st t
def FinM (G : Gw) (v : Option Value) (M' : Mem) : Array Value → List Frame → State → State → Prop := fun args below s => MQ below (QM G v M') args s 0 0 G.2.2.2.1
def PM (G : Gw) (av : List Value) (M : Mem) : Array Value → State → Prop := va_Pc av (fun U => GS G U ∧ PH G M U.heap)
def rmOf (fr lo : Nat) : Room := { frames := fr, cells := 0, slots := 0, locals := lo }
def CtP (G : Gw) (l : Launch) (y : MethodName) (cc : ByteArray) (nL : Nat) (ret : Option FieldType) (fr lo : Nat) (av : List Value) (M : Mem) (v : Option Value) (M' : Mem) : Prop :=
  Met l y (.code y cc nL ret :: lwT) (rmOf fr lo) (PM G av M) (QM G v M') 0 0 G.2.2.2.1
theorem CtP.ofV {G : Gw} {l : Launch} {y : MethodName} {cc : ByteArray} {nL : Nat} {ret : Option FieldType} {fr lo : Nat} {av : List Value} {M M' : Mem} {v : Option Value} (hy : plainName y.cls = true) (hle : (lg_sl av).length ≤ nL)
    (k : V G l y.cls cc nL ret (rmOf fr lo) 0 0 (FinM G v M') 0 (lv_args 0 av) [] M) : CtP G l y cc nL ret fr lo av M v M' := by
  refine Met.ofW (cc := cc) (maxL := nL) (ret := ret) hy rfl ?_
  intro p e s m args below meth c s₁ B hml hv
  obtain ⟨rfl, hG, hP⟩ := hv
  have hts := atoms_spec (ws := .code y cc nL ret :: lwT) B.pre
  have hl := lv_entry av hle
  rw [lg_entry_eq]
  exact k p e s m av.toArray below meth c s.heap [] _ ⟨B.exec, B.bytes, B.returns, B.notSynchronized, hml, findClass_of_methodNamed B.named, fun w hw => hts w (List.mem_cons_of_mem _ hw), hG⟩ hP va_S.rf hl
section VRET
variable {G : Gw} {l : Launch} {own : String} {cc : ByteArray} {nL : Nat} {R : Room} {pc : Nat} {lv : List (Nat × Value)} {M : Mem}
theorem V_iret {v : Int32} (hd : decode cc pc = .ok (.ireturn, 1)) : V G l own cc nL (some .int) R 0 0 (FinM G (some (.int v)) M) pc lv [.int v] M := fun p e s m args below meth c H locs ls C hP hS hl => by
  have hlk := C.2.2.2.1
  exact W.iret C.1 C.2.1 C.2.2.1 (fun t ht _ => ⟨rfl, by rw [ht]; exact hP, hS.F ht⟩) hS.2.2 hd
theorem V_zret {v : Int32} (hv : v = 0 ∨ v = 1) (hd : decode cc pc = .ok (.ireturn, 1)) : V G l own cc nL (some .boolean) R 0 0 (FinM G (some (.int v)) M) pc lv [.int v] M := fun p e s m args below meth c H locs ls C hP hS hl => by
  have hlk := C.2.2.2.1
  exact W.zret C.1 C.2.1 C.2.2.1 (by rcases hv with rfl | rfl <;> decide) (fun t ht _ => ⟨rfl, by rw [ht]; exact hP, hS.F ht⟩) hS.2.2 hd
theorem V_lret {v : Int64} (hd : decode cc pc = .ok (.lreturn, 1)) : V G l own cc nL (some .long) R 0 0 (FinM G (some (.long v)) M) pc lv [.long v] M := fun p e s m args below meth c H locs ls C hP hS hl => by
  have hlk := C.2.2.2.1
  exact W.lret C.1 C.2.1 C.2.2.1 (fun t ht _ => ⟨rfl, by rw [ht]; exact hP, hS.F ht⟩) hS.2.2 hd
theorem V_vret (hd : decode cc pc = .ok (.return_, 1)) : V G l own cc nL none R 0 0 (FinM G none M) pc lv [] M := fun p e s m args below meth c H locs ls C hP hS hl => by
  have hlk := C.2.2.2.1
  exact W.vret C.1 C.2.1 C.2.2.1 (fun t ht _ => ⟨rfl, by rw [ht]; exact hP, hS.F ht⟩) hS.2.2 hd
theorem V_aret {o : Nat} {cn : String} (hd : decode cc pc = .ok (.areturn, 1)) : V G l own cc nL (some (.object cn)) R 0 0 (FinM G (some (.ref (adr G o))) M) pc lv [.ref (adr G o)] M := fun p e s m args below meth c H locs ls C hP hS hl => by
  have hlk := C.2.2.2.1
  exact W.aret C.1 C.2.1 C.2.2.1 (Or.inl ⟨_, rfl⟩) (Or.inr ⟨_, rfl⟩) (fun t ht _ => ⟨rfl, by rw [ht]; exact hP, hS.F ht⟩) hS.2.2 hd
end VRET
/-! calls -/
def MS (own : String) (idx : Nat) (y : MethodName) (cc : ByteArray) (nL : Nat) (ret : Option FieldType) (n : Nat) : Prop :=
  Cond.methodLink own idx y ∈ lwT ∧ Cond.code y cc nL ret ∈ lwT ∧ Cond.initialized y.cls ∈ lwT ∧ (y.cls ≠ "java/lang/invoke/MethodHandle" ∧ y.cls ≠ "java/lang/invoke/VarHandle" ∧ (parseMethodDescriptor y.desc).map (fun d => d.parameters.length) = some n) ∧ Cond.static y ∈ lwT
def MV (own : String) (idx ci : Nat) (y : MethodName) (cc : ByteArray) (nL : Nat) (ret : Option FieldType) (n : Nat) : Prop :=
  ci < 9 ∧ (∃ q : vw_C, vwCl[ci]? = some q ∧ q.1 = y.cls) ∧ Cond.methodLink own idx y ∈ lwT ∧ Cond.code y cc nL ret ∈ lwT ∧ Cond.initialized y.cls ∈ lwT ∧ (y.cls ≠ "java/lang/invoke/MethodHandle" ∧ y.cls ≠ "java/lang/invoke/VarHandle" ∧ (parseMethodDescriptor y.desc).map (fun d => d.parameters.length) = some n) ∧ Cond.instanceMethod y ∈ lwT ∧ Cond.selects y.cls y y ∈ lwT
section VCALL
variable {G : Gw} {l : Launch} {own : String} {cc : ByteArray} {nL : Nat} {ret : Option FieldType} {R : Room} {kc ks : Nat} {Fn : Array Value → List Frame → State → State → Prop} {α : Type} {Dn : α → Prop} {pc : Nat} {lv : List (Nat × Value)} {st : List Value} {M : Mem} {r : Option α}
theorem PM_blind {av : List Value} : FrameBlind (PM G av M) := fun a U g mk h => ⟨h.1, h.2.1.blind, h.2.2⟩
theorem V_run {st0 : List Value} {v : Option Value} {M' : Mem} (hr : ∀ (p : Program) (e : Env) (s : State) (m : MethodId) (args : Array Value) (below : List Frame) (meth : Method) (c : Code) (H : Heap) (locs : List Loc) (ls : Array Slot), Cx G own cc nL ret p s m args meth c → PH G M H → va_S G.2.2.2.1 s.heap H locs → lv_has ls nL lv → va_Run p l e R s m args below meth c H locs kc ks 0 0 (F0 m pc ls st0) st (fun st₀ o t => o = .returned v ∧ PH G M' t.heap ∧ va_F G.2.2.2.1 st₀ t) G.2.2.2.1)
    (k : V G l own cc nL ret R kc ks Fn (pc + 3) lv (v.toList ++ st) M') : V G l own cc nL ret R kc ks Fn pc lv st0 M := by
  intro p e s m args below meth c H locs ls C hP hS hl Ts hT X
  obtain ⟨v', st₀, t, T', L, h0, X', hL, e1, e2, ⟨hv, hPt, hz, hk⟩, stp⟩ := hr p e s m args below meth c H locs ls C hP hS hl Ts hT X
  cases hv
  rw [h0] at hz hk
  obtain ⟨t2, a1, b1⟩ := k p e s m args below meth c T'.heap (locs ++ L) ls C (by rw [e1]; exact hPt)
    ⟨Nat.le_trans hS.1 (by rw [e1]; exact hz), fun q h1 h2 => by rw [e1, hk q (Nat.lt_of_lt_of_le h1 hS.1) h2]; exact hS.2.1 q h1 h2, fun q hq => by
      rcases List.mem_append.mp hq with h | h
      · exact hS.2.2 q h
      · exact hL q h⟩ hl T' rfl X'
  exact ⟨t2, stp t2 a1, b1⟩
theorem V_callS {y : MethodName} {cy : ByteArray} {nY n idx fr lo : Nat} {ry : Option FieldType} {As st0 : List Value} {v : Option Value} {M' : Mem} (hm : MS own idx y cy nY ry n) (hR : (fr + 1 ≤ R.frames ∧ 8 + (nY + 11) + lo ≤ R.locals) ∧ kc ≤ R.cells ∧ ks ≤ R.slots) (hd : decode cc pc = .ok (.invokestatic idx, 3)) (hn : As.length = n) (hst : st0 = As.reverse ++ st) (hW : (st.map fun v => v.category).sum ≤ 8)
    (hM : CtP G l y cy nY ry fr lo As M v M') (k : V G l own cc nL ret R kc ks Fn (pc + 3) lv (v.toList ++ st) M') : V G l own cc nL ret R kc ks Fn pc lv st0 M := by
  refine V_run (v := v) (M' := M') (fun p e s m args below meth c H locs ls C hP hS hl => ?_) k
  obtain ⟨C1, C2, C3, C4, C5, C6, C7, C8⟩ := C
  obtain ⟨m1, m2, m3, m4, m5⟩ := hm
  exact va_runS (As := As) (rest := st) (Ts := lwT) ⟨C1, C2, C5, C6, C7⟩ hM ⟨callB_of n C7 (goodT m2) rfl rfl rfl (C7 _ m3) (C7 _ m1) m4 hR.1, C7 _ m5⟩ ⟨PM_blind, fun U hU hWm => ⟨rfl, C8.warm hS hU hWm, by rw [hU]; exact hP⟩⟩ rfl hn hl.1 hst (lv_room hW) hd hR.2
theorem V_callV {y : MethodName} {cy : ByteArray} {nY n idx ci o fr lo : Nat} {ry : Option FieldType} {As st0 : List Value} {v : Option Value} {M' : Mem} (hm : MV own idx ci y cy nY ry n) (hR : (fr + 1 ≤ R.frames ∧ 8 + (nY + 11) + lo ≤ R.locals) ∧ kc ≤ R.cells ∧ ks ≤ R.slots) (hd : decode cc pc = .ok (.invokevirtual idx, 3)) (ho : shp o = ci) (hn : As.length = n) (hst : st0 = As.reverse ++ .ref (adr G o) :: st) (hW : (st.map fun v => v.category).sum ≤ 8)
    (hM : CtP G l y cy nY ry fr lo (.ref (adr G o) :: As) M v M') (k : V G l own cc nL ret R kc ks Fn (pc + 3) lv (v.toList ++ st) M') : V G l own cc nL ret R kc ks Fn pc lv st0 M := by
  refine V_run (v := v) (M' := M') (fun p e s m args below meth c H locs ls C hP hS hl => ?_) k
  obtain ⟨C1, C2, C3, C4, C5, C6, C7, C8⟩ := C
  obtain ⟨h9, ⟨q, hq, hqy⟩, m1, m2, m3, m4, m5, m6⟩ := hm
  have hoN : o < NC := shp_lt (by omega)
  have he : (WL G M)[o]? = some (adr G o, .inr (ci, flds G M ci o)) := by rw [WL_at hoN, cel_obj ho h9]
  have hrec := va_recv C8.2.1 hP hq he
  rw [hqy] at hrec
  exact va_runV (As := As) (rest := st) (Ts := lwT) (C := y.cls) ⟨C1, C2, C5, C6, C7⟩ hM ⟨callB_of n C7 (goodT m2) rfl rfl rfl (C7 _ m3) (C7 _ m1) m4 hR.1, C7 _ m5, C7 _ m6⟩ ⟨PM_blind, hrec, fun U hU hWm => ⟨rfl, C8.warm hS hU hWm, by rw [hU]; exact hP⟩⟩ rfl hn hl.1 hst (lv_room hW) hd hR.2
theorem T_callSi {y : MethodName} {cy : ByteArray} {nY n idx fr lo : Nat} {ry : Option FieldType} {As st0 : List Value} {f : Option Int32} {K : Int32 → Option α} (hm : MS own idx y cy nY ry n) (hR : (fr + 1 ≤ R.frames ∧ 8 + (nY + 11) + lo ≤ R.locals) ∧ kc ≤ R.cells ∧ ks ≤ R.slots) (hd : decode cc pc = .ok (.invokestatic idx, 3)) (hM : ∀ b, f = some b → CtP G l y cy nY ry fr lo As M (some (.int b)) (M)) (hn : As.length = n) (hst : st0 = As.reverse ++ st) (hW : (st.map fun v => v.category).sum ≤ 8) (k : ∀ b : Int32, T G l own cc nL ret R kc ks Fn Dn (pc + 3) lv (.int b :: st) (M) (K b)) : T G l own cc nL ret R kc ks Fn Dn pc lv st0 M (f.bind K) := fun a h d => by
  cases hf : f with
  | none => rw [hf] at h; cases h
  | some b => rw [hf] at h; exact V_callS hm hR hd hn hst hW (hM b hf) (k b a h d)
theorem T_callVi {y : MethodName} {cy : ByteArray} {nY n idx ci o fr lo : Nat} {ry : Option FieldType} {As st0 : List Value} {f : Option Int32} {K : Int32 → Option α} (hm : MV own idx ci y cy nY ry n) (hR : (fr + 1 ≤ R.frames ∧ 8 + (nY + 11) + lo ≤ R.locals) ∧ kc ≤ R.cells ∧ ks ≤ R.slots) (hd : decode cc pc = .ok (.invokevirtual idx, 3)) (ho : shp o = ci) (hM : ∀ b, f = some b → CtP G l y cy nY ry fr lo (.ref (adr G o) :: As) M (some (.int b)) (M)) (hn : As.length = n) (hst : st0 = As.reverse ++ .ref (adr G o) :: st) (hW : (st.map fun v => v.category).sum ≤ 8) (k : ∀ b : Int32, T G l own cc nL ret R kc ks Fn Dn (pc + 3) lv (.int b :: st) (M) (K b)) : T G l own cc nL ret R kc ks Fn Dn pc lv st0 M (f.bind K) := fun a h d => by
  cases hf : f with
  | none => rw [hf] at h; cases h
  | some b => rw [hf] at h; exact V_callV hm hR hd ho hn hst hW (hM b hf) (k b a h d)
theorem T_callSiw {y : MethodName} {cy : ByteArray} {nY n idx fr lo : Nat} {ry : Option FieldType} {As st0 : List Value} {f : Option (Int32 × Mem)} {K : (Int32 × Mem) → Option α} (hm : MS own idx y cy nY ry n) (hR : (fr + 1 ≤ R.frames ∧ 8 + (nY + 11) + lo ≤ R.locals) ∧ kc ≤ R.cells ∧ ks ≤ R.slots) (hd : decode cc pc = .ok (.invokestatic idx, 3)) (hM : ∀ b, f = some b → CtP G l y cy nY ry fr lo As M (some (.int b.1)) (b.2)) (hn : As.length = n) (hst : st0 = As.reverse ++ st) (hW : (st.map fun v => v.category).sum ≤ 8) (k : ∀ b : (Int32 × Mem), T G l own cc nL ret R kc ks Fn Dn (pc + 3) lv (.int b.1 :: st) (b.2) (K b)) : T G l own cc nL ret R kc ks Fn Dn pc lv st0 M (f.bind K) := fun a h d => by
  cases hf : f with
  | none => rw [hf] at h; cases h
  | some b => rw [hf] at h; exact V_callS hm hR hd hn hst hW (hM b hf) (k b a h d)
theorem T_callViw {y : MethodName} {cy : ByteArray} {nY n idx ci o fr lo : Nat} {ry : Option FieldType} {As st0 : List Value} {f : Option (Int32 × Mem)} {K : (Int32 × Mem) → Option α} (hm : MV own idx ci y cy nY ry n) (hR : (fr + 1 ≤ R.frames ∧ 8 + (nY + 11) + lo ≤ R.locals) ∧ kc ≤ R.cells ∧ ks ≤ R.slots) (hd : decode cc pc = .ok (.invokevirtual idx, 3)) (ho : shp o = ci) (hM : ∀ b, f = some b → CtP G l y cy nY ry fr lo (.ref (adr G o) :: As) M (some (.int b.1)) (b.2)) (hn : As.length = n) (hst : st0 = As.reverse ++ .ref (adr G o) :: st) (hW : (st.map fun v => v.category).sum ≤ 8) (k : ∀ b : (Int32 × Mem), T G l own cc nL ret R kc ks Fn Dn (pc + 3) lv (.int b.1 :: st) (b.2) (K b)) : T G l own cc nL ret R kc ks Fn Dn pc lv st0 M (f.bind K) := fun a h d => by
  cases hf : f with
  | none => rw [hf] at h; cases h
  | some b => rw [hf] at h; exact V_callV hm hR hd ho hn hst hW (hM b hf) (k b a h d)
theorem T_callSl {y : MethodName} {cy : ByteArray} {nY n idx fr lo : Nat} {ry : Option FieldType} {As st0 : List Value} {f : Option Int64} {K : Int64 → Option α} (hm : MS own idx y cy nY ry n) (hR : (fr + 1 ≤ R.frames ∧ 8 + (nY + 11) + lo ≤ R.locals) ∧ kc ≤ R.cells ∧ ks ≤ R.slots) (hd : decode cc pc = .ok (.invokestatic idx, 3)) (hM : ∀ b, f = some b → CtP G l y cy nY ry fr lo As M (some (.long b)) (M)) (hn : As.length = n) (hst : st0 = As.reverse ++ st) (hW : (st.map fun v => v.category).sum ≤ 8) (k : ∀ b : Int64, T G l own cc nL ret R kc ks Fn Dn (pc + 3) lv (.long b :: st) (M) (K b)) : T G l own cc nL ret R kc ks Fn Dn pc lv st0 M (f.bind K) := fun a h d => by
  cases hf : f with
  | none => rw [hf] at h; cases h
  | some b => rw [hf] at h; exact V_callS hm hR hd hn hst hW (hM b hf) (k b a h d)
theorem T_callVl {y : MethodName} {cy : ByteArray} {nY n idx ci o fr lo : Nat} {ry : Option FieldType} {As st0 : List Value} {f : Option Int64} {K : Int64 → Option α} (hm : MV own idx ci y cy nY ry n) (hR : (fr + 1 ≤ R.frames ∧ 8 + (nY + 11) + lo ≤ R.locals) ∧ kc ≤ R.cells ∧ ks ≤ R.slots) (hd : decode cc pc = .ok (.invokevirtual idx, 3)) (ho : shp o = ci) (hM : ∀ b, f = some b → CtP G l y cy nY ry fr lo (.ref (adr G o) :: As) M (some (.long b)) (M)) (hn : As.length = n) (hst : st0 = As.reverse ++ .ref (adr G o) :: st) (hW : (st.map fun v => v.category).sum ≤ 8) (k : ∀ b : Int64, T G l own cc nL ret R kc ks Fn Dn (pc + 3) lv (.long b :: st) (M) (K b)) : T G l own cc nL ret R kc ks Fn Dn pc lv st0 M (f.bind K) := fun a h d => by
  cases hf : f with
  | none => rw [hf] at h; cases h
  | some b => rw [hf] at h; exact V_callV hm hR hd ho hn hst hW (hM b hf) (k b a h d)
theorem T_callSlw {y : MethodName} {cy : ByteArray} {nY n idx fr lo : Nat} {ry : Option FieldType} {As st0 : List Value} {f : Option (Int64 × Mem)} {K : (Int64 × Mem) → Option α} (hm : MS own idx y cy nY ry n) (hR : (fr + 1 ≤ R.frames ∧ 8 + (nY + 11) + lo ≤ R.locals) ∧ kc ≤ R.cells ∧ ks ≤ R.slots) (hd : decode cc pc = .ok (.invokestatic idx, 3)) (hM : ∀ b, f = some b → CtP G l y cy nY ry fr lo As M (some (.long b.1)) (b.2)) (hn : As.length = n) (hst : st0 = As.reverse ++ st) (hW : (st.map fun v => v.category).sum ≤ 8) (k : ∀ b : (Int64 × Mem), T G l own cc nL ret R kc ks Fn Dn (pc + 3) lv (.long b.1 :: st) (b.2) (K b)) : T G l own cc nL ret R kc ks Fn Dn pc lv st0 M (f.bind K) := fun a h d => by
  cases hf : f with
  | none => rw [hf] at h; cases h
  | some b => rw [hf] at h; exact V_callS hm hR hd hn hst hW (hM b hf) (k b a h d)
theorem T_callVlw {y : MethodName} {cy : ByteArray} {nY n idx ci o fr lo : Nat} {ry : Option FieldType} {As st0 : List Value} {f : Option (Int64 × Mem)} {K : (Int64 × Mem) → Option α} (hm : MV own idx ci y cy nY ry n) (hR : (fr + 1 ≤ R.frames ∧ 8 + (nY + 11) + lo ≤ R.locals) ∧ kc ≤ R.cells ∧ ks ≤ R.slots) (hd : decode cc pc = .ok (.invokevirtual idx, 3)) (ho : shp o = ci) (hM : ∀ b, f = some b → CtP G l y cy nY ry fr lo (.ref (adr G o) :: As) M (some (.long b.1)) (b.2)) (hn : As.length = n) (hst : st0 = As.reverse ++ .ref (adr G o) :: st) (hW : (st.map fun v => v.category).sum ≤ 8) (k : ∀ b : (Int64 × Mem), T G l own cc nL ret R kc ks Fn Dn (pc + 3) lv (.long b.1 :: st) (b.2) (K b)) : T G l own cc nL ret R kc ks Fn Dn pc lv st0 M (f.bind K) := fun a h d => by
  cases hf : f with
  | none => rw [hf] at h; cases h
  | some b => rw [hf] at h; exact V_callV hm hR hd ho hn hst hW (hM b hf) (k b a h d)
theorem T_callSr {y : MethodName} {cy : ByteArray} {nY n idx fr lo : Nat} {ry : Option FieldType} {As st0 : List Value} {f : Option Nat} {K : Nat → Option α} (hm : MS own idx y cy nY ry n) (hR : (fr + 1 ≤ R.frames ∧ 8 + (nY + 11) + lo ≤ R.locals) ∧ kc ≤ R.cells ∧ ks ≤ R.slots) (hd : decode cc pc = .ok (.invokestatic idx, 3)) (hM : ∀ b, f = some b → CtP G l y cy nY ry fr lo As M (some (.ref (adr G b))) (M)) (hn : As.length = n) (hst : st0 = As.reverse ++ st) (hW : (st.map fun v => v.category).sum ≤ 8) (k : ∀ b : Nat, T G l own cc nL ret R kc ks Fn Dn (pc + 3) lv (.ref (adr G b) :: st) (M) (K b)) : T G l own cc nL ret R kc ks Fn Dn pc lv st0 M (f.bind K) := fun a h d => by
  cases hf : f with
  | none => rw [hf] at h; cases h
  | some b => rw [hf] at h; exact V_callS hm hR hd hn hst hW (hM b hf) (k b a h d)
theorem T_callVr {y : MethodName} {cy : ByteArray} {nY n idx ci o fr lo : Nat} {ry : Option FieldType} {As st0 : List Value} {f : Option Nat} {K : Nat → Option α} (hm : MV own idx ci y cy nY ry n) (hR : (fr + 1 ≤ R.frames ∧ 8 + (nY + 11) + lo ≤ R.locals) ∧ kc ≤ R.cells ∧ ks ≤ R.slots) (hd : decode cc pc = .ok (.invokevirtual idx, 3)) (ho : shp o = ci) (hM : ∀ b, f = some b → CtP G l y cy nY ry fr lo (.ref (adr G o) :: As) M (some (.ref (adr G b))) (M)) (hn : As.length = n) (hst : st0 = As.reverse ++ .ref (adr G o) :: st) (hW : (st.map fun v => v.category).sum ≤ 8) (k : ∀ b : Nat, T G l own cc nL ret R kc ks Fn Dn (pc + 3) lv (.ref (adr G b) :: st) (M) (K b)) : T G l own cc nL ret R kc ks Fn Dn pc lv st0 M (f.bind K) := fun a h d => by
  cases hf : f with
  | none => rw [hf] at h; cases h
  | some b => rw [hf] at h; exact V_callV hm hR hd ho hn hst hW (hM b hf) (k b a h d)
theorem T_callSrw {y : MethodName} {cy : ByteArray} {nY n idx fr lo : Nat} {ry : Option FieldType} {As st0 : List Value} {f : Option (Nat × Mem)} {K : (Nat × Mem) → Option α} (hm : MS own idx y cy nY ry n) (hR : (fr + 1 ≤ R.frames ∧ 8 + (nY + 11) + lo ≤ R.locals) ∧ kc ≤ R.cells ∧ ks ≤ R.slots) (hd : decode cc pc = .ok (.invokestatic idx, 3)) (hM : ∀ b, f = some b → CtP G l y cy nY ry fr lo As M (some (.ref (adr G b.1))) (b.2)) (hn : As.length = n) (hst : st0 = As.reverse ++ st) (hW : (st.map fun v => v.category).sum ≤ 8) (k : ∀ b : (Nat × Mem), T G l own cc nL ret R kc ks Fn Dn (pc + 3) lv (.ref (adr G b.1) :: st) (b.2) (K b)) : T G l own cc nL ret R kc ks Fn Dn pc lv st0 M (f.bind K) := fun a h d => by
  cases hf : f with
  | none => rw [hf] at h; cases h
  | some b => rw [hf] at h; exact V_callS hm hR hd hn hst hW (hM b hf) (k b a h d)
theorem T_callVrw {y : MethodName} {cy : ByteArray} {nY n idx ci o fr lo : Nat} {ry : Option FieldType} {As st0 : List Value} {f : Option (Nat × Mem)} {K : (Nat × Mem) → Option α} (hm : MV own idx ci y cy nY ry n) (hR : (fr + 1 ≤ R.frames ∧ 8 + (nY + 11) + lo ≤ R.locals) ∧ kc ≤ R.cells ∧ ks ≤ R.slots) (hd : decode cc pc = .ok (.invokevirtual idx, 3)) (ho : shp o = ci) (hM : ∀ b, f = some b → CtP G l y cy nY ry fr lo (.ref (adr G o) :: As) M (some (.ref (adr G b.1))) (b.2)) (hn : As.length = n) (hst : st0 = As.reverse ++ .ref (adr G o) :: st) (hW : (st.map fun v => v.category).sum ≤ 8) (k : ∀ b : (Nat × Mem), T G l own cc nL ret R kc ks Fn Dn (pc + 3) lv (.ref (adr G b.1) :: st) (b.2) (K b)) : T G l own cc nL ret R kc ks Fn Dn pc lv st0 M (f.bind K) := fun a h d => by
  cases hf : f with
  | none => rw [hf] at h; cases h
  | some b => rw [hf] at h; exact V_callV hm hR hd ho hn hst hW (hM b hf) (k b a h d)
theorem T_callSvw {y : MethodName} {cy : ByteArray} {nY n idx fr lo : Nat} {ry : Option FieldType} {As st0 : List Value} {f : Option Mem} {K : Mem → Option α} (hm : MS own idx y cy nY ry n) (hR : (fr + 1 ≤ R.frames ∧ 8 + (nY + 11) + lo ≤ R.locals) ∧ kc ≤ R.cells ∧ ks ≤ R.slots) (hd : decode cc pc = .ok (.invokestatic idx, 3)) (hM : ∀ b, f = some b → CtP G l y cy nY ry fr lo As M (none) (b)) (hn : As.length = n) (hst : st0 = As.reverse ++ st) (hW : (st.map fun v => v.category).sum ≤ 8) (k : ∀ b : Mem, T G l own cc nL ret R kc ks Fn Dn (pc + 3) lv (st) (b) (K b)) : T G l own cc nL ret R kc ks Fn Dn pc lv st0 M (f.bind K) := fun a h d => by
  cases hf : f with
  | none => rw [hf] at h; cases h
  | some b => rw [hf] at h; exact V_callS hm hR hd hn hst hW (hM b hf) (k b a h d)
theorem T_callVvw {y : MethodName} {cy : ByteArray} {nY n idx ci o fr lo : Nat} {ry : Option FieldType} {As st0 : List Value} {f : Option Mem} {K : Mem → Option α} (hm : MV own idx ci y cy nY ry n) (hR : (fr + 1 ≤ R.frames ∧ 8 + (nY + 11) + lo ≤ R.locals) ∧ kc ≤ R.cells ∧ ks ≤ R.slots) (hd : decode cc pc = .ok (.invokevirtual idx, 3)) (ho : shp o = ci) (hM : ∀ b, f = some b → CtP G l y cy nY ry fr lo (.ref (adr G o) :: As) M (none) (b)) (hn : As.length = n) (hst : st0 = As.reverse ++ .ref (adr G o) :: st) (hW : (st.map fun v => v.category).sum ≤ 8) (k : ∀ b : Mem, T G l own cc nL ret R kc ks Fn Dn (pc + 3) lv (st) (b) (K b)) : T G l own cc nL ret R kc ks Fn Dn pc lv st0 M (f.bind K) := fun a h d => by
  cases hf : f with
  | none => rw [hf] at h; cases h
  | some b => rw [hf] at h; exact V_callV hm hR hd ho hn hst hW (hM b hf) (k b a h d)
end VCALL
