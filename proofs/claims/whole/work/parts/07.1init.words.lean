theorem ups {h : Nat → va_E} {k : Nat} {e : va_E} : va_up h k e k = e := by simp [va_up]
theorem upn {h : Nat → va_E} {k o : Nat} {e x : va_E} (hne : o ≠ k) (hx : h o = x) : va_up h k e o = x := by simp [va_up, hne, hx]
theorem ha_int (N : Nat) : ∀ cA : ClassId, vp_cell cA (N, .inl (fun _ => 0)) = arrV cA N (fun _ => defaultValue .int) := fun cA => vp_cell_i cA N (fun _ => 0)
theorem ha_boolean (N : Nat) : ∀ cA : ClassId, vp_cell cA (N, .inl (fun _ => 0)) = arrV cA N (fun _ => defaultValue .boolean) := fun cA => vp_cell_i cA N (fun _ => 0)
theorem ha_long (N : Nat) : ∀ cA : ClassId, vp_cell cA (N, .inr (.inl (fun _ => 0))) = arrV cA N (fun _ => defaultValue .long) := fun cA => vp_cell_l cA N (fun _ => 0)
def hL (h : Nat → va_E) (j : Nat) (q : va_E) (n : Nat) (L : List va_E) : Nat → va_E := fun k => if k = j then q else if k < n then h k else L.getD (k - n) (.inr (0, []))
theorem hL_j {h : Nat → va_E} {j n : Nat} {q : va_E} {L : List va_E} : hL h j q n L j = q := by simp [hL]
theorem hL_n {h : Nat → va_E} {j n i : Nat} {q x : va_E} {L : List va_E} (hjn : j < n) (hx : L[i]? = some x) : hL h j q n L (n + i) = x := by
  have h1 : ¬ n + i = j := by omega
  have h2 : ¬ n + i < n := by omega
  have h3 : n + i - n = i := by omega
  simp only [hL, if_neg h1, if_neg h2, h3, List.getD, hx, Option.getD_some]
theorem hL_nil {h : Nat → va_E} {j n : Nat} {q : va_E} (hj : h j = q) : ∀ k, k < n → h k = hL h j q n [] k := by
  intro k hk
  by_cases z : k = j
  · subst z; simp [hL, hj]
  · simp [hL, z, hk]
theorem hL_push {h : Nat → va_E} {j n i : Nat} {q e : va_E} {L : List va_E} (hjn : j < n) (hi : L.length = i) : ∀ k, k < n + (i + 1) → va_up (hL h j q n L) (n + i) e k = hL h j q n (L ++ [e]) k := by
  intro k hk
  by_cases z : k = n + i
  · subst z
    rw [ups, hL_n (i := i) (x := e) hjn (by rw [← hi]; simp)]
  · rw [upn z rfl]
    unfold hL
    by_cases y : k = j
    · simp [y]
    · by_cases x : k < n
      · simp [y, x]
      · simp only [y, x, if_false]
        simp only [List.getD]
        rw [List.getElem?_append_left (by omega)]
theorem hL_set {h : Nat → va_E} {j n i : Nat} {q e : va_E} {L : List va_E} (hjn : j < n) (hi : i < L.length) : ∀ k, va_up (hL h j q n L) (n + i) e k = hL h j q n (L.set i e) k := by
  intro k
  by_cases z : k = n + i
  · subst z
    rw [ups, hL_n (i := i) (x := e) hjn (by simp [hi])]
  · rw [upn z rfl]
    unfold hL
    by_cases y : k = j
    · simp [y]
    · by_cases x : k < n
      · simp [y, x]
      · simp only [y, x, if_false]
        simp only [List.getD]
        rw [List.getElem?_set_ne (by omega)]
theorem hL_put {h : Nat → va_E} {j n : Nat} {q q' : va_E} {L : List va_E} : ∀ k, va_up (hL h j q n L) j q' k = hL h j q' n L k := by
  intro k
  by_cases z : k = j
  · subst z; rw [ups, hL_j]
  · rw [upn z rfl]; simp [hL, z]
section ULL
variable {g : Gz} {l : Launch} {nm own : String} {cc : ByteArray} {nL : Nat} {rt : Option FieldType} {R : Room} {kc ks n : Nat} {h : Nat → va_E} {Fn : Array Value → List Frame → State → State → Prop} {pc : Nat} {lv : List (Nat × Value)} {st : List Value}
theorem U_newaL {j i : Nat} {q : va_E} {L : List va_E} {atype : ArrayType} {ty : FieldType} {t N : Nat} {v : Int32} {c1 : ClassId} {a0 : vp_A} (hjn : j < n) (hi : L.length = i) (hty : newarray.typeOf atype = ty) (ht : (tysL g.2.1)[t]? = some (c1, ty)) (ha : ∀ cA : ClassId, vp_cell cA a0 = arrV cA N (fun _ => defaultValue ty)) (hw : Cond.arrayClass (newarray.typeOf atype) ∈ lwT) (hv : ¬ v < 0 ∧ v.toNatClampNeg = N ∧ N * componentBytes ty ≤ 536870912) (hR : kc + 1 ≤ R.cells ∧ ks + N ≤ R.slots) (hd : decode cc pc = .ok (.newarray atype, 2)) (k : V0 g l nm own cc nL rt R Fn (pc + 2) lv (.ref (g.2.2 + (n + i)) :: st) (n + (i + 1)) (hL h j q n (L ++ [.inl (c1, a0)])) (kc + 1) (ks + N)) : V0 g l nm own cc nL rt R Fn pc lv (.int v :: st) (n + i) (hL h j q n L) kc ks :=
  U_newa hty ht ha hw hv hR hd (U_ext (hL_push hjn hi) k)
theorem U_putFL {j i ci jj idx : Nat} {L : List va_E} {fs : List Value} {x : Nat} {ty : FieldType} (hcf : CF ci) (hF : FR own idx ci jj) (hpt : ∀ q : vw_C, vwCl[ci]? = some q → parseFieldDescriptor (q.2.1 jj).2.2.1 = some ty ∧ (q.2.1 jj).2.2.2 = true ∧ (q.2.1 jj).1 = own ∧ q.1 = own) (hty : narrow ty (.ref x) = .ref x ∧ fits ty (.ref x) = true) (hnm : nm = "<init>") (hlk : ∀ q : vw_C, vwCl[ci]? = some q → Cond.fieldLink own idx (q.2.1 jj).1 (q.2.1 jj).2.1 (q.2.1 jj).2.2.1 ∈ lwT) (ho : j < n + i) (hlen : jj < fs.length) (hd : decode cc pc = .ok (.putfield idx, 3)) (k : V0 g l nm own cc nL rt R Fn (pc + 3) lv st (n + i) (hL h j (.inr (ci, fs.set jj (.ref x))) n L) kc ks) : V0 g l nm own cc nL rt R Fn pc lv (.ref x :: .ref (g.2.2 + j) :: st) (n + i) (hL h j (.inr (ci, fs)) n L) kc ks :=
  U_putF hcf hF hpt hty hnm hlk ho hL_j hlen hd (U_ext (fun k _ => hL_put k) k)
end ULL
theorem ac_int : Cond.arrayClass (newarray.typeOf .int) ∈ lwT := (inW (List.mem_of_getElem? (i := 98) (by decide +kernel)) rfl)
theorem ac_long : Cond.arrayClass (newarray.typeOf .long) ∈ lwT := (inW (List.mem_of_getElem? (i := 117) (by decide +kernel)) rfl)
theorem ac_boolean : Cond.arrayClass (newarray.typeOf .boolean) ∈ lwT := (inW (List.mem_of_getElem? (i := 771) (by decide +kernel)) rfl)
theorem oi_X0 : OI RX0 3 := ⟨(inW (List.mem_of_getElem? (i := 64) (by decide +kernel)) rfl), (inW (List.mem_of_getElem? (i := 48) (by decide +kernel)) rfl), (inW (List.mem_of_getElem? (i := 49) (by decide +kernel)) rfl)⟩
theorem oi_X1 : OI RX1 3 := ⟨(inW (List.mem_of_getElem? (i := 168) (by decide +kernel)) rfl), (inW (List.mem_of_getElem? (i := 48) (by decide +kernel)) rfl), (inW (List.mem_of_getElem? (i := 49) (by decide +kernel)) rfl)⟩
theorem fl_X1_9 : ∀ q : vw_C, vwCl[1]? = some q → Cond.fieldLink RX1 9 (q.2.1 0).1 (q.2.1 0).2.1 (q.2.1 0).2.2.1 ∈ lwT := fun q hq => by cases hq; exact (inW (List.mem_of_getElem? (i := 169) (by decide +kernel)) rfl)
theorem pf_1_0 : ∀ q : vw_C, vwCl[1]? = some q → parseFieldDescriptor (q.2.1 0).2.2.1 = some (.array .long) ∧ (q.2.1 0).2.2.2 = true ∧ (q.2.1 0).1 = RX1 ∧ q.1 = RX1 := fun q hq => by cases hq; exact ⟨by decide +kernel, rfl, rfl, rfl⟩
theorem fr_X1_15 : FR RX1 15 1 1 := ⟨_, rfl, by decide, by decide, Or.inl (inW (List.mem_of_getElem? (i := 170) (by decide +kernel)) rfl)⟩
theorem fl_X1_15 : ∀ q : vw_C, vwCl[1]? = some q → Cond.fieldLink RX1 15 (q.2.1 1).1 (q.2.1 1).2.1 (q.2.1 1).2.2.1 ∈ lwT := fun q hq => by cases hq; exact (inW (List.mem_of_getElem? (i := 170) (by decide +kernel)) rfl)
theorem oi_X5 : OI RX5 3 := ⟨(inW (List.mem_of_getElem? (i := 181) (by decide +kernel)) rfl), (inW (List.mem_of_getElem? (i := 48) (by decide +kernel)) rfl), (inW (List.mem_of_getElem? (i := 49) (by decide +kernel)) rfl)⟩
theorem fl_X5_9 : ∀ q : vw_C, vwCl[4]? = some q → Cond.fieldLink RX5 9 (q.2.1 0).1 (q.2.1 0).2.1 (q.2.1 0).2.2.1 ∈ lwT := fun q hq => by cases hq; exact (inW (List.mem_of_getElem? (i := 182) (by decide +kernel)) rfl)
theorem pf_4_0 : ∀ q : vw_C, vwCl[4]? = some q → parseFieldDescriptor (q.2.1 0).2.2.1 = some (.array .int) ∧ (q.2.1 0).2.2.2 = true ∧ (q.2.1 0).1 = RX5 ∧ q.1 = RX5 := fun q hq => by cases hq; exact ⟨by decide +kernel, rfl, rfl, rfl⟩
theorem oi_X6 : OI RX6 3 := ⟨(inW (List.mem_of_getElem? (i := 145) (by decide +kernel)) rfl), (inW (List.mem_of_getElem? (i := 48) (by decide +kernel)) rfl), (inW (List.mem_of_getElem? (i := 49) (by decide +kernel)) rfl)⟩
theorem fl_X6_9 : ∀ q : vw_C, vwCl[5]? = some q → Cond.fieldLink RX6 9 (q.2.1 0).1 (q.2.1 0).2.1 (q.2.1 0).2.2.1 ∈ lwT := fun q hq => by cases hq; exact (inW (List.mem_of_getElem? (i := 146) (by decide +kernel)) rfl)
theorem pf_5_0 : ∀ q : vw_C, vwCl[5]? = some q → parseFieldDescriptor (q.2.1 0).2.2.1 = some (.array .int) ∧ (q.2.1 0).2.2.2 = true ∧ (q.2.1 0).1 = RX6 ∧ q.1 = RX6 := fun q hq => by cases hq; exact ⟨by decide +kernel, rfl, rfl, rfl⟩
theorem fl_X6_15 : ∀ q : vw_C, vwCl[5]? = some q → Cond.fieldLink RX6 15 (q.2.1 1).1 (q.2.1 1).2.1 (q.2.1 1).2.2.1 ∈ lwT := fun q hq => by cases hq; exact (inW (List.mem_of_getElem? (i := 147) (by decide +kernel)) rfl)
theorem pf_5_1 : ∀ q : vw_C, vwCl[5]? = some q → parseFieldDescriptor (q.2.1 1).2.2.1 = some (.array .int) ∧ (q.2.1 1).2.2.2 = true ∧ (q.2.1 1).1 = RX6 ∧ q.1 = RX6 := fun q hq => by cases hq; exact ⟨by decide +kernel, rfl, rfl, rfl⟩
theorem fl_X6_18 : ∀ q : vw_C, vwCl[5]? = some q → Cond.fieldLink RX6 18 (q.2.1 2).1 (q.2.1 2).2.1 (q.2.1 2).2.2.1 ∈ lwT := fun q hq => by cases hq; exact (inW (List.mem_of_getElem? (i := 148) (by decide +kernel)) rfl)
theorem pf_5_2 : ∀ q : vw_C, vwCl[5]? = some q → parseFieldDescriptor (q.2.1 2).2.2.1 = some (.array .int) ∧ (q.2.1 2).2.2.2 = true ∧ (q.2.1 2).1 = RX6 ∧ q.1 = RX6 := fun q hq => by cases hq; exact ⟨by decide +kernel, rfl, rfl, rfl⟩
theorem oi_X4 : OI RX4 3 := ⟨(inW (List.mem_of_getElem? (i := 103) (by decide +kernel)) rfl), (inW (List.mem_of_getElem? (i := 48) (by decide +kernel)) rfl), (inW (List.mem_of_getElem? (i := 49) (by decide +kernel)) rfl)⟩
theorem fl_X4_9 : ∀ q : vw_C, vwCl[3]? = some q → Cond.fieldLink RX4 9 (q.2.1 0).1 (q.2.1 0).2.1 (q.2.1 0).2.2.1 ∈ lwT := fun q hq => by cases hq; exact (inW (List.mem_of_getElem? (i := 107) (by decide +kernel)) rfl)
theorem pf_3_0 : ∀ q : vw_C, vwCl[3]? = some q → parseFieldDescriptor (q.2.1 0).2.2.1 = some (.array .long) ∧ (q.2.1 0).2.2.2 = true ∧ (q.2.1 0).1 = RX4 ∧ q.1 = RX4 := fun q hq => by cases hq; exact ⟨by decide +kernel, rfl, rfl, rfl⟩
theorem fl_X4_15 : ∀ q : vw_C, vwCl[3]? = some q → Cond.fieldLink RX4 15 (q.2.1 1).1 (q.2.1 1).2.1 (q.2.1 1).2.2.1 ∈ lwT := fun q hq => by cases hq; exact (inW (List.mem_of_getElem? (i := 108) (by decide +kernel)) rfl)
theorem pf_3_1 : ∀ q : vw_C, vwCl[3]? = some q → parseFieldDescriptor (q.2.1 1).2.2.1 = some (.array .int) ∧ (q.2.1 1).2.2.2 = true ∧ (q.2.1 1).1 = RX4 ∧ q.1 = RX4 := fun q hq => by cases hq; exact ⟨by decide +kernel, rfl, rfl, rfl⟩
theorem ms_X4_19 : MS RX4 19 yJ7_fill_53178 cJ7_fill_53178 4 none 2 := ⟨(inW (List.mem_of_getElem? (i := 104) (by decide +kernel)) rfl), (inW (List.mem_of_getElem? (i := 106) (by decide +kernel)) rfl), (inW (List.mem_of_getElem? (i := 33) (by decide +kernel)) rfl), ⟨by decide +kernel, by decide +kernel, by decide +kernel⟩, (inW (List.mem_of_getElem? (i := 105) (by decide +kernel)) rfl)⟩
theorem oi_X8 : OI RX8 3 := ⟨(inW (List.mem_of_getElem? (i := 691) (by decide +kernel)) rfl), (inW (List.mem_of_getElem? (i := 48) (by decide +kernel)) rfl), (inW (List.mem_of_getElem? (i := 49) (by decide +kernel)) rfl)⟩
theorem fl_X8_9 : ∀ q : vw_C, vwCl[7]? = some q → Cond.fieldLink RX8 9 (q.2.1 4).1 (q.2.1 4).2.1 (q.2.1 4).2.2.1 ∈ lwT := fun q hq => by cases hq; exact (inW (List.mem_of_getElem? (i := 696) (by decide +kernel)) rfl)
theorem pf_7_4 : ∀ q : vw_C, vwCl[7]? = some q → parseFieldDescriptor (q.2.1 4).2.2.1 = some (.array .int) ∧ (q.2.1 4).2.2.2 = true ∧ (q.2.1 4).1 = RX8 ∧ q.1 = RX8 := fun q hq => by cases hq; exact ⟨by decide +kernel, rfl, rfl, rfl⟩
theorem fl_X8_13 : ∀ q : vw_C, vwCl[7]? = some q → Cond.fieldLink RX8 13 (q.2.1 5).1 (q.2.1 5).2.1 (q.2.1 5).2.2.1 ∈ lwT := fun q hq => by cases hq; exact (inW (List.mem_of_getElem? (i := 697) (by decide +kernel)) rfl)
theorem pf_7_5 : ∀ q : vw_C, vwCl[7]? = some q → parseFieldDescriptor (q.2.1 5).2.2.1 = some (.array .int) ∧ (q.2.1 5).2.2.2 = true ∧ (q.2.1 5).1 = RX8 ∧ q.1 = RX8 := fun q hq => by cases hq; exact ⟨by decide +kernel, rfl, rfl, rfl⟩
theorem fl_X8_16 : ∀ q : vw_C, vwCl[7]? = some q → Cond.fieldLink RX8 16 (q.2.1 6).1 (q.2.1 6).2.1 (q.2.1 6).2.2.1 ∈ lwT := fun q hq => by cases hq; exact (inW (List.mem_of_getElem? (i := 698) (by decide +kernel)) rfl)
theorem pf_7_6 : ∀ q : vw_C, vwCl[7]? = some q → parseFieldDescriptor (q.2.1 6).2.2.1 = some (.array .int) ∧ (q.2.1 6).2.2.2 = true ∧ (q.2.1 6).1 = RX8 ∧ q.1 = RX8 := fun q hq => by cases hq; exact ⟨by decide +kernel, rfl, rfl, rfl⟩
theorem fl_X8_19 : ∀ q : vw_C, vwCl[7]? = some q → Cond.fieldLink RX8 19 (q.2.1 7).1 (q.2.1 7).2.1 (q.2.1 7).2.2.1 ∈ lwT := fun q hq => by cases hq; exact (inW (List.mem_of_getElem? (i := 699) (by decide +kernel)) rfl)
theorem pf_7_7 : ∀ q : vw_C, vwCl[7]? = some q → parseFieldDescriptor (q.2.1 7).2.2.1 = some (.array .int) ∧ (q.2.1 7).2.2.2 = true ∧ (q.2.1 7).1 = RX8 ∧ q.1 = RX8 := fun q hq => by cases hq; exact ⟨by decide +kernel, rfl, rfl, rfl⟩
theorem fl_X8_22 : ∀ q : vw_C, vwCl[7]? = some q → Cond.fieldLink RX8 22 (q.2.1 8).1 (q.2.1 8).2.1 (q.2.1 8).2.2.1 ∈ lwT := fun q hq => by cases hq; exact (inW (List.mem_of_getElem? (i := 700) (by decide +kernel)) rfl)
theorem pf_7_8 : ∀ q : vw_C, vwCl[7]? = some q → parseFieldDescriptor (q.2.1 8).2.2.1 = some (.array .int) ∧ (q.2.1 8).2.2.2 = true ∧ (q.2.1 8).1 = RX8 ∧ q.1 = RX8 := fun q hq => by cases hq; exact ⟨by decide +kernel, rfl, rfl, rfl⟩
theorem fl_X8_25 : ∀ q : vw_C, vwCl[7]? = some q → Cond.fieldLink RX8 25 (q.2.1 9).1 (q.2.1 9).2.1 (q.2.1 9).2.2.1 ∈ lwT := fun q hq => by cases hq; exact (inW (List.mem_of_getElem? (i := 701) (by decide +kernel)) rfl)
theorem pf_7_9 : ∀ q : vw_C, vwCl[7]? = some q → parseFieldDescriptor (q.2.1 9).2.2.1 = some (.array .long) ∧ (q.2.1 9).2.2.2 = true ∧ (q.2.1 9).1 = RX8 ∧ q.1 = RX8 := fun q hq => by cases hq; exact ⟨by decide +kernel, rfl, rfl, rfl⟩
theorem fl_X8_29 : ∀ q : vw_C, vwCl[7]? = some q → Cond.fieldLink RX8 29 (q.2.1 10).1 (q.2.1 10).2.1 (q.2.1 10).2.2.1 ∈ lwT := fun q hq => by cases hq; exact (inW (List.mem_of_getElem? (i := 702) (by decide +kernel)) rfl)
theorem pf_7_10 : ∀ q : vw_C, vwCl[7]? = some q → parseFieldDescriptor (q.2.1 10).2.2.1 = some (.array .int) ∧ (q.2.1 10).2.2.2 = true ∧ (q.2.1 10).1 = RX8 ∧ q.1 = RX8 := fun q hq => by cases hq; exact ⟨by decide +kernel, rfl, rfl, rfl⟩
theorem fl_X8_32 : ∀ q : vw_C, vwCl[7]? = some q → Cond.fieldLink RX8 32 (q.2.1 11).1 (q.2.1 11).2.1 (q.2.1 11).2.2.1 ∈ lwT := fun q hq => by cases hq; exact (inW (List.mem_of_getElem? (i := 703) (by decide +kernel)) rfl)
theorem pf_7_11 : ∀ q : vw_C, vwCl[7]? = some q → parseFieldDescriptor (q.2.1 11).2.2.1 = some (.array .int) ∧ (q.2.1 11).2.2.2 = true ∧ (q.2.1 11).1 = RX8 ∧ q.1 = RX8 := fun q hq => by cases hq; exact ⟨by decide +kernel, rfl, rfl, rfl⟩
theorem fl_X8_35 : ∀ q : vw_C, vwCl[7]? = some q → Cond.fieldLink RX8 35 (q.2.1 12).1 (q.2.1 12).2.1 (q.2.1 12).2.2.1 ∈ lwT := fun q hq => by cases hq; exact (inW (List.mem_of_getElem? (i := 704) (by decide +kernel)) rfl)
theorem pf_7_12 : ∀ q : vw_C, vwCl[7]? = some q → parseFieldDescriptor (q.2.1 12).2.2.1 = some (.array .int) ∧ (q.2.1 12).2.2.2 = true ∧ (q.2.1 12).1 = RX8 ∧ q.1 = RX8 := fun q hq => by cases hq; exact ⟨by decide +kernel, rfl, rfl, rfl⟩
theorem fl_X8_38 : ∀ q : vw_C, vwCl[7]? = some q → Cond.fieldLink RX8 38 (q.2.1 13).1 (q.2.1 13).2.1 (q.2.1 13).2.2.1 ∈ lwT := fun q hq => by cases hq; exact (inW (List.mem_of_getElem? (i := 705) (by decide +kernel)) rfl)
theorem pf_7_13 : ∀ q : vw_C, vwCl[7]? = some q → parseFieldDescriptor (q.2.1 13).2.2.1 = some (.array .int) ∧ (q.2.1 13).2.2.2 = true ∧ (q.2.1 13).1 = RX8 ∧ q.1 = RX8 := fun q hq => by cases hq; exact ⟨by decide +kernel, rfl, rfl, rfl⟩
theorem fl_X8_41 : ∀ q : vw_C, vwCl[7]? = some q → Cond.fieldLink RX8 41 (q.2.1 14).1 (q.2.1 14).2.1 (q.2.1 14).2.2.1 ∈ lwT := fun q hq => by cases hq; exact (inW (List.mem_of_getElem? (i := 706) (by decide +kernel)) rfl)
theorem pf_7_14 : ∀ q : vw_C, vwCl[7]? = some q → parseFieldDescriptor (q.2.1 14).2.2.1 = some (.array .int) ∧ (q.2.1 14).2.2.2 = true ∧ (q.2.1 14).1 = RX8 ∧ q.1 = RX8 := fun q hq => by cases hq; exact ⟨by decide +kernel, rfl, rfl, rfl⟩
theorem fl_X8_44 : ∀ q : vw_C, vwCl[7]? = some q → Cond.fieldLink RX8 44 (q.2.1 15).1 (q.2.1 15).2.1 (q.2.1 15).2.2.1 ∈ lwT := fun q hq => by cases hq; exact (inW (List.mem_of_getElem? (i := 707) (by decide +kernel)) rfl)
theorem pf_7_15 : ∀ q : vw_C, vwCl[7]? = some q → parseFieldDescriptor (q.2.1 15).2.2.1 = some (.array .int) ∧ (q.2.1 15).2.2.2 = true ∧ (q.2.1 15).1 = RX8 ∧ q.1 = RX8 := fun q hq => by cases hq; exact ⟨by decide +kernel, rfl, rfl, rfl⟩
theorem fl_X8_47 : ∀ q : vw_C, vwCl[7]? = some q → Cond.fieldLink RX8 47 (q.2.1 16).1 (q.2.1 16).2.1 (q.2.1 16).2.2.1 ∈ lwT := fun q hq => by cases hq; exact (inW (List.mem_of_getElem? (i := 708) (by decide +kernel)) rfl)
theorem pf_7_16 : ∀ q : vw_C, vwCl[7]? = some q → parseFieldDescriptor (q.2.1 16).2.2.1 = some (.array .int) ∧ (q.2.1 16).2.2.2 = true ∧ (q.2.1 16).1 = RX8 ∧ q.1 = RX8 := fun q hq => by cases hq; exact ⟨by decide +kernel, rfl, rfl, rfl⟩
theorem fl_X8_50 : ∀ q : vw_C, vwCl[7]? = some q → Cond.fieldLink RX8 50 (q.2.1 17).1 (q.2.1 17).2.1 (q.2.1 17).2.2.1 ∈ lwT := fun q hq => by cases hq; exact (inW (List.mem_of_getElem? (i := 709) (by decide +kernel)) rfl)
theorem pf_7_17 : ∀ q : vw_C, vwCl[7]? = some q → parseFieldDescriptor (q.2.1 17).2.2.1 = some (.array .int) ∧ (q.2.1 17).2.2.2 = true ∧ (q.2.1 17).1 = RX8 ∧ q.1 = RX8 := fun q hq => by cases hq; exact ⟨by decide +kernel, rfl, rfl, rfl⟩
theorem fl_X8_53 : ∀ q : vw_C, vwCl[7]? = some q → Cond.fieldLink RX8 53 (q.2.1 18).1 (q.2.1 18).2.1 (q.2.1 18).2.2.1 ∈ lwT := fun q hq => by cases hq; exact (inW (List.mem_of_getElem? (i := 710) (by decide +kernel)) rfl)
theorem pf_7_18 : ∀ q : vw_C, vwCl[7]? = some q → parseFieldDescriptor (q.2.1 18).2.2.1 = some (.array .int) ∧ (q.2.1 18).2.2.2 = true ∧ (q.2.1 18).1 = RX8 ∧ q.1 = RX8 := fun q hq => by cases hq; exact ⟨by decide +kernel, rfl, rfl, rfl⟩
theorem fl_X8_56 : ∀ q : vw_C, vwCl[7]? = some q → Cond.fieldLink RX8 56 (q.2.1 19).1 (q.2.1 19).2.1 (q.2.1 19).2.2.1 ∈ lwT := fun q hq => by cases hq; exact (inW (List.mem_of_getElem? (i := 711) (by decide +kernel)) rfl)
theorem pf_7_19 : ∀ q : vw_C, vwCl[7]? = some q → parseFieldDescriptor (q.2.1 19).2.2.1 = some (.array .int) ∧ (q.2.1 19).2.2.2 = true ∧ (q.2.1 19).1 = RX8 ∧ q.1 = RX8 := fun q hq => by cases hq; exact ⟨by decide +kernel, rfl, rfl, rfl⟩
theorem fl_X8_59 : ∀ q : vw_C, vwCl[7]? = some q → Cond.fieldLink RX8 59 (q.2.1 20).1 (q.2.1 20).2.1 (q.2.1 20).2.2.1 ∈ lwT := fun q hq => by cases hq; exact (inW (List.mem_of_getElem? (i := 712) (by decide +kernel)) rfl)
theorem pf_7_20 : ∀ q : vw_C, vwCl[7]? = some q → parseFieldDescriptor (q.2.1 20).2.2.1 = some (.array .int) ∧ (q.2.1 20).2.2.2 = true ∧ (q.2.1 20).1 = RX8 ∧ q.1 = RX8 := fun q hq => by cases hq; exact ⟨by decide +kernel, rfl, rfl, rfl⟩
theorem fl_X8_62 : ∀ q : vw_C, vwCl[7]? = some q → Cond.fieldLink RX8 62 (q.2.1 21).1 (q.2.1 21).2.1 (q.2.1 21).2.2.1 ∈ lwT := fun q hq => by cases hq; exact (inW (List.mem_of_getElem? (i := 713) (by decide +kernel)) rfl)
theorem pf_7_21 : ∀ q : vw_C, vwCl[7]? = some q → parseFieldDescriptor (q.2.1 21).2.2.1 = some (.array .int) ∧ (q.2.1 21).2.2.2 = true ∧ (q.2.1 21).1 = RX8 ∧ q.1 = RX8 := fun q hq => by cases hq; exact ⟨by decide +kernel, rfl, rfl, rfl⟩
theorem fl_X8_65 : ∀ q : vw_C, vwCl[7]? = some q → Cond.fieldLink RX8 65 (q.2.1 22).1 (q.2.1 22).2.1 (q.2.1 22).2.2.1 ∈ lwT := fun q hq => by cases hq; exact (inW (List.mem_of_getElem? (i := 714) (by decide +kernel)) rfl)
theorem pf_7_22 : ∀ q : vw_C, vwCl[7]? = some q → parseFieldDescriptor (q.2.1 22).2.2.1 = some (.array .int) ∧ (q.2.1 22).2.2.2 = true ∧ (q.2.1 22).1 = RX8 ∧ q.1 = RX8 := fun q hq => by cases hq; exact ⟨by decide +kernel, rfl, rfl, rfl⟩
theorem fl_X8_68 : ∀ q : vw_C, vwCl[7]? = some q → Cond.fieldLink RX8 68 (q.2.1 23).1 (q.2.1 23).2.1 (q.2.1 23).2.2.1 ∈ lwT := fun q hq => by cases hq; exact (inW (List.mem_of_getElem? (i := 715) (by decide +kernel)) rfl)
theorem pf_7_23 : ∀ q : vw_C, vwCl[7]? = some q → parseFieldDescriptor (q.2.1 23).2.2.1 = some (.array .boolean) ∧ (q.2.1 23).2.2.2 = true ∧ (q.2.1 23).1 = RX8 ∧ q.1 = RX8 := fun q hq => by cases hq; exact ⟨by decide +kernel, rfl, rfl, rfl⟩
theorem fl_X8_72 : ∀ q : vw_C, vwCl[7]? = some q → Cond.fieldLink RX8 72 (q.2.1 24).1 (q.2.1 24).2.1 (q.2.1 24).2.2.1 ∈ lwT := fun q hq => by cases hq; exact (inW (List.mem_of_getElem? (i := 716) (by decide +kernel)) rfl)
theorem pf_7_24 : ∀ q : vw_C, vwCl[7]? = some q → parseFieldDescriptor (q.2.1 24).2.2.1 = some (.array .boolean) ∧ (q.2.1 24).2.2.2 = true ∧ (q.2.1 24).1 = RX8 ∧ q.1 = RX8 := fun q hq => by cases hq; exact ⟨by decide +kernel, rfl, rfl, rfl⟩
theorem fl_X8_75 : ∀ q : vw_C, vwCl[7]? = some q → Cond.fieldLink RX8 75 (q.2.1 25).1 (q.2.1 25).2.1 (q.2.1 25).2.2.1 ∈ lwT := fun q hq => by cases hq; exact (inW (List.mem_of_getElem? (i := 717) (by decide +kernel)) rfl)
theorem pf_7_25 : ∀ q : vw_C, vwCl[7]? = some q → parseFieldDescriptor (q.2.1 25).2.2.1 = some (.array .int) ∧ (q.2.1 25).2.2.2 = true ∧ (q.2.1 25).1 = RX8 ∧ q.1 = RX8 := fun q hq => by cases hq; exact ⟨by decide +kernel, rfl, rfl, rfl⟩
