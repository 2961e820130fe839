/-! sets of cells as arguments -/
def hi0 (x : Int64) : Prop := ∀ j, 36 ≤ j → j < 64 → lb x j = false
theorem lb_hi : ∀ i, i < 64 → lb (-68719476736) i = decide (36 ≤ i) := by decide +kernel
theorem isS1 (x : Int64) : lg_cmp (x &&& (-68719476736)) 0 = 0 ↔ hi0 x := by
  rw [lg_cmp_eq]
  constructor
  · intro h j h1 h2
    have := congrArg (fun z => lb z j) h
    simp only [lb_and, lb_hi j h2, lb_0, decide_eq_true h1, Bool.and_true] at this
    exact this
  · intro h
    apply lb_ext
    intro i hi
    rw [lb_and, lb_hi i hi, lb_0]
    by_cases e : 36 ≤ i
    · rw [h i e hi]; rfl
    · rw [decide_eq_false e, Bool.and_false]
theorem isS2 (x : Int64) : lg_cmp (lshr x 36) 0 = 0 ↔ hi0 x := by
  rw [lg_cmp_eq]
  have sh : ∀ i, i < 64 → lb (lshr x 36) i = if 36 + i < 64 then lb x (36 + i) else lb x 63 := fun i hi => lb_shr (k := 36) (by omega) x hi
  constructor
  · intro h j h1 h2
    have := sh (j - 36) (by omega)
    rw [h, lb_0, if_pos (by omega), show 36 + (j - 36) = j by omega] at this
    exact this.symm
  · intro h
    apply lb_ext
    intro i hi
    rw [sh i hi, lb_0]
    split
    · exact h _ (by omega) (by omega)
    · exact h _ (by omega) (by omega)
theorem isS3 (x : Int64) (h : hi0 x) : ¬ lg_cmp x 0 < 0 := by
  rw [lg_cmp_lt]
  intro z
  have e := Int64.lt_iff_toInt_lt.mp z
  have m : x.toBitVec.msb = true := by
    rw [BitVec.msb_eq_toInt, decide_eq_true_iff]
    exact e
  rw [BitVec.msb_eq_getLsbD_last] at m
  have := h 63 (by omega) (by omega)
  unfold lb at this
  rw [this] at m
  cases m
theorem X3_isSet1 {x : Int64} (h : hi0 x) : fX3_isSet x = some 1 := by unfold fX3_isSet; rw [if_pos ((isS1 x).mpr h)]
theorem X3_isSet0 {x : Int64} (h : ¬ hi0 x) : fX3_isSet x = some 0 := by unfold fX3_isSet; rw [if_neg (fun z => h ((isS1 x).mp z))]
theorem S_found {t : Nat} {M : Mem} (h : Inv t M) (x1 x2 : Int32) (x3 : Int64) : Ok t M (fX7_found 0 x1 x2 x3) (fX8_found 151 x1 x2 x3) := by
  obtain ⟨nu, A, nc, cU, cY, cP, mY, mQ, sB, sN, f, hf, j⟩ := h
  have hC := j.1
  have hD := j.2.1
  have hDr := (J_ref j).2.1
  have hV := hC.1
  have n30 := hV.2.1
  have n10 := hV.1
  cases c1 : rng 0 ((nu : Int) - 1) x1 with
  | false => exact Ok_ref hf j (-1000000000000000001) (by simp only [fX7_found, r00, X2_hasUnitR hC.2.1.1 hV.1, c1, bnd_some, Bool.false_eq_true, if_false, if_true, X7_ref]) (by simp only [fX8_found, X8_isUnit hDr.1 hV.1, c1, bnd_some, Bool.false_eq_true, if_false, if_true, X8_ref])
  | true =>
    cases c2 : rng 1000 1999 x2 with
    | false => exact Ok_ref hf j (-1000000000000000001) (by simp only [fX7_found, r00, X2_hasUnitR hC.2.1.1 hV.1, X7_isYear, c1, c2, bnd_some, Bool.false_eq_true, if_false, if_true, i10, X7_ref]) (by simp only [fX8_found, X8_isUnit hDr.1 hV.1, X8_isYear, c1, c2, bnd_some, Bool.false_eq_true, if_false, if_true, i10, X8_ref])
    | true =>
      by_cases c3 : hi0 x3
      · obtain ⟨u, e1, hu⟩ := rng_unit c1
        obtain ⟨y, e2, hy1, hy2⟩ := rng_nat (lo := 1000) (hi := 1999) c2
        subst e1
        subst e2
        by_cases h3 : uK A u = 3
        · exact Ok_ref hf j (-1000000000000000004) (by simp only [fX7_found, r00, X2_hasUnitR hC.2.1.1 hV.1, X7_isYear, X3_isSet1 c3, X2_isHundred hV hC.2.1 hu, h3, c1, c2, bnd_some, if_false, if_true, i10, X7_ref]) (by simp only [fX8_found, X8_isUnit hDr.1 hV.1, X8_isYear, X8_isHundred hV hDr hu, h3, c1, c2, isS3 x3 c3, (isS2 x3).mpr c3, bnd_some, if_false, if_true, i10, X8_ref])
        · obtain ⟨r, M1, M2, t1, D1, t2, iv⟩ := tell_both (k := 0) (y := y) (o := u) (tt := 10) hf j (fun i => lb x3 i) (x3 := 10) (x4 := -1) (x5 := x3) (x6 := x3) ⟨by omega, hy1, hy2, fun _ => ⟨hu, h3⟩, fun z => by omega, fun z => by omega, fun z => by omega⟩ (fun z => by omega) (fun _ => cset_of x3 c3) (fun z => by omega) (fun _ => cset_of x3 c3)
          refine ⟨r, M1, M2, ?_, ?_, iv⟩
          · simp only [fX7_found, r00, X2_hasUnitR hC.2.1.1 hV.1, X7_isYear, X3_isSet1 c3, X2_isHundred hV hC.2.1 hu, h3, c1, c2, bnd_some, if_false, if_true, i10, bnd_eta]
            exact t1
          · simp only [fX8_found, X8_isUnit D1.1 hV.1, X8_isYear, X8_isHundred hV D1 hu, h3, c1, c2, isS3 x3 c3, (isS2 x3).mpr c3, bnd_some, if_false, if_true, i10, bnd_eta]
            exact t2
      · refine Ok_ref hf j (-1000000000000000001) (by simp only [fX7_found, r00, X2_hasUnitR hC.2.1.1 hV.1, X7_isYear, X3_isSet0 c3, c1, c2, bnd_some, if_false, if_true, i10, X7_ref]) ?_
        by_cases c4 : lg_cmp x3 0 < 0
        · simp only [fX8_found, X8_isUnit hDr.1 hV.1, X8_isYear, c1, c2, c4, bnd_some, if_false, if_true, i10, X8_ref]
        · simp only [fX8_found, X8_isUnit hDr.1 hV.1, X8_isYear, c1, c2, c4, show ¬ lg_cmp (lshr x3 36) 0 = 0 from fun z => c3 ((isS2 x3).mp z), bnd_some, if_false, if_true, i10, X8_ref]
