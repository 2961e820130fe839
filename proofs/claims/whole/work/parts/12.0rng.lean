/-! tests of arguments: both sides ask the same -/
def rng (lo hi : Int) (x : Int32) : Bool := decide (lo ≤ x.toInt ∧ x.toInt ≤ hi)
theorem rng_iff {lo hi : Int} {x : Int32} : rng lo hi x = true ↔ lo ≤ x.toInt ∧ x.toInt ≤ hi := by unfold rng; exact decide_eq_true_iff
theorem i10 : ((1 : Int32) = 0) = False := by decide
theorem i01 : ((0 : Int32) = 1) = False := by decide
theorem rng_nat {lo hi : Nat} {x : Int32} (h' : rng lo hi x = true) : ∃ n, x = nI n ∧ lo ≤ n ∧ n ≤ hi := by
  have h := rng_iff.mp h'
  have b := fb_rng x
  refine ⟨x.toInt.toNat, ?_, ?_, ?_⟩
  · apply Int32.toInt_inj.mp
    have h0 : 0 ≤ x.toInt := by have := h.1; omega
    have e : (nI x.toInt.toNat).toInt = (x.toInt.toNat : Int) := nI_toInt (by omega)
    rw [e]; omega
  · have := h.1; omega
  · have := h.2; omega
theorem nI_rng {lo hi : Int} {n : Nat} (hn : n < 2 ^ 31) (h1 : lo ≤ n) (h2 : (n : Int) ≤ hi) : rng lo hi (nI n) = true := by
  rw [rng_iff, nI_toInt hn]
  exact ⟨h1, h2⟩
theorem rng_two {lo hi : Int} (a b : Int32) (ea : a.toInt = lo) (eb : b.toInt = hi) (x : Int32) : (if x < a then (some (0 : Int32)) else (if b < x then (some (0 : Int32)) else (some (1 : Int32)))) = some (if rng lo hi x then 1 else 0) := by
  unfold rng
  simp only [decide_eq_true_eq]
  by_cases h1 : x < a
  · rw [if_pos h1, if_neg (fun z => absurd (Int32.lt_iff_toInt_lt.mp h1) (by omega))]
  · rw [if_neg h1]
    by_cases h2 : b < x
    · rw [if_pos h2, if_neg (fun z => absurd (Int32.lt_iff_toInt_lt.mp h2) (by omega))]
    · have a1 : ¬ x.toInt < a.toInt := fun z => h1 (Int32.lt_iff_toInt_lt.mpr z)
      have a2 : ¬ b.toInt < x.toInt := fun z => h2 (Int32.lt_iff_toInt_lt.mpr z)
      rw [if_neg h2, if_pos ⟨by omega, by omega⟩]
theorem rng_half {hi : Int} (b : Int32) (eb : b.toInt = hi + 1) (x : Int32) : (if x < 0 then (some (0 : Int32)) else (if b ≤ x then (some (0 : Int32)) else (some (1 : Int32)))) = some (if rng 0 hi x then 1 else 0) := by
  have e0 : (0 : Int32).toInt = 0 := rfl
  unfold rng
  simp only [decide_eq_true_eq]
  by_cases h1 : x < 0
  · rw [if_pos h1, if_neg (fun z => absurd (Int32.lt_iff_toInt_lt.mp h1) (by omega))]
  · rw [if_neg h1]
    by_cases h2 : b ≤ x
    · rw [if_pos h2, if_neg (fun z => absurd (Int32.le_iff_toInt_le.mp h2) (by omega))]
    · have a1 : ¬ x.toInt < (0 : Int32).toInt := fun z => h1 (Int32.lt_iff_toInt_lt.mpr z)
      have a2 : ¬ b.toInt ≤ x.toInt := fun z => h2 (Int32.le_iff_toInt_le.mpr z)
      rw [if_neg h2, if_pos ⟨by omega, by omega⟩]
theorem X8_in {lo hi : Int} (x : Int32) (a b : Int64) (ea : a.toInt = lo) (eb : b.toInt = hi) : fX8_in x.toInt64 a b = some (if rng lo hi x then 1 else 0) := by
  have e : x.toInt64.toInt = x.toInt := Int32.toInt_toInt64 x
  unfold fX8_in rng
  simp only [decide_eq_true_eq]
  by_cases h1 : lg_cmp x.toInt64 a < 0
  · have q := Int64.lt_iff_toInt_lt.mp ((lg_cmp_lt _ _).mp h1)
    rw [if_pos h1, if_neg (fun z => absurd z.1 (by omega))]
  · have a1 : ¬ x.toInt64.toInt < a.toInt := fun z => h1 ((lg_cmp_lt _ _).mpr (Int64.lt_iff_toInt_lt.mpr z))
    rw [if_neg h1]
    by_cases h2 : 0 < lg_cmp x.toInt64 b
    · have q := Int64.lt_iff_toInt_lt.mp ((lg_cmp_gt _ _).mp h2)
      rw [if_pos h2, if_neg (fun z => absurd z.2 (by omega))]
    · have a2 : ¬ b.toInt < x.toInt64.toInt := fun z => h2 ((lg_cmp_gt _ _).mpr (Int64.lt_iff_toInt_lt.mpr z))
      rw [if_neg h2, if_pos ⟨by omega, by omega⟩]
theorem X7_isKind (x : Int32) : fX7_isKind x = some (if rng 0 3 x then 1 else 0) := rng_half 4 rfl x
theorem X7_isMap (x : Int32) : fX7_isMap x = some (if rng 0 3 x then 1 else 0) := rng_half 4 rfl x
theorem X7_isSheet (x : Int32) : fX7_isSheet x = some (if rng 0 3 x then 1 else 0) := rng_half 4 rfl x
theorem X3_isCell (x : Int32) : fX3_isCell x = some (if rng 0 35 x then 1 else 0) := rng_half 36 rfl x
theorem X7_isYear (x : Int32) : fX7_isYear x = some (if rng 1000 1999 x then 1 else 0) := rng_two 1000 1999 rfl rfl x
theorem X2_hasUnitR {M : Mem} {nu : Nat} (h : M.1 1 4 = nI nu) (hn : nu ≤ 10) (x : Int32) : fX2_hasUnit 1 x M = some (if rng 0 ((nu : Int) - 1) x then 1 else 0) := by
  unfold fX2_hasUnit
  rw [h]
  exact rng_half (nI nu) (by rw [nI_toInt (by omega)]; omega) x
theorem X2_hasActR {M : Mem} {n : Nat} (h : M.1 1 5 = nI n) (hn : n ≤ 30) (x : Int32) : fX2_hasAct 1 x M = some (if rng 0 ((n : Int) - 1) x then 1 else 0) := by
  unfold fX2_hasAct
  rw [h]
  exact rng_half (nI n) (by rw [nI_toInt (by omega)]; omega) x
theorem X8_isYear (x : Int32) : fX8_isYear x = some (if rng 1000 1999 x then 1 else 0) := by
  unfold fX8_isYear; rw [X8_in (lo := 1000) (hi := 1999) x _ _ rfl rfl, bnd_some, gb_if]
theorem X8_isCell (x : Int32) : fX8_isCell x = some (if rng 0 35 x then 1 else 0) := by
  unfold fX8_isCell; rw [X8_in (lo := 0) (hi := 35) x _ _ rfl rfl, bnd_some, gb_if]
theorem X8_isMap (x : Int32) : fX8_isMap x = some (if rng 0 3 x then 1 else 0) := by
  unfold fX8_isMap; rw [X8_in (lo := 0) (hi := 3) x _ _ rfl rfl, bnd_some, gb_if]
theorem X8_isSheet (x : Int32) : fX8_isSheet x = some (if rng 0 3 x then 1 else 0) := by
  unfold fX8_isSheet; rw [X8_in (lo := 0) (hi := 3) x _ _ rfl rfl, bnd_some, gb_if]
theorem X8_in03 (x : Int32) : fX8_in x.toInt64 0 3 = some (if rng 0 3 x then 1 else 0) := X8_in x _ _ rfl rfl
theorem X8_in02 (x : Int32) : fX8_in x.toInt64 0 2 = some (if rng 0 2 x then 1 else 0) := X8_in x _ _ rfl rfl
theorem X8_in04 (x : Int32) : fX8_in x.toInt64 0 4 = some (if rng 0 4 x then 1 else 0) := X8_in x _ _ rfl rfl
theorem X8_in1M (x : Int32) : fX8_in x.toInt64 0 1000000 = some (if rng 0 1000000 x then 1 else 0) := X8_in x _ _ rfl rfl
theorem nI_m1L {n : Nat} (hn : n < 2 ^ 30) : ((nI n - 1).toInt64).toInt = (n : Int) - 1 := by
  rw [Int32.toInt_toInt64]
  exact pk_sub_toInt (a := n) (b := 1) (by omega) (by omega)
theorem X8_inN {n : Nat} (hn : n < 2 ^ 30) (x : Int32) : fX8_in x.toInt64 0 ((nI n - 1).toInt64) = some (if rng 0 ((n : Int) - 1) x then 1 else 0) := X8_in x _ _ rfl (nI_m1L hn)
theorem X8_isUnit {M : Mem} {nu : Nat} (h : M.1 151 0 = nI nu) (hn : nu ≤ 10) (x : Int32) : fX8_isUnit 151 x M = some (if rng 0 ((nu : Int) - 1) x then 1 else 0) := by
  unfold fX8_isUnit
  rw [h, X8_inN (by omega), bnd_some, gb_if]
theorem rng_unit {nu : Nat} {x : Int32} (h' : rng 0 ((nu : Int) - 1) x = true) : ∃ u, x = nI u ∧ u < nu := by
  have h := rng_iff.mp h'
  have b := fb_rng x
  refine ⟨x.toInt.toNat, ?_, by omega⟩
  apply Int32.toInt_inj.mp
  have e : (nI x.toInt.toNat).toInt = (x.toInt.toNat : Int) := nI_toInt (by omega)
  rw [e]; omega
theorem unit_rng {nu u : Nat} (hn : nu ≤ 100) (h : u < nu) : rng 0 ((nu : Int) - 1) (nI u) = true := nI_rng (by omega) (by omega) (by omega)
