theorem X7_one1 : fX7_oneIf 1 = some 1 := rfl
theorem X7_one0 : fX7_oneIf 0 = some 0 := rfl
theorem S_there {t : Nat} {M : Mem} (h : Inv t M) (x1 x2 : Int32) : Ok t M (fX7_there 0 x1 x2) (fX8_there 151 x1 x2) := by
  obtain ⟨nu, A, nc, cU, cY, cP, mY, mQ, sB, sN, f, hf, j⟩ := h
  have hC := j.1
  have hD := j.2.1
  have hDr := (J_ref j).2.1
  have hV := hC.1
  have n30 := hV.2.1
  have n10 := hV.1
  cases c1 : rng 0 ((nu : Int) - 1) x1 with
  | false => exact Ok_ref hf j (-1000000000000000001) (by simp only [fX7_there, r00, X2_hasUnitR hC.2.1.1 hV.1, c1, bnd_some, Bool.false_eq_true, if_false, if_true, X7_ref]) (by simp only [fX8_there, X8_isUnit hDr.1 hV.1, c1, bnd_some, Bool.false_eq_true, if_false, if_true, X8_ref])
  | true =>
    cases c2 : rng 1000 1999 x2 with
    | false => exact Ok_ref hf j (-1000000000000000001) (by simp only [fX7_there, r00, X2_hasUnitR hC.2.1.1 hV.1, X7_isYear, c1, c2, bnd_some, Bool.false_eq_true, if_false, if_true, i10, X7_ref]) (by simp only [fX8_there, X8_isUnit hDr.1 hV.1, X8_isYear, c1, c2, bnd_some, Bool.false_eq_true, if_false, if_true, i10, X8_ref])
    | true =>
      obtain ⟨u, e1, hu⟩ := rng_unit c1
      obtain ⟨y, e2, hy1, hy2⟩ := rng_nat (lo := 1000) (hi := 1999) c2
      subst e1
      subst e2
      obtain ⟨M', hd, fd, rs⟩ := X8_done hV hD
      have ul := upto_le A y
      have R := rs.2.2.1 _ ul
      have W := hC.2.2.2.1 _ ul
      by_cases h3 : uK A u = 3
      · refine Ok_ans hf j 1 ?_ fd ?_
        · simp only [fX7_there, r00, X2_hasUnitR hC.2.1.1 hV.1, X7_isYear, X2_isHundred hV hC.2.1 hu, h3, c1, c2, bnd_some, if_false, if_true, i10, X7_one1]
        · simp only [fX8_there, X8_isUnit hD.1 hV.1, X8_isYear, c1, c2, hd, X8_isHundred hV (RD_keep fd hD) hu, h3, bnd_some, if_false, if_true, i10]
      · refine Ok_ans hf j (if (wd A (upto A y)).2.1 u then 1 else 0) ?_ fd ?_
        · simp only [fX7_there, r00, X2_hasUnitR hC.2.1.1 hV.1, X7_isYear, X2_isHundred hV hC.2.1 hu, h3, c1, c2, bnd_some, if_false, if_true, i10]
          rw [X2_momentAt hC (by omega), bnd_some, gd_at (shp_m (by omega)), X4_isThere W (by omega), bnd_some]
          cases (wd A (upto A y)).2.1 u <;> rfl
        · simp only [fX8_there, X8_isUnit hD.1 hV.1, X8_isYear, c1, c2, hd, X8_isHundred hV (RD_keep fd hD) hu, h3, bnd_some, if_false, if_true, i10]
          rw [X8_until hV (RD_keep fd hD) (by omega), bnd_some]
          simp only [rM, Nat.reduceAdd, l171]
          rw [ix10, gi_at (by omega) (by decide), nI_clamp (show 10 * upto A y + u < 2 ^ 31 by omega), R.2.1 u (by omega)]
          cases (wd A (upto A y)).2.1 u <;> rfl
theorem S_cells {t : Nat} {M : Mem} (h : Inv t M) (x1 x2 : Int32) : Ok t M (fX7_cells 0 x1 x2) (fX8_cells 151 x1 x2) := by
  obtain ⟨nu, A, nc, cU, cY, cP, mY, mQ, sB, sN, f, hf, j⟩ := h
  have hC := j.1
  have hD := j.2.1
  have hDr := (J_ref j).2.1
  have hV := hC.1
  have n30 := hV.2.1
  have n10 := hV.1
  cases c1 : rng 0 ((nu : Int) - 1) x1 with
  | false => exact Ok_ref hf j (-1000000000000000001) (by simp only [fX7_cells, r00, X2_hasUnitR hC.2.1.1 hV.1, c1, bnd_some, Bool.false_eq_true, if_false, if_true, X7_ref]) (by simp only [fX8_cells, X8_isUnit hDr.1 hV.1, c1, bnd_some, Bool.false_eq_true, if_false, if_true, X8_ref])
  | true =>
    cases c2 : rng 1000 1999 x2 with
    | false => exact Ok_ref hf j (-1000000000000000001) (by simp only [fX7_cells, r00, X2_hasUnitR hC.2.1.1 hV.1, X7_isYear, c1, c2, bnd_some, Bool.false_eq_true, if_false, if_true, i10, X7_ref]) (by simp only [fX8_cells, X8_isUnit hDr.1 hV.1, X8_isYear, c1, c2, bnd_some, Bool.false_eq_true, if_false, if_true, i10, X8_ref])
    | true =>
      obtain ⟨u, e1, hu⟩ := rng_unit c1
      obtain ⟨y, e2, hy1, hy2⟩ := rng_nat (lo := 1000) (hi := 1999) c2
      subst e1
      subst e2
      obtain ⟨M', hd, fd, rs⟩ := X8_done hV hD
      have ul := upto_le A y
      refine Ok_ans hf j (cset (hldw A (wd A (upto A y)) u)) ?_ fd ?_
      · simp only [fX7_cells, r00, X2_hasUnitR hC.2.1.1 hV.1, X7_isYear, c1, c2, bnd_some, if_false, if_true, i10]
        rw [X2_heldAt hC j.2.2.1 hu (by omega), bnd_some]
      · simp only [fX8_cells, X8_isUnit hD.1 hV.1, X8_isYear, c1, c2, hd, bnd_some, if_false, if_true, i10]
        rw [X8_until hV (RD_keep fd hD) (by omega), bnd_some, X8_held hV j.2.2.1 (RD_keep fd hD) rs ul hu, bnd_some]
theorem hI_neg {k : Nat} (hk : k ≤ 10) : 0 ≤ hI k ↔ k ≠ 10 := by
  unfold hI
  by_cases e : k = 10
  · rw [if_pos e]
    constructor
    · intro z; exact absurd z (by decide)
    · intro z; omega
  · rw [if_neg e]
    exact ⟨fun _ => e, fun _ => nI_pos' (by omega)⟩
theorem S_under {t : Nat} {M : Mem} (h : Inv t M) (x1 x2 : Int32) : Ok t M (fX7_under 0 x1 x2) (fX8_under 151 x1 x2) := by
  obtain ⟨nu, A, nc, cU, cY, cP, mY, mQ, sB, sN, f, hf, j⟩ := h
  have hC := j.1
  have hD := j.2.1
  have hDr := (J_ref j).2.1
  have hV := hC.1
  have n30 := hV.2.1
  have n10 := hV.1
  cases c1 : rng 0 ((nu : Int) - 1) x1 with
  | false => exact Ok_ref hf j (-1000000000000000001) (by simp only [fX7_under, r00, X2_hasUnitR hC.2.1.1 hV.1, c1, bnd_some, Bool.false_eq_true, if_false, if_true, X7_ref]) (by simp only [fX8_under, X8_isUnit hDr.1 hV.1, c1, bnd_some, Bool.false_eq_true, if_false, if_true, X8_ref])
  | true =>
    cases c2 : rng 1000 1999 x2 with
    | false => exact Ok_ref hf j (-1000000000000000001) (by simp only [fX7_under, r00, X2_hasUnitR hC.2.1.1 hV.1, X7_isYear, c1, c2, bnd_some, Bool.false_eq_true, if_false, if_true, i10, X7_ref]) (by simp only [fX8_under, X8_isUnit hDr.1 hV.1, X8_isYear, c1, c2, bnd_some, Bool.false_eq_true, if_false, if_true, i10, X8_ref])
    | true =>
      obtain ⟨u, e1, hu⟩ := rng_unit c1
      obtain ⟨y, e2, hy1, hy2⟩ := rng_nat (lo := 1000) (hi := 1999) c2
      subst e1
      subst e2
      by_cases h3 : uK A u = 3
      · exact Ok_ref hf j (-1000000000000000004) (by simp only [fX7_under, r00, X2_hasUnitR hC.2.1.1 hV.1, X7_isYear, X2_isHundred hV hC.2.1 hu, h3, c1, c2, bnd_some, if_false, if_true, i10, X7_ref]) (by simp only [fX8_under, X8_isUnit hDr.1 hV.1, X8_isYear, X8_isHundred hV hDr hu, h3, c1, c2, bnd_some, if_false, if_true, i10, X8_ref])
      · have ul := upto_le A y
        have W := hC.2.2.2.1 _ ul
        have lw := (wd_all hV j.2.2.1 _ ul).2 u
        have cl : fX7_under 0 (nI u) (nI y) M = (if nI ((wd A (upto A y)).2.2 u) = (10 : Int32) then some (-1000000000000000006, rfM M) else some ((nI ((wd A (upto A y)).2.2 u)).toInt64, M)) := by
          simp only [fX7_under, r00, X2_hasUnitR hC.2.1.1 hV.1, X7_isYear, X2_isHundred hV hC.2.1 hu, h3, c1, c2, bnd_some, if_false, if_true, i10, X7_ref]
          rw [X2_momentAt hC (by omega), bnd_some, gd_at (shp_m (by omega)), X4_hundredOver (by omega) W (by omega), bnd_some]
        by_cases e : (wd A (upto A y)).2.2 u = 10
        · obtain ⟨M', hd, fd, rs⟩ := X8_done hV hDr
          have R := rs.2.2.1 _ ul
          refine Ok_refD hf j (-1000000000000000006) ?_ fd ?_
          · rw [cl, e]; rfl
          · simp only [fX8_under, X8_isUnit hDr.1 hV.1, X8_isYear, X8_isHundred hV hDr hu, h3, hd, c1, c2, bnd_some, if_false, if_true, i10, X8_ref]
            rw [X8_until hV (RD_keep fd hDr) (by omega), bnd_some]
            simp only [rM, Nat.reduceAdd, l169, lt_def]
            rw [ix10, gi_at (by omega) (by decide), nI_clamp (show 10 * upto A y + u < 2 ^ 31 by omega), R.2.2.1 u (by omega), if_neg (fun z => (hI_neg lw).mp z e)]
        · obtain ⟨M', hd, fd, rs⟩ := X8_done hV hD
          have R := rs.2.2.1 _ ul
          refine Ok_ans hf j ((nI ((wd A (upto A y)).2.2 u)).toInt64) ?_ fd ?_
          · rw [cl, if_neg (show ¬ nI ((wd A (upto A y)).2.2 u) = (10 : Int32) from nI_lit (by omega) (by decide) e)]
          · simp only [fX8_under, X8_isUnit hD.1 hV.1, X8_isYear, X8_isHundred hV hD hu, h3, hd, c1, c2, bnd_some, if_false, if_true, i10, X8_ref]
            rw [X8_until hV (RD_keep fd hD) (by omega), bnd_some]
            simp only [rM, Nat.reduceAdd, l169, lt_def]
            rw [ix10, gi_at (by omega) (by decide), nI_clamp (show 10 * upto A y + u < 2 ^ 31 by omega), R.2.2.1 u (by omega), if_pos ((hI_neg lw).mpr e)]
            unfold hI
            rw [if_neg e]
