theorem toL {n : Nat} (h : n < 2 ^ 31) : (nI n).toInt64 = lN n := by
  apply Int64.toInt_inj.mp
  rw [Int32.toInt_toInt64, nI_toInt h]
  have := fb_bmodL (z := (n : Int)) (by omega) (by omega)
  show _ = (Int64.ofNat n).toInt
  rw [Int64.toInt_ofNat']
  exact this.symm
theorem S_who {t : Nat} {M : Mem} (h : Inv t M) (x1 x2 : Int32) : Ok t M (fX7_who 0 x1 x2) (fX8_who 151 x1 x2) := by
  obtain ⟨nu, A, nc, cU, cY, cP, mY, mQ, sB, sN, f, hf, j⟩ := h
  have hC := j.1
  have hD := j.2.1
  have hV := hC.1
  have n30 := hV.2.1
  cases c1 : rng 0 35 x1 with
  | false => exact Ok_ref hf j (-1000000000000000001) (by simp only [fX7_who, X3_isCell, c1, bnd_some, Bool.false_eq_true, if_false, if_true, X7_ref]) (by simp only [fX8_who, X8_isCell, c1, bnd_some, Bool.false_eq_true, if_false, if_true, X8_ref])
  | true =>
    cases c2 : rng 1000 1999 x2 with
    | false => exact Ok_ref hf j (-1000000000000000001) (by simp only [fX7_who, X3_isCell, X7_isYear, c1, c2, bnd_some, Bool.false_eq_true, if_false, if_true, i10, X7_ref]) (by simp only [fX8_who, X8_isCell, X8_isYear, c1, c2, bnd_some, Bool.false_eq_true, if_false, if_true, i10, X8_ref])
    | true =>
      obtain ⟨c, e1, _, hc⟩ := rng_nat (lo := 0) (hi := 35) c1
      obtain ⟨y, e2, hy1, hy2⟩ := rng_nat (lo := 1000) (hi := 1999) c2
      subst e1
      subst e2
      obtain ⟨M', hd, fd, rs⟩ := X8_done hV hD
      have ul := upto_le A y
      have R := rs.2.2.1 _ ul
      have W := hC.2.2.2.1 _ ul
      refine Ok_ans hf j ((nI ((wd A (upto A y)).1 c)).toInt64) ?_ fd ?_
      · simp only [fX7_who, X3_isCell, X7_isYear, c1, c2, bnd_some, if_false, if_true, i10, r00]
        rw [X2_momentAt hC (by omega), bnd_some, gd_at (shp_m (by omega)), X4_holderOf (by omega) W (by omega), bnd_some]
      · simp only [fX8_who, X8_isCell, X8_isYear, c1, c2, bnd_some, if_false, if_true, i10]
        rw [hd, bnd_some, X8_until hV (RD_keep fd hD) (by omega), bnd_some]
        simp only [rM, Nat.reduceAdd, l168]
        rw [ix36, gi_at (by omega) (by decide), nI_clamp (show 36 * upto A y + c < 2 ^ 31 by omega), R.1 c (by omega)]
