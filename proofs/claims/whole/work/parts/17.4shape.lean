theorem rng02 {x : Int32} : rng 0 2 x = true ↔ x = 0 ∨ x = 1 ∨ x = 2 := by
  constructor
  · intro h
    obtain ⟨n, e, _, hn⟩ := rng_nat (lo := 0) (hi := 2) h
    subst e
    have : n = 0 ∨ n = 1 ∨ n = 2 := by omega
    rcases this with z | z | z <;> subst z
    · exact Or.inl rfl
    · exact Or.inr (Or.inl rfl)
    · exact Or.inr (Or.inr rfl)
  · rintro (z | z | z) <;> subst z <;> decide
theorem S_shape {t : Nat} {M : Mem} (h : Inv t M) (x1 x2 x3 : Int32) : Ok t M (fX7_shape 0 x1 x2 x3) (fX8_shape 151 x1 x2 x3) := by
  obtain ⟨nu, A, nc, cU, cY, cP, mY, mQ, sB, sN, f, hf, j⟩ := h
  have hC := j.1
  have hD := j.2.1
  have hDr := (J_ref j).2.1
  have hV := hC.1
  have n30 := hV.2.1
  have n10 := hV.1
  cases c1 : rng 0 ((nu : Int) - 1) x1 with
  | false => exact Ok_ref hf j (-1000000000000000001) (by simp only [fX7_shape, r00, X2_hasUnitR hC.2.1.1 hV.1, c1, bnd_some, Bool.false_eq_true, if_false, if_true, X7_ref]) (by simp only [fX8_shape, X8_isUnit hDr.1 hV.1, c1, bnd_some, Bool.false_eq_true, if_false, if_true, X8_ref])
  | true =>
    cases c2 : rng 1000 1999 x2 with
    | false => exact Ok_ref hf j (-1000000000000000001) (by simp only [fX7_shape, r00, X2_hasUnitR hC.2.1.1 hV.1, X7_isYear, c1, c2, bnd_some, Bool.false_eq_true, if_false, if_true, i10, X7_ref]) (by simp only [fX8_shape, X8_isUnit hDr.1 hV.1, X8_isYear, c1, c2, bnd_some, Bool.false_eq_true, if_false, if_true, i10, X8_ref])
    | true =>
      obtain ⟨u, e1, hu⟩ := rng_unit c1
      obtain ⟨y, e2, hy1, hy2⟩ := rng_nat (lo := 1000) (hi := 1999) c2
      subst e1
      subst e2
      have ul := upto_le A y
      have cls : fX7_shape 0 (nI u) (nI y) x3 M = (if x3 = 0 then (Option.bind (fJ13_bitCount_95d88 (cset (hldw A (wd A (upto A y)) u))) (fun b11 => some (b11.toInt64, M))) else (if x3 = 1 then (Option.bind (fX3_pieces (cset (hldw A (wd A (upto A y)) u))) (fun b12 => some (b12.toInt64, M))) else (if x3 = 2 then (Option.bind (fX3_sides (cset (hldw A (wd A (upto A y)) u))) (fun b13 => some (b13.toInt64, M))) else (Option.bind (fX7_refuse 0 (-1000000000000000001 : Int64) M) (fun b14 => some (b14.1, b14.2)))))) := by
        simp only [fX7_shape, r00, X2_hasUnitR hC.2.1.1 hV.1, X7_isYear, c1, c2, bnd_some, if_false, if_true, i10]
        rw [X2_heldAt hC j.2.2.1 hu (by omega), bnd_some]
      cases c3 : rng 0 2 x3 with
      | false =>
        have n0 : ¬ x3 = 0 := fun z => by rw [rng02.mpr (Or.inl z)] at c3; cases c3
        have n1 : ¬ x3 = 1 := fun z => by rw [rng02.mpr (Or.inr (Or.inl z))] at c3; cases c3
        have n2 : ¬ x3 = 2 := fun z => by rw [rng02.mpr (Or.inr (Or.inr z))] at c3; cases c3
        refine Ok_ref hf j (-1000000000000000001) ?_ (by simp only [fX8_shape, X8_isUnit hDr.1 hV.1, X8_isYear, X8_in02, c1, c2, c3, bnd_some, Bool.false_eq_true, if_false, if_true, i10, X8_ref])
        rw [cls, if_neg n0, if_neg n1, if_neg n2, X7_ref]
      | true =>
        obtain ⟨M', hd, fd, rs⟩ := X8_done hV hD
        have ref : fX8_shape 151 (nI u) (nI y) x3 M = (if x3 = 0 then (Option.bind (fX8_cellsIn (cset (hldw A (wd A (upto A y)) u))) (fun b14 => some (b14.toInt64, M'))) else (if x3 = (1 : Int32) then (Option.bind (fX8_pieces (cset (hldw A (wd A (upto A y)) u))) (fun b16 => some (b16.toInt64, M'))) else (Option.bind (fX8_sides (cset (hldw A (wd A (upto A y)) u))) (fun b17 => some (b17.toInt64, M'))))) := by
          simp only [fX8_shape, X8_isUnit hD.1 hV.1, X8_isYear, X8_in02, c1, c2, c3, hd, bnd_some, if_false, if_true, i10]
          rw [X8_until hV (RD_keep fd hD) (by omega), bnd_some, X8_held hV j.2.2.1 (RD_keep fd hD) rs ul hu, bnd_some]
        rcases rng02.mp c3 with z | z | z
        · subst z
          refine Ok_ans hf j ((nI (fb_ct (hldw A (wd A (upto A y)) u) 36)).toInt64) ?_ fd ?_
          · rw [cls, if_pos rfl, X_bitCount, bnd_some, pop_cset]
          · rw [ref, if_pos rfl, X8_cellsIn, bnd_some]
        · subst z
          obtain ⟨r, p1, p2⟩ := pieces_eq (hldw A (wd A (upto A y)) u)
          refine Ok_ans hf j ((nI r).toInt64) ?_ fd ?_
          · rw [cls, if_neg (by decide), if_pos rfl, p1, bnd_some]
          · rw [ref, if_neg (by decide), if_pos rfl, p2, bnd_some]
        · subst z
          have s := X8_sides (hldw A (wd A (upto A y)) u)
          refine Ok_ans hf j ((nI (fb_sm (fun c => fsd (hldw A (wd A (upto A y)) u) c 4) 36)).toInt64) ?_ fd ?_
          · rw [cls, if_neg (by decide), if_neg (by decide), if_pos rfl, sides_eq, s, bnd_some]
          · rw [ref, if_neg (by decide), if_neg (by decide), s, bnd_some]
