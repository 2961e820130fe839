theorem hi0_all : hi0 68719476735 := fun j h1 h2 => by rw [lb_all, decide_eq_false (by omega)]
theorem gf0 : (0 ≤ lg_cmp (0 : Int64) (-1000000000000000000 : Int64)) = True := eq_true (by decide)
theorem gf1 : (0 ≤ lg_cmp (-1000000000000000001 : Int64) (-1000000000000000000 : Int64)) = False := eq_false (by decide)
theorem gf3 : (0 ≤ lg_cmp (-1000000000000000003 : Int64) (-1000000000000000000 : Int64)) = False := eq_false (by decide)
theorem gf4 : (0 ≤ lg_cmp (-1000000000000000004 : Int64) (-1000000000000000000 : Int64)) = False := eq_false (by decide)
theorem S_move {t : Nat} {M : Mem} (h : Inv t M) (x1 x2 x3 : Int32) (x4 : Int64) : Ok t M (fX7_move 0 x1 x2 x3 x4) (fX8_move 151 x1 x2 x3 x4) := by
  obtain ⟨nu, A, nc, cU, cY, cP, mY, mQ, sB, sN, f, hf, j⟩ := h
  have hC := j.1
  have hD := j.2.1
  have hDr := (J_ref j).2.1
  have hV := hC.1
  have n30 := hV.2.1
  have n10 := hV.1
  by_cases c4 : hi0 x4
  · cases c1 : rng 0 ((nu : Int) - 1) x1 with
    | false => exact Ok_ref hf j (-1000000000000000001) (by simp only [fX7_move, fX7_pairFinding, X3_isSet1 c4, gf0, gf1, gf3, gf4, r00, X2_hasUnitR hC.2.1.1 hV.1, c1, bnd_some, Bool.false_eq_true, if_false, if_true, i10, X7_ref, bnd_eta, X7_refE]) (by simp only [fX8_move, X8_isUnit hDr.1 hV.1, c1, bnd_some, Bool.false_eq_true, if_false, if_true, i10, X8_ref])
    | true =>
      cases c2 : rng 0 ((nu : Int) - 1) x2 with
      | false => exact Ok_ref hf j (-1000000000000000001) (by simp only [fX7_move, fX7_pairFinding, X3_isSet1 c4, gf0, gf1, gf3, gf4, r00, X2_hasUnitR hC.2.1.1 hV.1, c1, c2, bnd_some, Bool.false_eq_true, if_false, if_true, i10, X7_ref, bnd_eta, X7_refE]) (by simp only [fX8_move, X8_isUnit hDr.1 hV.1, c1, c2, bnd_some, Bool.false_eq_true, if_false, if_true, i10, X8_ref])
      | true =>
        cases c3 : rng 1000 1999 x3 with
        | false => exact Ok_ref hf j (-1000000000000000001) (by simp only [fX7_move, fX7_pairFinding, X3_isSet1 c4, gf0, gf1, gf3, gf4, r00, X2_hasUnitR hC.2.1.1 hV.1, X7_isYear, c1, c2, c3, bnd_some, Bool.false_eq_true, if_false, if_true, i10, X7_ref, bnd_eta, X7_refE]) (by simp only [fX8_move, X8_isUnit hDr.1 hV.1, X8_isYear, c1, c2, c3, bnd_some, Bool.false_eq_true, if_false, if_true, i10, X8_ref])
        | true =>
          obtain ⟨u, e1, hu⟩ := rng_unit c1
          obtain ⟨v, e2, hv⟩ := rng_unit c2
          obtain ⟨y, e3, hy1, hy2⟩ := rng_nat (lo := 1000) (hi := 1999) c3
          subst e1
          subst e2
          subst e3
          by_cases h3 : uK A u = 3
          · exact Ok_ref hf j (-1000000000000000004) (by simp only [fX7_move, fX7_pairFinding, X3_isSet1 c4, gf0, gf1, gf3, gf4, r00, X2_hasUnitR hC.2.1.1 hV.1, X7_isYear, c1, c2, c3, X2_isHundred hV hC.2.1 hu, X2_isHundred hV hC.2.1 hv, h3, bnd_some, Bool.false_eq_true, if_false, if_true, i10, X7_ref, bnd_eta, X7_refE]) (by simp only [fX8_move, X8_isUnit hDr.1 hV.1, X8_isYear, c1, c2, c3, isS3 x4 c4, (isS2 x4).mpr c4, X8_isHundred hV hDr hu, X8_isHundred hV hDr hv, h3, bnd_some, Bool.false_eq_true, if_false, if_true, i10, X8_ref])
          · by_cases h4 : uK A v = 3
            · exact Ok_ref hf j (-1000000000000000004) (by simp only [fX7_move, fX7_pairFinding, X3_isSet1 c4, gf0, gf1, gf3, gf4, r00, X2_hasUnitR hC.2.1.1 hV.1, X7_isYear, c1, c2, c3, X2_isHundred hV hC.2.1 hu, X2_isHundred hV hC.2.1 hv, h3, h4, bnd_some, Bool.false_eq_true, if_false, if_true, i10, X7_ref, bnd_eta, X7_refE]) (by simp only [fX8_move, X8_isUnit hDr.1 hV.1, X8_isYear, c1, c2, c3, isS3 x4 c4, (isS2 x4).mpr c4, X8_isHundred hV hDr hu, X8_isHundred hV hDr hv, h3, h4, bnd_some, Bool.false_eq_true, if_false, if_true, i10, X8_ref])
            · by_cases h5 : u = v
              · subst h5
                exact Ok_ref hf j (-1000000000000000003) (by simp only [fX7_move, fX7_pairFinding, X3_isSet1 c4, gf0, gf1, gf3, gf4, r00, X2_hasUnitR hC.2.1.1 hV.1, X7_isYear, c1, c2, c3, X2_isHundred hV hC.2.1 hu, X2_isHundred hV hC.2.1 hv, h3, bnd_some, Bool.false_eq_true, if_false, if_true, i10, X7_ref, bnd_eta, X7_refE]) (by simp only [fX8_move, X8_isUnit hDr.1 hV.1, X8_isYear, c1, c2, c3, isS3 x4 c4, (isS2 x4).mpr c4, X8_isHundred hV hDr hu, X8_isHundred hV hDr hv, h3, bnd_some, Bool.false_eq_true, if_false, if_true, i10, X8_ref])
              · have h6 : ¬ nI u = nI v := nI_lit (by omega) (by omega) h5
                obtain ⟨r, M1, M2, t1, D1, t2, iv⟩ := tell_both (k := 1) (y := y) (o := u) (tt := v) hf j (fun i => lb x4 i) (x3 := nI v) (x4 := nI v) (x5 := x4) (x6 := x4) ⟨by omega, hy1, hy2, fun _ => ⟨hu, h3⟩, fun _ => ⟨hv, h5, h4⟩, fun z => by omega, fun z => by omega⟩ (fun _ => rfl) (fun _ => cset_of x4 c4) (fun _ => rfl) (fun _ => cset_of x4 c4)
                refine ⟨r, M1, M2, ?_, ?_, iv⟩
                · simp only [fX7_move, fX7_pairFinding, X3_isSet1 c4, gf0, gf1, gf3, gf4, r00, X2_hasUnitR hC.2.1.1 hV.1, X7_isYear, c1, c2, c3, X2_isHundred hV hC.2.1 hu, X2_isHundred hV hC.2.1 hv, h3, h4, h6, bnd_some, if_false, if_true, i10, bnd_eta]
                  exact t1
                · simp only [fX8_move, X8_isUnit D1.1 hV.1, X8_isYear, c1, c2, c3, isS3 x4 c4, (isS2 x4).mpr c4, X8_isHundred hV D1 hu, X8_isHundred hV D1 hv, h3, h4, h6, bnd_some, if_false, if_true, i10, bnd_eta]
                  exact t2
  · refine Ok_ref hf j (-1000000000000000001) (by simp only [fX7_move, X3_isSet0 c4, bnd_some, if_true, X7_ref]) ?_
    cases c1 : rng 0 ((nu : Int) - 1) x1 with
    | false => simp only [fX8_move, X8_isUnit hDr.1 hV.1, c1, bnd_some, Bool.false_eq_true, if_false, if_true, i10, X8_ref]
    | true =>
      cases c2 : rng 0 ((nu : Int) - 1) x2 with
      | false => simp only [fX8_move, X8_isUnit hDr.1 hV.1, c1, c2, bnd_some, Bool.false_eq_true, if_false, if_true, i10, X8_ref]
      | true =>
        cases c3 : rng 1000 1999 x3 with
        | false => simp only [fX8_move, X8_isUnit hDr.1 hV.1, X8_isYear, c1, c2, c3, bnd_some, Bool.false_eq_true, if_false, if_true, i10, X8_ref]
        | true =>
          by_cases c5 : lg_cmp x4 0 < 0
          · simp only [fX8_move, X8_isUnit hDr.1 hV.1, X8_isYear, c1, c2, c3, c5, bnd_some, if_false, if_true, i10, X8_ref]
          · simp only [fX8_move, X8_isUnit hDr.1 hV.1, X8_isYear, c1, c2, c3, c5, show ¬ lg_cmp (lshr x4 36) 0 = 0 from fun z => c4 ((isS2 x4).mp z), bnd_some, if_false, if_true, i10, X8_ref]
theorem S_swallow {t : Nat} {M : Mem} (h : Inv t M) (x1 x2 x3 : Int32) : Ok t M (fX7_swallow 0 x1 x2 x3) (fX8_swallow 151 x1 x2 x3) := by
  obtain ⟨nu, A, nc, cU, cY, cP, mY, mQ, sB, sN, f, hf, j⟩ := h
  have hC := j.1
  have hD := j.2.1
  have hDr := (J_ref j).2.1
  have hV := hC.1
  have n30 := hV.2.1
  have n10 := hV.1
  cases c1 : rng 0 ((nu : Int) - 1) x1 with
  | false => exact Ok_ref hf j (-1000000000000000001) (by simp only [fX7_swallow, fX7_pairFinding, gf0, gf1, gf3, gf4, r00, X2_hasUnitR hC.2.1.1 hV.1, c1, bnd_some, Bool.false_eq_true, if_false, if_true, i10, X7_ref, bnd_eta, X7_refE]) (by simp only [fX8_swallow, X8_isUnit hDr.1 hV.1, c1, bnd_some, Bool.false_eq_true, if_false, if_true, i10, X8_ref])
  | true =>
    cases c2 : rng 0 ((nu : Int) - 1) x2 with
    | false => exact Ok_ref hf j (-1000000000000000001) (by simp only [fX7_swallow, fX7_pairFinding, gf0, gf1, gf3, gf4, r00, X2_hasUnitR hC.2.1.1 hV.1, c1, c2, bnd_some, Bool.false_eq_true, if_false, if_true, i10, X7_ref, bnd_eta, X7_refE]) (by simp only [fX8_swallow, X8_isUnit hDr.1 hV.1, c1, c2, bnd_some, Bool.false_eq_true, if_false, if_true, i10, X8_ref])
    | true =>
      cases c3 : rng 1000 1999 x3 with
      | false => exact Ok_ref hf j (-1000000000000000001) (by simp only [fX7_swallow, fX7_pairFinding, gf0, gf1, gf3, gf4, r00, X2_hasUnitR hC.2.1.1 hV.1, X7_isYear, c1, c2, c3, bnd_some, Bool.false_eq_true, if_false, if_true, i10, X7_ref, bnd_eta, X7_refE]) (by simp only [fX8_swallow, X8_isUnit hDr.1 hV.1, X8_isYear, c1, c2, c3, bnd_some, Bool.false_eq_true, if_false, if_true, i10, X8_ref])
      | true =>
        obtain ⟨u, e1, hu⟩ := rng_unit c1
        obtain ⟨v, e2, hv⟩ := rng_unit c2
        obtain ⟨y, e3, hy1, hy2⟩ := rng_nat (lo := 1000) (hi := 1999) c3
        subst e1
        subst e2
        subst e3
        by_cases h3 : uK A u = 3
        · exact Ok_ref hf j (-1000000000000000004) (by simp only [fX7_swallow, fX7_pairFinding, gf0, gf1, gf3, gf4, r00, X2_hasUnitR hC.2.1.1 hV.1, X7_isYear, c1, c2, c3, X2_isHundred hV hC.2.1 hu, X2_isHundred hV hC.2.1 hv, h3, bnd_some, Bool.false_eq_true, if_false, if_true, i10, X7_ref, bnd_eta, X7_refE]) (by simp only [fX8_swallow, X8_isUnit hDr.1 hV.1, X8_isYear, c1, c2, c3, X8_isHundred hV hDr hu, X8_isHundred hV hDr hv, h3, bnd_some, Bool.false_eq_true, if_false, if_true, i10, X8_ref])
        · by_cases h4 : uK A v = 3
          · exact Ok_ref hf j (-1000000000000000004) (by simp only [fX7_swallow, fX7_pairFinding, gf0, gf1, gf3, gf4, r00, X2_hasUnitR hC.2.1.1 hV.1, X7_isYear, c1, c2, c3, X2_isHundred hV hC.2.1 hu, X2_isHundred hV hC.2.1 hv, h3, h4, bnd_some, Bool.false_eq_true, if_false, if_true, i10, X7_ref, bnd_eta, X7_refE]) (by simp only [fX8_swallow, X8_isUnit hDr.1 hV.1, X8_isYear, c1, c2, c3, X8_isHundred hV hDr hu, X8_isHundred hV hDr hv, h3, h4, bnd_some, Bool.false_eq_true, if_false, if_true, i10, X8_ref])
          · by_cases h5 : u = v
            · subst h5
              exact Ok_ref hf j (-1000000000000000003) (by simp only [fX7_swallow, fX7_pairFinding, gf0, gf1, gf3, gf4, r00, X2_hasUnitR hC.2.1.1 hV.1, X7_isYear, c1, c2, c3, X2_isHundred hV hC.2.1 hu, X2_isHundred hV hC.2.1 hv, h3, bnd_some, Bool.false_eq_true, if_false, if_true, i10, X7_ref, bnd_eta, X7_refE]) (by simp only [fX8_swallow, X8_isUnit hDr.1 hV.1, X8_isYear, c1, c2, c3, X8_isHundred hV hDr hu, X8_isHundred hV hDr hv, h3, bnd_some, Bool.false_eq_true, if_false, if_true, i10, X8_ref])
            · have h6 : ¬ nI u = nI v := nI_lit (by omega) (by omega) h5
              obtain ⟨r, M1, M2, t1, D1, t2, iv⟩ := tell_both (k := 2) (y := y) (o := u) (tt := v) hf j (fun _ => false) (x3 := nI v) (x4 := nI v) (x5 := 0) (x6 := 0) ⟨by omega, hy1, hy2, fun _ => ⟨hu, h3⟩, fun _ => ⟨hv, h5, h4⟩, fun z => by omega, fun z => by omega⟩ (fun _ => rfl) (fun z => by omega) (fun _ => rfl) (fun z => by omega)
              refine ⟨r, M1, M2, ?_, ?_, iv⟩
              · simp only [fX7_swallow, fX7_pairFinding, gf0, gf1, gf3, gf4, r00, X2_hasUnitR hC.2.1.1 hV.1, X7_isYear, c1, c2, c3, X2_isHundred hV hC.2.1 hu, X2_isHundred hV hC.2.1 hv, h3, h4, h6, bnd_some, if_false, if_true, i10, bnd_eta]
                exact t1
              · simp only [fX8_swallow, X8_isUnit D1.1 hV.1, X8_isYear, c1, c2, c3, X8_isHundred hV D1 hu, X8_isHundred hV D1 hv, h3, h4, h6, bnd_some, if_false, if_true, i10, bnd_eta]
                exact t2
theorem S_join {t : Nat} {M : Mem} (h : Inv t M) (x1 x2 x3 : Int32) : Ok t M (fX7_join 0 x1 x2 x3) (fX8_join 151 x1 x2 x3) := by
  obtain ⟨nu, A, nc, cU, cY, cP, mY, mQ, sB, sN, f, hf, j⟩ := h
  have hC := j.1
  have hD := j.2.1
  have hDr := (J_ref j).2.1
  have hV := hC.1
  have n30 := hV.2.1
  have n10 := hV.1
  cases c1 : rng 0 ((nu : Int) - 1) x1 with
  | false => exact Ok_ref hf j (-1000000000000000001) (by simp only [fX7_join, r00, X2_hasUnitR hC.2.1.1 hV.1, c1, bnd_some, Bool.false_eq_true, if_false, if_true, i10, X7_ref, bnd_eta, X7_refE]) (by simp only [fX8_join, X8_isUnit hDr.1 hV.1, c1, bnd_some, Bool.false_eq_true, if_false, if_true, i10, X8_ref])
  | true =>
    cases c2 : rng 0 ((nu : Int) - 1) x2 with
    | false => exact Ok_ref hf j (-1000000000000000001) (by simp only [fX7_join, r00, X2_hasUnitR hC.2.1.1 hV.1, c1, c2, bnd_some, Bool.false_eq_true, if_false, if_true, i10, X7_ref, bnd_eta, X7_refE]) (by simp only [fX8_join, X8_isUnit hDr.1 hV.1, c1, c2, bnd_some, Bool.false_eq_true, if_false, if_true, i10, X8_ref])
    | true =>
      cases c3 : rng 1000 1999 x3 with
      | false => exact Ok_ref hf j (-1000000000000000001) (by simp only [fX7_join, r00, X2_hasUnitR hC.2.1.1 hV.1, X7_isYear, c1, c2, c3, bnd_some, Bool.false_eq_true, if_false, if_true, i10, X7_ref, bnd_eta, X7_refE]) (by simp only [fX8_join, X8_isUnit hDr.1 hV.1, X8_isYear, c1, c2, c3, bnd_some, Bool.false_eq_true, if_false, if_true, i10, X8_ref])
      | true =>
        obtain ⟨u, e1, hu⟩ := rng_unit c1
        obtain ⟨v, e2, hv⟩ := rng_unit c2
        obtain ⟨y, e3, hy1, hy2⟩ := rng_nat (lo := 1000) (hi := 1999) c3
        subst e1
        subst e2
        subst e3
        by_cases h3 : uK A u = 3
        · exact Ok_ref hf j (-1000000000000000004) (by simp only [fX7_join, r00, X2_hasUnitR hC.2.1.1 hV.1, X7_isYear, c1, c2, c3, X2_isHundred hV hC.2.1 hu, X2_isHundred hV hC.2.1 hv, h3, bnd_some, Bool.false_eq_true, if_false, if_true, i10, X7_ref, bnd_eta, X7_refE]) (by simp only [fX8_join, X8_isUnit hDr.1 hV.1, X8_isYear, c1, c2, c3, X8_isHundred hV hDr hu, X8_isHundred hV hDr hv, h3, bnd_some, Bool.false_eq_true, if_false, if_true, i10, X8_ref])
        · by_cases h4 : uK A v = 3
          · obtain ⟨r, M1, M2, t1, D1, t2, iv⟩ := tell_both (k := 4) (y := y) (o := u) (tt := v) hf j (fun _ => false) (x3 := nI v) (x4 := nI v) (x5 := 0) (x6 := 0) ⟨by omega, hy1, hy2, fun _ => ⟨hu, h3⟩, fun z => by omega, fun _ => ⟨hv, h4⟩, fun z => by omega⟩ (fun _ => rfl) (fun z => by omega) (fun _ => rfl) (fun z => by omega)
            refine ⟨r, M1, M2, ?_, ?_, iv⟩
            · simp only [fX7_join, r00, X2_hasUnitR hC.2.1.1 hV.1, X7_isYear, c1, c2, c3, X2_isHundred hV hC.2.1 hu, X2_isHundred hV hC.2.1 hv, h3, h4, bnd_some, if_false, if_true, i10, bnd_eta]
              exact t1
            · simp only [fX8_join, X8_isUnit D1.1 hV.1, X8_isYear, c1, c2, c3, X8_isHundred hV D1 hu, X8_isHundred hV D1 hv, h3, h4, bnd_some, if_false, if_true, i10, bnd_eta]
              exact t2
          · exact Ok_ref hf j (-1000000000000000004) (by simp only [fX7_join, r00, X2_hasUnitR hC.2.1.1 hV.1, X7_isYear, c1, c2, c3, X2_isHundred hV hC.2.1 hu, X2_isHundred hV hC.2.1 hv, h3, h4, bnd_some, Bool.false_eq_true, if_false, if_true, i10, X7_ref, bnd_eta, X7_refE]) (by simp only [fX8_join, X8_isUnit hDr.1 hV.1, X8_isYear, c1, c2, c3, X8_isHundred hV hDr hu, X8_isHundred hV hDr hv, h3, h4, bnd_some, Bool.false_eq_true, if_false, if_true, i10, X8_ref])
theorem X0_can {M : Mem} {nu a : Nat} {A : AD} (hV : VA nu A) (hD : CD M nu A) (ha : a < aN A) : fX0_canBeTurnedBack (6 + a) M = some (if aK A a ≤ 2 then 1 else 0) := by
  have l := (hV.2.2.2 a ha).1
  unfold fX0_canBeTurnedBack
  rw [(hD.2.2.2 a ha).1]
  generalize aK A a = k at l
  have : k = 0 ∨ k = 1 ∨ k = 2 ∨ k = 3 ∨ k = 4 := by omega
  rcases this with z | z | z | z | z <;> subst z <;> rfl
theorem S_back {t : Nat} {M : Mem} (h : Inv t M) (x1 x2 : Int32) : Ok t M (fX7_back 0 x1 x2) (fX8_back 151 x1 x2) := by
  obtain ⟨nu, A, nc, cU, cY, cP, mY, mQ, sB, sN, f, hf, j⟩ := h
  have hC := j.1
  have hD := j.2.1
  have hDr := (J_ref j).2.1
  have hV := hC.1
  have n30 := hV.2.1
  have n10 := hV.1
  cases c1 : rng 0 ((aN A : Int) - 1) x1 with
  | false => exact Ok_ref hf j (-1000000000000000001) (by simp only [fX7_back, r00, X2_hasActR hC.2.1.2.2.1 n30, c1, bnd_some, Bool.false_eq_true, if_false, if_true, i10, X7_ref, bnd_eta, X7_refE]) (by simp only [fX8_back, X8_actIn hV hDr, c1, bnd_some, Bool.false_eq_true, if_false, if_true, i10, X8_ref])
  | true =>
    cases c2 : rng 1000 1999 x2 with
    | false => exact Ok_ref hf j (-1000000000000000001) (by simp only [fX7_back, r00, X2_hasActR hC.2.1.2.2.1 n30, X7_isYear, c1, c2, bnd_some, Bool.false_eq_true, if_false, if_true, i10, X7_ref, bnd_eta, X7_refE]) (by simp only [fX8_back, X8_actIn hV hDr, X8_isYear, c1, c2, bnd_some, Bool.false_eq_true, if_false, if_true, i10, X8_ref])
    | true =>
      obtain ⟨a, e1, ha⟩ := rng_unit c1
      obtain ⟨y, e2, hy1, hy2⟩ := rng_nat (lo := 1000) (hi := 1999) c2
      subst e1
      subst e2
      have g30 : ∀ {α : Type} {E : Option α}, gi (nI a) 30 E = E := fun {_ _} => gi_at (by omega) (by decide)
      have cl : (nI a).toNatClampNeg = a := nI_clamp (by omega)
      have v := hV.2.2.2 a ha
      by_cases h3 : aY A a ≤ y
      · have h3' : nI (aY A a) ≤ nI y := nI_le h3 (by omega)
        by_cases h4 : aK A a ≤ 2
        · have h4' : nI (aK A a) ≤ (2 : Int32) := nI_le (b := 2) h4 (by omega)
          obtain ⟨r, M1, M2, t1, D1, t2, iv⟩ := tell_both (k := 3) (y := y) (o := a) (tt := 10) hf j (fun _ => false) (x3 := 10) (x4 := -1) (x5 := 0) (x6 := 0) ⟨by omega, hy1, hy2, fun z => absurd rfl z, fun z => by omega, fun z => by omega, fun _ => ⟨ha, h4, h3⟩⟩ (fun z => by omega) (fun z => by omega) (fun z => by omega) (fun z => by omega)
          refine ⟨r, M1, M2, ?_, ?_, iv⟩
          · simp only [fX7_back, r00, X2_hasActR hC.2.1.2.2.1 n30, X7_isYear, c1, c2, r11, l3, g30, cl, ra3, (hC.2.1.2.2.2 a ha).2.1, X0_can hV hC.2.1 ha, h3', h4, bnd_some, if_false, if_true, i10, bnd_eta]
            exact t1
          · simp only [fX8_back, X8_actIn hV D1, X8_isYear, c1, c2, rM, Nat.reduceAdd, l153, l154, g30, cl, (D1.2.2.2 a ha).2.1, (D1.2.2.2 a ha).1, h3', h4', bnd_some, if_false, if_true, i10, bnd_eta]
            exact t2
        · have h4' : ¬ nI (aK A a) ≤ (2 : Int32) := nle (N := aK A a) (i := 2) (by omega) (by omega)
          exact Ok_ref hf j (-1000000000000000004) (by simp only [fX7_back, r00, X2_hasActR hC.2.1.2.2.1 n30, X7_isYear, c1, c2, r11, l3, g30, cl, ra3, (hC.2.1.2.2.2 a ha).2.1, X0_can hV hC.2.1 ha, h3', h4, bnd_some, Bool.false_eq_true, if_false, if_true, i10, X7_ref, bnd_eta, X7_refE]) (by simp only [fX8_back, X8_actIn hV hDr, X8_isYear, c1, c2, rM, Nat.reduceAdd, l153, l154, g30, cl, (hDr.2.2.2 a ha).2.1, (hDr.2.2.2 a ha).1, h3', h4', bnd_some, Bool.false_eq_true, if_false, if_true, i10, X8_ref])
      · have h3' : ¬ nI (aY A a) ≤ nI y := nle (by omega) (by omega)
        exact Ok_ref hf j (-1000000000000000001) (by simp only [fX7_back, r00, X2_hasActR hC.2.1.2.2.1 n30, X7_isYear, c1, c2, r11, l3, g30, cl, ra3, (hC.2.1.2.2.2 a ha).2.1, X0_can hV hC.2.1 ha, h3', bnd_some, Bool.false_eq_true, if_false, if_true, i10, X7_ref, bnd_eta, X7_refE]) (by simp only [fX8_back, X8_actIn hV hDr, X8_isYear, c1, c2, rM, Nat.reduceAdd, l153, l154, g30, cl, (hDr.2.2.2 a ha).2.1, (hDr.2.2.2 a ha).1, h3', bnd_some, Bool.false_eq_true, if_false, if_true, i10, X8_ref])
