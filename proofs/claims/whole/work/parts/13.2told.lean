def vds (A : AD) (b : Nat) : Bool := (stp A (wd A) (plc A b) b).2
theorem X2_voidActs {M : Mem} {nu : Nat} {A : AD} (hC : CI M nu A) : fX2_voidActs 1 M = some (nI (fb_ct (vds A) (aN A))) := by
  have n30 := hC.1.2.1
  have k := wh_seq (body := wX2_voidActs_4 1 M) (fun i => (nI (fb_ct (vds A) i), nI i)) (aN A) (nI (fb_ct (vds A) (aN A)), nI (aN A)) (fun i hi => by
    have p := (hC.2.2.2.2 i hi).2.2
    unfold wX2_voidActs_4
    dsimp only
    rw [hC.2.1.2.2.1, if_neg (nle hi (by omega)), r11, l3, gi_at (by omega) (by decide), nI_clamp (show i < 2 ^ 31 by omega), ra3, p, fb_ct_succ]
    simp only [lt_def, nI_1]
    unfold vds
    cases (stp A (wd A) (plc A i) i).2 with
    | true => rw [if_pos rfl, if_neg (by decide), if_pos rfl]
    | false => rw [if_pos (show (if false = true then (1 : Int32) else 0) = 0 from rfl), if_neg (by decide)]; rfl) (by
    unfold wX2_voidActs_4
    dsimp only
    rw [hC.2.1.2.2.1, if_pos (ele _ (by omega))])
  unfold fX2_voidActs
  rw [show ((0 : Int32), (0 : Int32)) = (nI (fb_ct (vds A) 0), nI 0) from rfl, k, bnd_some]
theorem X8_voids {M : Mem} {nu : Nat} {A : AD} (hV : VA nu A) (hD : RD M nu A) (hS : RS M A) : wh (wX8_told_54 151 M) (0, 0) = some (nI (fb_ct (vds A) (aN A)), nI (aN A)) := by
  have n30 := hV.2.1
  refine wh_seq (body := wX8_told_54 151 M) (fun i => (nI (fb_ct (vds A) i), nI i)) (aN A) (nI (fb_ct (vds A) (aN A)), nI (aN A)) (fun i hi => ?_) ?_
  · have p := (hS.2.2.2 i hi).1
    unfold wX8_told_54
    dsimp only
    simp only [rM, lt_def, Nat.reduceAdd, l172, nI_1]
    rw [hD.2.2.1, if_neg (nle hi (by omega)), gi_at (by omega) (by decide), nI_clamp (show i < 2 ^ 31 by omega), p, fb_ct_succ, add0]
    unfold vds
    cases (stp A (wd A) (plc A i) i).2 with
    | true => rw [if_pos rfl, if_neg (by decide), if_pos rfl]
    | false => rw [if_pos (show (if false = true then (1 : Int32) else 0) = 0 from rfl), if_neg (by decide)]; rfl
  · unfold wX8_told_54
    dsimp only
    rw [hD.2.2.1, if_pos (ele _ (by omega))]
theorem S_told {t : Nat} {M : Mem} (ht : t < 1000) (h : Inv t M) (x1 : Int32) : Ok t M (fX7_told 0 x1) (fX8_told 151 x1) := by
  obtain ⟨nu, A, nc, cU, cY, cP, mY, mQ, sB, sN, f, hf, j⟩ := h
  have hC := j.1
  have hD := j.2.1
  have hV := hC.1
  by_cases c0 : x1 = 0
  · exact Ok_ans hf j ((nI nu).toInt64) (by unfold fX7_told; rw [if_pos c0, r00, hC.2.1.1]) FrD.rf (by unfold fX8_told; rw [if_pos c0, hD.1])
  · by_cases c1 : x1 = 1
    · exact Ok_ans hf j ((nI (aN A)).toInt64) (by unfold fX7_told; rw [if_neg c0, if_pos c1, r00, hC.2.1.2.2.1]) FrD.rf (by unfold fX8_told; rw [if_neg c0, if_pos c1, hD.2.2.1])
    · by_cases c2 : x1 = 2
      · obtain ⟨M', hd, fd, rs⟩ := X8_done hV hD
        exact Ok_ans hf j ((nI (fb_ct (vds A) (aN A))).toInt64) (by unfold fX7_told; rw [if_neg c0, if_neg c1, if_pos c2, r00, X2_voidActs hC, bnd_some]) fd (by unfold fX8_told; rw [if_neg c0, if_neg c1, if_pos c2, hd, bnd_some, X8_voids hV (RD_keep fd hD) rs, bnd_some])
      · by_cases c3 : x1 = 3
        · exact Ok_ans hf j ((nI nc).toInt64) (by unfold fX7_told; rw [if_neg c0, if_neg c1, if_neg c2, if_pos c3, r01, j.2.2.2.1.2.1]) FrD.rf (by unfold fX8_told; rw [if_neg c0, if_neg c1, if_neg c2, if_pos c3, j.2.2.2.1.2.2.1])
        · by_cases c4 : x1 = 4
          · exact Ok_ans hf j (lN f) (by unfold fX7_told; rw [if_neg c0, if_neg c1, if_neg c2, if_neg c3, if_pos c4, j.2.2.2.2.2.2.1, toL (by omega)]) FrD.rf (by unfold fX8_told; rw [if_neg c0, if_neg c1, if_neg c2, if_neg c3, if_pos c4, j.2.2.2.2.2.2.2])
          · exact Ok_ref hf j (-1000000000000000001) (by unfold fX7_told; rw [if_neg c0, if_neg c1, if_neg c2, if_neg c3, if_neg c4]; rfl) (by unfold fX8_told; rw [if_neg c0, if_neg c1, if_neg c2, if_neg c3, if_neg c4]; rfl)
theorem rng04 {x : Int32} : rng 0 4 x = true ↔ x = 0 ∨ x = 1 ∨ x = 2 ∨ x = 3 ∨ x = 4 := by
  constructor
  · intro h
    obtain ⟨n, e, _, hn⟩ := rng_nat (lo := 0) (hi := 4) h
    subst e
    have : n = 0 ∨ n = 1 ∨ n = 2 ∨ n = 3 ∨ n = 4 := by omega
    rcases this with z | z | z | z | z <;> subst z
    · exact Or.inl rfl
    · exact Or.inr (Or.inl rfl)
    · exact Or.inr (Or.inr (Or.inl rfl))
    · exact Or.inr (Or.inr (Or.inr (Or.inl rfl)))
    · exact Or.inr (Or.inr (Or.inr (Or.inr rfl)))
  · rintro (z | z | z | z | z) <;> subst z <;> rfl
theorem X8_actIn {M : Mem} {nu : Nat} {A : AD} (hV : VA nu A) (hD : RD M nu A) (x : Int32) : fX8_in x.toInt64 0 ((M.1 151 1 - 1).toInt64) = some (if rng 0 ((aN A : Int) - 1) x then 1 else 0) := by
  have := hV.2.1
  rw [hD.2.2.1, X8_inN (by omega)]
theorem S_act {t : Nat} {M : Mem} (h : Inv t M) (x1 x2 : Int32) : Ok t M (fX7_act 0 x1 x2) (fX8_act 151 x1 x2) := by
  obtain ⟨nu, A, nc, cU, cY, cP, mY, mQ, sB, sN, f, hf, j⟩ := h
  have hC := j.1
  have hD := j.2.1
  have hDr := (J_ref j).2.1
  have hV := hC.1
  have n30 := hV.2.1
  have n10 := hV.1
  cases c1 : rng 0 ((aN A : Int) - 1) x1 with
  | false => exact Ok_ref hf j (-1000000000000000001) (by simp only [fX7_act, r00, X2_hasActR hC.2.1.2.2.1 n30, c1, bnd_some, Bool.false_eq_true, if_false, if_true, X7_ref]) (by simp only [fX8_act, X8_actIn hV hDr, c1, bnd_some, Bool.false_eq_true, if_false, if_true, X8_ref])
  | true =>
    obtain ⟨a, e1, ha⟩ := rng_unit c1
    subst e1
    have g30 : ∀ {α : Type} {E : Option α}, gi (nI a) 30 E = E := fun {_ _} => gi_at (by omega) (by decide)
    have cl : (nI a).toNatClampNeg = a := nI_clamp (by omega)
    have ca : ∀ x2, fX7_act 0 (nI a) x2 M = (if x2 = 0 then (some ((M.1 (6 + a) 0).toInt64, M)) else (if x2 = 1 then (some ((M.1 (6 + a) 1).toInt64, M)) else (if x2 = 2 then (Option.bind (fX7_oneIf (M.1 (6 + a) 6)) (fun b11 => some (b11, M))) else (if x2 = 3 then (Option.bind (fJ13_bitCount_95d88 (M.2 (6 + a) 7)) (fun b12 => some (b12.toInt64, M))) else (if x2 = 4 then (some ((M.1 (6 + a) 5).toInt64, M)) else some (-1000000000000000001, rfM M)))))) := by
      intro x2
      simp only [fX7_act, r00, r11, l3, X2_hasActR hC.2.1.2.2.1 n30, c1, bnd_some, if_false, if_true, i10, lt_def, g30, cl, ra3, X7_ref]
    cases c2 : rng 0 4 x2 with
    | false =>
      have c2' : ¬ (x2 = 0 ∨ x2 = 1 ∨ x2 = 2 ∨ x2 = 3 ∨ x2 = 4) := fun z => by rw [rng04.mpr z] at c2; cases c2
      refine Ok_ref hf j (-1000000000000000001) ?_ (by simp only [fX8_act, X8_actIn hV hDr, X8_in04, c1, c2, bnd_some, Bool.false_eq_true, if_false, if_true, i10, X8_ref])
      rw [ca, if_neg (fun z => c2' (by simp [z])), if_neg (fun z => c2' (by simp [z])), if_neg (fun z => c2' (by simp [z])), if_neg (fun z => c2' (by simp [z])), if_neg (fun z => c2' (by simp [z]))]
    | true =>
      obtain ⟨M', hd, fd, rs⟩ := X8_done hV hD
      have hD' := RD_keep fd hD
      have D := hC.2.1.2.2.2 a ha
      have F := hC.2.2.2.2 a ha
      have D' := hD'.2.2.2 a ha
      have S := rs.2.2.2 a ha
      have cr : ∀ x2, rng 0 4 x2 = true → fX8_act 151 (nI a) x2 M = (if x2 = 0 then (some ((M'.1 153 a).toInt64, M')) else (if x2 = 1 then (some ((M'.1 154 a).toInt64, M')) else (if x2 = 2 then (if (M'.1 172 a) = 0 then (some ((0 : Int64), M')) else (some ((1 : Int64), M'))) else (if x2 = 3 then (some ((M'.1 170 a).toInt64, M')) else (some ((M'.1 167 a).toInt64, M')))))) := by
        intro x2 c2
        simp only [fX8_act, X8_actIn hV hD, X8_in04, c1, c2, hd, bnd_some, if_false, if_true, i10, rM, Nat.reduceAdd, l153, l154, l172, l170, l167, g30, cl]
      rcases rng04.mp c2 with z | z | z | z | z <;> subst z
      · exact Ok_ans hf j ((nI (aK A a)).toInt64) (by rw [ca, if_pos rfl, D.1]) fd (by rw [cr _ rfl, if_pos rfl, D'.1])
      · exact Ok_ans hf j ((nI (aY A a)).toInt64) (by rw [ca, if_neg (by decide), if_pos rfl, D.2.1]) fd (by rw [cr _ rfl, if_neg (by decide), if_pos rfl, D'.2.1])
      · refine Ok_ans hf j (if (stp A (wd A) (plc A a) a).2 then 1 else 0) ?_ fd ?_
        · rw [ca, if_neg (by decide), if_neg (by decide), if_pos rfl, F.2.2]
          cases (stp A (wd A) (plc A a) a).2 <;> rfl
        · rw [cr _ rfl, if_neg (by decide), if_neg (by decide), if_pos rfl, S.1]
          cases (stp A (wd A) (plc A a) a).2 <;> rfl
      · refine Ok_ans hf j ((nI (fb_ct (chg (wd A (plc A a)) (wd A (plc A a + 1))) 36)).toInt64) ?_ fd ?_
        · rw [ca, if_neg (by decide), if_neg (by decide), if_neg (by decide), if_pos rfl, F.2.1, X_bitCount, bnd_some, pop_cset]
        · rw [cr _ rfl, if_neg (by decide), if_neg (by decide), if_neg (by decide), if_pos rfl, S.2]
      · refine Ok_ans hf j ((nI (plc A a)).toInt64) ?_ fd ?_
        · rw [ca, if_neg (by decide), if_neg (by decide), if_neg (by decide), if_neg (by decide), if_pos rfl, F.1]
        · rw [cr _ rfl, if_neg (by decide), if_neg (by decide), if_neg (by decide), if_neg (by decide), rs.2.1 a ha]
