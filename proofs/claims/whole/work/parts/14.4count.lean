theorem S_untell {t : Nat} {M : Mem} (h : Inv t M) : Ok t M (fX7_untell 0) (fX8_untell 151) := by
  obtain ⟨nu, A, nc, cU, cY, cP, mY, mQ, sB, sN, f, hf, j⟩ := h
  have hC := j.1
  have hD := j.2.1
  have hDr := (J_ref j).2.1
  have hV := hC.1
  have n30 := hV.2.1
  by_cases e : aN A = 0
  · exact Ok_ref hf j (-1000000000000000006) (by unfold fX7_untell; rw [r00, hC.2.1.2.2.1, e, if_pos (show nI 0 = (0 : Int32) from rfl)]; rfl) (by unfold fX8_untell; rw [hDr.2.2.1, e, if_pos (show nI 0 = (0 : Int32) from rfl)]; rfl)
  · obtain ⟨M1, h1, C1, f1⟩ := X2_drop hC (by omega)
    have ne : ¬ nI (aN A) = (0 : Int32) := nI_lit (k := 0) (by omega) (by omega) e
    have e1 : M1.1 151 1 = nI (aN A) := (f1.1 _ _ (by omega) (by omega) (by omega)).trans hD.2.2.1
    have sb : nI (aN A) - 1 = nI (aN A - 1) := pk_sub (b := 1) (by omega)
    have dn : aN (drp A) = aN A - 1 := rfl
    refine ⟨(nI (aN A - 1)).toInt64, M1, mi M1 151 1 (nI (aN A - 1)), ?_, ?_, nu, drp A, nc, cU, cY, cP, mY, mQ, sB, sN, f, by omega, ?_⟩
    · unfold fX7_untell
      rw [r00, hC.2.1.2.2.1, if_neg ne, h1, bnd_some, C1.2.1.2.2.1, dn]
    · unfold fX8_untell
      rw [e1, if_neg ne]
      simp only [lt_def]
      rw [sb, mi_1, if_pos ⟨rfl, rfl⟩]
    · obtain ⟨_, _, v, ct, mp, sh, ec, er⟩ := j
      generalize hM2 : mi M1 151 1 (nI (aN A - 1)) = M2
      have g1 : ∀ x y, ¬ (x = 151 ∧ y = 1) → M2.1 x y = M1.1 x y := fun x y p => by rw [← hM2, mi_1, if_neg p]
      have g2 : ∀ x y, M2.2 x y = M1.2 x y := fun x y => by rw [← hM2]; rfl
      have a1 : ∀ x y, 129 ≤ x → ¬ (x = 151 ∧ y = 1) → M2.1 x y = M.1 x y := fun x y p q => (g1 x y q).trans (f1.1 x y (by omega) (by omega) (by omega))
      have a2 : ∀ x y, 129 ≤ x → M2.2 x y = M.2 x y := fun x y p => (g2 x y).trans (f1.2 x y (by omega))
      refine ⟨CI_keep (fun x y _ _ => g1 x y (by omega)) (fun x y _ _ => g2 x y) C1, ⟨(a1 _ _ (by omega) (by omega)).trans hD.1, fun u hu => (a1 _ _ (by omega) (by omega)).trans (hD.2.1 u hu), ?_, fun a ha => ?_⟩, fun a ha => v a (Nat.lt_of_lt_of_le ha (Nat.sub_le _ _)), CT_keep (fun x y _ _ => a1 x y (by omega) (by omega)) (fun x y _ _ => a1 x y (by omega) (by omega)) (a1 _ _ (by omega) (by omega)) ct, MP_keep (fun x y _ _ => a1 x y (by omega) (by omega)) (fun x y _ _ => a2 x y (by omega)) (fun x y _ _ => a1 x y (by omega) (by omega)) mp, SH_keep (fun x y _ _ => a1 x y (by omega) (by omega)) (fun x y _ _ => a1 x y (by omega) (by omega)) sh, ?_, (a2 _ _ (by omega)).trans er⟩
      · rw [← hM2, mi_1, if_pos ⟨rfl, rfl⟩, dn]
      · have q := hD.2.2.2 a (Nat.lt_of_lt_of_le ha (Nat.sub_le _ _))
        exact ⟨(a1 _ _ (by omega) (by omega)).trans q.1, (a1 _ _ (by omega) (by omega)).trans q.2.1, (a1 _ _ (by omega) (by omega)).trans q.2.2.1, fun z => (a1 _ _ (by omega) (by omega)).trans (q.2.2.2.1 z), fun z => (a2 _ _ (by omega)).trans (q.2.2.2.2 z)⟩
      · rw [g1 _ _ (by omega), f1.1 _ _ (by omega) (by omega) (by omega)]; exact ec
theorem S_map {t : Nat} {M : Mem} (h : Inv t M) (x1 x2 : Int32) : Ok t M (fX7_map 0 x1 x2) (fX8_map 151 x1 x2) := by
  obtain ⟨nu, A, nc, cU, cY, cP, mY, mQ, sB, sN, f, hf, j⟩ := h
  cases c1 : rng 0 3 x1 with
  | false => exact Ok_ref hf j (-1000000000000000001) (by simp only [fX7_map, X7_isMap, c1, bnd_some, Bool.false_eq_true, if_false, if_true, X7_ref]) (by simp only [fX8_map, X8_isMap, c1, bnd_some, Bool.false_eq_true, if_false, if_true, X8_ref])
  | true =>
    cases c2 : rng 1000 1999 x2 with
    | false => exact Ok_ref hf j (-1000000000000000001) (by simp only [fX7_map, X7_isMap, X7_isYear, c1, c2, bnd_some, Bool.false_eq_true, if_false, if_true, i10, X7_ref]) (by simp only [fX8_map, X8_isMap, X8_isYear, c1, c2, bnd_some, Bool.false_eq_true, if_false, if_true, i10, X8_ref])
    | true =>
      obtain ⟨m, e1, _, hm⟩ := rng_nat (lo := 0) (hi := 3) c1
      obtain ⟨y, e2, hy1, hy2⟩ := rng_nat (lo := 1000) (hi := 1999) c2
      subst e1
      subst e2
      obtain ⟨jc, jd, v, ct, mp, sh, ec, er⟩ := j
      have g4 : ∀ {α : Type} {E : Option α}, gi (nI m) 4 E = E := fun {_ _} => gi_at (by omega) (by decide)
      have cl : (nI m).toNatClampNeg = m := nI_clamp (by omega)
      obtain ⟨a1, a2, a3, a4, a5, a6⟩ := mp m (by omega)
      generalize hM1 : mi M (135 + 2 * m) 1 (nI y) = M1
      generalize hM2 : mi M1 158 m (nI y) = M2
      have r1 : ∀ x z, M1.1 x z = if x = 135 + 2 * m ∧ z = 1 then nI y else M.1 x z := fun x z => by rw [← hM1]; rfl
      have r2 : ∀ x z, M2.1 x z = if x = 158 ∧ z = m then nI y else M1.1 x z := fun x z => by rw [← hM2]; rfl
      have l2 : ∀ x z, M2.2 x z = M.2 x z := fun x z => by rw [← hM2, ← hM1]; rfl
      have ff : ∀ x z, ¬ (x = 135 + 2 * m ∧ z = 1) → ¬ (x = 158 ∧ z = m) → M2.1 x z = M.1 x z := fun x z p q => by rw [r2, if_neg q, r1, if_neg p]
      refine ⟨(nI (mY m)).toInt64, M1, M2, ?_, ?_, nu, A, nc, cU, cY, cP, (fun k => if k = m then y else mY k), mQ, sB, sN, f, by omega, ?_⟩
      · simp only [fX7_map, X7_isMap, X7_isYear, c1, c2, bnd_some, if_false, if_true, i10, r02, l133, g4, cl, ra133, lt_def, a2, hM1]
      · simp only [fX8_map, X8_isMap, X8_isYear, c1, c2, bnd_some, if_false, if_true, i10, rM, Nat.reduceAdd, l158, g4, cl, lt_def, hM2]
        rw [r1, if_neg (by omega), a3]
      · refine ⟨CI_keep (fun x z _ _ => ff x z (by omega) (by omega)) (fun x z _ _ => l2 x z) jc, RD_keep2 (fun x z _ _ _ => ff x z (by omega) (by omega)) (fun z => l2 _ z) jd, v, CT_keep (fun x z _ _ => ff x z (by omega) (by omega)) (fun x z _ _ => ff x z (by omega) (by omega)) (ff _ _ (by omega) (by omega)) ct, fun k hk => ?_, SH_keep (fun x z _ _ => ff x z (by omega) (by omega)) (fun x z _ _ => ff x z (by omega) (by omega)) sh, (ff _ _ (by omega) (by omega)).trans ec, (l2 _ _).trans er⟩
        obtain ⟨b1, b2, b3, b4, b5, b6⟩ := mp k hk
        refine ⟨?_, ?_, ?_, b4, fun x hx => (l2 _ _).trans (b5 x hx), fun c hc => (ff _ _ (by omega) (by omega)).trans (b6 c hc)⟩
        · dsimp only
          by_cases e : k = m
          · rw [if_pos e]; exact ⟨hy1, hy2⟩
          · rw [if_neg e]; exact b1
        · dsimp only
          by_cases e : k = m
          · subst e; rw [if_pos rfl, r2, if_neg (by omega), r1, if_pos ⟨rfl, rfl⟩]
          · rw [if_neg e]; exact (ff _ _ (by omega) (by omega)).trans b2
        · dsimp only
          by_cases e : k = m
          · subst e; rw [if_pos rfl, r2, if_pos ⟨rfl, rfl⟩]
          · rw [if_neg e]; exact (ff _ _ (by omega) (by omega)).trans b3
theorem S_count {t : Nat} {M : Mem} (h : Inv t M) (x1 x2 x3 : Int32) : Ok t M (fX7_count 0 x1 x2 x3) (fX8_count 151 x1 x2 x3) := by
  obtain ⟨nu, A, nc, cU, cY, cP, mY, mQ, sB, sN, f, hf, j⟩ := h
  have hC := j.1
  have hD := j.2.1
  have hDr := (J_ref j).2.1
  have hV := hC.1
  have n30 := hV.2.1
  have n10 := hV.1
  cases c1 : rng 0 ((nu : Int) - 1) x1 with
  | false => exact Ok_ref hf j (-1000000000000000001) (by simp only [fX7_count, r00, X2_hasUnitR hC.2.1.1 hV.1, c1, bnd_some, Bool.false_eq_true, if_false, if_true, X7_ref]) (by simp only [fX8_count, X8_isUnit hDr.1 hV.1, c1, bnd_some, Bool.false_eq_true, if_false, if_true, X8_ref])
  | true =>
    cases c2 : rng 1000 1999 x2 with
    | false => exact Ok_ref hf j (-1000000000000000001) (by simp only [fX7_count, r00, X2_hasUnitR hC.2.1.1 hV.1, X7_isYear, c1, c2, bnd_some, Bool.false_eq_true, if_false, if_true, i10, X7_ref]) (by simp only [fX8_count, X8_isUnit hDr.1 hV.1, X8_isYear, c1, c2, bnd_some, Bool.false_eq_true, if_false, if_true, i10, X8_ref])
    | true =>
      cases c3 : rng 0 1000000 x3 with
      | false =>
        refine Ok_ref hf j (-1000000000000000001) ?_ (by simp only [fX8_count, X8_isUnit hDr.1 hV.1, X8_isYear, X8_in1M, c1, c2, c3, bnd_some, Bool.false_eq_true, if_false, if_true, i10, X8_ref])
        by_cases c4 : x3 < 0
        · simp only [fX7_count, r00, X2_hasUnitR hC.2.1.1 hV.1, X7_isYear, c1, c2, c4, bnd_some, if_false, if_true, i10, X7_ref]
        · have c5 : ¬ x3 ≤ 1000000 := fun z => by
            have a : rng 0 1000000 x3 = true := by
              have e0 : (0 : Int32).toInt = 0 := rfl
              have e1 : (1000000 : Int32).toInt = 1000000 := rfl
              have q1 : ¬ x3.toInt < (0 : Int32).toInt := fun q => c4 (Int32.lt_iff_toInt_lt.mpr q)
              have q2 := Int32.le_iff_toInt_le.mp z
              rw [rng_iff]
              omega
            rw [a] at c3; cases c3
          simp only [fX7_count, r00, X2_hasUnitR hC.2.1.1 hV.1, X7_isYear, c1, c2, c4, c5, bnd_some, if_false, if_true, i10, X7_ref]
      | true =>
        obtain ⟨u, e1, hu⟩ := rng_unit c1
        obtain ⟨y, e2, hy1, hy2⟩ := rng_nat (lo := 1000) (hi := 1999) c2
        obtain ⟨p, e3, _, hp⟩ := rng_nat (lo := 0) (hi := 1000000) c3
        subst e1
        subst e2
        subst e3
        have c4 : ¬ nI p < 0 := nI_pos (by omega)
        have c5 : nI p ≤ 1000000 := nI_le (b := 1000000) hp (by omega)
        by_cases h3 : uK A u = 3
        · exact Ok_ref hf j (-1000000000000000004) (by simp only [fX7_count, r00, X2_hasUnitR hC.2.1.1 hV.1, X7_isYear, X2_isHundred hV hC.2.1 hu, h3, c1, c2, c4, c5, bnd_some, if_false, if_true, i10, X7_ref]) (by simp only [fX8_count, X8_isUnit hDr.1 hV.1, X8_isYear, X8_in1M, X8_isHundred hV hDr hu, h3, c1, c2, c3, bnd_some, if_false, if_true, i10, X8_ref])
        · obtain ⟨jc, jd, v, ct, mp, sh, ec, er⟩ := j
          have n20 := ct.1
          have ha : fX6_isFull 129 M = some (if nc < 20 then 0 else 1) := by
            unfold fX6_isFull
            rw [ct.2.1]
            by_cases e : nc < 20
            · rw [if_pos (show nI nc < (20 : Int32) from (nI_ltI (b := 20) (by omega) (by decide)).mpr e), if_pos e]
            · rw [if_neg (show ¬ nI nc < (20 : Int32) from fun z => e ((nI_ltI (b := 20) (by omega) (by decide)).mp z)), if_neg e]
          by_cases e : nc < 20
          · have n1 : ¬ nI nc = (20 : Int32) := nI_lit (k := 20) (by omega) (by decide) (by omega)
            have g20 : ∀ {α : Type} {E : Option α}, gi (nI nc) 20 E = E := fun {_ _} => gi_at e (by decide)
            have cl : (nI nc).toNatClampNeg = nc := nI_clamp (by omega)
            generalize hM1 : mi (mi (mi (mi M 130 nc (nI u)) 131 nc (nI y)) 132 nc (nI p)) 129 3 (nI nc + 1) = M1
            have r1 : ∀ x z, M1.1 x z = if x = 129 ∧ z = 3 then nI nc + 1 else if x = 132 ∧ z = nc then nI p else if x = 131 ∧ z = nc then nI y else if x = 130 ∧ z = nc then nI u else M.1 x z := fun x z => by rw [← hM1]; rfl
            generalize hM2 : mi (mi (mi (mi M1 160 nc (nI u)) 161 nc (nI y)) 162 nc (nI p)) 151 2 (nI nc + 1) = M2
            have r2 : ∀ x z, M2.1 x z = if x = 151 ∧ z = 2 then nI nc + 1 else if x = 162 ∧ z = nc then nI p else if x = 161 ∧ z = nc then nI y else if x = 160 ∧ z = nc then nI u else M1.1 x z := fun x z => by rw [← hM2]; rfl
            have l1 : ∀ x z, M1.2 x z = M.2 x z := fun x z => by rw [← hM1]; rfl
            have l2 : ∀ x z, M2.2 x z = M.2 x z := fun x z => by rw [← hM2, ← hM1]; rfl
            have f1 : ∀ x z, ¬ (129 ≤ x ∧ x ≤ 132) → M1.1 x z = M.1 x z := fun x z p => by rw [r1, if_neg (by omega), if_neg (by omega), if_neg (by omega), if_neg (by omega)]
            have f2 : ∀ x z, ¬ (129 ≤ x ∧ x ≤ 132) → ¬ (160 ≤ x ∧ x ≤ 162) → ¬ (x = 151 ∧ z = 2) → M2.1 x z = M.1 x z := fun x z p q w => by rw [r2, if_neg (by omega), if_neg (by omega), if_neg (by omega), if_neg (by omega)]; exact f1 x z p
            have D1 : RD M1 nu A := RD_keep2 (fun x z _ _ _ => f1 x z (by omega)) (fun z => l1 _ z) jd
            have e2 : M1.1 151 2 = nI nc := (f1 _ _ (by omega)).trans ct.2.2.1
            refine ⟨(nI nc + 1).toInt64, M1, M2, ?_, ?_, nu, A, nc + 1, (fun i => if i = nc then u else cU i), (fun i => if i = nc then y else cY i), (fun i => if i = nc then p else cP i), mY, mQ, sB, sN, f, by omega, ?_⟩
            · simp only [fX7_count, r00, X2_hasUnitR hC.2.1.1 hV.1, X7_isYear, X2_isHundred hV hC.2.1 hu, h3, c1, c2, c4, c5, bnd_some, if_false, if_true, i10, r01, ha, e, fX6_add, r90, r91, r92, l130, l131, l132, lt_def, mi_1, ct.2.1, g20, cl, show ∀ b c : Nat, ¬ (129 = 130 ∧ b = c) from fun _ _ z => absurd z.1 (by decide), show ∀ b c : Nat, ¬ (129 = 131 ∧ b = c) from fun _ _ z => absurd z.1 (by decide), show ∀ b c : Nat, ¬ (129 = 132 ∧ b = c) from fun _ _ z => absurd z.1 (by decide), and_self, hM1]
            · simp only [fX8_count, X8_isUnit D1.1 hV.1, X8_isYear, X8_in1M, X8_isHundred hV D1 hu, h3, c1, c2, c3, bnd_some, if_false, if_true, i10, e2, n1, rM, Nat.reduceAdd, l160, l161, l162, lt_def, mi_1, g20, cl, show ∀ b c : Nat, ¬ (151 = 160 ∧ b = c) from fun _ _ z => absurd z.1 (by decide), show ∀ b c : Nat, ¬ (151 = 161 ∧ b = c) from fun _ _ z => absurd z.1 (by decide), show ∀ b c : Nat, ¬ (151 = 162 ∧ b = c) from fun _ _ z => absurd z.1 (by decide), and_self, hM2]
            · refine ⟨CI_keep (fun x z _ _ => f2 x z (by omega) (by omega) (by omega)) (fun x z _ _ => l2 x z) jc, RD_keep2 (fun x z _ _ _ => f2 x z (by omega) (by omega) (by omega)) (fun z => l2 _ z) jd, v, ⟨by omega, ?_, ?_, fun i hi => ?_⟩, MP_keep (fun x z _ _ => f2 x z (by omega) (by omega) (by omega)) (fun x z _ _ => l2 x z) (fun x z _ _ => f2 x z (by omega) (by omega) (by omega)) mp, SH_keep (fun x z _ _ => f2 x z (by omega) (by omega) (by omega)) (fun x z _ _ => f2 x z (by omega) (by omega) (by omega)) sh, (f2 _ _ (by omega) (by omega) (by omega)).trans ec, (l2 _ _).trans er⟩
              · rw [r2, if_neg (by omega), if_neg (by omega), if_neg (by omega), if_neg (by omega), r1, if_pos ⟨rfl, rfl⟩]; exact nI_1 nc
              · rw [r2, if_pos ⟨rfl, rfl⟩]; exact nI_1 nc
              · dsimp only
                by_cases z : i = nc
                · subst z
                  simp only [if_true]
                  refine ⟨hu, h3, hy1, hy2, hp, ?_, ?_, ?_, ?_, ?_, ?_⟩
                  · rw [r2, if_neg (by omega), if_neg (by omega), if_neg (by omega), if_neg (by omega), r1, if_neg (by omega), if_neg (by omega), if_neg (by omega), if_pos ⟨rfl, rfl⟩]
                  · rw [r2, if_neg (by omega), if_neg (by omega), if_neg (by omega), if_pos ⟨rfl, rfl⟩]
                  · rw [r2, if_neg (by omega), if_neg (by omega), if_neg (by omega), if_neg (by omega), r1, if_neg (by omega), if_neg (by omega), if_pos ⟨rfl, rfl⟩]
                  · rw [r2, if_neg (by omega), if_neg (by omega), if_pos ⟨rfl, rfl⟩]
                  · rw [r2, if_neg (by omega), if_neg (by omega), if_neg (by omega), if_neg (by omega), r1, if_neg (by omega), if_pos ⟨rfl, rfl⟩]
                  · rw [r2, if_neg (by omega), if_pos ⟨rfl, rfl⟩]
                · simp only [z, if_false]
                  obtain ⟨a1, a2, a3, a4, a5, a6, a7, a8, a9, a10, a11⟩ := ct.2.2.2 i (by omega)
                  have ff : ∀ x, x ≠ 129 → x ≠ 151 → M2.1 x i = M.1 x i := fun x p q => by rw [r2, if_neg (by omega), if_neg (by omega), if_neg (by omega), if_neg (by omega), r1, if_neg (by omega), if_neg (by omega), if_neg (by omega), if_neg (by omega)]
                  exact ⟨a1, a2, a3, a4, a5, (ff _ (by decide) (by decide)).trans a6, (ff _ (by decide) (by decide)).trans a7, (ff _ (by decide) (by decide)).trans a8, (ff _ (by decide) (by decide)).trans a9, (ff _ (by decide) (by decide)).trans a10, (ff _ (by decide) (by decide)).trans a11⟩
          · have e2 : nc = 20 := by omega
            have j2 : J M nu A nc cU cY cP mY mQ sB sN f f := ⟨jc, jd, v, ct, mp, sh, ec, er⟩
            exact Ok_ref hf j2 (-1000000000000000005) (by simp only [fX7_count, r00, X2_hasUnitR hC.2.1.1 hV.1, X7_isYear, X2_isHundred hV hC.2.1 hu, h3, c1, c2, c4, c5, bnd_some, if_false, if_true, i10, r01, ha, e, X7_ref]) (by simp only [fX8_count, X8_isUnit hDr.1 hV.1, X8_isYear, X8_in1M, X8_isHundred hV hDr hu, h3, c1, c2, c3, bnd_some, if_false, if_true, i10, (J_ref j2).2.2.2.1.2.2.1, show nI nc = (20 : Int32) by rw [e2]; rfl, X8_ref])
