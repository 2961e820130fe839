theorem cp_tests {α : Type} {n1 n2 : Nat} (h1 : n1 ≤ 36) (h2 : n2 ≤ 36) (x2 x4 x5 : Int32) (B G : α) : (if x2 < 0 then B else if x4 < 0 then B else if x5 < 0 then B else if 0 < lg_cmp (x2.toInt64 + x5.toInt64) (nI n1).toInt64 then B else if lg_cmp (x4.toInt64 + x5.toInt64) (nI n2).toInt64 ≤ 0 then G else B) = if hr n1 x2 x5 && hr n2 x4 x5 then G else B := by
  have e0 : (0 : Int32).toInt = 0 := rfl
  have w2 := fb_rng x2
  have w4 := fb_rng x4
  have w5 := fb_rng x5
  have t2 : x2.toInt64.toInt = x2.toInt := Int32.toInt_toInt64 x2
  have t4 : x4.toInt64.toInt = x4.toInt := Int32.toInt_toInt64 x4
  have t5 : x5.toInt64.toInt = x5.toInt := Int32.toInt_toInt64 x5
  have tn1 : (nI n1).toInt64.toInt = n1 := by rw [Int32.toInt_toInt64, nI_toInt (by omega)]
  have tn2 : (nI n2).toInt64.toInt = n2 := by rw [Int32.toInt_toInt64, nI_toInt (by omega)]
  have s25 : (x2.toInt64 + x5.toInt64).toInt = x2.toInt + x5.toInt := by rw [fb_addL (by omega) (by omega), t2, t5]
  have s45 : (x4.toInt64 + x5.toInt64).toInt = x4.toInt + x5.toInt := by rw [fb_addL (by omega) (by omega), t4, t5]
  have i2 : x2 < 0 ↔ x2.toInt < 0 := by rw [Int32.lt_iff_toInt_lt, e0]
  have i4 : x4 < 0 ↔ x4.toInt < 0 := by rw [Int32.lt_iff_toInt_lt, e0]
  have i5 : x5 < 0 ↔ x5.toInt < 0 := by rw [Int32.lt_iff_toInt_lt, e0]
  have c1 : 0 < lg_cmp (x2.toInt64 + x5.toInt64) (nI n1).toInt64 ↔ (n1 : Int) < x2.toInt + x5.toInt := by rw [lg_cmp_gt, Int64.lt_iff_toInt_lt, s25, tn1]
  have c2 : lg_cmp (x4.toInt64 + x5.toInt64) (nI n2).toInt64 ≤ 0 ↔ x4.toInt + x5.toInt ≤ (n2 : Int) := by rw [lg_cmp_le, Int64.le_iff_toInt_le, s45, tn2]
  unfold hr
  simp only [i2, i4, i5, c1, c2, Bool.and_eq_true, decide_eq_true_eq]
  by_cases a1 : x2.toInt < 0
  · rw [if_pos a1, if_neg (by omega)]
  · rw [if_neg a1]
    by_cases a2 : x4.toInt < 0
    · rw [if_pos a2, if_neg (by omega)]
    · rw [if_neg a2]
      by_cases a3 : x5.toInt < 0
      · rw [if_pos a3, if_neg (by omega)]
      · rw [if_neg a3]
        by_cases a4 : (n1 : Int) < x2.toInt + x5.toInt
        · rw [if_pos a4, if_neg (by omega)]
        · rw [if_neg a4]
          by_cases a5 : x4.toInt + x5.toInt ≤ n2
          · rw [if_pos a5, if_pos (by omega)]
          · rw [if_neg a5, if_neg (by omega)]
theorem hr_nat {n : Nat} {x1 x2 : Int32} (h : hr n x1 x2 = true) : ∃ p m, x1 = nI p ∧ x2 = nI m ∧ p + m ≤ n := by
  unfold hr at h
  rw [decide_eq_true_iff] at h
  have w1 := fb_rng x1
  have w2 := fb_rng x2
  refine ⟨x1.toInt.toNat, x2.toInt.toNat, ?_, ?_, by omega⟩
  · apply Int32.toInt_inj.mp
    rw [nI_toInt (by omega)]; omega
  · apply Int32.toInt_inj.mp
    rw [nI_toInt (by omega)]; omega
theorem ix36p (s p k : Nat) : (36 : Int32) * nI s + nI p + nI k = nI (36 * s + p + k) := by rw [ix36, nI_add]
theorem X8_copy1 {M : Mem} {s p n : Nat} (hs : s < 4) (hp : p + n ≤ 36) : ∃ M', wh (wX8_copy_131 151 (nI s) (nI p) (nI n)) (0, M) = some (nI n, M') ∧ M'.2 = M.2 ∧ (∀ k, k < n → M'.1 173 k = M.1 165 (36 * s + p + k)) ∧ ∀ x y, x ≠ 173 → M'.1 x y = M.1 x y := by
  have key := wh_inv (body := wX8_copy_131 151 (nI s) (nI p) (nI n))
    (fun i z => z.1 = nI i ∧ z.2.2 = M.2 ∧ (∀ k, k < i → z.2.1 173 k = M.1 165 (36 * s + p + k)) ∧ ∀ x y, x ≠ 173 → z.2.1 x y = M.1 x y) n
    (fun r => r.1 = nI n ∧ r.2.2 = M.2 ∧ (∀ k, k < n → r.2.1 173 k = M.1 165 (36 * s + p + k)) ∧ ∀ x y, x ≠ 173 → r.2.1 x y = M.1 x y)
    (by
      rintro i ⟨z1, z2⟩ hi ⟨q1, q2, q3, q4⟩
      dsimp only at q1 q2 q3 q4
      subst q1
      unfold wX8_copy_131
      dsimp only
      simp only [rM, lt_def, Nat.reduceAdd, l165, l173, nI_1]
      rw [if_neg (nle hi (by omega)), ix36p, gi_at (by omega) (by decide), gi_at (by omega) (by decide), nI_clamp (show 36 * s + p + i < 2 ^ 31 by omega), nI_clamp (show i < 2 ^ 31 by omega), q4 165 _ (by decide)]
      refine ⟨_, rfl, rfl, q2, fun k hk => ?_, fun x y w => ?_⟩
      · dsimp only
        rw [mi_1]
        by_cases e : k = i
        · subst e; rw [if_pos ⟨rfl, rfl⟩]
        · rw [if_neg (fun w => e w.2)]; exact q3 k (by omega)
      · dsimp only
        rw [mi_1, if_neg (fun z => w z.1)]; exact q4 x y w)
    (by
      rintro ⟨z1, z2⟩ ⟨q1, q2, q3, q4⟩
      dsimp only at q1 q2 q3 q4
      subst q1
      refine ⟨(nI n, z2), ?_, rfl, q2, q3, q4⟩
      unfold wX8_copy_131
      dsimp only
      rw [if_pos (ele _ (by omega))])
    n 0 (0, M) (by omega) ⟨rfl, rfl, fun j hj => absurd hj (by omega), fun _ _ _ => rfl⟩
  obtain ⟨⟨r1, M'⟩, hr, p1, p2, p3, p4⟩ := key
  dsimp only at p1 p2 p3 p4
  subst p1
  exact ⟨M', hr, p2, p3, p4⟩
theorem X8_copy2 {M : Mem} {s p n : Nat} (hs : s < 4) (hp : p + n ≤ 36) : ∃ M', wh (wX8_copy_168 151 (nI s) (nI p) (nI n)) (0, M) = some (nI n, M') ∧ M'.2 = M.2 ∧ (∀ k, k < n → M'.1 165 (36 * s + p + k) = M.1 173 k) ∧ ∀ x y, ¬ (x = 165 ∧ 36 * s + p ≤ y ∧ y < 36 * s + p + n) → M'.1 x y = M.1 x y := by
  have key := wh_inv (body := wX8_copy_168 151 (nI s) (nI p) (nI n))
    (fun i z => z.1 = nI i ∧ z.2.2 = M.2 ∧ (∀ k, k < i → z.2.1 165 (36 * s + p + k) = M.1 173 k) ∧ ∀ x y, ¬ (x = 165 ∧ 36 * s + p ≤ y ∧ y < 36 * s + p + n) → z.2.1 x y = M.1 x y) n
    (fun r => r.1 = nI n ∧ r.2.2 = M.2 ∧ (∀ k, k < n → r.2.1 165 (36 * s + p + k) = M.1 173 k) ∧ ∀ x y, ¬ (x = 165 ∧ 36 * s + p ≤ y ∧ y < 36 * s + p + n) → r.2.1 x y = M.1 x y)
    (by
      rintro i ⟨z1, z2⟩ hi ⟨q1, q2, q3, q4⟩
      dsimp only at q1 q2 q3 q4
      subst q1
      unfold wX8_copy_168
      dsimp only
      simp only [rM, lt_def, Nat.reduceAdd, l165, l173, nI_1]
      rw [if_neg (nle hi (by omega)), ix36p, gi_at (by omega) (by decide), gi_at (by omega) (by decide), nI_clamp (show 36 * s + p + i < 2 ^ 31 by omega), nI_clamp (show i < 2 ^ 31 by omega), q4 173 _ (by omega)]
      refine ⟨_, rfl, rfl, q2, fun k hk => ?_, fun x y w => ?_⟩
      · dsimp only
        rw [mi_1]
        by_cases e : k = i
        · subst e; rw [if_pos ⟨rfl, rfl⟩]
        · rw [if_neg (by omega)]; exact q3 k (by omega)
      · dsimp only
        rw [mi_1, if_neg (by omega)]; exact q4 x y w)
    (by
      rintro ⟨z1, z2⟩ ⟨q1, q2, q3, q4⟩
      dsimp only at q1 q2 q3 q4
      subst q1
      refine ⟨(nI n, z2), ?_, rfl, q2, q3, q4⟩
      unfold wX8_copy_168
      dsimp only
      rw [if_pos (ele _ (by omega))])
    n 0 (0, M) (by omega) ⟨rfl, rfl, fun j hj => absurd hj (by omega), fun _ _ _ => rfl⟩
  obtain ⟨⟨r1, M'⟩, hr, p1, p2, p3, p4⟩ := key
  dsimp only at p1 p2 p3 p4
  subst p1
  exact ⟨M', hr, p2, p3, p4⟩
theorem S_copy {t : Nat} {M : Mem} (h : Inv t M) (x1 x2 x3 x4 x5 : Int32) : Ok t M (fX7_copy 0 x1 x2 x3 x4 x5) (fX8_copy 151 x1 x2 x3 x4 x5) := by
  obtain ⟨nu, A, nc, cU, cY, cP, mY, mQ, sB, sN, f, hf, j⟩ := h
  cases c1 : rng 0 3 x1 with
  | false => exact Ok_ref hf j (-1000000000000000001) (by simp only [fX7_copy, X7_isSheet, c1, bnd_some, Bool.false_eq_true, if_false, if_true, X7_ref]) (by simp only [fX8_copy, X8_isSheet, c1, bnd_some, Bool.false_eq_true, if_false, if_true, X8_ref])
  | true =>
    cases c2 : rng 0 3 x3 with
    | false => exact Ok_ref hf j (-1000000000000000001) (by simp only [fX7_copy, X7_isSheet, c1, c2, bnd_some, Bool.false_eq_true, if_false, if_true, i10, X7_ref]) (by simp only [fX8_copy, X8_isSheet, c1, c2, bnd_some, Bool.false_eq_true, if_false, if_true, i10, X8_ref])
    | true =>
      obtain ⟨s, e1, _, hs⟩ := rng_nat (lo := 0) (hi := 3) c1
      obtain ⟨u, e2, _, hu⟩ := rng_nat (lo := 0) (hi := 3) c2
      subst e1
      subst e2
      have g4 : ∀ {α : Type} {E : Option α}, gi (nI s) 4 E = E := fun {_ _} => gi_at (by omega) (by decide)
      have cl : (nI s).toNatClampNeg = s := nI_clamp (by omega)
      have g4u : ∀ {α : Type} {E : Option α}, gi (nI u) 4 E = E := fun {_ _} => gi_at (by omega) (by decide)
      have clu : (nI u).toNatClampNeg = u := nI_clamp (by omega)
      obtain ⟨b1, b2, b3, b4, b5, b6, b7⟩ := j.2.2.2.2.2.1 s (by omega)
      obtain ⟨d1, d2, d3, d4, d5, d6, d7⟩ := j.2.2.2.2.2.1 u (by omega)
      obtain ⟨k1, k2, k3, k4, k5, k6, k7⟩ := (J_ref j).2.2.2.2.2.1 s (by omega)
      obtain ⟨m1, m2, m3, m4, m5, m6, m7⟩ := (J_ref j).2.2.2.2.2.1 u (by omega)
      have b32 : sB s ≤ 32 := by omega
      have d32 : sB u ≤ 32 := by omega
      by_cases c3 : sB s = 0
      · exact Ok_ref hf j (-1000000000000000002) (by simp only [fX7_copy, X7_isSheet, c1, c2, bnd_some, if_false, if_true, i10, r03, l134, g4, cl, g4u, clu, ra134, lt_def, X5_missing b32 b3, c3, X7_ref]) (by simp only [fX8_copy, X8_isSheet, c1, c2, bnd_some, if_false, if_true, i10, rM, Nat.reduceAdd, l163, g4, cl, k4, show nI (sB s) = 0 by rw [c3]; rfl, X8_ref])
      · have nb : ¬ nI (sB s) = 0 := nI_lit (k := 0) (by omega) (by omega) c3
        by_cases c4 : sB u = 0
        · exact Ok_ref hf j (-1000000000000000002) (by simp only [fX7_copy, X7_isSheet, c1, c2, bnd_some, if_false, if_true, i10, r03, l134, g4, cl, g4u, clu, ra134, lt_def, X5_missing b32 b3, X5_missing d32 d3, c3, c4, X7_ref]) (by simp only [fX8_copy, X8_isSheet, c1, c2, bnd_some, if_false, if_true, i10, rM, Nat.reduceAdd, l163, g4, cl, g4u, clu, k4, m4, nb, show nI (sB u) = 0 by rw [c4]; rfl, X8_ref])
        · have nd : ¬ nI (sB u) = 0 := nI_lit (k := 0) (by omega) (by omega) c4
          by_cases c5 : sB s = sB u
          · have ce : (nI (sB s) = nI (sB u)) = True := by rw [c5]; exact eq_self _
            have ca : fX7_copy 0 (nI s) x2 (nI u) x4 x5 M = (if hr (sN s) x2 x5 && hr (sN u) x4 x5 then (gcp 36 36 x2 x4 x5 (some (x5.toInt64, mci M (144 + 2 * s) (144 + 2 * u) x2.toNatClampNeg x4.toNatClampNeg x5.toNatClampNeg))) else some (-1000000000000000001, rfM M)) := by
              simp only [fX7_copy, X7_isSheet, c1, c2, bnd_some, if_false, if_true, i10, r03, l134, g4, cl, g4u, clu, ra134, lt_def, X5_missing b32 b3, X5_missing d32 d3, c3, c4, b3, d3, ce, X5_hasRun b2 b5, X5_hasRun d2 d5, X7_ref, rf_s (show s < 4 by omega), rf_s (show u < 4 by omega), ln_s (show s < 4 by omega), ln_s (show u < 4 by omega)]
              cases hr (sN s) x2 x5 <;> cases hr (sN u) x4 x5 <;> rfl
            have cr : ∀ M, M.1 163 s = nI (sB s) → M.1 163 u = nI (sB u) → M.1 164 s = nI (sN s) → M.1 164 u = nI (sN u) → fX8_copy 151 (nI s) x2 (nI u) x4 x5 M = (if hr (sN s) x2 x5 && hr (sN u) x4 x5 then (Option.bind (wh (wX8_copy_131 151 (nI s) x2 x5) ((0 : Int32), M)) (fun r25 => Option.bind (wh (wX8_copy_168 151 (nI u) x4 x5) ((0 : Int32), r25.2)) (fun r30 => some (x5.toInt64, r30.2)))) else some (-1000000000000000001, tdM M)) := by
              intro M a1 a2 a3 a4
              rw [← cp_tests b2 d2]
              simp only [fX8_copy, X8_isSheet, c1, c2, bnd_some, if_false, if_true, i10, rM, Nat.reduceAdd, l163, l164, g4, cl, g4u, clu, a1, a2, a3, a4, nb, nd, ce, X8_ref]
            cases c6 : (hr (sN s) x2 x5 && hr (sN u) x4 x5) with
            | false => exact Ok_ref hf j (-1000000000000000001) (by rw [ca, c6]; rfl) (by rw [cr _ k4 m4 k6 m6, c6]; rfl)
            | true =>
              rw [Bool.and_eq_true] at c6
              obtain ⟨p, n, e2, e5, le1⟩ := hr_nat c6.1
              obtain ⟨q, n', e4, e5', le2⟩ := hr_nat c6.2
              have hn : n' = n := by
                have w := fb_rng x5
                have a := congrArg Int32.toInt (e5.symm.trans e5')
                rw [nI_toInt (by omega), nI_toInt (by omega)] at a
                omega
              subst hn
              obtain ⟨jc, jd, vh, ct, mp, sh, ec, er⟩ := j
              generalize hM1 : mci M (144 + 2 * s) (144 + 2 * u) p q n' = M1
              have r1 : ∀ x z, M1.1 x z = if x = 144 + 2 * u then va_cpy (M.1 (144 + 2 * s)) (M.1 (144 + 2 * u)) p q n' z else M.1 x z := fun x z => by rw [← hM1, mci_1]; split <;> rfl
              have l1 : M1.2 = M.2 := by rw [← hM1]; rfl
              obtain ⟨M2, h2, l2, z2, f2⟩ := X8_copy1 (M := M1) (s := s) (p := p) (n := n') (by omega) (by omega)
              obtain ⟨M3, h3, l3, z3, f3⟩ := X8_copy2 (M := M2) (s := u) (p := q) (n := n') (by omega) (by omega)
              have f1 : ∀ x z, x ≠ 144 + 2 * u → M1.1 x z = M.1 x z := fun x z w => by rw [r1, if_neg w]
              have g3 : ∀ x z, x ≠ 144 + 2 * u → x ≠ 173 → ¬ (x = 165 ∧ 36 * u + q ≤ z ∧ z < 36 * u + q + n') → M3.1 x z = M.1 x z := fun x z a b c => (f3 x z c).trans ((f2 x z b).trans (f1 x z a))
              have gl : ∀ x z, M3.2 x z = M.2 x z := fun x z => by rw [l3, l2, l1]
              refine ⟨(nI n').toInt64, M1, M3, ?_, ?_, nu, A, nc, cU, cY, cP, mY, mQ, sB, sN, f, by omega, ?_⟩
              · rw [ca, c6.1, c6.2, Bool.and_self, if_pos rfl, e2, e4, e5, gcp_at (by omega) (by omega) (by decide) (by decide), nI_clamp (show p < 2 ^ 31 by omega), nI_clamp (show q < 2 ^ 31 by omega), nI_clamp (show n' < 2 ^ 31 by omega), hM1]
              · rw [cr M1 ((f1 _ _ (by omega)).trans b4) ((f1 _ _ (by omega)).trans d4) ((f1 _ _ (by omega)).trans b6) ((f1 _ _ (by omega)).trans d6), c6.1, c6.2, Bool.and_self, if_pos rfl, e2, e4, e5, h2, bnd_some]
                dsimp only
                rw [h3, bnd_some]
              · refine ⟨CI_keep (fun x z _ _ => g3 x z (by omega) (by omega) (by omega)) (fun x z _ _ => gl x z) jc, RD_keep2 (fun x z _ _ _ => g3 x z (by omega) (by omega) (by omega)) (fun z => gl _ z) jd, vh, CT_keep (fun x z _ _ => g3 x z (by omega) (by omega) (by omega)) (fun x z _ _ => g3 x z (by omega) (by omega) (by omega)) (g3 _ _ (by omega) (by omega) (by omega)) ct, MP_keep (fun x z _ _ => g3 x z (by omega) (by omega) (by omega)) (fun x z _ _ => gl x z) (fun x z _ _ => g3 x z (by omega) (by omega) (by omega)) mp, fun k hk => ?_, (g3 _ _ (by omega) (by omega) (by omega)).trans ec, (gl _ _).trans er⟩
                obtain ⟨v1, v2, v3, v4, v5, v6, v7⟩ := sh k hk
                refine ⟨v1, v2, (g3 _ _ (by omega) (by omega) (by omega)).trans v3, (g3 _ _ (by omega) (by omega) (by omega)).trans v4, (g3 _ _ (by omega) (by omega) (by omega)).trans v5, (g3 _ _ (by omega) (by omega) (by omega)).trans v6, fun w hw => ?_⟩
                by_cases e : k = u ∧ q ≤ w ∧ w < q + n'
                · obtain ⟨ek, ew1, ew2⟩ := e
                  subst ek
                  have cls : M3.1 (144 + 2 * k) w = M.1 (144 + 2 * s) (p + (w - q)) := by
                    rw [f3 _ _ (by omega), f2 _ _ (by omega), r1, if_pos rfl, pk_cpy_in ew1 ew2]
                  have rfr : M3.1 165 (36 * k + w) = M.1 165 (36 * s + (p + (w - q))) := by
                    rw [show 36 * k + w = 36 * k + q + (w - q) by omega, z3 _ (by omega), z2 _ (by omega), f1 _ _ (by omega), Nat.add_assoc]
                  rw [cls, rfr]
                  exact b7 _ (by omega)
                · have cls : M3.1 (144 + 2 * k) w = M.1 (144 + 2 * k) w := by
                    rw [f3 _ _ (by omega), f2 _ _ (by omega), r1]
                    by_cases ek : k = u
                    · subst ek
                      rw [if_pos rfl, pk_cpy_out (by omega)]
                    · rw [if_neg (by omega)]
                  rw [cls, g3 _ _ (by omega) (by omega) (by omega)]
                  exact v7 w hw
          · have cn : ¬ nI (sB s) = nI (sB u) := nI_lit (by omega) (by omega) c5
            exact Ok_ref hf j (-1000000000000000004) (by simp only [fX7_copy, X7_isSheet, c1, c2, bnd_some, if_false, if_true, i10, r03, l134, g4, cl, g4u, clu, ra134, lt_def, X5_missing b32 b3, X5_missing d32 d3, c3, c4, b3, d3, cn, X7_ref]) (by simp only [fX8_copy, X8_isSheet, c1, c2, bnd_some, if_false, if_true, i10, rM, Nat.reduceAdd, l163, g4, cl, g4u, clu, k4, m4, nb, nd, cn, X8_ref])
