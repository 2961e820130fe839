theorem low8 (x : Int32) : (x &&& 255).toInt8.toInt32 = x.toInt8.toInt32 := by
  have e : (x &&& 255).toInt8 = x.toInt8 := by
    apply Int8.toBitVec_inj.mp
    rw [Int32.toBitVec_toInt8, Int32.toBitVec_toInt8]
    apply BitVec.eq_of_getLsbD_eq
    intro i hi
    rw [BitVec.getLsbD_signExtend, BitVec.getLsbD_signExtend, if_pos (show i < 32 by omega), if_pos (show i < 32 by omega)]
    have a := b_and x 255 i
    unfold bt at a
    rw [a]
    have b := b_255 i
    unfold bt at b
    rw [b, decide_eq_true hi, Bool.and_true]
  rw [e]
theorem low16 (x : Int32) : (x &&& 65535).toInt16.toInt32 = x.toInt16.toInt32 := by
  have e : (x &&& 65535).toInt16 = x.toInt16 := by
    apply Int16.toBitVec_inj.mp
    rw [Int32.toBitVec_toInt16, Int32.toBitVec_toInt16]
    apply BitVec.eq_of_getLsbD_eq
    intro i hi
    rw [BitVec.getLsbD_signExtend, BitVec.getLsbD_signExtend, if_pos (show i < 32 by omega), if_pos (show i < 32 by omega)]
    have a := b_and x 65535 i
    unfold bt at a
    rw [a]
    have b := b_65535 i
    unfold bt at b
    rw [b, decide_eq_true hi, Bool.and_true]
  rw [e]
theorem low8b (x : Int32) : x.toInt8.toInt32 &&& 255 = x &&& 255 := bp_b x
theorem sm8k : ∀ k, k ≤ 10 → (nI k).toInt8.toInt32 = nI k ∧ nI k &&& 255 = nI k := by decide +kernel
theorem sm16k : ∀ k, k ≤ 10 → (nI k).toInt16.toInt32 = nI k ∧ nI k &&& 65535 = nI k := by decide +kernel
theorem low16b (x : Int32) : x.toInt16.toInt32 &&& 65535 = x &&& 65535 := by
  apply Int32.toBitVec_inj.mp
  rw [Int32.toBitVec_and, Int32.toBitVec_and, Int16.toBitVec_toInt32, Int32.toBitVec_toInt16]
  apply BitVec.eq_of_getLsbD_eq
  intro i hi
  rw [BitVec.getLsbD_and, BitVec.getLsbD_and]
  have hm : (65535 : Int32).toBitVec.getLsbD i = decide (i < 16) := b_65535 i
  rcases Nat.lt_or_ge i 16 with z | z
  · rw [BitVec.getLsbD_signExtend, BitVec.getLsbD_signExtend, if_pos z, if_pos hi]
    simp only [z, hi, decide_true, Bool.true_and]
  · rw [hm, decide_eq_false (by omega), Bool.and_false, Bool.and_false]
theorem SR8 (x : Int32) : SR (x &&& 255) x.toInt8.toInt32 := fun k hk => by
  constructor
  · intro h; rw [← low8, h]; exact (sm8k k hk).1
  · intro h; rw [← low8b, h]; exact (sm8k k hk).2
theorem SR16 (x : Int32) : SR (x &&& 65535) x.toInt16.toInt32 := fun k hk => by
  constructor
  · intro h; rw [← low16, h]; exact (sm16k k hk).1
  · intro h; rw [← low16b, h]; exact (sm16k k hk).2
theorem X5_missing {M : Mem} {o b : Nat} (hb : b ≤ 32) (h : M.1 o 1 = nI b) : fX5_isMissing o M = some (if b = 0 then 1 else 0) := by
  unfold fX5_isMissing
  rw [h]
  by_cases e : b = 0
  · rw [if_pos (show nI b = 0 by rw [e]; rfl), if_pos e]
  · rw [if_neg (show ¬ nI b = 0 from nI_lit (k := 0) (by omega) (by omega) e), if_neg e]
def hr (n : Nat) (x1 x2 : Int32) : Bool := decide (0 ≤ x1.toInt ∧ 0 ≤ x2.toInt ∧ x1.toInt + x2.toInt ≤ (n : Int))
theorem X5_hasRun {M : Mem} {o n : Nat} (hn : n ≤ 36) (h : M.1 o 2 = nI n) (x1 x2 : Int32) : fX5_hasRun o x1 x2 M = some (if hr n x1 x2 then 1 else 0) := by
  have e0 : (0 : Int32).toInt = 0 := rfl
  have en : (nI n).toInt = n := nI_toInt (by omega)
  have b1 := fb_rng x1
  have b2 := fb_rng x2
  unfold fX5_hasRun hr
  rw [h]
  simp only [decide_eq_true_eq]
  by_cases a1 : x1 < 0
  · have := Int32.lt_iff_toInt_lt.mp a1
    rw [if_pos a1, if_neg (by omega)]
  · have q1 : ¬ x1.toInt < (0 : Int32).toInt := fun z => a1 (Int32.lt_iff_toInt_lt.mpr z)
    rw [if_neg a1]
    by_cases a2 : x2 < 0
    · have := Int32.lt_iff_toInt_lt.mp a2
      rw [if_pos a2, if_neg (by omega)]
    · have q2 : ¬ x2.toInt < (0 : Int32).toInt := fun z => a2 (Int32.lt_iff_toInt_lt.mpr z)
      rw [if_neg a2]
      by_cases a3 : nI n < x2
      · have := Int32.lt_iff_toInt_lt.mp a3
        rw [if_pos a3, if_neg (by omega)]
      · have q3 : ¬ (nI n).toInt < x2.toInt := fun z => a3 (Int32.lt_iff_toInt_lt.mpr z)
        have es : (nI n - x2).toInt = (n : Int) - x2.toInt := by rw [fb_subI (by omega) (by omega), en]
        rw [if_neg a3]
        by_cases a4 : nI n - x2 < x1
        · have := Int32.lt_iff_toInt_lt.mp a4
          rw [if_pos a4, if_neg (by omega)]
        · have q4 : ¬ (nI n - x2).toInt < x1.toInt := fun z => a4 (Int32.lt_iff_toInt_lt.mpr z)
          rw [if_neg a4, if_pos (by omega)]
theorem hr_one (n : Nat) (x : Int32) : hr n x 1 = rng 0 ((n : Int) - 1) x := by
  have e1 : (1 : Int32).toInt = 1 := rfl
  unfold hr rng
  rw [e1]
  congr 1
  apply propext
  omega
theorem sh8 : ((1 : Int32) <<< (nI 8 &&& 31)) - 1 = 255 := by decide +kernel
theorem sh16 : ((1 : Int32) <<< (nI 16 &&& 31)) - 1 = 65535 := by decide +kernel
theorem S_put {t : Nat} {M : Mem} (h : Inv t M) (x1 x2 x3 : Int32) : Ok t M (fX7_put 0 x1 x2 x3) (fX8_put 151 x1 x2 x3) := by
  obtain ⟨nu, A, nc, cU, cY, cP, mY, mQ, sB, sN, f, hf, j⟩ := h
  cases c1 : rng 0 3 x1 with
  | false => exact Ok_ref hf j (-1000000000000000001) (by simp only [fX7_put, X7_isSheet, c1, bnd_some, Bool.false_eq_true, if_false, if_true, X7_ref]) (by simp only [fX8_put, X8_isSheet, c1, bnd_some, Bool.false_eq_true, if_false, if_true, X8_ref])
  | true =>
    obtain ⟨s, e1, _, hs⟩ := rng_nat (lo := 0) (hi := 3) c1
    subst e1
    have g4 : ∀ {α : Type} {E : Option α}, gi (nI s) 4 E = E := fun {_ _} => gi_at (by omega) (by decide)
    have cl : (nI s).toNatClampNeg = s := nI_clamp (by omega)
    obtain ⟨b1, b2, b3, b4, b5, b6, b7⟩ := j.2.2.2.2.2.1 s (by omega)
    obtain ⟨k1, k2, k3, k4, k5, k6, k7⟩ := (J_ref j).2.2.2.2.2.1 s (by omega)
    have b32 : sB s ≤ 32 := by omega
    by_cases c2 : sB s = 0
    · exact Ok_ref hf j (-1000000000000000002) (by simp only [fX7_put, X7_isSheet, c1, bnd_some, if_false, if_true, i10, r03, l134, g4, cl, ra134, lt_def, X5_missing b32 b3, c2, X7_ref]) (by simp only [fX8_put, X8_isSheet, c1, bnd_some, if_false, if_true, i10, rM, Nat.reduceAdd, l163, g4, cl, k4, show nI (sB s) = 0 by rw [c2]; rfl, X8_ref])
    · have nb : ¬ nI (sB s) = 0 := nI_lit (k := 0) (by omega) (by omega) c2
      cases c3 : rng 0 ((sN s : Int) - 1) x2 with
      | false => exact Ok_ref hf j (-1000000000000000001) (by simp only [fX7_put, X7_isSheet, c1, bnd_some, if_false, if_true, i10, r03, l134, g4, cl, ra134, lt_def, X5_missing b32 b3, c2, X5_hasRun b2 b5, hr_one, c3, Bool.false_eq_true, X7_ref]) (by simp only [fX8_put, X8_isSheet, c1, bnd_some, if_false, if_true, i10, rM, Nat.reduceAdd, l163, l164, g4, cl, k4, nb, k6, X8_inN (show sN s < 2 ^ 30 by omega), c3, Bool.false_eq_true, X8_ref])
      | true =>
        obtain ⟨i, e2, hi⟩ := rng_unit c3
        subst e2
        have key : ∀ v w : Int32, fX5_lowestBits (143 + 2 * s) x3 M = some v → (if nI (sB s) = (8 : Int32) then x3.toInt8.toInt32 else if nI (sB s) = (16 : Int32) then x3.toInt16.toInt32 else x3) = w → SR v w → Ok t M (fX7_put 0 (nI s) (nI i) x3) (fX8_put 151 (nI s) (nI i) x3) := by
          intro v w ev ew sr
          obtain ⟨jc, jd, vh, ct, mp, sh, ec, er⟩ := j
          generalize hM1 : mi M (144 + 2 * s) i v = M1
          generalize hM2 : mi M1 165 (36 * s + i) w = M2
          have r1 : ∀ x z, M1.1 x z = if x = 144 + 2 * s ∧ z = i then v else M.1 x z := fun x z => by rw [← hM1]; rfl
          have r2 : ∀ x z, M2.1 x z = if x = 165 ∧ z = 36 * s + i then w else M1.1 x z := fun x z => by rw [← hM2]; rfl
          have l2 : ∀ x z, M2.2 x z = M.2 x z := fun x z => by rw [← hM2, ← hM1]; rfl
          have ff : ∀ x z, ¬ (x = 144 + 2 * s ∧ z = i) → ¬ (x = 165 ∧ z = 36 * s + i) → M2.1 x z = M.1 x z := fun x z p q => by rw [r2, if_neg q, r1, if_neg p]
          refine ⟨0, M1, M2, ?_, ?_, nu, A, nc, cU, cY, cP, mY, mQ, sB, sN, f, by omega, ?_⟩
          · simp only [fX7_put, X7_isSheet, c1, bnd_some, if_false, if_true, i10, r03, l134, g4, cl, ra134, lt_def, X5_missing b32 b3, c2, X5_hasRun b2 b5, hr_one, c3, ev]
            rw [rf_s (by omega), ln_s (by omega), gi_at (show i < 36 by omega) (by decide), nI_clamp (show i < 2 ^ 31 by omega), hM1]
          · have e163 : M1.1 163 s = nI (sB s) := by rw [r1, if_neg (by omega)]; exact b4
            have e164 : M1.1 164 s = nI (sN s) := by rw [r1, if_neg (by omega)]; exact b6
            simp only [fX8_put, X8_isSheet, c1, bnd_some, if_false, if_true, i10, rM, Nat.reduceAdd, l163, l164, l165, g4, cl, e163, nb, e164, X8_inN (show sN s < 2 ^ 30 by omega), c3, lt_def, ix36]
            rw [gi_at (show 36 * s + i < 144 by omega) (by decide), gi_at (show 36 * s + i < 144 by omega) (by decide), gi_at (show 36 * s + i < 144 by omega) (by decide), nI_clamp (show 36 * s + i < 2 ^ 31 by omega), ← hM2, ← ew]
            by_cases q8 : nI (sB s) = (8 : Int32)
            · rw [if_pos q8, if_pos q8]
            · rw [if_neg q8, if_neg q8]
              by_cases q16 : nI (sB s) = (16 : Int32)
              · rw [if_pos q16, if_pos q16]
              · rw [if_neg q16, if_neg q16]
          · refine ⟨CI_keep (fun x z _ _ => ff x z (by omega) (by omega)) (fun x z _ _ => l2 x z) jc, RD_keep2 (fun x z _ _ _ => ff x z (by omega) (by omega)) (fun z => l2 _ z) jd, vh, CT_keep (fun x z _ _ => ff x z (by omega) (by omega)) (fun x z _ _ => ff x z (by omega) (by omega)) (ff _ _ (by omega) (by omega)) ct, MP_keep (fun x z _ _ => ff x z (by omega) (by omega)) (fun x z _ _ => l2 x z) (fun x z _ _ => ff x z (by omega) (by omega)) mp, fun k hk => ?_, (ff _ _ (by omega) (by omega)).trans ec, (l2 _ _).trans er⟩
            obtain ⟨d1, d2, d3, d4, d5, d6, d7⟩ := sh k hk
            refine ⟨d1, d2, (ff _ _ (by omega) (by omega)).trans d3, (ff _ _ (by omega) (by omega)).trans d4, (ff _ _ (by omega) (by omega)).trans d5, (ff _ _ (by omega) (by omega)).trans d6, fun q hq => ?_⟩
            by_cases e : k = s ∧ q = i
            · rw [e.1, e.2]
              rw [r2, if_neg (by omega), r1, if_pos ⟨rfl, rfl⟩, r2, if_pos ⟨rfl, rfl⟩]
              exact sr
            · rw [ff _ _ (by omega) (by omega), ff _ _ (by omega) (by omega)]
              exact d7 q hq
        rcases b1 with z | z | z | z
        · exact absurd z c2
        · refine key (x3 &&& 255) x3.toInt8.toInt32 ?_ ?_ (SR8 x3)
          · unfold fX5_lowestBits
            rw [b3, z, if_neg (by decide), sh8]
          · rw [z]; rfl
        · refine key (x3 &&& 65535) x3.toInt16.toInt32 ?_ ?_ (SR16 x3)
          · unfold fX5_lowestBits
            rw [b3, z, if_neg (by decide), sh16]
          · rw [z]; rfl
        · refine key x3 x3 ?_ ?_ (fun _ _ => Iff.rfl)
          · unfold fX5_lowestBits
            rw [b3, z, if_pos (by rfl)]
          · rw [z]; rfl
