def run {S R : Type} (body : S → Option (S ⊕ R)) : Nat → S → Option R
  | 0, _ => none
  | n + 1, s => match body s with
    | none => none
    | some (.inr r) => some r
    | some (.inl s') => run body n s'
theorem wh_run {S R : Type} {body : S → Option (S ⊕ R)} : ∀ (n : Nat) (s : S) (r : R), run body n s = some r → wh body s = some r
  | 0, s, r, h => by cases h
  | n + 1, s, r, h => by
    unfold run at h
    cases e : body s with
    | none => rw [e] at h; cases h
    | some z =>
      rw [e] at h
      cases z with
      | inr r' => dsimp only at h; rw [wh_inr e]; exact h
      | inl s' => dsimp only at h; rw [wh_inl e]; exact wh_run n s' r h
theorem X7_over0 : ∀ k, k < 4 → ∀ w, w < 4 → run (wX7_isOrUnder_4 (nI w)) 6 (nI k, 0) = some (if w = 0 ∨ w = k ∨ (w = 1 ∧ k = 2) then 1 else 0) := by decide +kernel
theorem X7_over {M : Mem} {k w : Nat} (hk : k < 4) (hw : w < 4) : fX7_isOrUnder (nI k) (nI w) M = some (if w = 0 ∨ w = k ∨ (w = 1 ∧ k = 2) then 1 else 0) := wh_run 6 _ _ (X7_over0 k hk w hw)
theorem S_as {t : Nat} {M : Mem} (h : Inv t M) (x1 x2 : Int32) : Ok t M (fX7_as 0 x1 x2) (fX8_as 151 x1 x2) := by
  obtain ⟨nu, A, nc, cU, cY, cP, mY, mQ, sB, sN, f, hf, j⟩ := h
  have hC := j.1
  have hD := j.2.1
  have hDr := (J_ref j).2.1
  have hV := hC.1
  have n30 := hV.2.1
  have n10 := hV.1
  cases c1 : rng 0 ((nu : Int) - 1) x1 with
  | false => exact Ok_ref hf j (-1000000000000000001) (by simp only [fX7_as, r00, X2_hasUnitR hC.2.1.1 hV.1, c1, bnd_some, Bool.false_eq_true, if_false, if_true, X7_ref]) (by simp only [fX8_as, X8_isUnit hDr.1 hV.1, c1, bnd_some, Bool.false_eq_true, if_false, if_true, X8_ref])
  | true =>
    cases c2 : rng 0 3 x2 with
    | false => exact Ok_ref hf j (-1000000000000000001) (by simp only [fX7_as, r00, X2_hasUnitR hC.2.1.1 hV.1, X7_isKind, c1, c2, bnd_some, Bool.false_eq_true, if_false, if_true, i10, X7_ref]) (by simp only [fX8_as, X8_isUnit hDr.1 hV.1, X8_in03, c1, c2, bnd_some, Bool.false_eq_true, if_false, if_true, i10, X8_ref])
    | true =>
      obtain ⟨u, e1, hu⟩ := rng_unit c1
      obtain ⟨w, e2, _, hw⟩ := rng_nat (lo := 0) (hi := 3) c2
      subst e1
      subst e2
      have lk := hV.2.2.1 u hu
      have g10 : ∀ {α : Type} {E : Option α}, gi (nI u) 10 E = E := fun {_ _} => gi_at (by omega) (by decide)
      have cl : (nI u).toNatClampNeg = u := nI_clamp (by omega)
      have ca : fX7_as 0 (nI u) (nI w) M = (if (if w = 0 ∨ w = uK A u ∨ (w = 1 ∧ uK A u = 2) then (1 : Int32) else 0) = 0 then some (-1000000000000000004, rfM M) else some ((nI u).toInt64, M)) := by
        simp only [fX7_as, r00, X2_hasUnitR hC.2.1.1 hV.1, X7_isKind, c1, c2, bnd_some, if_false, if_true, i10, X7_ref, X2_kindOf hC.2.1 n10 hu, X7_over lk (show w < 4 by omega)]
      have cr : ∀ M, RD M nu A → fX8_as 151 (nI u) (nI w) M = (if w = 0 ∨ w = uK A u ∨ (w = 1 ∧ uK A u = 2) then some ((nI u).toInt64, M) else some (-1000000000000000004, tdM M)) := by
        intro M hD
        simp only [fX8_as, X8_isUnit hD.1 hV.1, X8_in03, c1, c2, bnd_some, if_false, if_true, i10, X8_ref, rM, Nat.reduceAdd, l152, g10, cl, lt_def, hD.2.1 u hu]
        by_cases w0 : w = 0
        · subst w0; rfl
        · rw [if_neg (show ¬ nI w = 0 from nI_lit (k := 0) (by omega) (by omega) w0)]
          by_cases wk : w = uK A u
          · rw [if_pos (show nI w = nI (uK A u) by rw [wk]), if_pos (Or.inr (Or.inl wk))]
          · rw [if_neg (nI_lit (by omega) (by omega) wk)]
            by_cases w1 : w = 1
            · rw [if_pos (show nI w = (1 : Int32) by rw [w1]; rfl)]
              by_cases k2 : uK A u = 2
              · rw [if_pos (show nI (uK A u) = (2 : Int32) by rw [k2]; rfl), if_pos (Or.inr (Or.inr ⟨w1, k2⟩))]
              · rw [if_neg (show ¬ nI (uK A u) = (2 : Int32) from nI_lit (k := 2) (by omega) (by omega) k2), if_neg (by omega)]
            · rw [if_neg (show ¬ nI w = (1 : Int32) from nI_lit (k := 1) (by omega) (by omega) w1), if_neg (by omega)]
      by_cases q : w = 0 ∨ w = uK A u ∨ (w = 1 ∧ uK A u = 2)
      · exact Ok_ans hf j ((nI u).toInt64) (by rw [ca, if_pos q, if_neg (by decide)]) FrD.rf (by rw [cr M hD, if_pos q])
      · exact Ok_ref hf j (-1000000000000000004) (by rw [ca, if_neg q, if_pos rfl]) (by rw [cr _ hDr, if_neg q])
def addU (A : AD) (nu k : Nat) : AD := (A.1, A.2.1, A.2.2.1, A.2.2.2.1, A.2.2.2.2.1, A.2.2.2.2.2.1, fun u => if u = nu then k else uK A u)
theorem addU_stp {A : AD} {nu k n a : Nat} {f : Nat → Wd} (h : aK A a = 2 → aO A a ≠ nu) : stp (addU A nu k) f n a = stp A f n a := by
  by_cases k2 : aK A a = 2
  · have e : uK (addU A nu k) (aO (addU A nu k) a) = uK A (aO A a) := if_neg (h k2)
    unfold stp
    rw [e]
    rfl
  · have e1 : aK (addU A nu k) a = aK A a := rfl
    unfold stp
    by_cases k0 : aK A a = 0
    · rw [e1, if_pos k0, if_pos k0]; rfl
    · by_cases k1 : aK A a = 1
      · rw [e1, if_neg k0, if_pos k1, if_neg k0, if_pos k1]; rfl
      · rw [e1, if_neg k0, if_neg k1, if_neg k2, if_neg k0, if_neg k1, if_neg k2]; rfl
theorem addU_VA {A : AD} {nu k : Nat} (h : VA nu A) (h10 : nu < 10) (hk : k < 4) : VA (nu + 1) (addU A nu k) := by
  refine ⟨by omega, h.2.1, fun u hu => ?_, fun a ha => ?_⟩
  · show (if u = nu then k else uK A u) < 4
    by_cases e : u = nu
    · rw [if_pos e]; exact hk
    · rw [if_neg e]; exact h.2.2.1 u (by omega)
  · have v := h.2.2.2 a ha
    exact ⟨v.1, v.2.1, v.2.2.1, fun z => Nat.lt_succ_of_lt (v.2.2.2.1 z), fun z => ⟨Nat.lt_succ_of_lt (v.2.2.2.2.1 z).1, (v.2.2.2.2.1 z).2⟩, fun z => Nat.lt_succ_of_lt (v.2.2.2.2.2.1 z), v.2.2.2.2.2.2⟩
theorem addU_wd {A : AD} {nu k : Nat} (h : VA nu A) (h10 : nu < 10) (hk : k < 4) : ∀ n, n ≤ aN A → wd (addU A nu k) n = wd A n := by
  have h' := addU_VA h h10 hk
  have key : ∀ n, ∀ j, j ≤ n → n ≤ aN A → wd (addU A nu k) j = wd A j := by
    intro n
    induction n with
    | zero => intro j hj _; have : j = 0 := by omega
              subst this; rfl
    | succ n ih =>
      intro j hj hn
      rcases Nat.lt_or_ge j (n + 1) with q | q
      · exact ih j (by omega) (by omega)
      · have : j = n + 1 := by omega
        subst this
        have o := ord_spec A (n := n) (by omega)
        have v := h.2.2.2 _ o.1
        rw [h'.wd (n := n) hn, h.wd (n := n) hn]
        show (stp (addU A nu k) (wd (addU A nu k)) n (ordA A n)).1 = _
        rw [stp_cong (addU A nu k) (h' := wd A) (fun i hi => ih i hi (by omega)) (fun z => by have b := h.back o.1 z; rw [o.2] at b; exact b), addU_stp (fun z => by have := v.2.2.2.1 (by omega); omega)]
  exact fun n hn => key n n (Nat.le_refl n) hn
theorem S_unit {t : Nat} {M : Mem} (h : Inv t M) (x1 : Int32) : Ok t M (fX7_unit 0 x1) (fX8_unit 151 x1) := by
  obtain ⟨nu, A, nc, cU, cY, cP, mY, mQ, sB, sN, f, hf, j⟩ := h
  have hC := j.1
  have hD := j.2.1
  have hDr := (J_ref j).2.1
  have hV := hC.1
  have n30 := hV.2.1
  have n10 := hV.1
  cases c1 : rng 0 3 x1 with
  | false => exact Ok_ref hf j (-1000000000000000001) (by simp only [fX7_unit, X7_isKind, c1, bnd_some, Bool.false_eq_true, if_false, if_true, X7_ref]) (by simp only [fX8_unit, X8_in03, c1, bnd_some, Bool.false_eq_true, if_false, if_true, X8_ref])
  | true =>
    obtain ⟨k, e1, _, hk⟩ := rng_nat (lo := 0) (hi := 3) c1
    subst e1
    have ha : fX2_hasAllUnits 1 M = some (if nu < 10 then 0 else 1) := by
      unfold fX2_hasAllUnits
      rw [hC.2.1.1]
      by_cases e : nu < 10
      · rw [if_pos (show nI nu < (10 : Int32) from (nI_ltI (b := 10) (by omega) (by decide)).mpr e), if_pos e]
      · rw [if_neg (show ¬ nI nu < (10 : Int32) from fun z => e ((nI_ltI (b := 10) (by omega) (by decide)).mp z)), if_neg e]
    by_cases e : nu < 10
    · have sb : nI nu + 1 - 1 = nI nu := by rw [nI_1]; exact pk_sub (a := nu + 1) (b := 1) (by omega)
      have n1 : ¬ nI nu = (10 : Int32) := nI_lit (k := 10) (by omega) (by decide) (by omega)
      generalize hM1 : mi (mi M 2 nu (nI k)) 1 4 (nI nu + 1) = M1
      generalize hM2 : mi (mi M1 152 nu (nI k)) 151 0 (nI nu + 1) = M2
      have r1 : ∀ x y, M1.1 x y = if x = 1 ∧ y = 4 then nI nu + 1 else if x = 2 ∧ y = nu then nI k else M.1 x y := fun x y => by rw [← hM1]; rfl
      have r2 : ∀ x y, M2.1 x y = if x = 151 ∧ y = 0 then nI nu + 1 else if x = 152 ∧ y = nu then nI k else M1.1 x y := fun x y => by rw [← hM2]; rfl
      have l1 : M1.2 = M.2 := by rw [← hM1]; rfl
      have l2 : M2.2 = M.2 := by rw [← hM2, ← l1]; rfl
      have D1 : M1.1 151 0 = nI nu := by rw [r1, if_neg (by omega), if_neg (by omega)]; exact hD.1
      refine ⟨(nI nu).toInt64, M1, M2, ?_, ?_, nu + 1, addU A nu k, nc, cU, cY, cP, mY, mQ, sB, sN, f, by omega, ?_⟩
      · simp only [fX7_unit, X7_isKind, c1, bnd_some, if_false, if_true, i10, r00, ha, e, fX2_addUnit, r10, l2, lt_def, hC.2.1.1, gi_at e (show 10 < 2 ^ 31 by decide), nI_clamp (show nu < 2 ^ 31 by omega), mi_1, show ¬ (1 = 2 ∧ 4 = nu) from fun z => absurd z.1 (by decide), and_self, sb]
        rw [show ln 2 = 10 from rfl, gi_at e (by decide), hM1]; rfl
      · simp only [fX8_unit, X8_in03, c1, bnd_some, if_false, if_true, i10, D1, n1, rM, Nat.reduceAdd, l152, gi_at e (show 10 < 2 ^ 31 by decide), nI_clamp (show nu < 2 ^ 31 by omega), lt_def, mi_1, show ¬ (151 = 152 ∧ 0 = nu) from fun z => absurd z.1 (by decide), and_self, sb]
        rw [hM2]
      · obtain ⟨_, _, v, ct, mp, sh, ec, er⟩ := j
        have f2 : ∀ x y, ¬ (x = 1 ∧ y = 4) → ¬ (x = 2 ∧ y = nu) → ¬ (x = 151 ∧ y = 0) → ¬ (x = 152 ∧ y = nu) → M2.1 x y = M.1 x y := fun x y a b c d => by rw [r2, if_neg c, if_neg d, r1, if_neg a, if_neg b]
        have fl : ∀ x y, M2.2 x y = M.2 x y := fun x y => by rw [l2]
        have w := addU_wd hV e (show k < 4 by omega)
        have uo : ∀ u, u < nu → uK (addU A nu k) u = uK A u := fun u hu => if_neg (by omega)
        refine ⟨⟨addU_VA hV e (by omega), ⟨?_, fun u hu => ?_, (f2 _ _ (by omega) (by omega) (by omega) (by omega)).trans hC.2.1.2.2.1, fun a ha => ?_⟩, fun n hn => (f2 _ _ (by omega) (by omega) (by omega) (by omega)).trans (hC.2.2.1 n hn), fun n hn => ?_, fun b hb => ?_⟩, ⟨?_, fun u hu => ?_, (f2 _ _ (by omega) (by omega) (by omega) (by omega)).trans hD.2.2.1, fun a ha => ?_⟩, fun a ha => ?_, ⟨ct.1, (f2 _ _ (by omega) (by omega) (by omega) (by omega)).trans ct.2.1, (f2 _ _ (by omega) (by omega) (by omega) (by omega)).trans ct.2.2.1, fun i hi => ?_⟩, MP_keep (fun x y _ _ => f2 x y (by omega) (by omega) (by omega) (by omega)) (fun x y _ _ => fl x y) (fun x y _ _ => f2 x y (by omega) (by omega) (by omega) (by omega)) mp, SH_keep (fun x y _ _ => f2 x y (by omega) (by omega) (by omega) (by omega)) (fun x y _ _ => f2 x y (by omega) (by omega) (by omega) (by omega)) sh, (f2 _ _ (by omega) (by omega) (by omega) (by omega)).trans ec, (fl _ _).trans er⟩
        · rw [r2, if_neg (by omega), if_neg (by omega), r1, if_pos ⟨rfl, rfl⟩]; exact nI_1 nu
        · rw [r2, if_neg (by omega), if_neg (by omega), r1, if_neg (by omega)]
          by_cases z : u = nu
          · rw [if_pos ⟨rfl, z⟩]; show _ = nI (if u = nu then k else uK A u); rw [if_pos z]
          · rw [if_neg (fun q => z q.2), uo u (by omega)]; exact hC.2.1.2.1 u (by omega)
        · have q := hC.2.1.2.2.2 a ha
          have l30 : a < 30 := Nat.lt_of_lt_of_le ha n30
          have fa : ∀ y, M2.1 (6 + a) y = M.1 (6 + a) y := fun y => f2 _ _ (by omega) (by omega) (by omega) (by omega)
          exact ⟨(fa _).trans q.1, (fa _).trans q.2.1, (fa _).trans q.2.2.1, fun z => (fa _).trans (q.2.2.2.1 z), fun z => (fl _ _).trans (q.2.2.2.2 z)⟩
        · rw [w n hn]
          have n30' : n ≤ 30 := Nat.le_trans hn n30
          exact MR_keep (hC.2.2.2.1 n hn) (fun u _ => fl _ _) (f2 _ _ (by omega) (by omega) (by omega) (by omega)) (fun u _ => f2 _ _ (by omega) (by omega) (by omega) (by omega))
        · have F := hC.2.2.2.2 b hb
          have l30 : b < 30 := Nat.lt_of_lt_of_le hb n30
          have pl := plc_in A (a := b) hb
          have vb := hV.2.2.2 b hb
          have st : stp (addU A nu k) (wd (addU A nu k)) (plc A b) b = stp A (wd A) (plc A b) b := by
            rw [stp_cong (addU A nu k) (h' := wd A) (fun i hi => w i (by omega)) (fun z => hV.back hb z), addU_stp (fun z => by have := vb.2.2.2.1 (by omega); omega)]
          refine ⟨(f2 _ _ (by omega) (by omega) (by omega) (by omega)).trans F.1, (fl _ _).trans ?_, (f2 _ _ (by omega) (by omega) (by omega) (by omega)).trans ?_⟩
          · show _ = cset (chg (wd (addU A nu k) (plc A b)) (wd (addU A nu k) (plc A b + 1)))
            rw [w _ (by omega), w _ (by omega)]; exact F.2.1
          · show _ = if (stp (addU A nu k) (wd (addU A nu k)) (plc A b) b).2 then 1 else 0
            rw [st]; exact F.2.2
        · rw [r2, if_pos ⟨rfl, rfl⟩]; exact nI_1 nu
        · rw [r2, if_neg (by omega)]
          by_cases z : u = nu
          · rw [if_pos ⟨rfl, z⟩]; show _ = nI (if u = nu then k else uK A u); rw [if_pos z]
          · rw [if_neg (fun q => z q.2), r1, if_neg (by omega), if_neg (by omega), uo u (by omega)]; exact hD.2.1 u (by omega)
        · have q := hD.2.2.2 a ha
          exact ⟨(f2 _ _ (by omega) (by omega) (by omega) (by omega)).trans q.1, (f2 _ _ (by omega) (by omega) (by omega) (by omega)).trans q.2.1, (f2 _ _ (by omega) (by omega) (by omega) (by omega)).trans q.2.2.1, fun z => (f2 _ _ (by omega) (by omega) (by omega) (by omega)).trans (q.2.2.2.1 z), fun z => (fl _ _).trans (q.2.2.2.2 z)⟩
        · have q := v a ha
          have vb := hV.2.2.2 a ha
          refine ⟨fun z => ?_, fun z => ?_, fun z => ?_⟩
          · show uK (addU A nu k) (aO A a) ≠ 3; rw [uo _ (vb.2.2.2.1 z)]; exact q.1 z
          · show uK (addU A nu k) (aT A a) ≠ 3; rw [uo _ (vb.2.2.2.2.1 z).1]; exact q.2.1 z
          · show uK (addU A nu k) (aT A a) = 3; rw [uo _ (vb.2.2.2.2.2.1 z)]; exact q.2.2 z
        · obtain ⟨a1, a2, a3, a4, a5, a6, a7, a8, a9, a10, a11⟩ := ct.2.2.2 i hi
          have ff : ∀ x, 129 ≤ x → x ≠ 151 → x ≠ 152 → M2.1 x i = M.1 x i := fun x p1 p2 p3 => f2 _ _ (by omega) (by omega) (by omega) (by omega)
          exact ⟨by omega, by rw [uo _ a1]; exact a2, a3, a4, a5, (ff _ (by decide) (by decide) (by decide)).trans a6, (ff _ (by decide) (by decide) (by decide)).trans a7, (ff _ (by decide) (by decide) (by decide)).trans a8, (ff _ (by decide) (by decide) (by decide)).trans a9, (ff _ (by decide) (by decide) (by decide)).trans a10, (ff _ (by decide) (by decide) (by decide)).trans a11⟩
    · have e2 : nu = 10 := by omega
      exact Ok_ref hf j (-1000000000000000005) (by simp only [fX7_unit, X7_isKind, c1, bnd_some, if_false, if_true, i10, r00, ha, e, X7_ref]) (by simp only [fX8_unit, X8_in03, c1, bnd_some, if_false, if_true, i10, hDr.1, show nI nu = (10 : Int32) by rw [e2]; rfl, X8_ref])
