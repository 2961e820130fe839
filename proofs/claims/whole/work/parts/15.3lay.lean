/-! lay: a sheet's numbers become a map's claims -/
def cf (nu : Nat) (A : AD) (x : Int32) : Nat := if x = 10 then 10 else if rng 0 ((nu : Int) - 1) x = true then (if uK A x.toNatClampNeg = 3 then 11 else x.toNatClampNeg) else 11
theorem cf_le {nu : Nat} {A : AD} (hn : nu ≤ 10) (x : Int32) : cf nu A x ≤ 11 := by
  unfold cf
  split
  · omega
  · cases c : rng 0 ((nu : Int) - 1) x with
    | false => rw [if_neg (by decide)]; omega
    | true =>
      obtain ⟨u, e, hu⟩ := rng_unit c
      rw [if_pos rfl, e, nI_clamp (by omega)]
      split <;> omega
theorem SR_rng {nu : Nat} (hn : nu ≤ 10) {x y : Int32} (h : SR x y) (c : rng 0 ((nu : Int) - 1) x = true) : y = x := by
  obtain ⟨u, e1, hu⟩ := rng_unit c
  exact ((h u (by omega)).mp e1).trans e1.symm
theorem SR_sym {x y : Int32} (h : SR x y) : SR y x := fun k hk => (h k hk).symm
theorem cf_10 {nu : Nat} {A : AD} {x : Int32} (h : x = nI 10) : cf nu A x = 10 := by
  unfold cf
  exact if_pos h
theorem cf_no {nu : Nat} {A : AD} {x : Int32} (h : ¬ x = nI 10) (c : ¬ rng 0 ((nu : Int) - 1) x = true) : cf nu A x = 11 := by
  unfold cf
  exact (if_neg h).trans (if_neg c)
theorem cf_SR {nu : Nat} {A : AD} (hn : nu ≤ 10) {x y : Int32} (h : SR x y) : cf nu A x = cf nu A y := by
  by_cases e : x = nI 10
  · rw [cf_10 e, cf_10 ((h 10 (Nat.le_refl 10)).mp e)]
  · have e' : ¬ y = nI 10 := fun z => e ((h 10 (Nat.le_refl 10)).mpr z)
    by_cases c : rng 0 ((nu : Int) - 1) x = true
    · rw [SR_rng hn h c]
    · by_cases c2 : rng 0 ((nu : Int) - 1) y = true
      · rw [SR_rng hn (SR_sym h) c2]
      · rw [cf_no e c, cf_no e' c2]
theorem X7_claimOf {M : Mem} {nu : Nat} {A : AD} (hV : VA nu A) (hD : CD M nu A) (x : Int32) : fX7_claimOf 0 x M = some (qI (cf nu A x)) := by
  have n10' := hV.1
  unfold fX7_claimOf fX7_isClaim cf
  rw [r00]
  by_cases q1 : x = -1
  · subst q1
    rw [if_pos rfl, bnd_some, if_neg (by decide), X2_isHundredN hV hD (rng_m1 nu), bnd_some, if_pos rfl, if_neg (by decide), rng_m1]
    rfl
  · rw [if_neg q1]
    by_cases q2 : x = 10
    · subst q2
      rw [if_pos rfl, bnd_some, if_neg (by decide), X2_isHundredN hV hD (rng_10 n10'), bnd_some, if_pos rfl, if_pos rfl]
      rfl
    · rw [if_neg q2, if_neg q2, X2_hasUnitR hD.1 hV.1, bnd_some]
      cases c : rng 0 ((nu : Int) - 1) x with
      | false =>
        simp only [Bool.false_eq_true, if_false, if_true, bnd_some]
        rfl
      | true =>
        obtain ⟨u, e, hu⟩ := rng_unit c
        subst e
        simp only [if_true, if_false, i10, bnd_some, X2_isHundred hV hD hu, nI_clamp (show u < 2 ^ 31 by omega)]
        by_cases h3 : uK A u = 3
        · simp only [h3, if_true, i10, if_false]
          rfl
        · simp only [h3, if_false, if_true]
          unfold qI
          rw [if_neg (by omega)]
theorem X8_good {M : Mem} {nu : Nat} {A : AD} (hV : VA nu A) (hD : RD M nu A) (x : Int32) : (if x = (10 : Int32) then (some (1 : Int32)) else (Option.bind (fX8_isUnit 151 x M) (fun b15 => if b15 = 0 then (some (0 : Int32)) else (Option.bind (fX8_isHundred 151 x M) (fun b17 => if b17 = 0 then (some (1 : Int32)) else (some (0 : Int32))))))) = some (if cf nu A x = 11 then 0 else 1) ∧ (cf nu A x ≠ 11 → x = qI (cf nu A x)) := by
  have n10' := hV.1
  unfold cf
  by_cases q2 : x = 10
  · rw [if_pos q2, if_pos q2, if_neg (by decide)]
    exact ⟨rfl, fun _ => q2⟩
  · rw [if_neg q2, if_neg q2, X8_isUnit hD.1 hV.1, bnd_some]
    cases c : rng 0 ((nu : Int) - 1) x with
    | false =>
      simp only [Bool.false_eq_true, if_false, if_true]
      exact ⟨trivial, fun z => absurd rfl z⟩
    | true =>
      obtain ⟨u, e, hu⟩ := rng_unit c
      subst e
      simp only [if_true, if_false, i10, bnd_some, X8_isHundred hV hD hu, nI_clamp (show u < 2 ^ 31 by omega)]
      by_cases h3 : uK A u = 3
      · simp only [h3, if_true, i10, if_false]
        exact ⟨trivial, fun z => absurd rfl z⟩
      · have ne : ¬ u = 11 := by omega
        simp only [h3, if_false, if_true, ne]
        refine ⟨trivial, fun _ => ?_⟩
        unfold qI
        rw [if_neg ne]
theorem CR_cong {M : Mem} {m : Nat} {q q' : Nat → Nat} (h : CR M m q) (e : ∀ c, c < 36 → q' c = q c) : CR M m q' :=
  ⟨fun c hc => by rw [e c hc]; exact h.1 c hc, fun k hk => (h.2 k hk).trans (cset_cong (fun c hc => by rw [e c hc]))⟩
theorem X7_layLoop {M : Mem} {nu m s n : Nat} {A : AD} {q : Nat → Nat} (hC : CI M nu A) (hm : m < 4) (hs : s < 4) (hq : CR M m q) (eN : M.1 (143 + 2 * s) 2 = nI n) (hn : n ≤ 36) :
    ∃ M', wh (wX7_lay_47 0 (nI m) (143 + 2 * s)) (0, M) = some (nI 36, M') ∧ CR M' m (fun c => if c < n then cf nu A (M.1 (144 + 2 * s) c) else 11) ∧ M'.1 = M.1 ∧ ∀ x y, x ≠ 136 + 2 * m → M'.2 x y = M.2 x y := by
  have hV := hC.1
  have n10' := hV.1
  have g11 : ∀ c, (if c < n then cf nu A (M.1 (144 + 2 * s) c) else 11) ≤ 11 := fun c => by
    split
    · exact cf_le n10' _
    · omega
  generalize hg : (fun c => if c < n then cf nu A (M.1 (144 + 2 * s) c) else 11) = g
  have gv : ∀ c, g c = if c < n then cf nu A (M.1 (144 + 2 * s) c) else 11 := fun c => by rw [← hg]
  have g11' : ∀ c, g c ≤ 11 := fun c => by rw [gv]; exact g11 c
  obtain ⟨r, hr, hq1, hq2, hq3, hq4⟩ := wh_inv (body := wX7_lay_47 0 (nI m) (143 + 2 * s)) (fun i st => st.1 = nI i ∧ CR st.2 m (fun d => if d < i then g d else q d) ∧ st.2.1 = M.1 ∧ ∀ x y, x ≠ 136 + 2 * m → st.2.2 x y = M.2 x y) 36 (fun r => r.1 = nI 36 ∧ CR r.2 m g ∧ r.2.1 = M.1 ∧ ∀ x y, x ≠ 136 + 2 * m → r.2.2 x y = M.2 x y) (by
    rintro i ⟨a, S⟩ hi ⟨h1, h2, h3, h4⟩
    dsimp only at h1 h2 h3 h4
    subst h1
    have hC' : CI S nu A := CI_keep (fun x y _ _ => by rw [h3]) (fun x y _ _ => h4 x y (by omega)) hC
    obtain ⟨S', e1, c1, f1, f2⟩ := X1_set (k := g i) hm hi (g11' i) h2
    refine ⟨(nI (i + 1), S'), ?_, rfl, CR_cong c1 (fun c hc => ?_), f1.trans h3, fun x y p => (f2 x y p).trans (h4 x y p)⟩
    · unfold wX7_lay_47
      dsimp only
      rw [if_neg (n36 hi), r02, l133, gi_at hm (by decide), nI_clamp (show m < 2 ^ 31 by omega), ra133, h3, eN]
      simp only [lt_def, nI_1]
      by_cases z : i < n
      · rw [if_neg (nle z (by omega)), rf_s hs, ln_s hs, gi_at hi (by decide), nI_clamp (show i < 2 ^ 31 by omega), X7_claimOf hV hC'.2.1, bnd_some]
        have : cf nu A (M.1 (144 + 2 * s) i) = g i := by rw [gv, if_pos z]
        rw [this, e1, bnd_some]
      · rw [if_pos (nI_le (by omega) (by omega))]
        have : (-1 : Int32) = qI (g i) := by rw [gv, if_neg z]; rfl
        rw [this, e1, bnd_some]
    · by_cases z : c = i
      · subst z
        rw [if_pos (by omega), if_pos rfl]
      · by_cases z2 : c < i
        · rw [if_pos (by omega), if_neg z, if_pos z2]
        · rw [if_neg (by omega), if_neg z, if_neg z2]) (by
    rintro ⟨a, S⟩ ⟨h1, h2, h3, h4⟩
    dsimp only at h1 h2 h3 h4
    subst h1
    refine ⟨(nI 36, S), ?_, rfl, CR_cong h2 (fun c hc => by rw [if_pos hc]), h3, h4⟩
    unfold wX7_lay_47
    rw [if_pos e36]) 36 0 (0, M) rfl ⟨rfl, CR_cong hq (fun c _ => by rw [if_neg (by omega)]), rfl, fun _ _ _ => rfl⟩
  obtain ⟨a, M'⟩ := r
  dsimp only at hq1 hq2 hq3 hq4
  subst hq1
  exact ⟨M', hr, hq2, hq3, hq4⟩
theorem X8_layLoop {M : Mem} {nu m s n : Nat} {A : AD} (hV : VA nu A) (hD : RD M nu A) (hm : m < 4) (hs : s < 4) (eN : M.1 164 s = nI n) (hn : n ≤ 36) :
    ∃ M', wh (wX8_lay_41 151 (nI m) (nI s)) (0, M) = some (nI 36, M') ∧ (∀ c, c < 36 → M'.1 159 (36 * m + c) = qI (if c < n then cf nu A (M.1 165 (36 * s + c)) else 11)) ∧ M'.2 = M.2 ∧ ∀ x y, ¬ (x = 159 ∧ 36 * m ≤ y ∧ y < 36 * m + 36) → M'.1 x y = M.1 x y := by
  have n10' := hV.1
  obtain ⟨r, hr, hq1, hq2, hq3, hq4⟩ := wh_inv (body := wX8_lay_41 151 (nI m) (nI s)) (fun i st => st.1 = nI i ∧ (∀ c, c < i → st.2.1 159 (36 * m + c) = qI (if c < n then cf nu A (M.1 165 (36 * s + c)) else 11)) ∧ st.2.2 = M.2 ∧ ∀ x y, ¬ (x = 159 ∧ 36 * m ≤ y ∧ y < 36 * m + 36) → st.2.1 x y = M.1 x y) 36 (fun st => st.1 = nI 36 ∧ (∀ c, c < 36 → st.2.1 159 (36 * m + c) = qI (if c < n then cf nu A (M.1 165 (36 * s + c)) else 11)) ∧ st.2.2 = M.2 ∧ ∀ x y, ¬ (x = 159 ∧ 36 * m ≤ y ∧ y < 36 * m + 36) → st.2.1 x y = M.1 x y) (by
    rintro i ⟨a, S⟩ hi ⟨h1, h2, h3, h4⟩
    dsimp only at h1 h2 h3 h4
    subst h1
    have hD' : RD S nu A := RD_keep2 (fun x y _ _ _ => h4 x y (by omega)) (fun y => by rw [h3]) hD
    have key : ∀ v : Int32, v = qI (if i < n then cf nu A (M.1 165 (36 * s + i)) else 11) → (∀ c, c < i + 1 → (mi S 159 (36 * m + i) v).1 159 (36 * m + c) = qI (if c < n then cf nu A (M.1 165 (36 * s + c)) else 11)) ∧ (mi S 159 (36 * m + i) v).2 = M.2 ∧ ∀ x y, ¬ (x = 159 ∧ 36 * m ≤ y ∧ y < 36 * m + 36) → (mi S 159 (36 * m + i) v).1 x y = M.1 x y := by
      intro v hv
      refine ⟨fun c hc => ?_, h3, fun x y p => by rw [mi_1, if_neg (by omega)]; exact h4 x y p⟩
      rw [mi_1]
      by_cases z : c = i
      · subst z
        rw [if_pos ⟨rfl, rfl⟩, hv]
      · rw [if_neg (by omega)]
        exact h2 c (by omega)
    unfold wX8_lay_41
    dsimp only
    simp only [rM, lt_def, Nat.reduceAdd, l164, l165, l159, nI_1]
    rw [if_neg (n36 hi), gi_at hs (by decide), nI_clamp (show s < 2 ^ 31 by omega), h4 164 s (by omega), eN, ix36, ix36, gi_at (show 36 * s + i < 144 by omega) (by decide), nI_clamp (show 36 * s + i < 2 ^ 31 by omega), gi_at (show 36 * m + i < 144 by omega) (by decide), nI_clamp (show 36 * m + i < 2 ^ 31 by omega), h4 165 _ (by omega)]
    have j : (if nI n ≤ nI i then some (-1 : Int32) else some (M.1 165 (36 * s + i))) = some (if i < n then M.1 165 (36 * s + i) else -1) := by
      by_cases z : i < n
      · rw [if_neg (nle z (by omega)), if_pos z]
      · rw [if_pos (nI_le (by omega) (by omega)), if_neg z]
    rw [j, bnd_some]
    have G := X8_good hV hD' (if i < n then M.1 165 (36 * s + i) else -1)
    have cfe : cf nu A (if i < n then M.1 165 (36 * s + i) else -1) = (if i < n then cf nu A (M.1 165 (36 * s + i)) else 11) := by
      by_cases z : i < n
      · rw [if_pos z, if_pos z]
      · rw [if_neg z, if_neg z]
        unfold cf
        rw [if_neg (by decide), rng_m1, if_neg (by decide)]
    rw [G.1, bnd_some, cfe]
    rw [cfe] at G
    by_cases z : (if i < n then cf nu A (M.1 165 (36 * s + i)) else 11) = 11
    · rw [if_pos z, if_pos rfl]
      refine ⟨_, rfl, ?_⟩
      exact ⟨rfl, key _ (by rw [z]; rfl)⟩
    · rw [if_neg z, if_neg (by decide), gi_at (show 36 * m + i < 144 by omega) (by decide)]
      refine ⟨_, rfl, ?_⟩
      exact ⟨rfl, key _ (G.2 z)⟩) (by
    rintro ⟨a, S⟩ ⟨h1, h2, h3, h4⟩
    dsimp only at h1 h2 h3 h4
    subst h1
    refine ⟨(nI 36, S), ?_, rfl, h2, h3, h4⟩
    unfold wX8_lay_41
    rw [if_pos e36]) 36 0 (0, M) rfl ⟨rfl, fun c hc => absurd hc (by omega), rfl, fun _ _ _ => rfl⟩
  obtain ⟨a, M'⟩ := r
  dsimp only at hq1 hq2 hq3 hq4
  subst hq1
  exact ⟨M', hr, hq2, hq3, hq4⟩
theorem S_lay {t : Nat} {M : Mem} (h : Inv t M) (x1 x2 : Int32) : Ok t M (fX7_lay 0 x1 x2) (fX8_lay 151 x1 x2) := by
  obtain ⟨nu, A, nc, cU, cY, cP, mY, mQ, sB, sN, f, hf, j⟩ := h
  have hC := j.1
  have hD := j.2.1
  have hV := hC.1
  have n10' := hV.1
  cases c1 : rng 0 3 x1 with
  | false => exact Ok_ref hf j (-1000000000000000001) (by simp only [fX7_lay, X7_isMap, c1, bnd_some, Bool.false_eq_true, if_false, if_true, X7_ref]) (by simp only [fX8_lay, X8_isMap, c1, bnd_some, Bool.false_eq_true, if_false, if_true, X8_ref])
  | true =>
    cases c2 : rng 0 3 x2 with
    | false => exact Ok_ref hf j (-1000000000000000001) (by simp only [fX7_lay, X7_isMap, X7_isSheet, c1, c2, bnd_some, Bool.false_eq_true, if_false, if_true, i10, X7_ref]) (by simp only [fX8_lay, X8_isMap, X8_isSheet, c1, c2, bnd_some, Bool.false_eq_true, if_false, if_true, i10, X8_ref])
    | true =>
      obtain ⟨m, e1, _, hm⟩ := rng_nat (lo := 0) (hi := 3) c1
      obtain ⟨s, e2, _, hs⟩ := rng_nat (lo := 0) (hi := 3) c2
      subst e1
      subst e2
      have hm4 : m < 4 := by omega
      have hs4 : s < 4 := by omega
      have gm : ∀ {α : Type} {E : Option α}, gi (nI m) 4 E = E := fun {_ _} => gi_at hm4 (by decide)
      have clm : (nI m).toNatClampNeg = m := nI_clamp (by omega)
      have gs : ∀ {α : Type} {E : Option α}, gi (nI s) 4 E = E := fun {_ _} => gi_at hs4 (by decide)
      have cls : (nI s).toNatClampNeg = s := nI_clamp (by omega)
      obtain ⟨b1, b2, b3, b4, b5, b6, b7⟩ := j.2.2.2.2.2.1 s hs4
      obtain ⟨k1, k2, k3, k4, k5, k6, k7⟩ := (J_ref j).2.2.2.2.2.1 s hs4
      by_cases e0 : sB s = 0
      · exact Ok_ref hf j (-1000000000000000002) (by simp only [fX7_lay, X7_isMap, X7_isSheet, c1, c2, bnd_some, if_false, if_true, i10, r03, l134, gs, cls, ra134, lt_def, fX5_isMissing, b3, e0, nI_0, X7_ref]) (by simp only [fX8_lay, X8_isMap, X8_isSheet, c1, c2, bnd_some, if_false, if_true, i10, rM, Nat.reduceAdd, l163, gs, cls, k4, e0, nI_0, X8_ref])
      · have ne : ¬ nI (sB s) = 0 := nI_lit (k := 0) (by omega) (by decide) e0
        obtain ⟨jc, jd, v, ct, mp, sh, ec, er⟩ := j
        obtain ⟨a1, a2, a3, a4, a5, a6⟩ := mp m hm4
        obtain ⟨M1, h1, cr1, i1, l1⟩ := X7_layLoop hC hm4 hs4 ⟨a4, a5⟩ b5 b2
        have D1 : RD M1 nu A := RD_keep2 (fun x z _ _ _ => by rw [i1]) (fun z => l1 _ _ (by omega)) jd
        obtain ⟨M2, h2, q2, l2, f2⟩ := X8_layLoop (n := sN s) hV D1 hm4 hs4 (by rw [i1]; exact b6) b2
        have ge : ∀ c, c < 36 → (if c < sN s then cf nu A (M1.1 165 (36 * s + c)) else 11) = (if c < sN s then cf nu A (M.1 (144 + 2 * s) c) else 11) := fun c hc => by
          rw [i1, cf_SR n10' (b7 c hc)]
        generalize hg : (fun c => if c < sN s then cf nu A (M.1 (144 + 2 * s) c) else 11) = g at cr1
        have gv : ∀ c, (if c < sN s then cf nu A (M.1 (144 + 2 * s) c) else 11) = g c := fun c => by rw [← hg]
        have q2' : ∀ c, c < 36 → M2.1 159 (36 * m + c) = qI (g c) := fun c hc => by rw [q2 c hc, ge c hc, gv]
        have sz : fX1_size (135 + 2 * m) M1 = some (nI (fb_ct (fun c => decide (g c < 11)) 36)) := X1_size hm4 cr1
        have cz : fX8_claimsOf 151 (nI m) M2 = some (nI (fb_ct (fun c => decide (g c < 11)) 36)) := X8_claimsOf hm4 ⟨cr1.1, q2'⟩
        have ff : ∀ x z, x ≠ 159 → M2.1 x z = M.1 x z := fun x z p => by rw [f2 x z (fun w => p w.1), i1]
        have fl : ∀ x z, x ≠ 136 + 2 * m → M2.2 x z = M.2 x z := fun x z p => by rw [l2]; exact l1 x z p
        refine ⟨(nI (fb_ct (fun c => decide (g c < 11)) 36)).toInt64, M1, M2, ?_, ?_, nu, A, nc, cU, cY, cP, mY, (fun k' => if k' = m then g else mQ k'), sB, sN, f, by omega, ?_⟩
        · simp only [fX7_lay, X7_isMap, X7_isSheet, c1, c2, bnd_some, if_false, if_true, i10, r02, r03, l133, l134, gs, cls, gm, clm, ra133, ra134, lt_def, fX5_isMissing, b3, ne, h1, sz]
        · simp only [fX8_lay, X8_isMap, X8_isSheet, c1, c2, bnd_some, if_false, if_true, i10, rM, Nat.reduceAdd, l163, gs, cls, i1, b4, ne, h2, cz]
        · exact ⟨CI_keep (fun x z _ _ => ff x z (by omega)) (fun x z _ _ => fl x z (by omega)) jc, RD_keep2 (fun x z _ _ _ => ff x z (by omega)) (fun z => fl _ _ (by omega)) jd, v, CT_keep (fun x z _ _ => ff x z (by omega)) (fun x z _ _ => ff x z (by omega)) (ff _ _ (by omega)) ct, MP_set (q := g) hm4 mp (fun x z _ _ => ff x z (by omega)) (fun x z _ _ p => fl x z p) (fun z => ff _ _ (by omega)) (fun z p => by rw [f2 _ _ (by omega), i1]) cr1.1 (fun x hx => by rw [l2]; exact cr1.2 x hx) q2', SH_keep (fun x z _ _ => ff x z (by omega)) (fun x z _ _ => ff x z (by omega)) sh, (ff _ _ (by omega)).trans ec, (fl _ _ (by omega)).trans er⟩
