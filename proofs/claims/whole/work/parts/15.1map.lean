theorem qI_neg {k : Nat} (hk : k ≤ 11) : qI k < 0 ↔ ¬ k < 11 := by
  unfold qI
  by_cases e : k = 11
  · rw [if_pos e]
    exact ⟨fun _ => by omega, fun _ => by decide⟩
  · rw [if_neg e]
    exact ⟨fun z => absurd z (nI_pos (by omega)), fun z => by omega⟩
theorem qI_eq {k u : Nat} (hk : k ≤ 11) (hu : u ≤ 10) : qI k = nI u ↔ k = u := by
  unfold qI
  by_cases e : k = 11
  · rw [if_pos e]
    constructor
    · intro z
      exfalso
      have := congrArg Int32.toInt z
      rw [nI_toInt (by omega)] at this
      have m : (-1 : Int32).toInt = -1 := rfl
      rw [m] at this
      omega
    · intro z; omega
  · rw [if_neg e]; exact nI_eq (by omega) (by omega)
theorem qI_inj {k u : Nat} (hk : k ≤ 11) (hu : u ≤ 11) : qI k = qI u ↔ k = u := by
  by_cases e : u = 11
  · subst e
    constructor
    · intro z
      by_cases q : k = 11
      · exact q
      · exfalso
        exact (qI_neg hk).mp (by rw [z]; exact (qI_neg hu).mpr (by omega)) (by omega)
    · intro z; rw [z]
  · have : qI u = nI u := by unfold qI; rw [if_neg e]
    rw [this]
    exact qI_eq hk (by omega)
/-- the reference's claims of a map -/
def CQ (M : Mem) (m : Nat) (q : Nat → Nat) : Prop := (∀ c, c < 36 → q c ≤ 11) ∧ ∀ c, c < 36 → M.1 159 (36 * m + c) = qI (q c)
theorem X8_claimsOf {M : Mem} {m : Nat} {q : Nat → Nat} (hm : m < 4) (h : CQ M m q) : fX8_claimsOf 151 (nI m) M = some (nI (fb_ct (fun c => decide (q c < 11)) 36)) := by
  have k := wh_seq (body := wX8_claimsOf_4 151 (nI m) M) (fun i => (nI (fb_ct (fun c => decide (q c < 11)) i), nI i)) 36 (nI (fb_ct (fun c => decide (q c < 11)) 36), nI 36) (fun i hi => by
    unfold wX8_claimsOf_4
    dsimp only
    simp only [rM, lt_def, Nat.reduceAdd, l159, nI_1]
    rw [if_neg (n36 hi), ix36, gi_at (by omega) (by decide), nI_clamp (show 36 * m + i < 2 ^ 31 by omega), h.2 i hi, add0, fb_ct_succ]
    by_cases e : q i < 11
    · rw [if_neg (fun z => (qI_neg (h.1 i hi)).mp z e), if_pos (decide_eq_true e)]
    · rw [if_pos ((qI_neg (h.1 i hi)).mpr e), if_neg (show ¬ decide (q i < 11) = true by simp [e])]; rfl) (by
    unfold wX8_claimsOf_4
    dsimp only
    rw [if_pos e36])
  unfold fX8_claimsOf
  rw [show ((0 : Int32), (0 : Int32)) = (nI (fb_ct (fun c => decide (q c < 11)) 0), nI 0) from rfl, k, bnd_some]
theorem X8_agrees {M : Mem} {m n : Nat} {q : Nat → Nat} {w : Wd} (hm : m < 4) (hn : n < 31) (h : CQ M m q) (hw : RM M n w) : fX8_agrees 151 (nI m) (nI n) M = some (nI (fb_ct (fun c => q c == w.1 c) 36)) := by
  have k := wh_seq (body := wX8_agrees_5 151 (nI m) (nI n) M) (fun i => (nI (fb_ct (fun c => q c == w.1 c) i), nI i)) 36 (nI (fb_ct (fun c => q c == w.1 c) 36), nI 36) (fun i hi => by
    have l := hw.2.2.2 i hi
    unfold wX8_agrees_5
    dsimp only
    simp only [rM, lt_def, Nat.reduceAdd, l159, l168, nI_1]
    rw [if_neg (n36 hi), ix36, ix36, gi_at (by omega) (by decide), gi_at (by omega) (by decide), nI_clamp (show 36 * m + i < 2 ^ 31 by omega), nI_clamp (show 36 * n + i < 2 ^ 31 by omega), h.2 i hi, hw.1 i hi, add0, fb_ct_succ]
    by_cases e : q i = w.1 i
    · rw [if_pos ((qI_eq (h.1 i hi) l).mpr e), if_pos (show (q i == w.1 i) = true by rw [e]; exact beq_self_eq_true _)]
    · rw [if_neg (fun z => e ((qI_eq (h.1 i hi) l).mp z)), if_neg (show ¬ (q i == w.1 i) = true by rw [bq e]; decide)]; rfl) (by
    unfold wX8_agrees_5
    dsimp only
    rw [if_pos e36])
  unfold fX8_agrees
  rw [show ((0 : Int32), (0 : Int32)) = (nI (fb_ct (fun c => q c == w.1 c) 0), nI 0) from rfl, k, bnd_some]
theorem X8_wrong {M : Mem} {m n : Nat} {q : Nat → Nat} {w : Wd} (hm : m < 4) (hn : n < 31) (h : CQ M m q) (hw : RM M n w) : wh (wX8_read_86 151 (nI m) M (nI n)) 0 = some (nI (fst36 (fun c => decide (q c < 11) && !(q c == w.1 c)))) := by
  have b : ∀ i, i < 36 → wX8_read_86 151 (nI m) M (nI n) (nI i) = (if qI (q i) < 0 then some (.inl (nI (i + 1))) else if qI (q i) = nI (w.1 i) then some (.inl (nI (i + 1))) else some (.inr (nI i))) := by
    intro i hi
    unfold wX8_read_86
    simp only [rM, lt_def, Nat.reduceAdd, l159, l168, nI_1]
    rw [if_neg (n36 hi), ix36, ix36, gi_at (by omega) (by decide), gi_at (by omega) (by decide), gi_at (by omega) (by decide), nI_clamp (show 36 * m + i < 2 ^ 31 by omega), nI_clamp (show 36 * n + i < 2 ^ 31 by omega), h.2 i hi, hw.1 i hi]
  refine frst_wh (body := wX8_read_86 151 (nI m) M (nI n)) (p := fun c => decide (q c < 11) && !(q c == w.1 c)) (fun i => nI i) (fun i hi e => ?_) (fun i hi e => ?_) ?_ 36 0 rfl
  · have l := hw.2.2.2 i hi
    rw [b i hi]
    by_cases e1 : q i < 11
    · have e2 : q i = w.1 i := by
        rw [decide_eq_true e1] at e
        simpa using e
      rw [if_neg (fun z => (qI_neg (h.1 i hi)).mp z e1), if_pos ((qI_eq (h.1 i hi) l).mpr e2)]
    · rw [if_pos ((qI_neg (h.1 i hi)).mpr e1)]
  · have l := hw.2.2.2 i hi
    rw [Bool.and_eq_true, decide_eq_true_iff] at e
    have e2 : ¬ q i = w.1 i := fun z => by have := e.2; rw [z] at this; simp at this
    rw [b i hi, if_neg (fun z => (qI_neg (h.1 i hi)).mp z e.1), if_neg (fun z => e2 ((qI_eq (h.1 i hi) l).mp z))]
  · unfold wX8_read_86
    rw [if_pos e36]
theorem S_read {t : Nat} {M : Mem} (h : Inv t M) (x1 x2 : Int32) : Ok t M (fX7_read 0 x1 x2) (fX8_read 151 x1 x2) := by
  obtain ⟨nu, A, nc, cU, cY, cP, mY, mQ, sB, sN, f, hf, j⟩ := h
  have hC := j.1
  have hD := j.2.1
  have hV := hC.1
  have n30 := hV.2.1
  cases c1 : rng 0 3 x1 with
  | false => exact Ok_ref hf j (-1000000000000000001) (by simp only [fX7_read, X7_isMap, c1, bnd_some, Bool.false_eq_true, if_false, if_true, X7_ref]) (by simp only [fX8_read, X8_isMap, c1, bnd_some, Bool.false_eq_true, if_false, if_true, X8_ref])
  | true =>
    obtain ⟨m, e1, _, hm⟩ := rng_nat (lo := 0) (hi := 3) c1
    subst e1
    have g4 : ∀ {α : Type} {E : Option α}, gi (nI m) 4 E = E := fun {_ _} => gi_at (by omega) (by decide)
    have cl : (nI m).toNatClampNeg = m := nI_clamp (by omega)
    obtain ⟨a1, a2, a3, a4, a5, a6⟩ := j.2.2.2.2.1 m (by omega)
    have ul := upto_le A (mY m)
    have W := hC.2.2.2.1 _ ul
    have mo := X2_momentAt hC (show mY m < 10000 by omega)
    have gs : ∀ {α : Type} {E : Option α}, gd (shp (36 + 3 * upto A (mY m)) = 3) inferInstance E = E := fun {_ _} => gd_at (shp_m (by omega))
    have ca : ∀ x2, fX7_read 0 (nI m) x2 M = (if x2 = 0 then (some ((nI (mY m)).toInt64, M)) else (if x2 = 1 then some ((nI (fb_ct (fun c => decide (mQ m c < 11)) 36)).toInt64, M) else (if x2 = 2 then some ((nI (fb_ct (fun c => mQ m c == (wd A (upto A (mY m))).1 c) 36)).toInt64, M) else (if x2 = 3 then some ((nI (fst36 (fun c => decide (mQ m c < 11) && !(mQ m c == (wd A (upto A (mY m))).1 c)))).toInt64, M) else some (-1000000000000000001, rfM M))))) := by
      intro x2
      simp only [fX7_read, X7_isMap, c1, bnd_some, if_false, if_true, i10, r02, l133, g4, cl, ra133, lt_def, a2, X1_size (show m < 4 by omega) ⟨a4, a5⟩, r00, mo, gs, X1_agree (show m < 4 by omega) (show upto A (mY m) < 31 by omega) ⟨a4, a5⟩ W, X1_wrong (show m < 4 by omega) (show upto A (mY m) < 31 by omega) ⟨a4, a5⟩ W, X7_ref]
    cases c2 : rng 0 3 x2 with
    | false =>
      refine Ok_ref hf j (-1000000000000000001) ?_ (by simp only [fX8_read, X8_isMap, X8_in03, c1, c2, bnd_some, Bool.false_eq_true, if_false, if_true, i10, X8_ref])
      have ne : ∀ v : Int32, rng 0 3 v = true → ¬ x2 = v := fun v hv z => by rw [z, hv] at c2; cases c2
      rw [ca, if_neg (ne _ rfl), if_neg (ne _ rfl), if_neg (ne _ rfl), if_neg (ne _ rfl)]
    | true =>
      obtain ⟨M', hd, fd, rs⟩ := X8_done hV hD
      have R := rs.2.2.1 _ ul
      obtain ⟨k1, k2, k3, k4, k5, k6⟩ := (J_D fd j).2.2.2.2.1 m (by omega)
      have cr : ∀ x2, rng 0 3 x2 = true → fX8_read 151 (nI m) x2 M = (if (3 : Int32) ≤ x2 then some ((nI (fst36 (fun c => decide (mQ m c < 11) && !(mQ m c == (wd A (upto A (mY m))).1 c)))).toInt64, M') else (if x2 = 0 then (some ((nI (mY m)).toInt64, M')) else (if x2 = 1 then some ((nI (fb_ct (fun c => decide (mQ m c < 11)) 36)).toInt64, M') else some ((nI (fb_ct (fun c => mQ m c == (wd A (upto A (mY m))).1 c) 36)).toInt64, M')))) := by
        intro x2 c2
        simp only [fX8_read, X8_isMap, X8_in03, c1, c2, bnd_some, if_false, if_true, i10, hd, rM, Nat.reduceAdd, l158, g4, cl, k3, X8_until hV (RD_keep fd hD) (show mY m < 10000 by omega), X8_claimsOf (show m < 4 by omega) ⟨k4, k6⟩, X8_agrees (show m < 4 by omega) (show upto A (mY m) < 31 by omega) ⟨k4, k6⟩ R, X8_wrong (show m < 4 by omega) (show upto A (mY m) < 31 by omega) ⟨k4, k6⟩ R]
      obtain ⟨k, e2, _, hk⟩ := rng_nat (lo := 0) (hi := 3) c2
      subst e2
      have : k = 0 ∨ k = 1 ∨ k = 2 ∨ k = 3 := by omega
      rcases this with z | z | z | z <;> subst z
      · exact Ok_ans hf j _ (by rw [ca, if_pos (by rfl)]) fd (by rw [cr _ rfl, if_neg (by decide), if_pos (by rfl)])
      · exact Ok_ans hf j _ (by rw [ca, if_neg (by decide), if_pos (by rfl)]) fd (by rw [cr _ rfl, if_neg (by decide), if_neg (by decide), if_pos (by rfl)])
      · exact Ok_ans hf j _ (by rw [ca, if_neg (by decide), if_neg (by decide), if_pos (by rfl)]) fd (by rw [cr _ rfl, if_neg (by decide), if_neg (by decide), if_neg (by decide)])
      · exact Ok_ans hf j _ (by rw [ca, if_neg (by decide), if_neg (by decide), if_neg (by decide), if_pos (by rfl)]) fd (by rw [cr _ rfl, if_pos (by decide)])
theorem S_quarrel {t : Nat} {M : Mem} (h : Inv t M) (x1 x2 : Int32) : Ok t M (fX7_quarrel 0 x1 x2) (fX8_quarrel 151 x1 x2) := by
  obtain ⟨nu, A, nc, cU, cY, cP, mY, mQ, sB, sN, f, hf, j⟩ := h
  cases c1 : rng 0 3 x1 with
  | false => exact Ok_ref hf j (-1000000000000000001) (by simp only [fX7_quarrel, X7_isMap, c1, bnd_some, Bool.false_eq_true, if_false, if_true, X7_ref]) (by simp only [fX8_quarrel, X8_isMap, c1, bnd_some, Bool.false_eq_true, if_false, if_true, X8_ref])
  | true =>
    cases c2 : rng 0 3 x2 with
    | false => exact Ok_ref hf j (-1000000000000000001) (by simp only [fX7_quarrel, X7_isMap, c1, c2, bnd_some, Bool.false_eq_true, if_false, if_true, i10, X7_ref]) (by simp only [fX8_quarrel, X8_isMap, c1, c2, bnd_some, Bool.false_eq_true, if_false, if_true, i10, X8_ref])
    | true =>
      obtain ⟨m, e1, _, hm⟩ := rng_nat (lo := 0) (hi := 3) c1
      obtain ⟨m2, e2, _, hm2⟩ := rng_nat (lo := 0) (hi := 3) c2
      subst e1
      subst e2
      have g4 : ∀ {α : Type} {E : Option α}, gi (nI m) 4 E = E := fun {_ _} => gi_at (by omega) (by decide)
      have cl : (nI m).toNatClampNeg = m := nI_clamp (by omega)
      have g4b : ∀ {α : Type} {E : Option α}, gi (nI m2) 4 E = E := fun {_ _} => gi_at (by omega) (by decide)
      have clb : (nI m2).toNatClampNeg = m2 := nI_clamp (by omega)
      obtain ⟨a1, a2, a3, a4, a5, a6⟩ := j.2.2.2.2.1 m (by omega)
      obtain ⟨b1, b2, b3, b4, b5, b6⟩ := j.2.2.2.2.1 m2 (by omega)
      generalize hp : (fun c => decide (mQ m c < 11) && decide (mQ m2 c < 11) && !(mQ m c == mQ m2 c)) = p
      have ca : fX7_quarrel 0 (nI m) (nI m2) M = (if nI (fst36 p) = (36 : Int32) then some (-1000000000000000006, rfM M) else some ((nI (fst36 p)).toInt64, M)) := by
        simp only [fX7_quarrel, X7_isMap, c1, c2, bnd_some, if_false, if_true, i10, r02, l133, g4, cl, g4b, clb, ra133, X1_quarrel (show m < 4 by omega) (show m2 < 4 by omega) ⟨a4, a5⟩ ⟨b4, b5⟩, hp, X7_ref]
      have cr : ∀ M, CQ M m (mQ m) → CQ M m2 (mQ m2) → fX8_quarrel 151 (nI m) (nI m2) M = some (if fst36 p < 36 then ((nI (fst36 p)).toInt64, M) else (-1000000000000000006, tdM M)) := by
        intro M h1 h2
        simp only [fX8_quarrel, X8_isMap, c1, c2, bnd_some, if_false, if_true, i10]
        have b : ∀ i, i < 36 → wX8_quarrel_24 151 (nI m) (nI m2) M (nI i) = (if qI (mQ m i) < 0 then some (.inl (nI (i + 1))) else if qI (mQ m2 i) < 0 then some (.inl (nI (i + 1))) else if qI (mQ m i) = qI (mQ m2 i) then some (.inl (nI (i + 1))) else some (.inr ((nI i).toInt64, M))) := by
          intro i hi
          unfold wX8_quarrel_24
          simp only [rM, lt_def, Nat.reduceAdd, l159, nI_1]
          rw [if_neg (n36 hi), ix36, ix36, gi_at (by omega) (by decide), gi_at (by omega) (by decide), nI_clamp (show 36 * m + i < 2 ^ 31 by omega), nI_clamp (show 36 * m2 + i < 2 ^ 31 by omega), h1.2 i hi, h2.2 i hi]
        refine frst_wh (body := wX8_quarrel_24 151 (nI m) (nI m2) M) (p := p) (fun i => if i < 36 then ((nI i).toInt64, M) else (-1000000000000000006, tdM M)) (fun i hi e => ?_) (fun i hi e => ?_) ?_ 36 0 rfl
        · rw [b i hi]
          rw [← hp] at e
          dsimp only at e
          by_cases e1 : mQ m i < 11
          · rw [if_neg (fun z => (qI_neg (h1.1 i hi)).mp z e1)]
            by_cases e2 : mQ m2 i < 11
            · rw [if_neg (fun z => (qI_neg (h2.1 i hi)).mp z e2)]
              have e3 : mQ m i = mQ m2 i := by
                rw [decide_eq_true e1, decide_eq_true e2] at e
                simpa using e
              rw [if_pos ((qI_inj (h1.1 i hi) (h2.1 i hi)).mpr e3)]
            · rw [if_pos ((qI_neg (h2.1 i hi)).mpr e2)]
          · rw [if_pos ((qI_neg (h1.1 i hi)).mpr e1)]
        · rw [← hp] at e
          dsimp only at e
          rw [Bool.and_eq_true, Bool.and_eq_true, decide_eq_true_iff, decide_eq_true_iff] at e
          have e2 : ¬ mQ m i = mQ m2 i := fun z => by have := e.2; rw [z] at this; simp at this
          rw [b i hi, if_neg (fun z => (qI_neg (h1.1 i hi)).mp z e.1.1), if_neg (fun z => (qI_neg (h2.1 i hi)).mp z e.1.2), if_neg (fun z => e2 ((qI_inj (h1.1 i hi) (h2.1 i hi)).mp z)), if_pos hi]
        · unfold wX8_quarrel_24
          rw [if_pos e36]
          rfl
      have le := fst36_le p
      by_cases e : fst36 p < 36
      · exact Ok_ans hf j _ (by rw [ca, if_neg (show ¬ nI (fst36 p) = (36 : Int32) from nI_lit (k := 36) (by omega) (by omega) (by omega))]) FrD.rf (by rw [cr M ⟨a4, a6⟩ ⟨b4, b6⟩, if_pos e])
      · have e36' : fst36 p = 36 := by omega
        obtain ⟨k1, k2, k3, k4, k5, k6⟩ := (J_ref j).2.2.2.2.1 m (by omega)
        obtain ⟨l1, l2, l3, l4, l5, l6⟩ := (J_ref j).2.2.2.2.1 m2 (by omega)
        exact Ok_ref hf j (-1000000000000000006) (by rw [ca, e36', if_pos (by rfl)]) (by rw [cr _ ⟨k4, k6⟩ ⟨l4, l6⟩, if_neg e])
