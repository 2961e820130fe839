theorem X2_isHundredN {M : Mem} {nu : Nat} {A : AD} (hV : VA nu A) (hD : CD M nu A) {x : Int32} (hx : rng 0 ((nu : Int) - 1) x = false) : fX2_isHundred 1 x M = some 0 := by
  unfold fX2_isHundred fX2_kindOf
  rw [X2_hasUnitR hD.1 hV.1, hx, bnd_some]
  rfl
theorem qI_pos {k : Nat} (hk : k ≤ 11) : 0 ≤ qI k ↔ k < 11 := by
  rw [← Int32.not_lt, qI_neg hk]
  omega
theorem MP_set {M M' : Mem} {m : Nat} {mY : Nat → Nat} {mQ : Nat → Nat → Nat} {q : Nat → Nat} (hm : m < 4) (h : MP M mY mQ) (h1 : ∀ x y, 135 ≤ x → x < 143 → M'.1 x y = M.1 x y) (h2 : ∀ x y, 135 ≤ x → x < 143 → x ≠ 136 + 2 * m → M'.2 x y = M.2 x y) (h3 : ∀ y, M'.1 158 y = M.1 158 y) (h4 : ∀ y, ¬ (36 * m ≤ y ∧ y < 36 * m + 36) → M'.1 159 y = M.1 159 y) (hq : ∀ c, c < 36 → q c ≤ 11) (c1 : ∀ x, x < 11 → M'.2 (136 + 2 * m) x = cset (fun c => q c == x)) (c2 : ∀ c, c < 36 → M'.1 159 (36 * m + c) = qI (q c)) : MP M' mY (fun k => if k = m then q else mQ k) := fun k hk => by
  obtain ⟨a1, a2, a3, a4, a5, a6⟩ := h k hk
  refine ⟨a1, (h1 _ _ (by omega) (by omega)).trans a2, (h3 _).trans a3, ?_, ?_, ?_⟩
  · dsimp only
    by_cases e : k = m
    · rw [if_pos e]; exact hq
    · rw [if_neg e]; exact a4
  · dsimp only
    by_cases e : k = m
    · rw [if_pos e, e]; exact c1
    · rw [if_neg e]
      exact fun x hx => (h2 _ _ (by omega) (by omega) (by omega)).trans (a5 x hx)
  · dsimp only
    by_cases e : k = m
    · rw [if_pos e, e]; exact c2
    · rw [if_neg e]
      exact fun c hc => (h4 _ (by omega)).trans (a6 c hc)
theorem claim_both {t : Nat} {M : Mem} {nu : Nat} {A : AD} {nc : Nat} {cU cY cP mY : Nat → Nat} {mQ : Nat → Nat → Nat} {sB sN : Nat → Nat} {fi : Nat} (ht : fi ≤ t) (h : J M nu A nc cU cY cP mY mQ sB sN fi fi) {m c k : Nat} (hm : m < 4) (hc : c < 36) (hk : k ≤ 11) :
    ∃ r M1 M2, (Option.bind (fX1_claimedCells (135 + 2 * m) M) (fun b13 => Option.bind (fX3_has b13 (nI c)) (fun b14 => Option.bind (fX1_setClaim (135 + 2 * m) (nI c) (qI k) M) (fun b16 => Option.bind (fX7_oneIf b14) (fun b17 => some (b17, b16)))))) = some (r, M1) ∧ RD M1 nu A ∧ (if 0 ≤ M1.1 159 (36 * m + c) then some ((1 : Int64), mi M1 159 (36 * m + c) (qI k)) else some ((0 : Int64), mi M1 159 (36 * m + c) (qI k))) = some (r, M2) ∧ Inv (t + 1) M2 := by
  obtain ⟨jc, jd, v, ct, mp, sh, ec, er⟩ := h
  obtain ⟨a1, a2, a3, a4, a5, a6⟩ := mp m hm
  have cr : CR M m (mQ m) := ⟨a4, a5⟩
  obtain ⟨M1, h1, c1, i1, l1⟩ := X1_set hm hc hk cr
  generalize hM2 : mi M1 159 (36 * m + c) (qI k) = M2
  have r2 : ∀ x z, M2.1 x z = if x = 159 ∧ z = 36 * m + c then qI k else M.1 x z := fun x z => by rw [← hM2, ← i1]; rfl
  have l2 : ∀ x z, x ≠ 136 + 2 * m → M2.2 x z = M.2 x z := fun x z p => by rw [← hM2]; exact l1 x z p
  have ff : ∀ x z, x ≠ 159 → M2.1 x z = M.1 x z := fun x z p => by rw [r2, if_neg (fun w => p w.1)]
  refine ⟨if mQ m c < 11 then 1 else 0, M1, M2, ?_, RD_keep2 (fun x z _ _ _ => by rw [i1]) (fun z => l1 _ _ (by omega)) jd, ?_, nu, A, nc, cU, cY, cP, mY, (fun k' => if k' = m then (fun d => if d = c then k else mQ m d) else mQ k'), sB, sN, fi, by omega, ?_⟩
  · rw [X1_claimed hm cr, bnd_some, X3_has_c _ hc, bnd_some, h1, bnd_some]
    by_cases e : mQ m c < 11
    · rw [if_pos e, decide_eq_true e]; rfl
    · rw [if_neg e, decide_eq_false e]; rfl
  · rw [i1, a6 c hc]
    by_cases e : mQ m c < 11
    · rw [if_pos ((qI_pos (a4 c hc)).mpr e), if_pos e, hM2]
    · rw [if_neg (fun z => e ((qI_pos (a4 c hc)).mp z)), if_neg e, hM2]
  · refine ⟨CI_keep (fun x z _ _ => ff x z (by omega)) (fun x z _ _ => l2 x z (by omega)) jc, RD_keep2 (fun x z _ _ _ => ff x z (by omega)) (fun z => l2 _ _ (by omega)) jd, v, CT_keep (fun x z _ _ => ff x z (by omega)) (fun x z _ _ => ff x z (by omega)) (ff _ _ (by omega)) ct, MP_set (q := fun d => if d = c then k else mQ m d) hm mp (fun x z _ _ => ff x z (by omega)) (fun x z _ _ p => l2 x z p) (fun z => ff _ _ (by omega)) (fun z p => by rw [r2, if_neg (by omega)]) c1.1 (fun x hx => by rw [← hM2]; exact c1.2 x hx) (fun d hd => ?_), SH_keep (fun x z _ _ => ff x z (by omega)) (fun x z _ _ => ff x z (by omega)) sh, (ff _ _ (by omega)).trans ec, (l2 _ _ (by omega)).trans er⟩
    rw [r2]
    by_cases e : d = c
    · rw [if_pos ⟨rfl, by omega⟩, if_pos e]
    · rw [if_neg (by omega), if_neg e]; exact a6 d hd
theorem rng_m1 (nu : Nat) : rng 0 ((nu : Int) - 1) (-1) = false := by
  cases h : rng 0 ((nu : Int) - 1) (-1) with
  | false => rfl
  | true =>
    have := (rng_iff.mp h).1
    have m : (-1 : Int32).toInt = -1 := rfl
    rw [m] at this
    omega
theorem rng_10 {nu : Nat} (hn : nu ≤ 10) : rng 0 ((nu : Int) - 1) 10 = false := by
  cases h : rng 0 ((nu : Int) - 1) 10 with
  | false => rfl
  | true =>
    have := (rng_iff.mp h).2
    have m : (10 : Int32).toInt = 10 := rfl
    rw [m] at this
    omega
theorem S_claim {t : Nat} {M : Mem} (h : Inv t M) (x1 x2 x3 : Int32) : Ok t M (fX7_claim 0 x1 x2 x3) (fX8_claim 151 x1 x2 x3) := by
  obtain ⟨nu, A, nc, cU, cY, cP, mY, mQ, sB, sN, f, hf, j⟩ := h
  have hC := j.1
  have hD := j.2.1
  have hDr := (J_ref j).2.1
  have hV := hC.1
  have n10' := hV.1
  cases c1 : rng 0 3 x1 with
  | false => exact Ok_ref hf j (-1000000000000000001) (by simp only [fX7_claim, X7_isMap, c1, bnd_some, Bool.false_eq_true, if_false, if_true, X7_ref]) (by simp only [fX8_claim, X8_isMap, c1, bnd_some, Bool.false_eq_true, if_false, if_true, X8_ref])
  | true =>
    cases c2 : rng 0 35 x2 with
    | false => exact Ok_ref hf j (-1000000000000000001) (by simp only [fX7_claim, X7_isMap, X3_isCell, c1, c2, bnd_some, Bool.false_eq_true, if_false, if_true, i10, X7_ref]) (by simp only [fX8_claim, X8_isMap, X8_isCell, c1, c2, bnd_some, Bool.false_eq_true, if_false, if_true, i10, X8_ref])
    | true =>
      obtain ⟨m, e1, _, hm⟩ := rng_nat (lo := 0) (hi := 3) c1
      obtain ⟨c, e2, _, hc⟩ := rng_nat (lo := 0) (hi := 35) c2
      subst e1
      subst e2
      have g4 : ∀ {α : Type} {E : Option α}, gi (nI m) 4 E = E := fun {_ _} => gi_at (by omega) (by decide)
      have cl : (nI m).toNatClampNeg = m := nI_clamp (by omega)
      have g144 : ∀ {α : Type} {E : Option α}, gi (nI (36 * m + c)) 144 E = E := fun {_ _} => gi_at (by omega) (by decide)
      have cl2 : (nI (36 * m + c)).toNatClampNeg = 36 * m + c := nI_clamp (by omega)
      by_cases q1 : x3 = -1
      · subst q1
        obtain ⟨r, M1, M2, t1, D1, t2, iv⟩ := claim_both hf j (m := m) (c := c) (k := 11) (by omega) (by omega) (by omega)
        refine ⟨r, M1, M2, ?_, ?_, iv⟩
        · simp only [fX7_claim, X7_isMap, X3_isCell, fX7_isClaim, c1, c2, bnd_some, if_false, if_true, i10, r00, X2_isHundredN hV hC.2.1 (rng_m1 nu), r02, l133, g4, cl, ra133]
          exact t1
        · simp only [fX8_claim, X8_isMap, X8_isCell, c1, c2, bnd_some, if_false, if_true, i10, X8_isUnit D1.1 hV.1, rng_m1, Bool.false_eq_true, rM, Nat.reduceAdd, l159, ix36, g144, cl2, lt_def]
          exact t2
      · by_cases q2 : x3 = 10
        · subst q2
          obtain ⟨r, M1, M2, t1, D1, t2, iv⟩ := claim_both hf j (m := m) (c := c) (k := 10) (by omega) (by omega) (by omega)
          refine ⟨r, M1, M2, ?_, ?_, iv⟩
          · simp only [fX7_claim, X7_isMap, X3_isCell, fX7_isClaim, c1, c2, q1, bnd_some, if_false, if_true, i10, r00, X2_isHundredN hV hC.2.1 (rng_10 n10'), r02, l133, g4, cl, ra133]
            exact t1
          · simp only [fX8_claim, X8_isMap, X8_isCell, c1, c2, q1, bnd_some, if_false, if_true, i10, X8_isUnit D1.1 hV.1, rng_10 n10', Bool.false_eq_true, rM, Nat.reduceAdd, l159, ix36, g144, cl2, lt_def]
            exact t2
        · cases c3 : rng 0 ((nu : Int) - 1) x3 with
          | false => exact Ok_ref hf j (-1000000000000000001) (by simp only [fX7_claim, X7_isMap, X3_isCell, fX7_isClaim, r00, X2_hasUnitR hC.2.1.1 hV.1, c1, c2, c3, q1, q2, bnd_some, Bool.false_eq_true, if_false, if_true, i10, X7_ref]) (by simp only [fX8_claim, X8_isMap, X8_isCell, X8_isUnit hDr.1 hV.1, c1, c2, c3, q1, q2, bnd_some, Bool.false_eq_true, if_false, if_true, i10, X8_ref])
          | true =>
            obtain ⟨u, e3, hu⟩ := rng_unit c3
            subst e3
            by_cases h3 : uK A u = 3
            · exact Ok_ref hf j (-1000000000000000004) (by simp only [fX7_claim, X7_isMap, X3_isCell, fX7_isClaim, r00, X2_hasUnitR hC.2.1.1 hV.1, c1, c2, c3, q1, q2, bnd_some, if_false, if_true, i10, X2_isHundred hV hC.2.1 hu, h3, X7_ref]) (by simp only [fX8_claim, X8_isMap, X8_isCell, X8_isUnit hDr.1 hV.1, c1, c2, c3, q1, q2, bnd_some, if_false, if_true, i10, X8_isHundred hV hDr hu, h3, X8_ref])
            · obtain ⟨r, M1, M2, t1, D1, t2, iv⟩ := claim_both hf j (m := m) (c := c) (k := u) (by omega) (by omega) (by omega)
              have qu : qI u = nI u := by unfold qI; rw [if_neg (by omega)]
              rw [qu] at t1 t2
              refine ⟨r, M1, M2, ?_, ?_, iv⟩
              · simp only [fX7_claim, X7_isMap, X3_isCell, fX7_isClaim, c1, c2, c3, q1, q2, X2_hasUnitR hC.2.1.1 hV.1, bnd_some, if_false, if_true, i10, r00, X2_isHundred hV hC.2.1 hu, h3, r02, l133, g4, cl, ra133]
                exact t1
              · simp only [fX8_claim, X8_isMap, X8_isCell, c1, c2, c3, q1, q2, bnd_some, if_false, if_true, i10, X8_isUnit D1.1 hV.1, X8_isHundred hV D1 hu, h3, rM, Nat.reduceAdd, l159, ix36, g144, cl2, lt_def]
                exact t2
