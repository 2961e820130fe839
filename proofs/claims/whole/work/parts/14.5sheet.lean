theorem X_fill {M : Mem} {o N : Nat} {x : Int32} (hN : ln o = N) (h31 : N < 2 ^ 31) : fJ7_fill_53178 o x M = some (msi M o N (fun _ => x)) := by
  unfold fJ7_fill_53178
  simp only [lt_def]
  rw [hN]
  have k := wh_seq (body := wJ7_fill_53178_5 o x (nI N)) (fun i => (nI i, msi M o i (fun _ => x))) N (nI N, msi M o N (fun _ => x)) (fun i hi => by
    unfold wJ7_fill_53178_5
    dsimp only
    rw [if_neg (nle hi h31), hN, gi_at hi h31, nI_clamp (show i < 2 ^ 31 by omega)]
    simp only [lt_def, nI_1]
    rw [msi_s M o i (fun _ => x) x rfl]) (by
    unfold wJ7_fill_53178_5
    dsimp only
    rw [if_pos (ele _ h31)])
  rw [show ((0 : Int32), M) = (nI 0, msi M o 0 (fun _ => x)) by rw [msi_0]; rfl, k, bnd_some]
theorem X8_wipe {M : Mem} {s : Nat} (hs : s < 4) : ∃ M', wh (wX8_sheet_88 151 (nI s)) (0, M) = some (nI 36, M') ∧ M'.2 = M.2 ∧ (∀ j, j < 36 → M'.1 165 (36 * s + j) = 0) ∧ ∀ x y, ¬ (x = 165 ∧ 36 * s ≤ y ∧ y < 36 * s + 36) → M'.1 x y = M.1 x y := by
  have key := wh_inv (body := wX8_sheet_88 151 (nI s))
    (fun i z => z.1 = nI i ∧ z.2.2 = M.2 ∧ (∀ j, j < i → z.2.1 165 (36 * s + j) = 0) ∧ ∀ x y, ¬ (x = 165 ∧ 36 * s ≤ y ∧ y < 36 * s + 36) → z.2.1 x y = M.1 x y) 36
    (fun r => r.1 = nI 36 ∧ r.2.2 = M.2 ∧ (∀ j, j < 36 → r.2.1 165 (36 * s + j) = 0) ∧ ∀ x y, ¬ (x = 165 ∧ 36 * s ≤ y ∧ y < 36 * s + 36) → r.2.1 x y = M.1 x y)
    (by
      rintro i ⟨z1, z2⟩ hi ⟨q1, q2, q3, q4⟩
      dsimp only at q1 q2 q3 q4
      subst q1
      unfold wX8_sheet_88
      dsimp only
      simp only [rM, lt_def, Nat.reduceAdd, l165, nI_1]
      rw [if_neg (n36 hi), ix36, gi_at (by omega) (by decide), nI_clamp (show 36 * s + i < 2 ^ 31 by omega)]
      refine ⟨_, rfl, rfl, q2, fun j hj => ?_, fun x y p => ?_⟩
      · dsimp only
        rw [mi_1]
        by_cases e : j = i
        · rw [if_pos ⟨rfl, by omega⟩]
        · rw [if_neg (by omega)]; exact q3 j (by omega)
      · dsimp only
        rw [mi_1, if_neg (by omega)]; exact q4 x y p)
    (by
      rintro ⟨z1, z2⟩ ⟨q1, q2, q3, q4⟩
      dsimp only at q1 q2 q3 q4
      subst q1
      refine ⟨(nI 36, z2), ?_, rfl, q2, q3, q4⟩
      unfold wX8_sheet_88
      dsimp only
      rw [if_pos e36])
    36 0 (0, M) (by omega) ⟨rfl, rfl, fun j hj => absurd hj (by omega), fun _ _ _ => rfl⟩
  obtain ⟨⟨r1, M'⟩, hr, p1, p2, p3, p4⟩ := key
  dsimp only at p1 p2 p3 p4
  subst p1
  exact ⟨M', hr, p2, p3, p4⟩
theorem sheet_both {t : Nat} {M : Mem} {nu : Nat} {A : AD} {nc : Nat} {cU cY cP mY : Nat → Nat} {mQ : Nat → Nat → Nat} {sB sN : Nat → Nat} {fi : Nat} (ht : fi ≤ t) (h : J M nu A nc cU cY cP mY mQ sB sN fi fi) {s b n : Nat} (hs : s < 4) (hb : b = 0 ∨ b = 8 ∨ b = 16 ∨ b = 32) (hn : n ≤ 36) :
    ∃ r M1 M2, fX5_renew (143 + 2 * s) (nI b) (nI n) M = some (r, M1) ∧ (∀ y, M1.1 151 y = M.1 151 y) ∧
      (lt (mi M1 163 s (nI b)) (fun M7 => Option.bind (if nI b = 0 then (some (0 : Int32)) else (some (nI n))) (fun j8 => lt (mi M7 164 s j8) (fun M10 => Option.bind (wh (wX8_sheet_88 151 (nI s)) ((0 : Int32), M10)) (fun r15 => some ((r15.2.1 164 s).toInt64, r15.2)))))) = some (r.toInt64, M2) ∧ Inv (t + 1) M2 := by
  have b31 : b < 2 ^ 31 := by omega
  have b0 : nI b = 0 ↔ b = 0 := nI_eq (b := 0) b31 (by omega)
  generalize hn' : (if b = 0 then 0 else n) = n'
  have le : n' ≤ 36 := by rw [← hn']; split <;> omega
  have rf0 : rf (143 + 2 * s) 0 = 144 + 2 * s := rf_s hs
  generalize hM1 : msi (mi (mi M (143 + 2 * s) 1 (nI b)) (143 + 2 * s) 2 (nI n')) (144 + 2 * s) 36 (fun _ => 0) = M1
  have r1 : ∀ x y, M1.1 x y = if x = 144 + 2 * s ∧ y < 36 then 0 else if x = 143 + 2 * s ∧ y = 2 then nI n' else if x = 143 + 2 * s ∧ y = 1 then nI b else M.1 x y := fun x y => by rw [← hM1]; rfl
  have l1 : M1.2 = M.2 := by rw [← hM1]; rfl
  have f1 : ∀ x y, ¬ (143 ≤ x ∧ x < 151) → M1.1 x y = M.1 x y := fun x y p => by rw [r1, if_neg (by omega), if_neg (by omega), if_neg (by omega)]
  obtain ⟨M2, h2, l2, z2, f2⟩ := X8_wipe (M := mi (mi M1 163 s (nI b)) 164 s (nI n')) hs
  have e164 : M2.1 164 s = nI n' := by rw [f2 _ _ (by omega), mi_1, if_pos ⟨rfl, rfl⟩]
  have g2 : ∀ x y, ¬ (x = 165 ∧ 36 * s ≤ y ∧ y < 36 * s + 36) → ¬ (x = 163 ∧ y = s) → ¬ (x = 164 ∧ y = s) → M2.1 x y = M1.1 x y := fun x y p q w => by rw [f2 x y p, mi_1, if_neg w, mi_1, if_neg q]
  have a1 : ∀ x y, ¬ (143 ≤ x ∧ x < 151) → ¬ (163 ≤ x ∧ x < 166) → M2.1 x y = M.1 x y := fun x y p q => (g2 x y (by omega) (by omega) (by omega)).trans (f1 x y p)
  have a2 : ∀ x y, M2.2 x y = M.2 x y := fun x y => by rw [l2, mi_2, mi_2, l1]
  refine ⟨nI n', M1, M2, ?_, fun y => f1 _ _ (by omega), ?_, nu, A, nc, cU, cY, cP, mY, mQ, (fun k => if k = s then b else sB k), (fun k => if k = s then n' else sN k), fi, by omega, ?_⟩
  · unfold fX5_renew
    simp only [lt_def]
    by_cases e : b = 0
    · rw [if_pos (b0.mpr e), rf0, X_fill (ln_s hs) (by decide), bnd_some]
      have e2 : n' = 0 := by rw [← hn', if_pos e]
      have e3 : nI n' = (0 : Int32) := by rw [e2]; rfl
      rw [← hM1, e3, msi_1, if_neg (by omega), mi_1, if_pos ⟨rfl, rfl⟩]
    · rw [if_neg (fun z => e (b0.mp z)), rf0, X_fill (ln_s hs) (by decide), bnd_some]
      have e2 : n = n' := by rw [← hn', if_neg e]
      rw [e2, hM1]
      rw [r1, if_neg (by omega), if_pos ⟨rfl, rfl⟩]
  · have jn : (if nI b = 0 then (some (0 : Int32)) else (some (nI n))) = some (nI n') := by
      by_cases e : b = 0
      · rw [if_pos (b0.mpr e), ← hn', if_pos e]; rfl
      · rw [if_neg (fun z => e (b0.mp z)), ← hn', if_neg e]
    simp only [lt_def]
    rw [jn, bnd_some, h2, bnd_some]
    dsimp only
    rw [e164]
  · obtain ⟨jc, jd, v, ct, mp, sh, ec, er⟩ := h
    refine ⟨CI_keep (fun x y _ _ => a1 x y (by omega) (by omega)) (fun x y _ _ => a2 x y) jc, RD_keep2 (fun x y _ _ _ => a1 x y (by omega) (by omega)) (fun y => a2 _ y) jd, v, CT_keep (fun x y _ _ => a1 x y (by omega) (by omega)) (fun x y _ _ => a1 x y (by omega) (by omega)) (a1 _ _ (by omega) (by omega)) ct, MP_keep (fun x y _ _ => a1 x y (by omega) (by omega)) (fun x y _ _ => a2 x y) (fun x y _ _ => a1 x y (by omega) (by omega)) mp, fun k hk => ?_, (a1 _ _ (by omega) (by omega)).trans ec, (a2 _ _).trans er⟩
    dsimp only
    by_cases e : k = s
    · subst e
      simp only [if_true]
      refine ⟨hb, le, ?_, ?_, ?_, e164, fun j hj => ?_⟩
      · rw [g2 _ _ (by omega) (by omega) (by omega), r1, if_neg (by omega), if_neg (by omega), if_pos ⟨rfl, rfl⟩]
      · rw [f2 _ _ (by omega), mi_1, if_neg (by omega), mi_1, if_pos ⟨rfl, rfl⟩]
      · rw [g2 _ _ (by omega) (by omega) (by omega), r1, if_neg (by omega), if_pos ⟨rfl, rfl⟩]
      · rw [z2 j hj, g2 _ _ (by omega) (by omega) (by omega), r1, if_pos ⟨rfl, hj⟩]
        exact fun _ _ => Iff.rfl
    · simp only [e, if_false]
      obtain ⟨c1, c2, c3, c4, c5, c6, c7⟩ := sh k hk
      have fk : ∀ x y, x = 143 + 2 * k ∨ x = 144 + 2 * k → M2.1 x y = M.1 x y := fun x y p => by rw [g2 _ _ (by omega) (by omega) (by omega), r1, if_neg (by omega), if_neg (by omega), if_neg (by omega)]
      have fr : ∀ x, x = 163 ∨ x = 164 → M2.1 x k = M.1 x k := fun x p => by rw [g2 _ _ (by omega) (by omega) (by omega), r1, if_neg (by omega), if_neg (by omega), if_neg (by omega)]
      refine ⟨c1, c2, (fk _ _ (Or.inl rfl)).trans c3, (fr _ (Or.inl rfl)).trans c4, (fk _ _ (Or.inl rfl)).trans c5, (fr _ (Or.inr rfl)).trans c6, fun j hj => ?_⟩
      rw [fk _ _ (Or.inr rfl), g2 _ _ (by omega) (by omega) (by omega), f1 _ _ (by omega)]
      exact c7 j hj
theorem S_sheet {t : Nat} {M : Mem} (h : Inv t M) (x1 x2 x3 : Int32) : Ok t M (fX7_sheet 0 x1 x2 x3) (fX8_sheet 151 x1 x2 x3) := by
  obtain ⟨nu, A, nc, cU, cY, cP, mY, mQ, sB, sN, f, hf, j⟩ := h
  cases c1 : rng 0 3 x1 with
  | false => exact Ok_ref hf j (-1000000000000000001) (by simp only [fX7_sheet, X7_isSheet, c1, bnd_some, Bool.false_eq_true, if_false, if_true, X7_ref]) (by simp only [fX8_sheet, X8_isSheet, c1, bnd_some, Bool.false_eq_true, if_false, if_true, X8_ref])
  | true =>
    obtain ⟨s, e1, _, hs⟩ := rng_nat (lo := 0) (hi := 3) c1
    subst e1
    have g4 : ∀ {α : Type} {E : Option α}, gi (nI s) 4 E = E := fun {_ _} => gi_at (by omega) (by decide)
    have cl : (nI s).toNatClampNeg = s := nI_clamp (by omega)
    by_cases b0 : x2 = 0
    · subst b0
      by_cases p0 : 0 ≤ x3
      · by_cases p1 : x3 ≤ 36
        · obtain ⟨n, e3, _, hn⟩ := rng_nat (lo := 0) (hi := 36) (x := x3) (by rw [rng_iff]; exact ⟨Int32.le_iff_toInt_le.mp p0, Int32.le_iff_toInt_le.mp p1⟩)
          subst e3
          obtain ⟨r, M1, M2, t1, _, t2, iv⟩ := sheet_both (s := s) (b := 0) (n := n) hf j (by omega) (by omega) hn
          refine ⟨r.toInt64, M1, M2, ?_, ?_, iv⟩
          · simp only [fX7_sheet, X7_isSheet, c1, bnd_some, if_false, if_true, i10, p0, p1, r03, l134, g4, cl, ra134]
            rw [show fX5_renew (143 + 2 * s) 0 (nI n) M = some (r, M1) from t1, bnd_some]
          · simp only [fX8_sheet, X8_isSheet, c1, bnd_some, if_false, if_true, i10, p0, p1, rM, Nat.reduceAdd, l163, l164, g4, cl]
            simp only [lt_def] at t2 ⊢
            exact t2
        · exact Ok_ref hf j (-1000000000000000001) (by simp only [fX7_sheet, X7_isSheet, c1, bnd_some, if_false, if_true, i10, p0, p1, X7_ref]) (by simp only [fX8_sheet, X8_isSheet, c1, bnd_some, if_false, if_true, i10, p0, p1, X8_ref])
      · exact Ok_ref hf j (-1000000000000000003) (by simp only [fX7_sheet, X7_isSheet, c1, bnd_some, if_false, if_true, i10, p0, X7_ref]) (by simp only [fX8_sheet, X8_isSheet, c1, bnd_some, if_false, if_true, i10, p0, X8_ref])
    · skip
      by_cases b8 : x2 = 8
      · subst b8
        by_cases p0 : 0 ≤ x3
        · by_cases p1 : x3 ≤ 36
          · obtain ⟨n, e3, _, hn⟩ := rng_nat (lo := 0) (hi := 36) (x := x3) (by rw [rng_iff]; exact ⟨Int32.le_iff_toInt_le.mp p0, Int32.le_iff_toInt_le.mp p1⟩)
            subst e3
            obtain ⟨r, M1, M2, t1, _, t2, iv⟩ := sheet_both (s := s) (b := 8) (n := n) hf j (by omega) (by omega) hn
            refine ⟨r.toInt64, M1, M2, ?_, ?_, iv⟩
            · simp only [fX7_sheet, X7_isSheet, c1, bnd_some, if_false, if_true, i10, p0, p1, r03, l134, g4, cl, ra134, show (((8 : Int32) = 0) = False) from by decide]
              rw [show fX5_renew (143 + 2 * s) 8 (nI n) M = some (r, M1) from t1, bnd_some]
            · simp only [fX8_sheet, X8_isSheet, c1, bnd_some, if_false, if_true, i10, p0, p1, rM, Nat.reduceAdd, l163, l164, g4, cl, show (((8 : Int32) = 0) = False) from by decide]
              simp only [lt_def] at t2 ⊢
              exact t2
          · exact Ok_ref hf j (-1000000000000000001) (by simp only [fX7_sheet, X7_isSheet, c1, bnd_some, if_false, if_true, i10, p0, p1, X7_ref, show (((8 : Int32) = 0) = False) from by decide]) (by simp only [fX8_sheet, X8_isSheet, c1, bnd_some, if_false, if_true, i10, p0, p1, X8_ref, show (((8 : Int32) = 0) = False) from by decide])
        · exact Ok_ref hf j (-1000000000000000003) (by simp only [fX7_sheet, X7_isSheet, c1, bnd_some, if_false, if_true, i10, p0, X7_ref, show (((8 : Int32) = 0) = False) from by decide]) (by simp only [fX8_sheet, X8_isSheet, c1, bnd_some, if_false, if_true, i10, p0, X8_ref, show (((8 : Int32) = 0) = False) from by decide])
      · skip
        by_cases b16 : x2 = 16
        · subst b16
          by_cases p0 : 0 ≤ x3
          · by_cases p1 : x3 ≤ 36
            · obtain ⟨n, e3, _, hn⟩ := rng_nat (lo := 0) (hi := 36) (x := x3) (by rw [rng_iff]; exact ⟨Int32.le_iff_toInt_le.mp p0, Int32.le_iff_toInt_le.mp p1⟩)
              subst e3
              obtain ⟨r, M1, M2, t1, _, t2, iv⟩ := sheet_both (s := s) (b := 16) (n := n) hf j (by omega) (by omega) hn
              refine ⟨r.toInt64, M1, M2, ?_, ?_, iv⟩
              · simp only [fX7_sheet, X7_isSheet, c1, bnd_some, if_false, if_true, i10, p0, p1, r03, l134, g4, cl, ra134, show (((16 : Int32) = 0) = False) from by decide, show (((16 : Int32) = 8) = False) from by decide]
                rw [show fX5_renew (143 + 2 * s) 16 (nI n) M = some (r, M1) from t1, bnd_some]
              · simp only [fX8_sheet, X8_isSheet, c1, bnd_some, if_false, if_true, i10, p0, p1, rM, Nat.reduceAdd, l163, l164, g4, cl, show (((16 : Int32) = 0) = False) from by decide, show (((16 : Int32) = 8) = False) from by decide]
                simp only [lt_def] at t2 ⊢
                exact t2
            · exact Ok_ref hf j (-1000000000000000001) (by simp only [fX7_sheet, X7_isSheet, c1, bnd_some, if_false, if_true, i10, p0, p1, X7_ref, show (((16 : Int32) = 0) = False) from by decide, show (((16 : Int32) = 8) = False) from by decide]) (by simp only [fX8_sheet, X8_isSheet, c1, bnd_some, if_false, if_true, i10, p0, p1, X8_ref, show (((16 : Int32) = 0) = False) from by decide, show (((16 : Int32) = 8) = False) from by decide])
          · exact Ok_ref hf j (-1000000000000000003) (by simp only [fX7_sheet, X7_isSheet, c1, bnd_some, if_false, if_true, i10, p0, X7_ref, show (((16 : Int32) = 0) = False) from by decide, show (((16 : Int32) = 8) = False) from by decide]) (by simp only [fX8_sheet, X8_isSheet, c1, bnd_some, if_false, if_true, i10, p0, X8_ref, show (((16 : Int32) = 0) = False) from by decide, show (((16 : Int32) = 8) = False) from by decide])
        · skip
          by_cases b32 : x2 = 32
          · subst b32
            by_cases p0 : 0 ≤ x3
            · by_cases p1 : x3 ≤ 36
              · obtain ⟨n, e3, _, hn⟩ := rng_nat (lo := 0) (hi := 36) (x := x3) (by rw [rng_iff]; exact ⟨Int32.le_iff_toInt_le.mp p0, Int32.le_iff_toInt_le.mp p1⟩)
                subst e3
                obtain ⟨r, M1, M2, t1, _, t2, iv⟩ := sheet_both (s := s) (b := 32) (n := n) hf j (by omega) (by omega) hn
                refine ⟨r.toInt64, M1, M2, ?_, ?_, iv⟩
                · simp only [fX7_sheet, X7_isSheet, c1, bnd_some, if_false, if_true, i10, p0, p1, r03, l134, g4, cl, ra134, show (((32 : Int32) = 0) = False) from by decide, show (((32 : Int32) = 8) = False) from by decide, show (((32 : Int32) = 16) = False) from by decide]
                  rw [show fX5_renew (143 + 2 * s) 32 (nI n) M = some (r, M1) from t1, bnd_some]
                · simp only [fX8_sheet, X8_isSheet, c1, bnd_some, if_false, if_true, i10, p0, p1, rM, Nat.reduceAdd, l163, l164, g4, cl, show (((32 : Int32) = 0) = False) from by decide, show (((32 : Int32) = 8) = False) from by decide, show (((32 : Int32) = 16) = False) from by decide]
                  simp only [lt_def] at t2 ⊢
                  exact t2
              · exact Ok_ref hf j (-1000000000000000001) (by simp only [fX7_sheet, X7_isSheet, c1, bnd_some, if_false, if_true, i10, p0, p1, X7_ref, show (((32 : Int32) = 0) = False) from by decide, show (((32 : Int32) = 8) = False) from by decide, show (((32 : Int32) = 16) = False) from by decide]) (by simp only [fX8_sheet, X8_isSheet, c1, bnd_some, if_false, if_true, i10, p0, p1, X8_ref, show (((32 : Int32) = 0) = False) from by decide, show (((32 : Int32) = 8) = False) from by decide, show (((32 : Int32) = 16) = False) from by decide])
            · exact Ok_ref hf j (-1000000000000000003) (by simp only [fX7_sheet, X7_isSheet, c1, bnd_some, if_false, if_true, i10, p0, X7_ref, show (((32 : Int32) = 0) = False) from by decide, show (((32 : Int32) = 8) = False) from by decide, show (((32 : Int32) = 16) = False) from by decide]) (by simp only [fX8_sheet, X8_isSheet, c1, bnd_some, if_false, if_true, i10, p0, X8_ref, show (((32 : Int32) = 0) = False) from by decide, show (((32 : Int32) = 8) = False) from by decide, show (((32 : Int32) = 16) = False) from by decide])
          · exact Ok_ref hf j (-1000000000000000001) (by simp only [fX7_sheet, X7_isSheet, c1, bnd_some, if_false, if_true, i10, b0, b8, b16, b32, X7_ref]) (by simp only [fX8_sheet, X8_isSheet, c1, bnd_some, if_false, if_true, i10, b0, b8, b16, b32, X8_ref])
