def addA (A : AD) (k y o tt : Nat) (S : Nat → Bool) : AD := (A.1 + 1, fun a => if a = A.1 then k else aK A a, fun a => if a = A.1 then y else aY A a, fun a => if a = A.1 then o else aO A a, fun a => if a = A.1 then tt else aT A a, fun a => if a = A.1 then S else aS A a, uK A)
theorem addA_N (A : AD) (k y o tt : Nat) (S : Nat → Bool) : aN (addA A k y o tt S) = aN A + 1 := rfl
theorem addA_K (A : AD) (k y o tt : Nat) (S : Nat → Bool) : aK (addA A k y o tt S) (aN A) = k := if_pos rfl
theorem addA_Y (A : AD) (k y o tt : Nat) (S : Nat → Bool) : aY (addA A k y o tt S) (aN A) = y := if_pos rfl
theorem addA_O (A : AD) (k y o tt : Nat) (S : Nat → Bool) : aO (addA A k y o tt S) (aN A) = o := if_pos rfl
theorem addA_T (A : AD) (k y o tt : Nat) (S : Nat → Bool) : aT (addA A k y o tt S) (aN A) = tt := if_pos rfl
theorem addA_S (A : AD) (k y o tt : Nat) (S : Nat → Bool) : aS (addA A k y o tt S) (aN A) = S := if_pos rfl
theorem addA_ext (A : AD) (k y o tt : Nat) (S : Nat → Bool) : Ext A (addA A k y o tt S) := by
  refine ⟨rfl, fun a ha => ?_, fun _ => rfl⟩
  have ne : ¬ a = A.1 := fun z => absurd ha (by show ¬ a < A.1; omega)
  exact ⟨if_neg ne, if_neg ne, if_neg ne, if_neg ne, if_neg ne⟩
/-- what a told act must be -/
def TA (nu : Nat) (A : AD) (k y o tt : Nat) : Prop := k ≤ 4 ∧ 1000 ≤ y ∧ y ≤ 1999 ∧ (k ≠ 3 → o < nu ∧ uK A o ≠ 3) ∧ (k = 1 ∨ k = 2 → tt < nu ∧ o ≠ tt ∧ uK A tt ≠ 3) ∧ (k = 4 → tt < nu ∧ uK A tt = 3) ∧ (k = 3 → o < aN A ∧ aK A o ≤ 2 ∧ aY A o ≤ y)
theorem addA_VA {nu k y o tt : Nat} {A : AD} {S : Nat → Bool} (h : VA nu A) (h30 : aN A < 30) (q : TA nu A k y o tt) : VA nu (addA A k y o tt S) := by
  have E := addA_ext A k y o tt S
  refine ⟨h.1, by rw [addA_N]; omega, h.2.2.1, fun a ha => ?_⟩
  rw [addA_N] at ha
  by_cases e : a = aN A
  · subst e
    rw [addA_K, addA_Y, addA_O, addA_T]
    refine ⟨q.1, q.2.1, q.2.2.1, fun z => (q.2.2.2.1 z).1, fun z => ⟨(q.2.2.2.2.1 z).1, (q.2.2.2.2.1 z).2.1⟩, fun z => (q.2.2.2.2.2.1 z).1, fun z => ?_⟩
    obtain ⟨l, b, c⟩ := q.2.2.2.2.2.2 z
    rw [(E.2.1 o l).1, (E.2.1 o l).2.1]
    exact ⟨l, b, c⟩
  · have l : a < aN A := by omega
    obtain ⟨e1, e2, e3, e4, _⟩ := E.2.1 a l
    rw [e1, e2, e3, e4]
    have v := h.2.2.2 a l
    refine ⟨v.1, v.2.1, v.2.2.1, v.2.2.2.1, v.2.2.2.2.1, v.2.2.2.2.2.1, fun z => ?_⟩
    obtain ⟨m, b, c⟩ := v.2.2.2.2.2.2 z
    have l2 : aO A a < aN A := by omega
    rw [(E.2.1 _ l2).1, (E.2.1 _ l2).2.1]
    exact ⟨m, b, c⟩
theorem addA_VH {nu k y o tt : Nat} {A : AD} {S : Nat → Bool} (h : VH nu A) (q : TA nu A k y o tt) : VH nu (addA A k y o tt S) := by
  have E := addA_ext A k y o tt S
  intro a ha
  rw [addA_N] at ha
  show (_ → uK A _ ≠ 3) ∧ (_ → uK A _ ≠ 3) ∧ (_ → uK A _ = 3)
  by_cases e : a = aN A
  · subst e
    rw [addA_K, addA_O, addA_T]
    exact ⟨fun z => (q.2.2.2.1 z).2, fun z => (q.2.2.2.2.1 z).2.2, fun z => (q.2.2.2.2.2.1 z).2⟩
  · have l : a < aN A := by omega
    obtain ⟨e1, e2, e3, e4, _⟩ := E.2.1 a l
    rw [e1, e3, e4]
    exact h a l
theorem X8_add {M : Mem} {nu k y o tt : Nat} {A : AD} {S : Nat → Bool} {x4 : Int32} {x5 : Int64} (hV : VA nu A) (hD : RD M nu A) (h30 : aN A < 30) (q : TA nu A k y o tt) (e4 : k = 1 ∨ k = 2 ∨ k = 4 → x4 = nI tt) (e5 : k = 0 ∨ k = 1 → x5 = cset S) :
    ∃ M', fX8_add 151 (nI k) (nI y) (nI o) x4 x5 M = some ((nI (aN A)).toInt64, M') ∧ RD M' nu (addA A k y o tt S) ∧ (∀ x z, ¬ (153 ≤ x ∧ x ≤ 156) → ¬ (x = 151 ∧ z = 1) → M'.1 x z = M.1 x z) ∧ ∀ x z, x ≠ 157 → M'.2 x z = M.2 x z := by
  have E := addA_ext A k y o tt S
  have n1 : ¬ nI (aN A) = (30 : Int32) := nI_lit (k := 30) (by omega) (by decide) (by omega)
  unfold fX8_add
  simp only [rM, lt_def, Nat.reduceAdd, l153, l154, l155, l156, l157, ml_1]
  rw [hD.2.2.1, if_neg n1]
  simp only [mi_1, hD.2.2.1, show ∀ b c : Nat, ¬ (151 = 153 ∧ b = c) from fun _ _ z => absurd z.1 (by decide), show ∀ b c : Nat, ¬ (151 = 154 ∧ b = c) from fun _ _ z => absurd z.1 (by decide), show ∀ b c : Nat, ¬ (151 = 155 ∧ b = c) from fun _ _ z => absurd z.1 (by decide), show ∀ b c : Nat, ¬ (151 = 156 ∧ b = c) from fun _ _ z => absurd z.1 (by decide), if_false, nI_clamp (show aN A < 2 ^ 31 by omega), gi_at (show aN A < 30 from h30) (show 30 < 2 ^ 31 by decide), and_self, if_true]
  rw [show nI (aN A) + 1 - 1 = nI (aN A) by rw [nI_1]; exact pk_sub (a := aN A + 1) (b := 1) (by omega)]
  generalize hM' : mi (ml (mi (mi (mi (mi M 153 (aN A) (nI k)) 154 (aN A) (nI y)) 155 (aN A) (nI o)) 156 (aN A) x4) 157 (aN A) x5) 151 1 (nI (aN A) + 1) = M'
  have rd : ∀ x z, M'.1 x z = if x = 151 ∧ z = 1 then nI (aN A) + 1 else if x = 156 ∧ z = aN A then x4 else if x = 155 ∧ z = aN A then nI o else if x = 154 ∧ z = aN A then nI y else if x = 153 ∧ z = aN A then nI k else M.1 x z := fun x z => by rw [← hM']; rfl
  have rl : ∀ x z, M'.2 x z = if x = 157 ∧ z = aN A then x5 else M.2 x z := fun x z => by rw [← hM']; rfl
  have f1 : ∀ x z, ¬ (153 ≤ x ∧ x ≤ 156) → ¬ (x = 151 ∧ z = 1) → M'.1 x z = M.1 x z := fun x z p p2 => by rw [rd, if_neg p2, if_neg (by omega), if_neg (by omega), if_neg (by omega), if_neg (by omega)]
  refine ⟨M', rfl, ⟨(f1 _ _ (by omega) (by omega)).trans hD.1, fun u hu => (f1 _ _ (by omega) (by omega)).trans (hD.2.1 u hu), ?_, fun a ha => ?_⟩, f1, fun x z p => by rw [rl, if_neg (fun w => p w.1)]⟩
  · rw [rd, if_pos ⟨rfl, rfl⟩, addA_N]; exact nI_1 _
  · rw [addA_N] at ha
    by_cases e : a = aN A
    · subst e
      rw [addA_K, addA_Y, addA_O, addA_T, addA_S]
      refine ⟨?_, ?_, ?_, fun z => ?_, fun z => ?_⟩
      · rw [rd, if_neg (by omega), if_neg (by omega), if_neg (by omega), if_neg (by omega), if_pos ⟨rfl, rfl⟩]
      · rw [rd, if_neg (by omega), if_neg (by omega), if_neg (by omega), if_pos ⟨rfl, rfl⟩]
      · rw [rd, if_neg (by omega), if_neg (by omega), if_pos ⟨rfl, rfl⟩]
      · rw [rd, if_neg (by omega), if_pos ⟨rfl, rfl⟩]; exact e4 z
      · rw [rl, if_pos ⟨rfl, rfl⟩]; exact e5 z
    · have l : a < aN A := by omega
      obtain ⟨e1, e2, e3, e6, e7⟩ := E.2.1 a l
      rw [e1, e2, e3, e6, e7]
      have d := hD.2.2.2 a l
      have fa : ∀ x, x ≠ 151 → M'.1 x a = M.1 x a := fun x p => by rw [rd, if_neg (by omega), if_neg (by omega), if_neg (by omega), if_neg (by omega), if_neg (by omega)]
      exact ⟨(fa _ (by decide)).trans d.1, (fa _ (by decide)).trans d.2.1, (fa _ (by decide)).trans d.2.2.1, fun z => (fa _ (by decide)).trans (d.2.2.2.1 z), fun z => by rw [rl, if_neg (fun w => e w.2)]; exact d.2.2.2.2 z⟩
theorem bnd_eta {α β : Type} (x : Option (α × β)) : Option.bind x (fun b => some (b.1, b.2)) = x := by cases x <;> rfl
theorem X7_refE {M : Mem} {k : Int64} : fX7_refuse 0 k M = some (k, rfM M) := rfl
theorem X8_refE {M : Mem} {k : Int64} : fX8_told0 151 k M = some (k, tdM M) := rfl
/-- the class tells an act, and counts a finding -/
noncomputable def tellC (k o x3 y : Int32) (x5 : Int64) (M : Mem) : Option (Int64 × Mem) := Option.bind (fX2_tell 1 k o x3 y x5 M) (fun b => fX7_counted 0 b.1 b.2)
theorem X7_counted1 {n : Nat} {M : Mem} (h : n < 2 ^ 31) : fX7_counted 0 (nI n).toInt64 M = some ((nI n).toInt64, M) := by
  unfold fX7_counted
  rw [if_pos]
  rw [lg_cmp_ge, Int64.le_iff_toInt_le, Int32.toInt_toInt64, nI_toInt (by omega)]
  have : (-1000000000000000000 : Int64).toInt = -1000000000000000000 := by decide
  omega
theorem X7_counted5 {M : Mem} : fX7_counted 0 (-1000000000000000005) M = some (-1000000000000000005, rfM M) := by
  unfold fX7_counted
  rw [if_neg (by decide)]
  rfl
/-- class and reference tell one act more -/
theorem tell_both {t : Nat} {M : Mem} {nu : Nat} {A : AD} {nc : Nat} {cU cY cP mY : Nat → Nat} {mQ : Nat → Nat → Nat} {sB sN : Nat → Nat} {fi : Nat} (ht : fi ≤ t) (h : J M nu A nc cU cY cP mY mQ sB sN fi fi) {k y o tt : Nat} (S : Nat → Bool) {x3 x4 : Int32} {x5 x6 : Int64} (q : TA nu A k y o tt) (e3 : k = 1 ∨ k = 2 ∨ k = 4 → x3 = nI tt) (e5 : k = 0 ∨ k = 1 → x5 = cset S) (e4 : k = 1 ∨ k = 2 ∨ k = 4 → x4 = nI tt) (e6 : k = 0 ∨ k = 1 → x6 = cset S) :
    ∃ r M1 M2, tellC (nI k) (nI o) x3 (nI y) x5 M = some (r, M1) ∧ RD M1 nu A ∧ fX8_add 151 (nI k) (nI y) (nI o) x4 x6 M1 = some (r, M2) ∧ Inv (t + 1) M2 := by
  have hC := h.1
  have hD := h.2.1
  have hV := hC.1
  have n30 := hV.2.1
  unfold tellC
  have ha : fX2_hasAllActs 1 M = some (if aN A < 30 then 0 else 1) := by
    unfold fX2_hasAllActs
    rw [hC.2.1.2.2.1]
    by_cases e : aN A < 30
    · rw [if_pos (show nI (aN A) < (30 : Int32) from (nI_ltI (b := 30) (by omega) (by decide)).mpr e), if_pos e]
    · rw [if_neg (show ¬ nI (aN A) < (30 : Int32) from fun z => e ((nI_ltI (b := 30) (by omega) (by decide)).mp z)), if_neg e]
  by_cases e : aN A < 30
  · obtain ⟨M1, h1, C1, f1⟩ := X2_tell (x1 := nI k) (x2 := nI o) (x3 := x3) (x4 := nI y) (x5 := x5) hC e (addA_ext A k y o tt S) (addA_VA hV e q) (by rw [addA_K]) (by rw [addA_Y]) (by rw [addA_O]) (by rw [addA_K, addA_T]; exact e3) (by rw [addA_K, addA_S]; exact e5)
    have D1 : RD M1 nu A := RD_keep2 (fun x z _ _ _ => f1.1 x z (by omega) (by omega) (by omega)) (fun z => f1.2 _ _ (by omega)) hD
    obtain ⟨M2, h2, D2, g1, g2⟩ := X8_add (S := S) hV D1 e q e4 e6
    rw [h1, bnd_some, X7_counted1 (by omega)]
    refine ⟨_, M1, M2, rfl, D1, h2, nu, addA A k y o tt S, nc, cU, cY, cP, mY, mQ, sB, sN, fi, by omega, ?_⟩
    obtain ⟨_, _, v, ct, mp, sh, ec, er⟩ := h
    have a1 : ∀ x z, ¬ (6 ≤ x ∧ x < 129) → x ≠ 4 → ¬ (x = 1 ∧ z = 5) → ¬ (153 ≤ x ∧ x ≤ 156) → ¬ (x = 151 ∧ z = 1) → M2.1 x z = M.1 x z := fun x z p1 p2 p3 p4 p5 => (g1 x z p4 p5).trans (f1.1 x z p1 p2 p3)
    have a2 : ∀ x z, ¬ (6 ≤ x ∧ x < 129) → x ≠ 157 → M2.2 x z = M.2 x z := fun x z p1 p2 => (g2 x z p2).trans (f1.2 x z p1)
    exact ⟨CI_keep (fun x z _ _ => g1 x z (by omega) (by omega)) (fun x z _ _ => g2 x z (by omega)) C1, D2, addA_VH v q, CT_keep (fun x z _ _ => a1 x z (by omega) (by omega) (by omega) (by omega) (by omega)) (fun x z _ _ => a1 x z (by omega) (by omega) (by omega) (by omega) (by omega)) (a1 _ _ (by omega) (by omega) (by omega) (by omega) (by omega)) ct, MP_keep (fun x z _ _ => a1 x z (by omega) (by omega) (by omega) (by omega) (by omega)) (fun x z _ _ => a2 x z (by omega) (by omega)) (fun x z _ _ => a1 x z (by omega) (by omega) (by omega) (by omega) (by omega)) mp, SH_keep (fun x z _ _ => a1 x z (by omega) (by omega) (by omega) (by omega) (by omega)) (fun x z _ _ => a1 x z (by omega) (by omega) (by omega) (by omega) (by omega)) sh, (a1 _ _ (by omega) (by omega) (by omega) (by omega) (by omega)).trans ec, (a2 _ _ (by omega) (by omega)).trans er⟩
  · have e30 : aN A = 30 := by omega
    have hf : fX2_tell 1 (nI k) (nI o) x3 (nI y) x5 M = some (-1000000000000000005, M) := by
      unfold fX2_tell
      rw [ha, bnd_some, if_neg e, if_neg (by decide)]
    rw [hf, bnd_some, X7_counted5]
    refine ⟨-1000000000000000005, rfM M, tdM (rfM M), rfl, (J_ref h).2.1, ?_, nu, A, nc, cU, cY, cP, mY, mQ, sB, sN, fi + 1, by omega, J_tdM (J_ref h)⟩
    unfold fX8_add
    rw [(J_ref h).2.1.2.2.1, e30, if_pos (show nI 30 = (30 : Int32) from rfl)]
    rfl
