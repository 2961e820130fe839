theorem cmp0 (x : Int64) : lg_cmp x 0 = 0 ↔ x = 0 := lg_cmp_eq x 0
theorem X2_move {M : Mem} {m a one two : Nat} {w : Wd} {S : Nat → Bool} (hm : m < 31) (ha : a < 30) (h : MR M m w) (h1 : one < 10) (h2 : two < 10) (e1 : M.1 (6 + a) 2 = nI one) (e3 : M.1 (6 + a) 3 = nI two) (e2 : M.2 (6 + a) 4 = cset S) :
    ∃ M', fX2_performMove (6 + a) (36 + 3 * m) M = some (if w.2.1 one && w.2.1 two && anyc (fun c => S c && (w.1 c == one)) then 1 else 0, M') ∧ Fr M M' m a ∧
      (if w.2.1 one && w.2.1 two && anyc (fun c => S c && (w.1 c == one)) then MR M' m (fun c => if S c && (w.1 c == one) then two else w.1 c, w.2) ∧ M'.2 (6 + a) 7 = cset (fun c => S c && (w.1 c == one)) else M' = M) := by
  unfold fX2_performMove
  rw [e1, X4_heldBy hm h (by omega), bnd_some]
  simp only [lt_def]
  rw [e2, cset_and, X4_isThere h h1, bnd_some, e3]
  by_cases t : w.2.1 one = true
  · rw [if_pos t, if_neg (by decide), X4_isThere h h2, bnd_some]
    by_cases t2 : w.2.1 two = true
    · rw [if_pos t2, if_neg (by decide)]
      by_cases z : cset (fun c => S c && (w.1 c == one)) = 0
      · rw [if_pos ((cmp0 _).mpr z)]
        have ha0 := anyc_0.mpr z
        rw [ha0]
        simp only [Bool.and_false]
        exact ⟨M, rfl, Fr.rf, rfl⟩
      · rw [if_neg (fun q => z ((cmp0 _).mp q))]
        have ha1 : anyc (fun c => S c && (w.1 c == one)) = true := by
          cases q : anyc (fun c => S c && (w.1 c == one)) with
          | true => rfl
          | false => exact absurd (anyc_0.mp q) z
        rw [t, t2, ha1]
        have hB := MR_ml7 (v := cset (fun c => S c && (w.1 c == one))) ha h
        generalize hM5 : ml M (6 + a) 7 (cset (fun c => S c && (w.1 c == one))) = M5 at hB
        have f5 : Fr M M5 m a := by rw [← hM5]; exact Fr.ml7
        have e5 : M5.2 (6 + a) 7 = cset (fun c => S c && (w.1 c == one)) := by rw [← hM5, ml_2, if_pos ⟨rfl, rfl⟩]
        rw [f5.a1 ha, e3, X4_give hm hB _ (by omega), bnd_some]
        have hC := MR_give hB (fun c => S c && (w.1 c == one)) (v := two) (by omega)
        refine ⟨_, rfl, f5.tr Fr.msl, ?_⟩
        refine ⟨hC, ?_⟩
        rw [msl_2, if_neg (fun q => absurd q.1 (by omega))]
        exact e5
    · have t2' : w.2.1 two = false := by cases q : w.2.1 two with | true => exact absurd q t2 | false => rfl
      rw [if_neg t2, if_pos rfl, t2']
      simp only [Bool.and_false, Bool.false_and]
      exact ⟨M, rfl, Fr.rf, rfl⟩
  · have t' : w.2.1 one = false := by cases q : w.2.1 one with | true => exact absurd q t | false => rfl
    rw [if_neg t, if_pos rfl, t']
    simp only [Bool.false_and]
    exact ⟨M, rfl, Fr.rf, rfl⟩
theorem X2_swallow {M : Mem} {m a one two k : Nat} {w : Wd} (hm : m < 31) (ha : a < 30) (h : MR M m w) (h1 : one < 10) (h2 : two < 10) (e1 : M.1 (6 + a) 2 = nI one) (e3 : M.1 (6 + a) 3 = nI two) (hk : fX2_kindOf 1 (nI one) M = some (nI k)) (hk4 : k < 4) :
    ∃ M', fX2_performSwallow 1 (6 + a) (36 + 3 * m) M = some (if w.2.1 one && w.2.1 two && !(k == 2) then 1 else 0, M') ∧ Fr M M' m a ∧
      (if w.2.1 one && w.2.1 two && !(k == 2) then MR M' m (fun c => if w.1 c == one then two else w.1 c, fun x => if x = one then false else w.2.1 x, fun x => if x = one then 10 else w.2.2 x) ∧ M'.2 (6 + a) 7 = cset (fun c => w.1 c == one) else M' = M) := by
  unfold fX2_performSwallow
  rw [e1, X4_isThere h h1, bnd_some, e3]
  by_cases t : w.2.1 one = true
  · rw [if_pos t, if_neg (by decide), X4_isThere h h2, bnd_some]
    by_cases t2 : w.2.1 two = true
    · rw [if_pos t2, if_neg (by decide), hk, bnd_some]
      by_cases z : k = 2
      · subst z
        rw [if_pos (show nI 2 = 2 from rfl)]
        simp only [beq_self_eq_true, Bool.not_true, Bool.and_false]
        exact ⟨M, rfl, Fr.rf, rfl⟩
      · have z2 : (k == 2) = false := by simp [z]
        rw [if_neg (show ¬ nI k = 2 from fun q => z ((nI_eq (a := k) (b := 2) (by omega) (by omega)).mp q)), t, t2, z2, X4_heldBy hm h (by omega), bnd_some]
        simp only [lt_def]
        have hB := MR_ml7 (v := cset (fun c => w.1 c == one)) ha h
        generalize hM5 : ml M (6 + a) 7 (cset (fun c => w.1 c == one)) = M5 at hB
        have f5 : Fr M M5 m a := by rw [← hM5]; exact Fr.ml7
        have e5 : M5.2 (6 + a) 7 = cset (fun c => w.1 c == one) := by rw [← hM5, ml_2, if_pos ⟨rfl, rfl⟩]
        rw [e5, f5.a1 ha, e3, X4_give hm hB _ (by omega), bnd_some]
        have hC := MR_give hB (fun c => w.1 c == one) (v := two) (by omega)
        generalize hM9 : msl M5 (37 + 3 * m) 10 (fun u => cset (fun c => if (w.1 c == one) then two == u else w.1 c == u)) = M9 at hC
        have f9 : Fr M M9 m a := f5.tr (by rw [← hM9]; exact Fr.msl)
        have e9 : M9.2 (6 + a) 7 = cset (fun c => w.1 c == one) := by rw [← hM9, msl_2, if_neg (fun q => absurd q.1 (by omega)), e5]
        rw [f9.a1 ha, e1, X4_leave hm h1, bnd_some]
        have hD := MR_leave hC h1
        refine ⟨_, rfl, (f9.tr Fr.mi2).tr Fr.miU, ?_⟩
        exact ⟨hD, e9⟩
    · have t2' : w.2.1 two = false := by cases q : w.2.1 two with | true => exact absurd q t2 | false => rfl
      rw [if_neg t2, if_pos rfl, t2']
      simp only [Bool.and_false, Bool.false_and]
      exact ⟨M, rfl, Fr.rf, rfl⟩
  · have t' : w.2.1 one = false := by cases q : w.2.1 one with | true => exact absurd q t | false => rfl
    rw [if_neg t, if_pos rfl, t']
    simp only [Bool.false_and]
    exact ⟨M, rfl, Fr.rf, rfl⟩
theorem X2_join {M : Mem} {m a one two : Nat} {w : Wd} (hm : m < 31) (ha : a < 30) (h : MR M m w) (h1 : one < 10) (e1 : M.1 (6 + a) 2 = nI one) (e3 : M.1 (6 + a) 3 = nI two) :
    ∃ M', fX2_performJoin (6 + a) (36 + 3 * m) M = some (if w.2.1 one then 1 else 0, M') ∧ Fr M M' m a ∧ M'.2 = M.2 ∧
      (if w.2.1 one then MR M' m (w.1, w.2.1, fun x => if x = one then two else w.2.2 x) else M' = M) := by
  unfold fX2_performJoin
  rw [e1, X4_isThere h h1, bnd_some]
  by_cases t : w.2.1 one = true
  · rw [if_pos t, if_neg (by decide), e3, X4_putUnder hm h1, bnd_some, t]
    exact ⟨_, rfl, Fr.miU, rfl, MR_putUnder h h1⟩
  · have t' : w.2.1 one = false := by cases q : w.2.1 one with | true => exact absurd q t | false => rfl
    rw [if_neg t, if_pos rfl, t']
    exact ⟨M, rfl, Fr.rf, rfl, rfl⟩
