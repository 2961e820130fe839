/-- what a turning back has given back when it has looked at the holders below i -/
def bki (was : Nat → Nat) (U : Nat → Bool) (w : Wd) (i c : Nat) : Bool := U c && decide (was c < i) && ((was c == 10) || w.2.1 (was c))
theorem X2_back_loop {M : Mem} {m a p : Nat} {w wp : Wd} {U : Nat → Bool} (hm : m < 31) (hp : p < m) (ha : a < 30) (h : MR M m w) (hpr : MR M p wp) (e7 : M.2 (6 + a) 7 = 0) :
    ∃ M', wh (wX2_performBack_51 (6 + a) (36 + 3 * m) (36 + 3 * p) (cset U)) (0, M) = some (nI 11, M') ∧ Fr M M' m a ∧ MR M' m (fun c => if bki wp.1 U w 11 c then wp.1 c else w.1 c, w.2) ∧ M'.2 (6 + a) 7 = cset (bki wp.1 U w 11) := by
  have key := wh_inv (body := wX2_performBack_51 (6 + a) (36 + 3 * m) (36 + 3 * p) (cset U))
    (fun i s => s.1 = nI i ∧ Fr M s.2 m a ∧ MR s.2 m (fun c => if bki wp.1 U w i c then wp.1 c else w.1 c, w.2) ∧ s.2.2 (6 + a) 7 = cset (bki wp.1 U w i)) 11
    (fun r => r.1 = nI 11 ∧ Fr M r.2 m a ∧ MR r.2 m (fun c => if bki wp.1 U w 11 c then wp.1 c else w.1 c, w.2) ∧ r.2.2 (6 + a) 7 = cset (bki wp.1 U w 11))
    (by
      rintro i ⟨s1, s2⟩ hi ⟨q1, q2, q3, q4⟩
      dsimp only at q1 q2 q3 q4
      subst q1
      unfold wX2_performBack_51
      dsimp only
      have hpr2 : MR s2 p wp := q2.mr ha (by omega) hpr
      have lit : ¬ (11 : Int32) ≤ nI i := fun z => absurd ((nI_leI (a := 11) (by omega) (by omega)).mp z) (by omega)
      rw [if_neg lit, X4_heldBy (by omega) hpr2 (by omega), bnd_some]
      simp only [lt_def, nI_1]
      rw [cset_and]
      -- the cells that holder i would get
      have grow : ∀ c, bki wp.1 U w (i + 1) c = (bki wp.1 U w i c || (U c && (wp.1 c == i) && ((i == 10) || w.2.1 i))) := by
        intro c
        unfold bki
        by_cases e : wp.1 c = i
        · subst e
          have l1 : decide (wp.1 c < wp.1 c) = false := by simp
          have l2 : decide (wp.1 c < wp.1 c + 1) = true := by simp
          simp only [l1, l2, Bool.and_false, Bool.false_and, Bool.false_or, Bool.and_true, beq_self_eq_true]
        · have l1 : (wp.1 c == i) = false := by simp [e]
          have l2 : decide (wp.1 c < i + 1) = decide (wp.1 c < i) := by congr 1; apply propext; omega
          simp only [l1, l2, Bool.and_false, Bool.false_and, Bool.or_false]
      have stay : (∀ c, c < 36 → (U c && (wp.1 c == i) && ((i == 10) || w.2.1 i)) = false) → MR s2 m (fun c => if bki wp.1 U w (i + 1) c then wp.1 c else w.1 c, w.2) ∧ s2.2 (6 + a) 7 = cset (bki wp.1 U w (i + 1)) := by
        intro hz
        refine ⟨MR_ext q3 (fun c hc => ?_) (fun _ _ => rfl) (fun _ _ => rfl), ?_⟩
        · show (if bki wp.1 U w (i + 1) c then wp.1 c else w.1 c) = (if bki wp.1 U w i c then wp.1 c else w.1 c)
          rw [grow c, hz c hc, Bool.or_false]
        · rw [q4]
          exact cset_cong (fun c hc => by rw [grow c, hz c hc, Bool.or_false])
      have give : ((i == 10) || w.2.1 i) = true → ∃ s', (Option.bind (fX4_give (36 + 3 * m) (cset (fun c => U c && (wp.1 c == i))) (nI i) (ml s2 (6 + a) 7 ((s2.2 (6 + a) 7) ||| (cset (fun c => U c && (wp.1 c == i)))))) (fun b => some (.inl (nI (i + 1), b))) : Option ((Int32 × Mem) ⊕ (Int32 × Mem))) = some (.inl s') ∧ s'.1 = nI (i + 1) ∧ Fr M s'.2 m a ∧ MR s'.2 m (fun c => if bki wp.1 U w (i + 1) c then wp.1 c else w.1 c, w.2) ∧ s'.2.2 (6 + a) 7 = cset (bki wp.1 U w (i + 1)) := by
        intro hth
        rw [q4, cset_or]
        have hB := MR_ml7 (v := cset (fun c => bki wp.1 U w i c || (U c && (wp.1 c == i)))) ha q3
        generalize hM5 : ml s2 (6 + a) 7 (cset (fun c => bki wp.1 U w i c || (U c && (wp.1 c == i)))) = M5 at hB
        have f5 : Fr s2 M5 m a := by rw [← hM5]; exact Fr.ml7
        have e5 : M5.2 (6 + a) 7 = cset (fun c => bki wp.1 U w i c || (U c && (wp.1 c == i))) := by rw [← hM5, ml_2, if_pos ⟨rfl, rfl⟩]
        rw [X4_give hm hB _ (by omega), bnd_some]
        have hC := MR_give hB (fun c => U c && (wp.1 c == i)) (v := i) (by omega)
        refine ⟨_, rfl, rfl, (q2.tr f5).tr Fr.msl, MR_ext hC (fun c _ => ?_) (fun _ _ => rfl) (fun _ _ => rfl), ?_⟩
        · show (if bki wp.1 U w (i + 1) c then wp.1 c else w.1 c) = (if (U c && (wp.1 c == i)) then i else (if bki wp.1 U w i c then wp.1 c else w.1 c))
          rw [grow c, hth, Bool.and_true]
          by_cases e : wp.1 c = i
          · have e2 : (wp.1 c == i) = true := by simp [e]
            have e3 : bki wp.1 U w i c = false := by unfold bki; simp [e]
            rw [e2, e3]
            cases U c <;> simp [e]
          · have e2 : (wp.1 c == i) = false := by simp [e]
            rw [e2]
            simp
        · show (msl M5 _ _ _).2 (6 + a) 7 = _
          rw [msl_2, if_neg (fun z => absurd z.1 (by omega)), e5]
          exact cset_cong (fun c _ => by rw [grow c, hth, Bool.and_true])
      by_cases z : cset (fun c => U c && (wp.1 c == i)) = 0
      · rw [if_pos ((cmp0 _).mpr z)]
        refine ⟨(nI (i + 1), s2), rfl, rfl, q2, stay (fun c hc => ?_)⟩
        have := cset_0.mp z c hc
        rw [this, Bool.false_and]
      · rw [if_neg (fun q => z ((cmp0 _).mp q))]
        by_cases e10 : i = 10
        · have l : nI i = (10 : Int32) := by rw [e10]; rfl
          rw [if_pos l]
          exact give (by simp [e10])
        · have l : ¬ nI i = (10 : Int32) := fun q => e10 ((nI_eq (a := i) (b := 10) (by omega) (by omega)).mp q)
          rw [if_neg l, X4_isThere q3 (by omega), bnd_some]
          by_cases t : w.2.1 i = true
          · rw [if_pos t, if_neg (by decide)]
            exact give (by rw [t, Bool.or_true])
          · have t' : w.2.1 i = false := by cases q : w.2.1 i with | true => exact absurd q t | false => rfl
            rw [if_neg t, if_pos rfl]
            refine ⟨(nI (i + 1), s2), rfl, rfl, q2, stay (fun c hc => ?_)⟩
            have : (i == 10) = false := by simp [e10]
            rw [t', this]
            simp)
    (by
      rintro ⟨s1, s2⟩ ⟨q1, q2, q3, q4⟩
      dsimp only at q1 q2 q3 q4
      subst q1
      refine ⟨(nI 11, s2), ?_, rfl, q2, q3, q4⟩
      unfold wX2_performBack_51
      dsimp only
      rw [if_pos (show (11 : Int32) ≤ nI 11 from nI_le (Nat.le_refl 11) (by decide))])
    11 0 (0, M) rfl ⟨rfl, Fr.rf, MR_ext h (fun c _ => by simp [bki]) (fun _ _ => rfl) (fun _ _ => rfl), by
      rw [e7, cset_none]
      exact cset_cong (fun c _ => by simp [bki])⟩
  obtain ⟨⟨r1, r2⟩, hr, q1, q2, q3, q4⟩ := key
  dsimp only at q1 q2 q3 q4
  subst q1
  exact ⟨r2, hr, q2, q3, q4⟩
