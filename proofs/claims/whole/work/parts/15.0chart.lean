/-! a chart of the class: who is claimed to hold a cell (11: nothing is claimed) -/
def CR (M : Mem) (m : Nat) (q : Nat → Nat) : Prop := (∀ c, c < 36 → q c ≤ 11) ∧ ∀ h, h < 11 → M.2 (136 + 2 * m) h = cset (fun c => q c == h)
theorem n11 {i : Nat} (h : i < 11) : ¬ (11 : Int32) ≤ nI i := fun z => absurd ((nI_leI (a := 11) (by omega) (by omega)).mp z) (by omega)
theorem e11 : (11 : Int32) ≤ nI 11 := nI_le (Nat.le_refl 11) (by decide)
theorem bq {a b : Nat} (h : ¬ a = b) : (a == b) = false := beq_false_of_ne h
theorem lt_dec (a b : Nat) : decide (a < b + 1) = (decide (a < b) || (a == b)) := by
  by_cases e : a = b
  · subst e; simp
  · have : decide (a < b + 1) = decide (a < b) := by congr 1; apply propext; omega
    rw [this, bq e, Bool.or_false]
theorem X1_claimed {M : Mem} {m : Nat} {q : Nat → Nat} (hm : m < 4) (h : CR M m q) : fX1_claimedCells (135 + 2 * m) M = some (cset (fun c => decide (q c < 11))) := by
  have k := wh_seq (body := wX1_claimedCells_4 (135 + 2 * m) M) (fun i => (cset (fun c => decide (q c < i)), nI i)) 11 (cset (fun c => decide (q c < 11)), nI 11) (fun i hi => by
    unfold wX1_claimedCells_4
    dsimp only
    rw [if_neg (n11 hi), rf_c hm, ln_c hm, gi_at hi (by decide), nI_clamp (show i < 2 ^ 31 by omega), h.2 i hi]
    simp only [lt_def, nI_1]
    rw [cset_or]
    congr 3
    apply cset_cong
    intro c _
    exact (lt_dec _ _).symm) (by
    unfold wX1_claimedCells_4
    dsimp only
    rw [if_pos e11])
  unfold fX1_claimedCells
  rw [show ((0 : Int64), (0 : Int32)) = (cset (fun c => decide (q c < 0)), nI 0) by rw [cset_none]; congr 1, k, bnd_some]
theorem X1_size {M : Mem} {m : Nat} {q : Nat → Nat} (hm : m < 4) (h : CR M m q) : fX1_size (135 + 2 * m) M = some (nI (fb_ct (fun c => decide (q c < 11)) 36)) := by
  unfold fX1_size
  rw [X1_claimed hm h, bnd_some, X_bitCount, bnd_some, pop_cset]
theorem X1_right {M : Mem} {m n : Nat} {q : Nat → Nat} {w : Wd} (hm : m < 4) (hn : n < 31) (h : CR M m q) (hw : MR M n w) : fX1_rightCells (135 + 2 * m) (36 + 3 * n) M = some (cset (fun c => q c == w.1 c)) := by
  have k := wh_seq (body := wX1_rightCells_5 (135 + 2 * m) (36 + 3 * n) M) (fun i => (cset (fun c => decide (q c < i) && (q c == w.1 c)), nI i)) 11 (cset (fun c => decide (q c < 11) && (q c == w.1 c)), nI 11) (fun i hi => by
    unfold wX1_rightCells_5
    dsimp only
    rw [if_neg (n11 hi), rf_c hm, ln_c hm, gi_at hi (by decide), X4_heldBy hn hw (by omega), bnd_some, nI_clamp (show i < 2 ^ 31 by omega), h.2 i hi]
    simp only [lt_def, nI_1]
    rw [cset_and, cset_or]
    congr 3
    apply cset_cong
    intro c _
    rw [lt_dec]
    by_cases e : q c = i
    · rw [e]
      by_cases e2 : w.1 c = i
      · simp [e2]
      · rw [bq e2, bq (fun z => e2 z.symm)]; simp
    · rw [bq e]; simp) (by
    unfold wX1_rightCells_5
    dsimp only
    rw [if_pos e11])
  unfold fX1_rightCells
  rw [show ((0 : Int64), (0 : Int32)) = (cset (fun c => decide (q c < 0) && (q c == w.1 c)), nI 0) by rw [cset_none]; congr 1, k, bnd_some]
  congr 1
  apply cset_cong
  intro c hc
  have := hw.2.2.2 c hc
  by_cases e : q c = w.1 c
  · have : q c < 11 := by omega
    simp [this]
  · simp [e]
theorem X1_agree {M : Mem} {m n : Nat} {q : Nat → Nat} {w : Wd} (hm : m < 4) (hn : n < 31) (h : CR M m q) (hw : MR M n w) : fX1_agreement (135 + 2 * m) (36 + 3 * n) M = some (nI (fb_ct (fun c => q c == w.1 c) 36)) := by
  unfold fX1_agreement
  rw [X1_right hm hn h hw, bnd_some, X_bitCount, bnd_some, pop_cset]
def frst (p : Nat → Bool) : Nat → Nat → Nat
  | 0, i => i
  | k + 1, i => if p i then i else frst p k (i + 1)
/-- the first cell with p, or 36 -/
def fst36 (p : Nat → Bool) : Nat := frst p 36 0
theorem frst_wh {R : Type} {body : Int32 → Option (Int32 ⊕ R)} {p : Nat → Bool} (v : Nat → R) (h1 : ∀ i, i < 36 → p i = false → body (nI i) = some (.inl (nI (i + 1)))) (h2 : ∀ i, i < 36 → p i = true → body (nI i) = some (.inr (v i))) (h3 : body (nI 36) = some (.inr (v 36))) : ∀ k i, i + k = 36 → wh body (nI i) = some (v (frst p k i)) := by
  intro k
  induction k with
  | zero =>
    intro i hi
    have : i = 36 := by omega
    subst this
    exact wh_inr h3
  | succ k ih =>
    intro i hi
    cases e : p i with
    | true => rw [wh_inr (h2 i (by omega) e), frst, if_pos e]
    | false => rw [wh_inl (h1 i (by omega) e), ih (i + 1) (by omega), frst, if_neg (by rw [e]; decide)]
theorem frst_cong {p q : Nat → Bool} : ∀ k i, i + k ≤ 36 → (∀ c, c < 36 → p c = q c) → frst p k i = frst q k i
  | 0, _, _, _ => rfl
  | k + 1, i, h, e => by
    rw [frst, frst, e i (by omega), frst_cong k (i + 1) (by omega) e]
theorem fst36_cong {p q : Nat → Bool} (e : ∀ c, c < 36 → p c = q c) : fst36 p = fst36 q := frst_cong 36 0 (by omega) e
theorem frst_le (p : Nat → Bool) : ∀ k i, frst p k i ≤ i + k
  | 0, i => Nat.le_refl i
  | k + 1, i => by
    rw [frst]
    split
    · omega
    · have := frst_le p k (i + 1); omega
theorem fst36_le (p : Nat → Bool) : fst36 p ≤ 36 := by have := frst_le p 36 0; unfold fst36; omega
theorem X3_firstOf (p : Nat → Bool) : fX3_firstOf (cset p) = some (nI (fst36 p)) := by
  unfold fX3_firstOf fst36
  refine frst_wh (body := wX3_firstOf_2 (cset p)) (p := p) (fun i => nI i) (fun i hi e => ?_) (fun i hi e => ?_) ?_ 36 0 rfl
  · unfold wX3_firstOf_2
    rw [if_neg (n36 hi), X3_has_c p hi, bnd_some, e]
    simp only [lt_def, nI_1]
    rfl
  · unfold wX3_firstOf_2
    rw [if_neg (n36 hi), X3_has_c p hi, bnd_some, e]
    rfl
  · unfold wX3_firstOf_2
    rw [if_pos e36]
    rfl
theorem X1_wrong {M : Mem} {m n : Nat} {q : Nat → Nat} {w : Wd} (hm : m < 4) (hn : n < 31) (h : CR M m q) (hw : MR M n w) : fX1_firstWrong (135 + 2 * m) (36 + 3 * n) M = some (nI (fst36 (fun c => decide (q c < 11) && !(q c == w.1 c)))) := by
  unfold fX1_firstWrong
  rw [X1_claimed hm h, bnd_some, X1_right hm hn h hw, bnd_some, cset_diff, X3_firstOf, bnd_some]
theorem X1_quarrel {M : Mem} {m m2 : Nat} {q q2 : Nat → Nat} (hm : m < 4) (hm2 : m2 < 4) (h : CR M m q) (h2 : CR M m2 q2) : fX1_firstQuarrel (135 + 2 * m) (135 + 2 * m2) M = some (nI (fst36 (fun c => decide (q c < 11) && decide (q2 c < 11) && !(q c == q2 c)))) := by
  have k := wh_seq (body := wX1_firstQuarrel_5 (135 + 2 * m) (135 + 2 * m2) M) (fun i => (cset (fun c => decide (q c < i) && (q c == q2 c)), nI i)) 11 (cset (fun c => decide (q c < 11) && (q c == q2 c)), nI 11) (fun i hi => by
    unfold wX1_firstQuarrel_5
    dsimp only
    rw [if_neg (n11 hi), rf_c hm, rf_c hm2, ln_c hm, ln_c hm2, gi_at hi (by decide), gi_at hi (by decide), nI_clamp (show i < 2 ^ 31 by omega), h.2 i hi, h2.2 i hi]
    simp only [lt_def, nI_1]
    rw [cset_and, cset_or]
    congr 3
    apply cset_cong
    intro c _
    rw [lt_dec]
    by_cases e : q c = i
    · rw [e]
      by_cases e2 : q2 c = i
      · simp [e2]
      · rw [bq e2, bq (fun z => e2 z.symm)]; simp
    · rw [bq e]; simp) (by
    unfold wX1_firstQuarrel_5
    dsimp only
    rw [if_pos e11])
  unfold fX1_firstQuarrel
  rw [show ((0 : Int64), (0 : Int32)) = (cset (fun c => decide (q c < 0) && (q c == q2 c)), nI 0) by rw [cset_none]; congr 1, k, bnd_some]
  dsimp only
  rw [X1_claimed hm h, bnd_some, X1_claimed hm2 h2, bnd_some, cset_and, cset_diff, X3_firstOf, bnd_some]
  congr 2
  apply fst36_cong
  intro c _
  by_cases e : q c < 11
  · simp [e]
  · simp [e]
theorem X1_set {M : Mem} {m c k : Nat} {q : Nat → Nat} (hm : m < 4) (hc : c < 36) (hk : k ≤ 11) (h : CR M m q) :
    ∃ M', fX1_setClaim (135 + 2 * m) (nI c) (qI k) M = some M' ∧ CR M' m (fun d => if d = c then k else q d) ∧ M'.1 = M.1 ∧ ∀ x y, x ≠ 136 + 2 * m → M'.2 x y = M.2 x y := by
  have bit : lshl 1 (nI c) = cset (fun d => d == c) := cset_eq (fun i hi => by
    rw [one_shl (by omega) hi]
    by_cases e : i = c
    · subst e; simp [hc]
    · simp [e])
  have loop := wh_seq (body := wX1_setClaim_7 (135 + 2 * m) (cset (fun d => d == c))) (fun i => (nI i, msl M (136 + 2 * m) i (fun h => cset (fun d => (q d == h) && !(d == c))))) 11 (nI 11, msl M (136 + 2 * m) 11 (fun h => cset (fun d => (q d == h) && !(d == c)))) (fun i hi => by
    unfold wX1_setClaim_7
    dsimp only
    rw [if_neg (n11 hi), rf_c hm, ln_c hm, gi_at hi (by decide), gi_at hi (by decide), nI_clamp (show i < 2 ^ 31 by omega), msl_2, if_neg (by omega), h.2 i hi, cset_diff]
    simp only [lt_def, nI_1]
    rw [msl_s _ _ _ _ _ rfl]) (by
    unfold wX1_setClaim_7
    dsimp only
    rw [if_pos e11])
  unfold fX1_setClaim
  simp only [lt_def]
  rw [bit, show ((0 : Int32), M) = (nI 0, msl M (136 + 2 * m) 0 (fun h => cset (fun d => (q d == h) && !(d == c)))) by rw [msl_0]; rfl, loop, bnd_some]
  dsimp only
  by_cases e : k = 11
  · subst e
    rw [if_pos (show qI 11 < 0 by decide)]
    refine ⟨_, rfl, ⟨fun d hd => ?_, fun x hx => ?_⟩, rfl, fun x y p => by rw [msl_2, if_neg (fun z => p z.1)]⟩
    · dsimp only; split
      · omega
      · exact h.1 d hd
    · rw [msl_2, if_pos ⟨rfl, hx⟩]
      apply cset_cong
      intro d _
      by_cases z : d = c
      · subst z
        have : ¬ 11 = x := by omega
        simp [this]
      · simp [z]
  · have qk : qI k = nI k := by unfold qI; rw [if_neg e]
    rw [qk, if_neg (nI_pos (by omega)), if_neg (n11 (by omega)), rf_c hm, ln_c hm, gi_at (show k < 11 by omega) (by decide), gi_at (show k < 11 by omega) (by decide), nI_clamp (show k < 2 ^ 31 by omega), msl_2, if_pos ⟨rfl, by omega⟩, cset_or]
    refine ⟨_, rfl, ⟨fun d hd => ?_, fun x hx => ?_⟩, rfl, fun x y p => by rw [ml_2, if_neg (fun z => p z.1), msl_2, if_neg (fun z => p z.1)]⟩
    · dsimp only; split
      · omega
      · exact h.1 d hd
    · rw [ml_2]
      by_cases z : x = k
      · subst z
        rw [if_pos ⟨rfl, rfl⟩]
        apply cset_cong
        intro d _
        by_cases y : d = c
        · simp [y]
        · dsimp only; rw [if_neg y, bq y]; simp
      · rw [if_neg (fun y => z y.2), msl_2, if_pos ⟨rfl, hx⟩]
        apply cset_cong
        intro d _
        by_cases y : d = c
        · subst y
          have : ¬ k = x := fun w => z w.symm
          simp [this]
        · simp [y]
