/-! steps of a set of cells; sides; borders -/
theorem lb_fc : ∀ i, i < 36 → lb (-1090785346) i = !(decide (i % 6 = 0)) := by decide +kernel
theorem lb_sh1 (x : Int64) {i : Nat} (hi : i < 64) : lb (lshl x 1) i = (decide (1 ≤ i) && lb x (i - 1)) := lb_shl (k := 1) (by decide) x hi
theorem lb_sh6 (x : Int64) {i : Nat} (hi : i < 64) : lb (lshl x 6) i = (decide (6 ≤ i) && lb x (i - 6)) := lb_shl (k := 6) (by decide) x hi
theorem lb_us1 (x : Int64) (i : Nat) : lb (lushr x 1) i = lb x (1 + i) := lb_ushr (k := 1) (by decide) x i
theorem lb_us6 (x : Int64) (i : Nat) : lb (lushr x 6) i = lb x (6 + i) := lb_ushr (k := 6) (by decide) x i
theorem X3_right (p : Nat → Bool) : fX3_right (cset p) = some (cset (fun i => !(decide (i % 6 = 0)) && p (i - 1))) := by
  unfold fX3_right
  refine congrArg some (cset_eq (fun i hi => ?_))
  rw [lb_and, lb_and, lb_all, lb_sh1 _ hi]
  by_cases h : i < 36
  · rw [lb_fc i h, lb_cset p (by omega), decide_eq_true h]
    by_cases h0 : i = 0
    · subst h0; rfl
    · rw [decide_eq_true (show 1 ≤ i by omega), decide_eq_true (show i - 1 < 36 by omega)]
      cases p (i - 1) <;> cases decide (i % 6 = 0) <;> rfl
  · rw [decide_eq_false h]; simp
theorem X3_left (p : Nat → Bool) : fX3_left (cset p) = some (cset (fun i => !(decide (i % 6 = 5)) && p (i + 1))) := by
  unfold fX3_left
  refine congrArg some (cset_eq (fun i hi => ?_))
  rw [lb_us1, lb_and]
  by_cases h : i < 36
  · rw [lb_cset p (by omega), decide_eq_true h]
    by_cases h0 : i = 35
    · subst h0; rfl
    · rw [lb_fc _ (by omega), decide_eq_true (show 1 + i < 36 by omega), Nat.add_comm 1 i]
      have e : decide ((i + 1) % 6 = 0) = decide (i % 6 = 5) := by
        by_cases z : i % 6 = 5
        · rw [decide_eq_true z, decide_eq_true (by omega)]
        · rw [decide_eq_false z, decide_eq_false (by omega)]
      rw [e]
      cases p (i + 1) <;> cases decide (i % 6 = 5) <;> rfl
  · rw [decide_eq_false h]
    rcases Nat.lt_or_ge (1 + i) 64 with q | q
    · rw [lb_cset p q, decide_eq_false (show ¬ 1 + i < 36 by omega)]; rfl
    · rw [lb_big q]; rfl
theorem X3_down (p : Nat → Bool) : fX3_down (cset p) = some (cset (fun i => decide (6 ≤ i) && p (i - 6))) := by
  unfold fX3_down
  refine congrArg some (cset_eq (fun i hi => ?_))
  rw [lb_and, lb_all, lb_sh6 _ hi, lb_cset p (by omega)]
  by_cases h : i < 36
  · rw [decide_eq_true h, decide_eq_true (show i - 6 < 36 by omega)]
    cases p (i - 6) <;> cases decide (6 ≤ i) <;> rfl
  · rw [decide_eq_false h]; simp
theorem X3_up (p : Nat → Bool) : fX3_up (cset p) = some (cset (fun i => decide (i < 30) && p (i + 6))) := by
  unfold fX3_up
  refine congrArg some (cset_eq (fun i hi => ?_))
  rw [lb_us6]
  rcases Nat.lt_or_ge (6 + i) 64 with q | q
  · rw [lb_cset p q, Nat.add_comm 6 i]
    by_cases h : i < 30
    · rw [decide_eq_true h, decide_eq_true (show i + 6 < 36 by omega), decide_eq_true (show i < 36 by omega)]
      rfl
    · rw [decide_eq_false h, decide_eq_false (show ¬ i + 6 < 36 by omega)]
      simp
  · rw [lb_big q, decide_eq_false (show ¬ i < 36 by omega)]
    rfl
/-- pairs of cells beside each other, the second right of the first or below it -/
def prR (p : Nat → Bool) (i : Nat) : Bool := p i && (!(decide (i % 6 = 0)) && p (i - 1))
def prD (p : Nat → Bool) (i : Nat) : Bool := p i && (decide (6 ≤ i) && p (i - 6))
theorem X3_pairs (p : Nat → Bool) : fX3_pairsWithin (cset p) = some (nI (fb_ct (prR p) 36 + fb_ct (prD p) 36)) := by
  unfold fX3_pairsWithin
  rw [X3_right, bnd_some, cset_and, X_bitCount, bnd_some, X3_down, bnd_some, cset_and, X_bitCount, bnd_some, pop_cset, pop_cset, nI_add]
  rfl
theorem X3_sides (p : Nat → Bool) : fX3_sides (cset p) = some (nI (4 * fb_ct p 36) - nI (2 * (fb_ct (prR p) 36 + fb_ct (prD p) 36))) := by
  unfold fX3_sides
  rw [X_bitCount, bnd_some, X3_pairs, bnd_some, pop_cset, show (4 : Int32) = nI 4 from rfl, show (2 : Int32) = nI 2 from rfl, pk_mul, pk_mul]
/-- the same pairs, from their first cell -/
theorem ct_shift (p q : Nat → Bool) (k n : Nat) (h0 : ∀ i, i < k → p i = false) (h1 : ∀ i, i < n → p (k + i) = q i) (h2 : ∀ i, i < k → q (n + i) = false) : fb_ct p (k + n) = fb_ct q (n + k) := by
  rw [fb_ct_split p k n, fb_ct_split q n k, fb_ct_zero.mpr h0, fb_ct_zero.mpr h2, Nat.zero_add, Nat.add_zero]
  exact fb_ct_cong h1
/-- has the set the cell on that way -/
def on (p : Nat → Bool) (c w : Nat) : Bool := decide (bsd c w < 36) && p (bsd c w)
theorem on_0 (p : Nat → Bool) {c : Nat} (hc : c < 36) : on p c 0 = (decide (6 ≤ c) && p (c - 6)) := by
  unfold on bsd
  rw [if_pos rfl]
  by_cases h : 6 ≤ c
  · rw [if_pos h, decide_eq_true (show c - 6 < 36 by omega), decide_eq_true h]
  · rw [if_neg h, decide_eq_false h, decide_eq_false (by omega)]; rfl
theorem on_1 (p : Nat → Bool) {c : Nat} (hc : c < 36) : on p c 1 = (decide (c < 30) && p (c + 6)) := by
  unfold on bsd
  rw [if_neg (by decide), if_pos rfl]
  by_cases h : c < 30
  · rw [if_pos h, decide_eq_true (show c + 6 < 36 by omega), decide_eq_true h]
  · rw [if_neg h, decide_eq_false h, decide_eq_false (by omega)]; rfl
theorem on_2 (p : Nat → Bool) {c : Nat} (hc : c < 36) : on p c 2 = (!(decide (c % 6 = 0)) && p (c - 1)) := by
  unfold on bsd
  rw [if_neg (by decide), if_neg (by decide), if_pos rfl]
  by_cases h : c % 6 = 0
  · rw [if_pos h, decide_eq_true h, decide_eq_false (by omega)]; rfl
  · rw [if_neg h, decide_eq_false h, decide_eq_true (show c - 1 < 36 by omega)]; rfl
theorem on_3 (p : Nat → Bool) {c : Nat} (hc : c < 36) : on p c 3 = (!(decide (c % 6 = 5)) && p (c + 1)) := by
  unfold on bsd
  rw [if_neg (by decide), if_neg (by decide), if_neg (by decide)]
  by_cases h : c % 6 = 5
  · rw [if_pos h, decide_eq_true h, decide_eq_false (by omega)]; rfl
  · rw [if_neg h, decide_eq_false h, decide_eq_true (show c + 1 < 36 by omega)]; rfl
theorem ct_on0 (p : Nat → Bool) : fb_ct (fun c => p c && on p c 0) 36 = fb_ct (prD p) 36 := fb_ct_cong (fun c hc => by rw [on_0 p hc]; rfl)
theorem ct_on2 (p : Nat → Bool) : fb_ct (fun c => p c && on p c 2) 36 = fb_ct (prR p) 36 := fb_ct_cong (fun c hc => by rw [on_2 p hc]; rfl)
theorem ct_on1 (p : Nat → Bool) : fb_ct (fun c => p c && on p c 1) 36 = fb_ct (prD p) 36 := by
  symm
  refine ct_shift (prD p) (fun c => p c && on p c 1) 6 30 (fun i hi => ?_) (fun i hi => ?_) (fun i hi => ?_)
  · unfold prD
    rw [decide_eq_false (show ¬ 6 ≤ i by omega)]
    simp
  · unfold prD
    rw [on_1 p (by omega), decide_eq_true (show 6 ≤ 6 + i by omega), decide_eq_true hi, show 6 + i - 6 = i by omega, Nat.add_comm 6 i]
    cases p (i + 6) <;> cases p i <;> rfl
  · rw [on_1 p (by omega), decide_eq_false (show ¬ 30 + i < 30 by omega)]
    simp
theorem ct_on3 (p : Nat → Bool) : fb_ct (fun c => p c && on p c 3) 36 = fb_ct (prR p) 36 := by
  symm
  refine ct_shift (prR p) (fun c => p c && on p c 3) 1 35 (fun i hi => ?_) (fun i hi => ?_) (fun i hi => ?_)
  · have : i = 0 := by omega
    subst this
    unfold prR
    simp
  · unfold prR
    have e : decide ((1 + i) % 6 = 0) = decide (i % 6 = 5) := by
      by_cases z : i % 6 = 5
      · rw [decide_eq_true z, decide_eq_true (by omega)]
      · rw [decide_eq_false z, decide_eq_false (by omega)]
    rw [on_3 p (by omega), e, show 1 + i - 1 = i by omega, Nat.add_comm 1 i]
    cases p (i + 1) <;> cases p i <;> cases decide (i % 6 = 5) <;> rfl
  · have : i = 0 := by omega
    subst this
    rw [on_3 p (by omega)]
    simp
/-- the reference: has the set the cell -/
theorem X8_has_c (p : Nat → Bool) {c : Nat} (hc : c < 36) : fX8_has (cset p) (nI c) = some (if p c then 1 else 0) := by
  unfold fX8_has
  rw [if_neg (nI_pos (by omega))]
  have e : lb (cset p) c = p c := by rw [lb_cset p (by omega), decide_eq_true hc]; rfl
  cases h : p c with
  | true => rw [if_pos ((bit1s1 _ (by omega)).mpr (e.trans h))]; rfl
  | false => rw [if_neg (fun z => by rw [(bit1s1 _ (by omega)).mp z, h] at e; cases e)]; rfl
theorem X8_has_b (p : Nat → Bool) {c w : Nat} (hc : c < 36) (hw : w < 4) : fX8_has (cset p) (bI (bsd c w)) = some (if on p c w then 1 else 0) := by
  have l := bsd_le c hc w hw
  unfold on
  by_cases e : bsd c w = 36
  · rw [e, decide_eq_false (by omega)]
    rfl
  · rw [decide_eq_true (show bsd c w < 36 by omega), show bI (bsd c w) = nI (bsd c w) from if_neg e, X8_has_c p (by omega)]
    rfl
theorem X8_cellsIn (p : Nat → Bool) : fX8_cellsIn (cset p) = some (nI (fb_ct p 36)) := by
  have k := wh_seq (body := wX8_cellsIn_4 (cset p)) (fun i => (nI (fb_ct p i), nI i)) 36 (nI (fb_ct p 36), nI 36) (fun i hi => by
    unfold wX8_cellsIn_4
    dsimp only
    simp only [lt_def, nI_1]
    rw [if_neg (n36 hi), bit1s _ (by omega), lb_cset p (by omega), decide_eq_true hi, fb_ct_succ]
    cases p i with
    | true =>
      rw [if_pos (by rfl), if_pos (by rfl), show Int64.toInt32 1 = (1 : Int32) from rfl, nI_1]
    | false =>
      rw [if_neg (by decide), if_neg (by decide), show Int64.toInt32 0 = (0 : Int32) from rfl, add0]
      rfl) (by
    unfold wX8_cellsIn_4
    dsimp only
    rw [if_pos e36])
  unfold fX8_cellsIn
  rw [show ((0 : Int32), (0 : Int32)) = (nI (fb_ct p 0), nI 0) from rfl, k, bnd_some]
def b1 (b : Bool) : Nat := if b then 1 else 0
theorem ct_sm (p : Nat → Bool) : ∀ n, fb_ct p n = fb_sm (fun i => b1 (p i)) n
  | 0 => rfl
  | n + 1 => by rw [fb_ct_succ, fb_sm_succ, ct_sm p n]; rfl
/-- free sides of a cell of the set, up to a way -/
def fsd (p : Nat → Bool) (c : Nat) : Nat → Nat := fun k => if p c then fb_ct (fun w => !(on p c w)) k else 0
theorem X8_sidesIn (p : Nat → Bool) {c n : Nat} (hc : c < 36) (x : Int32) : ∃ y, wh (wX8_sides_13 (cset p) (x, nI c)) (nI n, 0) = some (nI (n + fsd p c 4), y) := by
  cases h : p c with
  | false =>
    refine ⟨0, ?_⟩
    unfold fsd
    rw [h, if_neg (by decide), Nat.add_zero]
    refine wh_inr ?_
    unfold wX8_sides_13
    dsimp only
    rw [if_neg (by decide), X8_has_c p hc, h, bnd_some]
    rfl
  | true =>
    refine ⟨nI 4, ?_⟩
    have k := wh_seq (body := wX8_sides_13 (cset p) (x, nI c)) (fun i => (nI (n + fb_ct (fun w => !(on p c w)) i), nI i)) 4 (nI (n + fb_ct (fun w => !(on p c w)) 4), nI 4) (fun i hi => by
      unfold wX8_sides_13
      dsimp only
      simp only [lt_def, nI_1, add0]
      rw [if_neg (n4 hi), X8_has_c p hc, h, bnd_some, if_neg (by decide), X8_beside c hc i hi, bnd_some, X8_has_b p hc hi, bnd_some, fb_ct_succ]
      cases on p c i with
      | true => rw [if_neg (by decide), if_neg (by decide)]; rfl
      | false => rw [if_pos (by rfl), if_pos (by rfl)]; rfl) (by
      unfold wX8_sides_13
      dsimp only
      rw [if_pos e4])
    unfold fsd
    rw [h, if_pos rfl]
    exact k
theorem X8_sides (p : Nat → Bool) : fX8_sides (cset p) = some (nI (fb_sm (fun c => fsd p c 4) 36)) := by
  have k := wh_seq (body := wX8_sides_4 (cset p)) (fun i => (nI (fb_sm (fun c => fsd p c 4) i), nI i)) 36 (nI (fb_sm (fun c => fsd p c 4) 36), nI 36) (fun i hi => by
    obtain ⟨y, hy⟩ := X8_sidesIn p (n := fb_sm (fun c => fsd p c 4) i) hi (nI (fb_sm (fun c => fsd p c 4) i))
    unfold wX8_sides_4
    dsimp only
    rw [if_neg (n36 hi), hy, bnd_some]
    simp only [lt_def, nI_1]
    rfl) (by
    unfold wX8_sides_4
    dsimp only
    rw [if_pos e36])
  unfold fX8_sides
  rw [show ((0 : Int32), (0 : Int32)) = (nI (fb_sm (fun c => fsd p c 4) 0), nI 0) from rfl, k, bnd_some]
theorem sides_sum (p : Nat → Bool) : ∀ n, fb_sm (fun c => fsd p c 4) n + (fb_ct (fun c => p c && on p c 0) n + fb_ct (fun c => p c && on p c 1) n + (fb_ct (fun c => p c && on p c 2) n + fb_ct (fun c => p c && on p c 3) n)) = 4 * fb_ct p n
  | 0 => rfl
  | n + 1 => by
    have ih := sides_sum p n
    rw [fb_sm_succ, fb_ct_succ, fb_ct_succ, fb_ct_succ, fb_ct_succ, fb_ct_succ]
    have : fsd p n 4 + ((if (p n && on p n 0) = true then 1 else 0) + (if (p n && on p n 1) = true then 1 else 0) + ((if (p n && on p n 2) = true then 1 else 0) + (if (p n && on p n 3) = true then 1 else 0))) = 4 * (if p n = true then 1 else 0) := by
      unfold fsd
      cases h : p n with
      | false => rfl
      | true =>
        rw [if_pos rfl, fb_ct_succ, fb_ct_succ, fb_ct_succ, fb_ct_succ]
        cases on p n 0 <;> cases on p n 1 <;> cases on p n 2 <;> cases on p n 3 <;> rfl
    omega
theorem sides_eq (p : Nat → Bool) : fX3_sides (cset p) = fX8_sides (cset p) := by
  have s := sides_sum p 36
  rw [ct_on0, ct_on1, ct_on2, ct_on3] at s
  rw [X3_sides, X8_sides, pk_sub (by omega)]
  congr 2
  omega
