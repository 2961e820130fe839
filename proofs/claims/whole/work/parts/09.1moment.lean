/-! a moment of the class stands for a world: who holds a cell (10: nobody), who is there, under whom a unit is (10: none) -/
abbrev Wd : Type := (Nat → Nat) × (Nat → Bool) × (Nat → Nat)
def MR (M : Mem) (n : Nat) (w : Wd) : Prop := (∀ u, u < 10 → M.2 (37 + 3 * n) u = cset (fun c => w.1 c == u)) ∧ (∀ u, u < 10 → bt (M.1 (36 + 3 * n) 2) u = w.2.1 u) ∧ (∀ u, u < 10 → M.1 (38 + 3 * n) u = nI (w.2.2 u)) ∧ ∀ c, c < 36 → w.1 c ≤ 10
def msl (M : Mem) (k N : Nat) (f : Nat → Int64) : Mem := (M.1, fun a b => if a = k ∧ b < N then f b else M.2 a b)
def msi (M : Mem) (k N : Nat) (f : Nat → Int32) : Mem := (fun a b => if a = k ∧ b < N then f b else M.1 a b, M.2)
theorem msl_0 (M : Mem) (k : Nat) (f : Nat → Int64) : msl M k 0 f = M := by
  unfold msl
  have : (fun a b => if a = k ∧ b < 0 then f b else M.2 a b) = M.2 := by funext a b; simp
  rw [this]
theorem msi_0 (M : Mem) (k : Nat) (f : Nat → Int32) : msi M k 0 f = M := by
  unfold msi
  have : (fun a b => if a = k ∧ b < 0 then f b else M.1 a b) = M.1 := by funext a b; simp
  rw [this]
theorem msl_s (M : Mem) (k i : Nat) (f : Nat → Int64) (v : Int64) (h : v = f i) : ml (msl M k i f) k i v = msl M k (i + 1) f := by
  unfold ml msl
  congr 1
  funext a b
  subst h
  by_cases h1 : a = k
  · subst h1
    by_cases h2 : b = i
    · subst h2; simp
    · have e : (b < i + 1) = (b < i) := by apply propext; omega
      simp [h2, e]
  · simp [h1]
theorem msi_s (M : Mem) (k i : Nat) (f : Nat → Int32) (v : Int32) (h : v = f i) : mi (msi M k i f) k i v = msi M k (i + 1) f := by
  unfold mi msi
  congr 1
  funext a b
  subst h
  by_cases h1 : a = k
  · subst h1
    by_cases h2 : b = i
    · subst h2; simp
    · have e : (b < i + 1) = (b < i) := by apply propext; omega
      simp [h2, e]
  · simp [h1]
theorem msl_2 (M : Mem) (k N : Nat) (f : Nat → Int64) (a b : Nat) : (msl M k N f).2 a b = if a = k ∧ b < N then f b else M.2 a b := rfl
theorem msl_1 (M : Mem) (k N : Nat) (f : Nat → Int64) : (msl M k N f).1 = M.1 := rfl
theorem msi_1 (M : Mem) (k N : Nat) (f : Nat → Int32) (a b : Nat) : (msi M k N f).1 a b = if a = k ∧ b < N then f b else M.1 a b := rfl
theorem msi_2 (M : Mem) (k N : Nat) (f : Nat → Int32) : (msi M k N f).2 = M.2 := rfl
theorem ml_msl (M : Mem) (k N i : Nat) (f : Nat → Int64) (v : Int64) (hi : i < N) : ml (msl M k N f) k i v = msl M k N (fun j => if j = i then v else f j) := by
  unfold ml msl
  congr 1
  funext a b
  by_cases h1 : a = k
  · subst h1
    by_cases h2 : b = i
    · subst h2; simp [hi]
    · simp [h2]
  · simp [h1]
theorem msl_cong (M : Mem) (k N : Nat) {f g : Nat → Int64} (h : ∀ i, i < N → f i = g i) : msl M k N f = msl M k N g := by
  unfold msl
  congr 1
  funext a b
  by_cases h1 : a = k ∧ b < N
  · rw [if_pos h1, if_pos h1, h b h1.2]
  · rw [if_neg h1, if_neg h1]
theorem msi_cong (M : Mem) (k N : Nat) {f g : Nat → Int32} (h : ∀ i, i < N → f i = g i) : msi M k N f = msi M k N g := by
  unfold msi
  congr 1
  funext a b
  by_cases h1 : a = k ∧ b < N
  · rw [if_pos h1, if_pos h1, h b h1.2]
  · rw [if_neg h1, if_neg h1]
theorem li_10 : (10 : Int32) = nI 10 := rfl
theorem li_36 : (36 : Int32) = nI 36 := rfl
theorem li_11 : (11 : Int32) = nI 11 := rfl
theorem slot_in {u : Nat} (h : u < 10) : fX4_isSlot (nI u) = some 1 := by
  unfold fX4_isSlot
  rw [li_10, if_neg (nI_pos (by omega)), if_neg (fun q => absurd ((nI_leI (a := 10) (by omega) (by omega)).mp q) (by omega))]
theorem slot_out {u : Nat} (h : 10 ≤ u) (h2 : u < 2 ^ 31) : fX4_isSlot (nI u) = some 0 := by
  unfold fX4_isSlot
  rw [li_10, if_neg (nI_pos h2), if_pos ((nI_leI (a := 10) (by omega) h2).mpr h)]
theorem b32_ite (y : Int32) : y &&& 1 = if bt y 0 then 1 else 0 := by
  apply b_ext
  intro i hi
  have h1 : ∀ i, i < 32 → bt 1 i = decide (i = 0) := by decide +kernel
  rw [b_and, h1 i hi]
  by_cases h : i = 0
  · subst h
    cases hy : bt y 0 <;> simp [b_0, h1 0 hi]
  · cases hy : bt y 0 <;> simp [b_0, h1 i hi, h]
theorem ushr_bit (x : Int32) {u : Nat} (hu : u < 32) : (ushr x (nI u)) &&& 1 = if bt x u then 1 else 0 := by
  rw [b32_ite]
  have : bt (ushr x (nI u)) 0 = bt x u := by
    have := b_ushr u hu x 0
    rw [Nat.add_zero] at this
    exact this
  rw [this]
theorem X4_isThere {M : Mem} {n : Nat} {w : Wd} (h : MR M n w) {u : Nat} (hu : u < 10) : fX4_isThere (36 + 3 * n) (nI u) M = some (if w.2.1 u then 1 else 0) := by
  unfold fX4_isThere
  rw [slot_in hu, bnd_some, if_neg (by decide), ushr_bit _ (by omega), h.2.1 u hu]
  cases w.2.1 u <;> rfl
theorem X4_heldBy {M : Mem} {n : Nat} (hn : n < 31) {w : Wd} (h : MR M n w) {u : Nat} (hu : u ≤ 10) : fX4_heldBy (36 + 3 * n) (nI u) M = some (cset (fun c => w.1 c == u)) := by
  unfold fX4_heldBy
  rcases Nat.lt_or_ge u 10 with h10 | h10
  · rw [slot_in h10, bnd_some, if_neg (by decide), rf_m0 hn, ln_m0 hn, gi_at h10 (by decide), nI_clamp (by omega), h.1 u h10]
  · have hu10 : u = 10 := by omega
    subst hu10
    rw [slot_out (by omega) (by decide), bnd_some, if_pos rfl]
    have hw := wh_seq (body := wX4_heldBy_21 (36 + 3 * n) M) (fun i => (cset (fun c => decide (i ≤ w.1 c)), nI i)) 10 (cset (fun c => decide (10 ≤ w.1 c)), nI 10) (by
      intro i hi
      unfold wX4_heldBy_21
      dsimp only
      rw [li_10, if_neg (fun q => absurd ((nI_leI (a := 10) (by omega) (by omega)).mp q) (by omega)), rf_m0 hn, ln_m0 hn, gi_at hi (by decide), nI_clamp (by omega), h.1 i hi]
      simp only [lt_def, nI_1]
      rw [cset_diff]
      congr 3
      apply cset_cong
      intro c _
      by_cases e : w.1 c = i
      · simp [e]
      · have e2 : (i + 1 ≤ w.1 c) = (i ≤ w.1 c) := by apply propext; omega
        have e3 : (w.1 c == i) = false := by simp [e]
        simp only [e3, e2, Bool.not_false, Bool.and_true]) (by
      unfold wX4_heldBy_21
      dsimp only
      rw [li_10, if_pos (nI_le (Nat.le_refl 10) (by decide))])
    rw [show ((68719476735 : Int64), (0 : Int32)) = (cset (fun c => decide (0 ≤ w.1 c)), nI 0) by
      rw [cset_all]; congr 1]
    rw [hw, bnd_some]
    congr 1
    apply cset_cong
    intro c hc
    have := h.2.2.2 c hc
    by_cases e : w.1 c = 10
    · simp [e]
    · have e3 : (w.1 c == 10) = false := by simp [e]
      rw [e3]
      apply decide_eq_false
      omega
theorem X4_holderOf {M : Mem} {n : Nat} (hn : n < 31) {w : Wd} (h : MR M n w) {c : Nat} (hc : c < 36) : fX4_holderOf (36 + 3 * n) (nI c) M = some (nI (w.1 c)) := by
  unfold fX4_holderOf
  have hle := h.2.2.2 c hc
  have step : ∀ i, i < w.1 c → wX4_holderOf_2 (36 + 3 * n) (nI c) M (nI i) = some (.inl (nI (i + 1))) := by
    intro i hi
    unfold wX4_holderOf_2
    rw [li_10, if_neg (fun q => absurd ((nI_leI (a := 10) (by omega) (by omega)).mp q) (by omega)), rf_m0 hn, ln_m0 hn, gi_at (by omega) (by decide), nI_clamp (by omega), h.1 i (by omega), X3_has_c _ hc, bnd_some]
    have e : (w.1 c == i) = false := by simp; omega
    simp only [e, lt_def, nI_1]
    rfl
  have last : wX4_holderOf_2 (36 + 3 * n) (nI c) M (nI (w.1 c)) = some (.inr (nI (w.1 c))) := by
    unfold wX4_holderOf_2
    rw [li_10]
    rcases Nat.lt_or_ge (w.1 c) 10 with k | k
    · rw [if_neg (fun q => absurd ((nI_leI (a := 10) (by omega) (by omega)).mp q) (by omega)), rf_m0 hn, ln_m0 hn, gi_at k (by decide), nI_clamp (by omega), h.1 _ k, X3_has_c _ hc, bnd_some]
      simp
    · have e : w.1 c = 10 := by omega
      rw [e, if_pos (nI_le (Nat.le_refl 10) (by decide))]
  exact wh_seq (fun i => nI i) (w.1 c) _ step last
theorem X4_hasBorder {M : Mem} {n : Nat} (hn : n < 31) {w : Wd} (h : MR M n w) {c d : Nat} (hc : c < 36) (hd : d < 36) : fX4_hasBorder (36 + 3 * n) (nI c) (nI d) M = some (if w.1 c = w.1 d then 0 else 1) := by
  unfold fX4_hasBorder
  have a := h.2.2.2 c hc
  have b := h.2.2.2 d hd
  rw [X4_holderOf hn h hc, bnd_some, X4_holderOf hn h hd, bnd_some]
  by_cases e : w.1 c = w.1 d
  · rw [if_pos (by rw [e]), if_pos e]
  · rw [if_neg (fun q => e ((nI_eq (by omega) (by omega)).mp q)), if_neg e]
theorem X4_hundredOver {M : Mem} {n : Nat} (hn : n < 31) {w : Wd} (h : MR M n w) {u : Nat} (hu : u < 10) : fX4_hundredOver (36 + 3 * n) (nI u) M = some (nI (w.2.2 u)) := by
  unfold fX4_hundredOver
  rw [slot_in hu, bnd_some, if_neg (by decide), rf_m1 hn, ln_m1 hn, gi_at hu (by decide), nI_clamp (by omega), h.2.2.1 u hu]
