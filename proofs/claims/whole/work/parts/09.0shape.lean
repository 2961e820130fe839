/-! where things lie -/
theorem rf_m0 {i : Nat} (h : i < 31) : rf (36 + 3 * i) 0 = 37 + 3 * i := by
  unfold rf
  rw [if_neg (by omega), if_neg (by omega), if_pos (by omega)]
  omega
theorem rf_m1 {i : Nat} (h : i < 31) : rf (36 + 3 * i) 1 = 38 + 3 * i := by
  unfold rf
  rw [if_neg (by omega), if_neg (by omega), if_pos (by omega)]
  omega
theorem ln_m0 {i : Nat} (h : i < 31) : ln (37 + 3 * i) = 10 := by
  unfold ln
  rw [if_neg (by omega), if_pos (by omega)]
theorem ln_m1 {i : Nat} (h : i < 31) : ln (38 + 3 * i) = 10 := by
  unfold ln
  rw [if_neg (by omega), if_pos (by omega)]
theorem rf_c {i : Nat} (h : i < 4) : rf (135 + 2 * i) 0 = 136 + 2 * i := by
  unfold rf
  rw [if_neg (by omega), if_neg (by omega), if_neg (by omega), if_neg (by omega), if_pos (by omega)]
  omega
theorem ln_c {i : Nat} (h : i < 4) : ln (136 + 2 * i) = 11 := by
  unfold ln
  rw [if_neg (by omega), if_neg (by omega), if_neg (by omega), if_neg (by omega), if_pos (by omega)]
theorem rf_s {i : Nat} (h : i < 4) : rf (143 + 2 * i) 0 = 144 + 2 * i := by
  unfold rf
  rw [if_neg (by omega), if_neg (by omega), if_neg (by omega), if_neg (by omega), if_pos (by omega)]
  omega
theorem ln_s {i : Nat} (h : i < 4) : ln (144 + 2 * i) = 36 := by
  unfold ln
  rw [if_neg (by omega), if_neg (by omega), if_neg (by omega), if_neg (by omega), if_neg (by omega), if_pos (by omega)]
theorem shp_m {i : Nat} (h : i < 31) : shp (36 + 3 * i) = 3 := (by decide +kernel : ∀ i, i < 31 → shp (36 + 3 * i) = 3) i h
theorem shp_a {i : Nat} (h : i < 30) : shp (6 + i) = 0 := (by decide +kernel : ∀ i, i < 30 → shp (6 + i) = 0) i h
theorem r00 : rf 0 0 = 1 := rfl
theorem r01 : rf 0 1 = 129 := rfl
theorem r02 : rf 0 2 = 133 := rfl
theorem r03 : rf 0 3 = 134 := rfl
theorem r10 : rf 1 0 = 2 := rfl
theorem r11 : rf 1 1 = 3 := rfl
theorem r12 : rf 1 2 = 4 := rfl
theorem r13 : rf 1 3 = 5 := rfl
theorem r90 : rf 129 0 = 130 := rfl
theorem r91 : rf 129 1 = 131 := rfl
theorem r92 : rf 129 2 = 132 := rfl
theorem rM {j : Nat} : rf 151 j = 148 + j := by
  unfold rf
  rw [if_neg (by omega), if_neg (by omega), if_neg (by omega), if_neg (by omega), if_neg (by omega)]
theorem ra3 (i : Nat) : ra 3 i = 6 + i := rfl
theorem ra5 (i : Nat) : ra 5 i = 36 + 3 * i := rfl
theorem ra133 (i : Nat) : ra 133 i = 135 + 2 * i := rfl
theorem ra134 (i : Nat) : ra 134 i = 143 + 2 * i := rfl
theorem l2 : ln 2 = 10 := rfl
theorem l3 : ln 3 = 30 := rfl
theorem l4 : ln 4 = 30 := rfl
theorem l5 : ln 5 = 31 := rfl
theorem l130 : ln 130 = 20 := rfl
theorem l131 : ln 131 = 20 := rfl
theorem l132 : ln 132 = 20 := rfl
theorem l133 : ln 133 = 4 := rfl
theorem l134 : ln 134 = 4 := rfl
theorem l152 : ln 152 = 10 := rfl
theorem l153 : ln 153 = 30 := rfl
theorem l154 : ln 154 = 30 := rfl
theorem l155 : ln 155 = 30 := rfl
theorem l156 : ln 156 = 30 := rfl
theorem l157 : ln 157 = 30 := rfl
theorem l158 : ln 158 = 4 := rfl
theorem l159 : ln 159 = 144 := rfl
theorem l160 : ln 160 = 20 := rfl
theorem l161 : ln 161 = 20 := rfl
theorem l162 : ln 162 = 20 := rfl
theorem l163 : ln 163 = 4 := rfl
theorem l164 : ln 164 = 4 := rfl
theorem l165 : ln 165 = 144 := rfl
theorem l166 : ln 166 = 30 := rfl
theorem l167 : ln 167 = 30 := rfl
theorem l168 : ln 168 = 1116 := rfl
theorem l169 : ln 169 = 310 := rfl
theorem l170 : ln 170 = 30 := rfl
theorem l171 : ln 171 = 310 := rfl
theorem l172 : ln 172 = 30 := rfl
theorem l173 : ln 173 = 36 := rfl
/-! sets of cells -/
def ofS (p : Nat → Bool) : Nat → Int64
  | 0 => 0
  | k + 1 => ofS p k ||| (if p k then lshl 1 (nI k) else 0)
theorem lb_ofS (p : Nat → Bool) : ∀ k, k ≤ 64 → ∀ i, i < 64 → lb (ofS p k) i = (decide (i < k) && p i)
  | 0, _, i, _ => by simp [ofS, lb_0]
  | k + 1, hk, i, hi => by
    rw [ofS, lb_or, lb_ofS p k (by omega) i hi]
    by_cases hp : p k = true
    · rw [if_pos hp, one_shl (by omega) hi]
      rcases Nat.lt_trichotomy i k with h | h | h
      · have : i < k + 1 := by omega
        have h2 : ¬ i = k := by omega
        simp [h, this, h2]
      · subst h; simp [hp]
      · have a : ¬ i < k := by omega
        have b : ¬ i < k + 1 := by omega
        have c : ¬ i = k := by omega
        simp [a, b, c]
    · rw [if_neg hp, lb_0]
      have hp' : p k = false := by cases h : p k with | true => exact absurd h hp | false => rfl
      rcases Nat.lt_trichotomy i k with h | h | h
      · have : i < k + 1 := by omega
        simp [h, this]
      · subst h; simp [hp']
      · have a : ¬ i < k := by omega
        have b : ¬ i < k + 1 := by omega
        simp [a, b]
/-- the set of the cells with p -/
def cset (p : Nat → Bool) : Int64 := ofS p 36
theorem lb_cset (p : Nat → Bool) {i : Nat} (hi : i < 64) : lb (cset p) i = (decide (i < 36) && p i) := lb_ofS p 36 (by omega) i hi
theorem cset_eq {x : Int64} {p : Nat → Bool} (h : ∀ i, i < 64 → lb x i = (decide (i < 36) && p i)) : x = cset p := lb_ext (fun i hi => by rw [h i hi, lb_cset p hi])
theorem cset_cong {p q : Nat → Bool} (h : ∀ i, i < 36 → p i = q i) : cset p = cset q := lb_ext (fun i hi => by
  rw [lb_cset p hi, lb_cset q hi]
  by_cases k : i < 36
  · rw [h i k]
  · simp [k])
theorem cset_and (p q : Nat → Bool) : cset p &&& cset q = cset (fun i => p i && q i) := lb_ext (fun i hi => by
  rw [lb_and, lb_cset p hi, lb_cset q hi, lb_cset _ hi]
  cases decide (i < 36) <;> simp)
theorem cset_or (p q : Nat → Bool) : cset p ||| cset q = cset (fun i => p i || q i) := lb_ext (fun i hi => by
  rw [lb_or, lb_cset p hi, lb_cset q hi, lb_cset _ hi]
  cases decide (i < 36) <;> simp)
theorem cset_diff (p q : Nat → Bool) : cset p &&& (cset q ^^^ (-1)) = cset (fun i => p i && !q i) := lb_ext (fun i hi => by
  rw [lb_and, lb_not _ hi, lb_cset p hi, lb_cset q hi, lb_cset _ hi]
  cases decide (i < 36) <;> simp)
theorem cset_all : (68719476735 : Int64) = cset (fun _ => true) := cset_eq (fun i hi => by rw [lb_all]; simp)
theorem cset_none : (0 : Int64) = cset (fun _ => false) := cset_eq (fun i hi => by rw [lb_0]; simp)
theorem cset_0 {p : Nat → Bool} : cset p = 0 ↔ ∀ i, i < 36 → p i = false := by
  constructor
  · intro h i hi
    have := lb_cset p (i := i) (by omega)
    rw [h, lb_0] at this
    simpa [hi] using this.symm
  · intro h
    rw [cset_none]
    exact cset_cong h
theorem cset_inj {p q : Nat → Bool} (h : cset p = cset q) : ∀ i, i < 36 → p i = q i := by
  intro i hi
  have a := lb_cset p (i := i) (by omega)
  have b := lb_cset q (i := i) (by omega)
  rw [h, b] at a
  simpa [hi] using a.symm
theorem pop_cset (p : Nat → Bool) : pop (cset p) = fb_ct p 36 := by
  have e : pop (cset p) = fb_ct (fun i => decide (i < 36) && p i) 64 := fb_ct_cong (fun i hi => lb_cset p hi)
  rw [e, show 64 = 36 + 28 from rfl, fb_ct_split]
  have z : fb_ct (fun k => decide (36 + k < 36) && p (36 + k)) 28 = 0 := fb_ct_zero.mpr (fun k _ => by
    have : ¬ 36 + k < 36 := by omega
    simp [this])
  rw [z, Nat.add_zero]
  exact fb_ct_cong (fun i hi => by simp [hi])
theorem X3_has_c (p : Nat → Bool) {c : Nat} (hc : c < 36) : fX3_has (cset p) (nI c) = some (if p c then 1 else 0) := by
  rw [X3_has _ (by omega), lb_cset p (by omega)]
  simp [hc]
/-- any long below 2^36 is a set -/
theorem cset_of (x : Int64) (h : ∀ i, 36 ≤ i → i < 64 → lb x i = false) : x = cset (fun i => lb x i) := cset_eq (fun i hi => by
  by_cases k : i < 36
  · simp [k]
  · rw [h i (by omega) hi]; simp [k])
