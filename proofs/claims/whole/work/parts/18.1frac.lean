/-! sums of fractions, in lowest terms -/
def DD : Nat := 144403552893600
theorem DD_pos : 0 < DD := by decide
theorem DD_dvd : ∀ a, a < 37 → 0 < a → DD % a = 0 := by decide +kernel
theorem DD_mul {a : Nat} (h : a < 37) (h0 : 0 < a) : a * (DD / a) = DD := Nat.mul_div_cancel' (Nat.dvd_of_mod_eq_zero (DD_dvd a h h0))
/-- the fraction, what it is by the common line, the people, the cells -/
def FI (u l S T E : Nat) : Prop := u * DD = l * S ∧ Nat.gcd u l = 1 ∧ 0 < l ∧ u ≤ l * T ∧ l ≤ 2 ^ E
theorem FI_0 : FI 0 1 0 0 0 := ⟨rfl, rfl, by decide, by decide, by decide⟩
theorem FI_one {u l u' l' S T E T' E' : Nat} (h : FI u l S T E) (h' : FI u' l' S T' E') : u = u' ∧ l = l' := by
  obtain ⟨a1, a2, a3, _, _⟩ := h
  obtain ⟨b1, b2, b3, _, _⟩ := h'
  have e : u * l' = u' * l := by
    have : (u * l') * DD = (u' * l) * DD := by
      calc (u * l') * DD = (u * DD) * l' := by rw [Nat.mul_right_comm]
        _ = (l * S) * l' := by rw [a1]
        _ = (l' * S) * l := by rw [Nat.mul_comm l S, Nat.mul_comm l' S, Nat.mul_right_comm]
        _ = (u' * DD) * l := by rw [b1]
        _ = (u' * l) * DD := by rw [Nat.mul_right_comm]
    exact Nat.eq_of_mul_eq_mul_right DD_pos this
  have d1 : l ∣ l' := Nat.Coprime.dvd_of_dvd_mul_left (Nat.coprime_comm.mp a2) ⟨u', by rw [e, Nat.mul_comm]⟩
  have d2 : l' ∣ l := Nat.Coprime.dvd_of_dvd_mul_left (Nat.coprime_comm.mp b2) ⟨u, by rw [← e, Nat.mul_comm]⟩
  have el : l = l' := Nat.dvd_antisymm d1 d2
  subst el
  exact ⟨Nat.eq_of_mul_eq_mul_right a3 e, rfl⟩
theorem FI_step {u l S T E p b a : Nat} (h : FI u l S T E) (ha : a < 37) (h0 : 0 < a) (hb : b ≤ a) : FI ((u * a + p * b * l) / Nat.gcd (u * a + p * b * l) (l * a)) (l * a / Nat.gcd (u * a + p * b * l) (l * a)) (S + p * b * (DD / a)) (T + p) (E + a) ∧ u * a + p * b * l ≤ (l * a) * (T + p) ∧ l * a ≤ 2 ^ (E + a) ∧ 0 < l * a := by
  obtain ⟨a1, a2, a3, a4, a5⟩ := h
  have la : 0 < l * a := Nat.mul_pos a3 h0
  have b1 : u * a + p * b * l ≤ (l * a) * (T + p) := by
    have q1 : u * a ≤ (l * T) * a := Nat.mul_le_mul_right a a4
    have q2 : p * b * l ≤ p * a * l := Nat.mul_le_mul_right l (Nat.mul_le_mul_left p hb)
    have e1 : (l * T) * a = (l * a) * T := Nat.mul_right_comm l T a
    have e2 : p * a * l = (l * a) * p := by rw [Nat.mul_comm p a, Nat.mul_right_comm, Nat.mul_comm a l]
    rw [Nat.mul_add]
    omega
  have b2 : l * a ≤ 2 ^ (E + a) := by
    rw [Nat.pow_add]
    exact Nat.mul_le_mul a5 (Nat.le_of_lt Nat.lt_two_pow_self)
  have e : (u * a + p * b * l) * DD = (l * a) * (S + p * b * (DD / a)) := by
    rw [Nat.add_mul, Nat.mul_add]
    have e1 : u * a * DD = l * a * S := by rw [Nat.mul_right_comm, a1, Nat.mul_right_comm]
    have e2 : p * b * l * DD = l * a * (p * b * (DD / a)) := by
      calc p * b * l * DD = p * b * l * (a * (DD / a)) := by rw [DD_mul ha h0]
        _ = l * a * (p * b * (DD / a)) := by
          rw [Nat.mul_comm (p * b) l, Nat.mul_assoc l, Nat.mul_assoc l]
          congr 1
          rw [← Nat.mul_assoc, Nat.mul_comm (p * b) a, Nat.mul_assoc]
    rw [e1, e2]
  generalize hx : u * a + p * b * l = x at *
  generalize hy : l * a = z at *
  have gp : 0 < Nat.gcd x z := Nat.gcd_pos_of_pos_right x la
  have gx : x / Nat.gcd x z * Nat.gcd x z = x := Nat.div_mul_cancel (Nat.gcd_dvd_left x z)
  have gz : z / Nat.gcd x z * Nat.gcd x z = z := Nat.div_mul_cancel (Nat.gcd_dvd_right x z)
  generalize hg : Nat.gcd x z = g at *
  refine ⟨⟨?_, ?_, ?_, ?_, ?_⟩, b1, b2, la⟩
  · apply Nat.eq_of_mul_eq_mul_right gp
    rw [Nat.mul_right_comm (x / g), gx, e, Nat.mul_right_comm (z / g), gz]
  · rw [← hg]; exact Nat.coprime_div_gcd_div_gcd (by rw [hg]; exact gp)
  · rcases Nat.eq_zero_or_pos (z / g) with w | w
    · rw [w] at gz; omega
    · exact w
  · apply Nat.le_of_mul_le_mul_right _ gp
    rw [gx, Nat.mul_right_comm (z / g), gz]
    exact b1
  · exact Nat.le_trans (Nat.div_le_self z g) b2
theorem FI_skip {u l S T E T' E' : Nat} (h : FI u l S T E) (hT : T ≤ T') (hE : E ≤ E') : FI u l S T' E' := ⟨h.1, h.2.1, h.2.2.1, Nat.le_trans h.2.2.2.1 (Nat.mul_le_mul_left l hT), Nat.le_trans h.2.2.2.2 (Nat.pow_le_pow_right (by decide) hE)⟩
theorem gcd_step (x y : Nat) : Nat.gcd y (x % y) = Nat.gcd x y := by rw [Nat.gcd_comm y, ← Nat.gcd_rec, Nat.gcd_comm]
theorem lN_ne {y : Nat} (h : y < 2 ^ 63) (h0 : 0 < y) : ¬ lN y = 0 := fun z => by
  have := (pk_lEQ (b := 0) h (by decide)).mp z
  omega
theorem X8_common : ∀ (n x y : Nat), y ≤ n → x < 2 ^ 63 → y < 2 ^ 63 → ∃ z, wh wX8_common_6 (lN x, lN y) = some (lN (Nat.gcd x y), z) := by
  intro n
  induction n with
  | zero =>
    intro x y h hx hy
    have : y = 0 := by omega
    subst this
    refine ⟨lN 0, wh_inr ?_⟩
    unfold wX8_common_6
    dsimp only
    rw [if_pos ((lg_cmp_eq (lN 0) 0).mpr rfl), Nat.gcd_zero_right]
  | succ n ih =>
    intro x y h hx hy
    rcases Nat.eq_zero_or_pos y with z | z
    · subst z
      refine ⟨lN 0, wh_inr ?_⟩
      unfold wX8_common_6
      dsimp only
      rw [if_pos ((lg_cmp_eq (lN 0) 0).mpr rfl), Nat.gcd_zero_right]
    · have m := Nat.mod_lt x z
      obtain ⟨r, hr⟩ := ih y (x % y) (by omega) hy (by omega)
      refine ⟨r, ?_⟩
      rw [wh_inl (s' := (lN y, lN (x % y))) ?_, hr, gcd_step]
      unfold wX8_common_6
      dsimp only
      rw [if_neg (fun w => lN_ne hy z ((lg_cmp_eq _ _).mp w)), gzl_at (lN_ne hy z), lt_def, pk_lRem hx z hy]
theorem X8_commonF {x y : Nat} (hx : x < 2 ^ 63) (hy : y < 2 ^ 63) : fX8_common (lN x) (lN y) = some (lN (Nat.gcd x y)) := by
  obtain ⟨z, hz⟩ := X8_common y x y (Nat.le_refl y) hx hy
  unfold fX8_common
  rw [hz, bnd_some]
theorem n100 {i : Nat} (h : i < 100) : ¬ (100 : Int32) ≤ nI i := fun z => absurd ((nI_leI (a := 100) (by omega) (by omega)).mp z) (by omega)
theorem X6_gcd0 (x k : Nat) : ∃ z, wh wX6_greatestDivisor_9 (lN x, lN 0, nI k) = some (lN x, z) := by
  refine ⟨(lN 0, nI k), wh_inr ?_⟩
  unfold wX6_greatestDivisor_9
  dsimp only
  by_cases h : (100 : Int32) ≤ nI k
  · rw [if_pos h]
  · rw [if_neg h, if_pos ((lg_cmp_eq (lN 0) 0).mpr rfl)]
theorem X6_gcd1 {x y k : Nat} (hx : x < 2 ^ 63) (hy : y < 2 ^ 63) (h0 : 0 < y) (hk : k < 100) : wh wX6_greatestDivisor_9 (lN x, lN y, nI k) = wh wX6_greatestDivisor_9 (lN y, lN (x % y), nI (k + 1)) := by
  refine wh_inl ?_
  unfold wX6_greatestDivisor_9
  dsimp only
  rw [if_neg (n100 hk), if_neg (fun w => lN_ne hy h0 ((lg_cmp_eq _ _).mp w)), gzl_at (lN_ne hy h0), lt_def, lt_def, pk_lRem hx h0 hy, nI_1]
theorem X6_gcd : ∀ (m x y k : Nat), y < 2 ^ m → m < 63 → x < 2 ^ 63 → k + 2 * m ≤ 100 → ∃ z, wh wX6_greatestDivisor_9 (lN x, lN y, nI k) = some (lN (Nat.gcd x y), z) := by
  intro m
  induction m with
  | zero =>
    intro x y k h _ hx hk
    have : y = 0 := by omega
    subst this
    rw [Nat.gcd_zero_right]
    exact X6_gcd0 x k
  | succ m ih =>
    intro x y k h hm hx hk
    have hy : y < 2 ^ 63 := Nat.lt_trans h (Nat.pow_lt_pow_right (by decide) hm)
    rcases Nat.eq_zero_or_pos y with z | z
    · subst z
      rw [Nat.gcd_zero_right]
      exact X6_gcd0 x k
    · have q := Nat.mod_lt x z
      rw [X6_gcd1 hx hy z (by omega), ← gcd_step]
      rcases Nat.eq_zero_or_pos (x % y) with w | w
      · rw [w, Nat.gcd_zero_right]
        exact X6_gcd0 y (k + 1)
      · rw [X6_gcd1 hy (by omega) w (by omega), ← gcd_step]
        have half : 2 * (y % (x % y)) < y := by
          have q1 := Nat.mod_lt y w
          have q2 : y % (x % y) ≤ y - x % y := by
            have := Nat.mod_eq_sub_mod (Nat.le_of_lt q)
            rw [this]
            exact Nat.mod_le _ _
          omega
        exact ih (x % y) (y % (x % y)) (k + 1 + 1) (by rw [Nat.pow_succ] at h; omega) (by omega) (by omega) (by omega)
theorem X6_gcdF {x y : Nat} (hx : x < 2 ^ 63) (hy : y ≤ 2 ^ 36) : fX6_greatestDivisor (lN x) (lN y) = some (lN (Nat.gcd x y)) := by
  obtain ⟨z, hz⟩ := X6_gcd 37 x y 0 (Nat.lt_of_le_of_lt hy (by decide)) (by decide) hx (by decide)
  unfold fX6_greatestDivisor
  rw [show (lN x, lN y, (0 : Int32)) = (lN x, lN y, nI 0) from rfl, hz, bnd_some]
