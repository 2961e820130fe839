/-! the order in which acts are done -/
theorem bef_irr (A : AD) (a : Nat) : bef A a a = false := by unfold bef; simp
theorem bef_tr (A : AD) {a b c : Nat} (h1 : bef A a b = true) (h2 : bef A b c = true) : bef A a c = true := by
  unfold bef at *
  simp only [decide_eq_true_eq] at *
  omega
theorem bef_tot (A : AD) {a b : Nat} (h : a ≠ b) : bef A a b = true ∨ bef A b a = true := by
  unfold bef
  simp only [decide_eq_true_eq]
  omega
theorem bef_as (A : AD) {a b : Nat} (h : bef A a b = true) : bef A b a = false := by
  cases q : bef A b a with
  | false => rfl
  | true => have := bef_tr A h q; rw [bef_irr] at this; cases this
theorem ct_lt {p q : Nat → Bool} {n i : Nat} (hi : i < n) (hp : p i = false) (hq : q i = true) (h : ∀ k, k < n → p k = true → q k = true) : fb_ct p n < fb_ct q n := by
  have h1 := fb_ct_upd p true hi
  rw [hp] at h1
  have h2 : fb_ct (fun k => if k = i then true else p k) n ≤ fb_ct q n := fb_ct_sub (fun k hk hk2 => by
    by_cases e : k = i
    · rw [e]; exact hq
    · rw [if_neg e] at hk2; exact h k hk hk2)
  have h3 : fb_ct (fun k => if k = i then true else p k) n + 0 = fb_ct p n + 1 := h1
  omega
theorem plc_lt (A : AD) {a b : Nat} (hb : b < aN A) (h : bef A b a = true) : plc A b < plc A a :=
  ct_lt hb (bef_irr A b) h (fun k _ hk => bef_tr A hk h)
theorem plc_in (A : AD) {a : Nat} (ha : a < aN A) : plc A a < aN A := by
  have h1 : plc A a ≤ aN A := fb_ct_le _ _
  have h2 : plc A a ≠ aN A := fun e => by
    have := fb_ct_all.mp e a ha
    rw [bef_irr] at this
    cases this
  omega
theorem plc_inj (A : AD) {a b : Nat} (ha : a < aN A) (hb : b < aN A) (h : plc A a = plc A b) : a = b := by
  rcases Nat.decEq a b with e | e
  · rcases bef_tot A e with q | q
    · have := plc_lt A ha q; omega
    · have := plc_lt A hb q; omega
  · exact e
theorem bef_plc (A : AD) {a b : Nat} (ha : a < aN A) (hb : b < aN A) (h : plc A b < plc A a) : bef A b a = true := by
  by_cases e : b = a
  · subst e; omega
  · rcases bef_tot A e with q | q
    · exact q
    · have := plc_lt A ha q; omega
theorem ord_ex (A : AD) {n : Nat} (hn : n < aN A) : ∃ a, a < aN A ∧ plc A a = n :=
  fb_onto (fun i hi => plc_in A hi) (fun i j hij hj e => by have := plc_inj A (by omega) hj e; omega) hn
theorem ord_spec (A : AD) {n : Nat} (hn : n < aN A) : ordA A n < aN A ∧ plc A (ordA A n) = n := by
  obtain ⟨a, ha, hp⟩ := ord_ex A hn
  have hlt : ordA A n < aN A := by
    rcases Nat.lt_or_ge (ordA A n) (aN A) with q | q
    · exact q
    · have := fa_first_no (fun a => plc A a == n) (aN A) a (by unfold ordA at q; omega)
      simp [hp] at this
  have hy := fa_first_yes (fun a => plc A a == n) (aN A) hlt
  exact ⟨hlt, by simpa [ordA] using hy⟩
theorem ord_plc (A : AD) {a : Nat} (ha : a < aN A) : ordA A (plc A a) = a := by
  have h := ord_spec A (plc_in A ha)
  exact plc_inj A h.1 ha h.2
/-- how many acts are done up to a year -/
def upto (A : AD) (y : Nat) : Nat := fb_ct (fun a => decide (aY A a ≤ y)) (aN A)
theorem upto_le (A : AD) (y : Nat) : upto A y ≤ aN A := fb_ct_le _ _
/-- what the acts must be like: nu units -/
def VA (nu : Nat) (A : AD) : Prop := nu ≤ 10 ∧ aN A ≤ 30 ∧ (∀ u, u < nu → uK A u < 4) ∧ ∀ a, a < aN A → aK A a ≤ 4 ∧ 1000 ≤ aY A a ∧ aY A a ≤ 1999 ∧ (aK A a ≠ 3 → aO A a < nu) ∧ (aK A a = 1 ∨ aK A a = 2 → aT A a < nu ∧ aO A a ≠ aT A a) ∧ (aK A a = 4 → aT A a < nu) ∧ (aK A a = 3 → aO A a < a ∧ aK A (aO A a) ≤ 2 ∧ aY A (aO A a) ≤ aY A a)
theorem VA.back {nu : Nat} {A : AD} (h : VA nu A) {a : Nat} (ha : a < aN A) (k : aK A a = 3) : plc A (aO A a) < plc A a := by
  obtain ⟨h1, h2, h3⟩ := (h.2.2.2 a ha).2.2.2.2.2.2 k
  exact plc_lt A (by omega) (by unfold bef; simp only [decide_eq_true_eq]; omega)
theorem VA.wd {nu : Nat} {A : AD} (h : VA nu A) {n : Nat} (hn : n < aN A) : wd A (n + 1) = (stp A (wd A) n (ordA A n)).1 := by
  apply wd_s
  intro k
  have o := ord_spec A hn
  have := h.back o.1 k
  omega
/-- holders are units or nobody -/
theorem wd_hold {nu : Nat} {A : AD} (h : VA nu A) : ∀ n, n ≤ aN A → ∀ c, (wd A n).1 c ≤ 10 := by
  have key : ∀ n, ∀ k, k ≤ n → n ≤ aN A → ∀ c, (wd A k).1 c ≤ 10 := by
    intro n
    induction n with
    | zero => intro k hk _ c; have : k = 0 := by omega
              subst this; exact Nat.le_refl 10
    | succ n ih =>
      intro k hk hn c
      rcases Nat.lt_or_ge k (n + 1) with q | q
      · exact ih k (by omega) (by omega) c
      · have : k = n + 1 := by omega
        subst this
        rw [h.wd (by omega)]
        have o := ord_spec A (n := n) (by omega)
        have v := h.2.2.2 _ o.1
        have i1 := ih n (Nat.le_refl n) (by omega) c
        have nu10 := h.1
        unfold stp
        by_cases k0 : aK A (ordA A n) = 0
        · have l := v.2.2.2.1 (by omega)
          rw [if_pos k0]
          split
          · exact i1
          · show (if aS A (ordA A n) c then aO A (ordA A n) else (wd A n).1 c) ≤ 10
            split <;> omega
        · rw [if_neg k0]
          by_cases k1 : aK A (ordA A n) = 1
          · have l := (v.2.2.2.2.1 (Or.inl k1)).1
            rw [if_pos k1]
            split
            · show (if aS A (ordA A n) c && ((wd A n).1 c == aO A (ordA A n)) then aT A (ordA A n) else (wd A n).1 c) ≤ 10
              split <;> omega
            · exact i1
          · rw [if_neg k1]
            by_cases k2 : aK A (ordA A n) = 2
            · have l := (v.2.2.2.2.1 (Or.inr k2)).1
              rw [if_pos k2]
              split
              · show (if (wd A n).1 c == aO A (ordA A n) then aT A (ordA A n) else (wd A n).1 c) ≤ 10
                split <;> omega
              · exact i1
            · rw [if_neg k2]
              by_cases k3 : aK A (ordA A n) = 3
              · have b := h.back o.1 k3
                rw [o.2] at b
                have i2 := ih (plc A (aO A (ordA A n))) (by omega) (by omega) c
                rw [if_pos k3]
                split
                · show (if bkc _ _ _ c then (wd A (plc A (aO A (ordA A n)))).1 c else (wd A n).1 c) ≤ 10
                  split <;> omega
                · exact i1
              · rw [if_neg k3]
                split <;> exact i1
  exact fun n hn c => key n n (Nat.le_refl n) hn c
