/-! heaps: the cells that hang together with one -/
def RH (S : Nat → Bool) (i : Nat) (H : Nat → Bool) : Prop := H i = true ∧ (∀ x, x < 36 → H x = true → S x = true) ∧ (∀ x y, x < 36 → y < 36 → H x = true → adj x y = true → S y = true → H y = true) ∧ ∀ (Q : Nat → Prop), Q i → (∀ x y, x < 36 → y < 36 → Q x → adj x y = true → S y = true → Q y) → ∀ d, d < 36 → H d = true → Q d
theorem RH_eq {R S H H' : Nat → Bool} {i : Nat} (h : RH R i H) (h' : RH S i H') (sub : ∀ x, x < 36 → R x = true → S x = true) (cl : ∀ x y, x < 36 → y < 36 → R x = true → adj x y = true → S y = true → R y = true) : ∀ d, d < 36 → H d = H' d := by
  intro d hd
  have a : H d = true → H' d = true := fun z => h.2.2.2 (fun x => H' x = true) h'.1 (fun x y hx hy q1 q2 q3 => h'.2.2.1 x y hx hy q1 q2 (sub y hy q3)) d hd z
  have b : H' d = true → H d = true := fun z => h'.2.2.2 (fun x => H x = true) h.1 (fun x y hx hy q1 q2 q3 => h.2.2.1 x y hx hy q1 q2 (cl x y hx hy (h.2.1 x hx q1) q2 q3)) d hd z
  cases e : H d with
  | true => rw [a e]
  | false =>
    cases e' : H' d with
    | true => rw [b e'] at e; cases e
    | false => rfl
theorem adj_sym : ∀ c, c < 36 → ∀ d, d < 36 → adj c d = adj d c := by decide +kernel
/-- has the set a cell beside -/
def nbr (p : Nat → Bool) (c : Nat) : Bool := on p c 0 || on p c 1 || on p c 2 || on p c 3
theorem on_adj {p : Nat → Bool} {c w : Nat} (hw : w < 4) (h : on p c w = true) : bsd c w < 36 ∧ p (bsd c w) = true ∧ adj c (bsd c w) = true := by
  unfold on at h
  rw [Bool.and_eq_true, decide_eq_true_iff] at h
  refine ⟨h.1, h.2, ?_⟩
  unfold adj
  have : w = 0 ∨ w = 1 ∨ w = 2 ∨ w = 3 := by omega
  rcases this with z | z | z | z <;> subst z <;> simp
theorem nbr_iff {p : Nat → Bool} {c : Nat} : nbr p c = true ↔ ∃ d, d < 36 ∧ p d = true ∧ adj c d = true := by
  constructor
  · intro h
    unfold nbr at h
    rw [Bool.or_eq_true, Bool.or_eq_true, Bool.or_eq_true] at h
    rcases h with ((z | z) | z) | z
    · exact ⟨_, on_adj (w := 0) (by decide) z⟩
    · exact ⟨_, on_adj (w := 1) (by decide) z⟩
    · exact ⟨_, on_adj (w := 2) (by decide) z⟩
    · exact ⟨_, on_adj (w := 3) (by decide) z⟩
  · rintro ⟨d, hd, hp, ha⟩
    unfold adj at ha
    rw [Bool.or_eq_true, Bool.or_eq_true, Bool.or_eq_true] at ha
    have key : ∀ w, (bsd c w == d) = true → on p c w = true := fun w e => by
      unfold on
      rw [eq_of_beq e, hp, decide_eq_true hd]
      rfl
    unfold nbr
    rcases ha with ((z | z) | z) | z
    · rw [key 0 z]; rfl
    · rw [key 1 z]; simp
    · rw [key 2 z]; simp
    · rw [key 3 z]; simp
/-- a heap grows by a step -/
def gr (S h : Nat → Bool) (c : Nat) : Bool := h c || (nbr h c && S c)
theorem X3_heapBody (S h g : Nat → Bool) {k : Nat} (hk : k < 36) (hne : ¬ cset h = cset g) : wX3_heapFrom_12 (cset S) (cset h, cset g, nI k) = some (.inl (cset (gr S h), cset h, nI (k + 1))) := by
  unfold wX3_heapFrom_12
  dsimp only
  rw [if_neg (n36 hk), if_neg (fun z => hne ((lg_cmp_eq _ _).mp z)), X3_right, bnd_some, X3_left, bnd_some, X3_down, bnd_some, X3_up, bnd_some]
  simp only [lt_def, nI_1]
  rw [cset_or, cset_or, cset_or, cset_and, cset_or]
  congr 3
  refine cset_cong (fun c hc => ?_)
  unfold gr nbr
  rw [on_0 h hc, on_1 h hc, on_2 h hc, on_3 h hc]
  generalize (decide (6 ≤ c) && h (c - 6)) = a
  generalize (decide (c < 30) && h (c + 6)) = b
  generalize (!(decide (c % 6 = 0)) && h (c - 1)) = d
  generalize (!(decide (c % 6 = 5)) && h (c + 1)) = e
  generalize h c = x
  generalize S c = y
  cases a <;> cases b <;> cases d <;> cases e <;> cases x <;> cases y <;> rfl
theorem ct_same {p q : Nat → Bool} {n : Nat} (h : ∀ k, k < n → p k = true → q k = true) (hc : fb_ct q n ≤ fb_ct p n) : ∀ k, k < n → p k = q k := by
  intro k hk
  cases e : p k with
  | true => rw [h k hk e]
  | false =>
    cases e' : q k with
    | false => rfl
    | true => exact absurd (ct_lt hk e e' h) (by omega)
theorem X3_heapFrom {S : Nat → Bool} {i : Nat} (hi : i < 36) (hS : S i = true) : ∃ H, fX3_heapFrom (nI i) (cset S) = some (cset H) ∧ RH S i H := by
  have bit : (lshl 1 (nI i)) &&& cset S = cset (fun d => d == i) := lb_ext (fun c hc => by
    rw [lb_and, one_shl (by omega) hc, lb_cset S hc, lb_cset _ hc]
    by_cases e : c = i
    · subst e
      rw [decide_eq_true hi, hS]
      simp
    · rw [decide_eq_false e, bq e]; simp)
  obtain ⟨r, hr, H, e, hH⟩ := wh_meas (body := wX3_heapFrom_12 (cset S)) (fun s => ∃ k h g, k ≤ 36 ∧ s = (cset h, cset g, nI k) ∧ h i = true ∧ (∀ x, x < 36 → h x = true → S x = true) ∧ (∀ (Q : Nat → Prop), Q i → (∀ x y, x < 36 → y < 36 → Q x → adj x y = true → S y = true → Q y) → ∀ d, d < 36 → h d = true → Q d) ∧ k ≤ fb_ct g 36 ∧ (∀ x, x < 36 → g x = true → h x = true) ∧ (0 < k → ∀ x, x < 36 → h x = gr S g x) ∧ (k = 0 → ∀ x, x < 36 → g x = false)) (fun s => 36 - s.2.2.toNatClampNeg) (fun r => ∃ H, r.1 = cset H ∧ RH S i H) (by
    rintro s ⟨k, h, g, k36, rfl, h1, h2, h3, h4, h5, h6, h7⟩
    have stop : (∀ x, x < 36 → h x = g x) → RH S i h := fun e => by
      refine ⟨h1, h2, fun x y hx hy q1 q2 q3 => ?_, h3⟩
      have kp : 0 < k := by
        rcases Nat.eq_zero_or_pos k with z | z
        · exfalso
          have q := e i hi
          rw [h1, h7 z i hi] at q
          cases q
        · exact z
      rw [h6 kp y hy]
      unfold gr
      have : nbr g y = true := nbr_iff.mpr ⟨x, hx, by rw [← e x hx]; exact q1, by rw [adj_sym y hy x hx]; exact q2⟩
      rw [this, q3]
      simp
    by_cases k36' : k < 36
    · by_cases e : cset h = cset g
      · refine Or.inl ⟨(cset h, cset g, nI k), ?_, h, rfl, stop (cset_inj e)⟩
        unfold wX3_heapFrom_12
        dsimp only
        rw [if_neg (n36 k36'), if_pos ((lg_cmp_eq _ _).mpr e)]
      · refine Or.inr ⟨_, X3_heapBody S h g k36' e, ⟨k + 1, gr S h, h, by omega, rfl, ?_, ?_, ?_, ?_, ?_, fun _ _ _ => rfl, fun z => absurd z (by omega)⟩, ?_⟩
        · unfold gr; rw [h1]; rfl
        · intro x hx z
          unfold gr at z
          rw [Bool.or_eq_true, Bool.and_eq_true] at z
          rcases z with z | z
          · exact h2 x hx z
          · exact z.2
        · intro Q q0 qs d hd z
          unfold gr at z
          rw [Bool.or_eq_true, Bool.and_eq_true] at z
          rcases z with z | z
          · exact h3 Q q0 qs d hd z
          · obtain ⟨x, hx, p1, p2⟩ := nbr_iff.mp z.1
            exact qs x d hx hd (h3 Q q0 qs x hx p1) (by rw [adj_sym x hx d hd]; exact p2) z.2
        · rcases Nat.lt_or_ge (fb_ct g 36) (fb_ct h 36) with q | q
          · omega
          · exact absurd (cset_cong (fun x hx => (ct_same h5 q x hx).symm)) e
        · intro x hx z
          unfold gr
          rw [z]
          rfl
        · show 36 - (nI (k + 1)).toNatClampNeg < 36 - (nI k).toNatClampNeg
          rw [nI_clamp (by omega), nI_clamp (by omega)]
          omega
    · have k' : k = 36 := by omega
      subst k'
      refine Or.inl ⟨(cset h, cset g, nI 36), ?_, h, rfl, stop (fun x hx => ?_)⟩
      · unfold wX3_heapFrom_12
        dsimp only
        rw [if_pos e36]
      · exact (ct_same h5 (Nat.le_trans (fb_ct_le h 36) h4) x hx).symm) 36 (cset (fun d => d == i), 0, 0) (Nat.sub_le _ _) ⟨0, fun d => d == i, fun _ => false, by omega, by rw [← cset_none]; rfl, by simp, fun x hx z => by rw [eq_of_beq z]; exact hS, fun Q q0 _ d _ z => by rw [eq_of_beq z]; exact q0, by omega, (fun x _ z => absurd z Bool.false_ne_true), (fun z => absurd z (by omega)), (fun _ _ _ => rfl)⟩
  refine ⟨H, ?_, hH⟩
  unfold fX3_heapFrom
  rw [lt_def, bit, hr, bnd_some, e]
