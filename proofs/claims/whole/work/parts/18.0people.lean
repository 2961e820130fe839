/-! counts of people: the one that stands, the latest of a unit -/
def lix (cU cY : Nat → Nat) (u y : Nat) : Nat → Option Nat
  | 0 => none
  | n + 1 => if cU n = u ∧ cY n = y then some n else lix cU cY u y n
theorem lix_some {cU cY : Nat → Nat} {u y k : Nat} : ∀ {n : Nat}, lix cU cY u y n = some k ↔ (k < n ∧ cU k = u ∧ cY k = y ∧ ∀ l, l < n → k < l → ¬ (cU l = u ∧ cY l = y))
  | 0 => ⟨fun z => (by cases z), fun z => absurd z.1 (by omega)⟩
  | n + 1 => by
    unfold lix
    by_cases e : cU n = u ∧ cY n = y
    · rw [if_pos e]
      constructor
      · intro z
        have z' : n = k := Option.some.inj z
        subst z'
        exact ⟨by omega, e.1, e.2, fun l hl h => absurd h (by omega)⟩
      · rintro ⟨h1, h2, h3, h4⟩
        rcases Nat.lt_or_ge k n with q | q
        · exact absurd e (h4 n (by omega) q)
        · have : n = k := by omega
          rw [this]
    · rw [if_neg e, lix_some (n := n)]
      constructor
      · rintro ⟨h1, h2, h3, h4⟩
        refine ⟨by omega, h2, h3, fun l hl h => ?_⟩
        rcases Nat.lt_or_ge l n with q | q
        · exact h4 l q h
        · have : l = n := by omega
          rw [this]; exact e
      · rintro ⟨h1, h2, h3, h4⟩
        rcases Nat.lt_or_ge k n with q | q
        · exact ⟨q, h2, h3, fun l hl h => h4 l (by omega) h⟩
        · have : k = n := by omega
          subst this
          exact absurd ⟨h2, h3⟩ e
def std (nc : Nat) (cU cY : Nat → Nat) (y i : Nat) : Bool := decide (cY i = y ∧ ∀ l, l < nc → i < l → ¬ (cY l = y ∧ cU l = cU i))
theorem std_iff {nc : Nat} {cU cY : Nat → Nat} {y i : Nat} : std nc cU cY y i = true ↔ (cY i = y ∧ ∀ l, l < nc → i < l → ¬ (cY l = y ∧ cU l = cU i)) := by unfold std; exact decide_eq_true_iff
theorem std_lix {nc : Nat} {cU cY : Nat → Nat} {y i u : Nat} (hi : i < nc) : (cU i = u ∧ std nc cU cY y i = true) ↔ lix cU cY u y nc = some i := by
  rw [std_iff, lix_some]
  constructor
  · rintro ⟨h1, h2, h3⟩
    exact ⟨hi, h1, h2, fun l hl h z => h3 l hl h ⟨z.2, by rw [z.1, h1]⟩⟩
  · rintro ⟨_, h1, h2, h3⟩
    exact ⟨h1, h2, fun l hl h z => h3 l hl h ⟨by rw [z.2, h1], z.1⟩⟩
theorem sm_zero (n : Nat) : fb_sm (fun _ => 0) n = 0 := by rw [fb_sm_const, Nat.mul_zero]
theorem sm_swap (F : Nat → Nat → Nat) (m : Nat) : ∀ n, fb_sm (fun i => fb_sm (fun u => F i u) m) n = fb_sm (fun u => fb_sm (fun i => F i u) n) m
  | 0 => (sm_zero m).symm
  | n + 1 => by
    rw [fb_sm_succ, sm_swap F m n, ← fb_sm_add]
    rfl
theorem sm_one (v : Nat) {k n : Nat} (h : k < n) : fb_sm (fun i => if i = k then v else 0) n = v := by
  have := fb_sm_upd (fun _ => 0) v h
  rw [sm_zero] at this
  omega
/-- the row by units of what a row of counts gives -/
def bu (cU cY : Nat → Nat) (y nc : Nat) (g : Nat → Nat) (u : Nat) : Nat := match lix cU cY u y nc with | none => 0 | some k => g k
theorem bu_none {cU cY : Nat → Nat} {y nc u : Nat} {g : Nat → Nat} (h : lix cU cY u y nc = none) : bu cU cY y nc g u = 0 := by unfold bu; rw [h]
theorem bu_some {cU cY : Nat → Nat} {y nc u k : Nat} {g : Nat → Nat} (h : lix cU cY u y nc = some k) : bu cU cY y nc g u = g k := by unfold bu; rw [h]
def sg (nc : Nat) (cU cY : Nat → Nat) (y : Nat) (g : Nat → Nat) (i : Nat) : Nat := if std nc cU cY y i then g i else 0
theorem sum_units {nu nc y : Nat} {cU cY : Nat → Nat} (hU : ∀ i, i < nc → cU i < nu) (g : Nat → Nat) : fb_sm (sg nc cU cY y g) nc = fb_sm (bu cU cY y nc g) nu := by
  have h1 : fb_sm (sg nc cU cY y g) nc = fb_sm (fun i => fb_sm (fun u => if u = cU i then sg nc cU cY y g i else 0) nu) nc := fb_sm_cong (fun i hi => (sm_one _ (hU i hi)).symm)
  rw [h1, sm_swap]
  refine fb_sm_cong (fun u hu => ?_)
  cases e : lix cU cY u y nc with
  | none =>
    rw [bu_none e]
    refine (fb_sm_cong (g := fun _ => 0) (fun i hi => ?_)).trans (sm_zero nc)
    by_cases z : u = cU i
    · rw [if_pos z]
      unfold sg
      rw [if_neg]
      intro q
      have := (std_lix hi).mp ⟨z.symm, q⟩
      rw [e] at this
      cases this
    · rw [if_neg z]
  | some k =>
    rw [bu_some e]
    have hk := (lix_some.mp e).1
    have sk := (std_lix hk).mpr e
    refine (fb_sm_cong (g := fun i => if i = k then g k else 0) (fun i hi => ?_)).trans (sm_one _ hk)
    by_cases z : i = k
    · subst z
      rw [if_pos sk.1.symm, if_pos rfl]
      unfold sg
      rw [if_pos sk.2]
    · rw [if_neg z]
      by_cases q : u = cU i
      · rw [if_pos q]
        unfold sg
        rw [if_neg]
        intro w
        have := (std_lix hi).mp ⟨q.symm, w⟩
        rw [e] at this
        exact z (Option.some.inj this).symm
      · rw [if_neg q]
theorem X6_stands {M : Mem} {nu nc : Nat} {A : AD} {cU cY cP : Nat → Nat} (hT : CT M nu A nc cU cY cP) (h10 : nu ≤ 10) {i y : Nat} (hi : i < nc) (hy : y < 10000) : fX6_standsFor 129 (nI i) (nI y) M = some (if std nc cU cY y i then 1 else 0) := by
  have n20 := hT.1
  have q := hT.2.2.2
  unfold fX6_standsFor
  rw [r91, l131, gi_at (by omega) (by decide), nI_clamp (show i < 2 ^ 31 by omega), (q i hi).2.2.2.2.2.2.2.1, lt_def, nI_1]
  by_cases e : cY i = y
  · rw [if_pos (by rw [e])]
    obtain ⟨j, j1, j2, j3, j4, j5⟩ := wh_scan (body := wX6_standsFor_16 129 (nI i) (nI y) M) (fun l => nI l) (fun l => decide (cY l = y ∧ cU l = cU i)) (fun l => if l < nc then (0 : Int32) else 1) nc (fun l hl z => by
      have z' := of_decide_eq_false z
      unfold wX6_standsFor_16
      simp only [lt_def, nI_1]
      rw [hT.2.1, if_neg (nle hl (by omega)), r91, l131, gi_at (by omega) (by decide), nI_clamp (show l < 2 ^ 31 by omega), (q l hl).2.2.2.2.2.2.2.1]
      by_cases w : cY l = y
      · rw [if_pos (by rw [w]), r90, l130, gi_at (by omega) (by decide), gi_at (by omega) (by decide), nI_clamp (show i < 2 ^ 31 by omega), (q l hl).2.2.2.2.2.1, (q i hi).2.2.2.2.2.1, if_neg]
        have := (q l hl).1
        have := (q i hi).1
        exact nI_lit (by omega) (by omega) (fun v => z' ⟨w, v⟩)
      · rw [if_neg]
        have := (q l hl).2.2.2.1
        exact nI_lit (by omega) (by omega) w) (fun l hl z => by
      have z' := of_decide_eq_true z
      unfold wX6_standsFor_16
      simp only [lt_def, nI_1]
      rw [hT.2.1, if_neg (nle hl (by omega)), r91, l131, gi_at (by omega) (by decide), nI_clamp (show l < 2 ^ 31 by omega), (q l hl).2.2.2.2.2.2.2.1, if_pos (by rw [z'.1]), r90, l130, gi_at (by omega) (by decide), gi_at (by omega) (by decide), nI_clamp (show i < 2 ^ 31 by omega), (q l hl).2.2.2.2.2.1, (q i hi).2.2.2.2.2.1, if_pos (by rw [z'.2]), if_pos hl]) (by
      unfold wX6_standsFor_16
      rw [hT.2.1, if_pos (ele _ (by omega)), if_neg (by omega)]) (nc - (i + 1)) (i + 1) (by omega)
    rw [j3]
    by_cases z : j < nc
    · have z' := of_decide_eq_true (j5 z)
      rw [if_pos z, if_neg]
      intro w
      exact (std_iff.mp w).2 j z (by omega) z'
    · rw [if_neg z, if_pos]
      refine std_iff.mpr ⟨e, fun l hl h => of_decide_eq_false (j4 l (by omega) (by omega))⟩
  · rw [if_neg, if_neg]
    · intro w
      exact e (std_iff.mp w).1
    · have := (q i hi).2.2.2.1
      exact nI_lit (by omega) (by omega) e
theorem X8_latest {M : Mem} {nu nc : Nat} {A : AD} {cU cY cP : Nat → Nat} (hT : CT M nu A nc cU cY cP) (h10 : nu ≤ 10) {u y : Nat} (hu : u < 100) (hy : y < 10000) : fX8_latest 151 (nI u) (nI y) M = some (match lix cU cY u y nc with | none => -1 | some k => nI (cP k)) := by
  have n20 := hT.1
  have q := hT.2.2.2
  have k : ∀ n, n ≤ nc → wh (wX8_latest_7 151 (nI u) (nI y) M) (nI n + (-1)) = some (match lix cU cY u y n with | none => -1 | some k => nI (cP k)) := by
    intro n
    induction n with
    | zero =>
      intro _
      refine wh_inr ?_
      unfold wX8_latest_7
      rw [if_pos (by decide)]
      rfl
    | succ n ih =>
      intro hn
      have hn' : n < nc := by omega
      obtain ⟨a1, a2, a3, a4, a5, a6, a7, a8, a9, a10, a11⟩ := q n hn'
      rw [pk_m1]
      by_cases e : cU n = u ∧ cY n = y
      · rw [show lix cU cY u y (n + 1) = some n from if_pos e]
        refine wh_inr ?_
        unfold wX8_latest_7
        simp only [rM, Nat.reduceAdd, l160, l161, l162]
        rw [if_neg (nI_pos (by omega)), gi_at (by omega) (by decide), gi_at (by omega) (by decide), gi_at (by omega) (by decide), nI_clamp (show n < 2 ^ 31 by omega), a7, a9, a11, if_pos (by rw [e.1]), if_pos (by rw [e.2])]
      · rw [show lix cU cY u y (n + 1) = lix cU cY u y n from if_neg e, ← ih (by omega)]
        refine wh_inl ?_
        unfold wX8_latest_7
        simp only [rM, Nat.reduceAdd, l160, l161, l162, lt_def]
        rw [if_neg (nI_pos (by omega)), gi_at (by omega) (by decide), gi_at (by omega) (by decide), nI_clamp (show n < 2 ^ 31 by omega), a7, a9]
        by_cases z : cU n = u
        · rw [if_pos (by rw [z]), if_neg (nI_lit (by omega) (by omega) (fun w => e ⟨z, w⟩))]
        · rw [if_neg (nI_lit (by omega) (by omega) z)]
  unfold fX8_latest
  rw [lt_def, hT.2.2.1, Int32.sub_eq_add_neg]
  exact k nc (Nat.le_refl nc)
theorem X6_sum {M : Mem} {nu nc : Nat} {A : AD} {cU cY cP : Nat → Nat} (hT : CT M nu A nc cU cY cP) (h10 : nu ≤ 10) {y : Nat} (hy : y < 10000) : fX6_sum 129 (nI y) M = some (lN (fb_sm (sg nc cU cY y cP) nc)) := by
  have n20 := hT.1
  have k := wh_seq (body := wX6_sum_5 129 (nI y) M) (fun i => (lN (fb_sm (sg nc cU cY y cP) i), nI i)) nc (lN (fb_sm (sg nc cU cY y cP) nc), nI nc) (fun i hi => by
    obtain ⟨a1, a2, a3, a4, a5, a6, a7, a8, a9, a10, a11⟩ := hT.2.2.2 i hi
    unfold wX6_sum_5
    dsimp only
    simp only [lt_def, nI_1]
    rw [hT.2.1, if_neg (nle hi (by omega)), X6_stands hT h10 hi hy, bnd_some, r92, l132, gi_at (by omega) (by decide), nI_clamp (show i < 2 ^ 31 by omega), a10, toL (by omega), lN_add, fb_sm_succ]
    unfold sg
    cases std nc cU cY y i with
    | true => rw [if_pos rfl, if_neg (by decide), if_pos rfl]
    | false => rw [if_pos (by rfl), if_neg (by decide)]; rfl) (by
    unfold wX6_sum_5
    dsimp only
    rw [hT.2.1, if_pos (ele _ (by omega))])
  unfold fX6_sum
  rw [show ((0 : Int64), (0 : Int32)) = (lN (fb_sm (sg nc cU cY y cP) 0), nI 0) from rfl, k, bnd_some]
theorem X8_peopleSum {M : Mem} {nu nc : Nat} {A : AD} {cU cY cP : Nat → Nat} (hT : CT M nu A nc cU cY cP) (h10 : nu ≤ 10) (hN : M.1 151 0 = nI nu) {y : Nat} (hy : y < 10000) : wh (wX8_people_20 151 (nI y) M) (0, 0) = some (lN (fb_sm (bu cU cY y nc cP) nu), nI nu) := by
  refine wh_seq (body := wX8_people_20 151 (nI y) M) (fun i => (lN (fb_sm (bu cU cY y nc cP) i), nI i)) nu (lN (fb_sm (bu cU cY y nc cP) nu), nI nu) (fun i hi => ?_) ?_
  · unfold wX8_people_20
    dsimp only
    simp only [lt_def, nI_1]
    rw [hN, if_neg (nle hi (by omega)), X8_latest hT h10 (by omega) hy, bnd_some, bnd_some, fb_sm_succ]
    cases e : lix cU cY i y nc with
    | none =>
      rw [bu_none e]
      dsimp only
      rw [if_neg (by decide), Int64.add_zero]
      rfl
    | some k =>
      have := (hT.2.2.2 k (lix_some.mp e).1).2.2.2.2.1
      rw [bu_some e]
      dsimp only
      rw [if_pos (nI_pos' (by omega)), toL (by omega), lN_add]
  · unfold wX8_people_20
    dsimp only
    rw [hN, if_pos (ele _ (by omega))]
theorem S_people {t : Nat} {M : Mem} (h : Inv t M) (x1 : Int32) : Ok t M (fX7_people 0 x1) (fX8_people 151 x1) := by
  obtain ⟨nu, A, nc, cU, cY, cP, mY, mQ, sB, sN, f, hf, j⟩ := h
  have hV := j.1.1
  have hT := j.2.2.2.1
  cases c1 : rng 1000 1999 x1 with
  | false => exact Ok_ref hf j (-1000000000000000001) (by simp only [fX7_people, X7_isYear, c1, bnd_some, Bool.false_eq_true, if_false, if_true, X7_ref]) (by simp only [fX8_people, X8_isYear, c1, bnd_some, Bool.false_eq_true, if_false, if_true, X8_ref])
  | true =>
    obtain ⟨y, e1, hy1, hy2⟩ := rng_nat (lo := 1000) (hi := 1999) c1
    subst e1
    refine Ok_ans hf j (lN (fb_sm (bu cU cY y nc cP) nu)) ?_ FrD.rf ?_
    · simp only [fX7_people, X7_isYear, c1, bnd_some, if_false, if_true, i10, r01]
      rw [X6_sum hT hV.1 (by omega), bnd_some, sum_units (fun i hi => (hT.2.2.2 i hi).1)]
    · simp only [fX8_people, X8_isYear, c1, bnd_some, if_false, if_true, i10]
      rw [X8_peopleSum hT hV.1 j.2.1.1 (by omega), bnd_some]
