/-! years: best, changes -/
theorem wh_scan {S R : Type} {body : S → Option (S ⊕ R)} (st : Nat → S) (p : Nat → Bool) (v : Nat → R) (N : Nat) (h1 : ∀ i, i < N → p i = false → body (st i) = some (.inl (st (i + 1)))) (h2 : ∀ i, i < N → p i = true → body (st i) = some (.inr (v i))) (h3 : body (st N) = some (.inr (v N))) : ∀ k i, i + k = N → ∃ j, i ≤ j ∧ j ≤ N ∧ wh body (st i) = some (v j) ∧ (∀ l, i ≤ l → l < j → p l = false) ∧ (j < N → p j = true) := by
  intro k
  induction k with
  | zero =>
    intro i hi
    have : i = N := by omega
    subst this
    exact ⟨i, Nat.le_refl i, Nat.le_refl i, wh_inr h3, fun l a b => absurd b (by omega), fun a => absurd a (by omega)⟩
  | succ k ih =>
    intro i hi
    cases e : p i with
    | true => exact ⟨i, Nat.le_refl i, by omega, wh_inr (h2 i (by omega) e), fun l a b => absurd b (by omega), fun _ => e⟩
    | false =>
      obtain ⟨j, a, b, c, d, f⟩ := ih (i + 1) (by omega)
      refine ⟨j, by omega, b, by rw [wh_inl (h1 i (by omega) e)]; exact c, fun l hl hl2 => ?_, f⟩
      by_cases z : l = i
      · rw [z]; exact e
      · exact d l (by omega) hl2
theorem upto_mono (A : AD) {y z : Nat} (h : y ≤ z) : upto A y ≤ upto A z := fb_ct_sub (fun a _ e => decide_eq_true (Nat.le_trans (of_decide_eq_true e) h))
theorem ord_upto (A : AD) {k : Nat} (hk : k < aN A) (y : Nat) : aY A (ordA A k) ≤ y ↔ k < upto A y := by
  have o := ord_spec A hk
  rw [upto_plc A o.1 y, o.2]
/-- what stands at a year came with the last act up to it -/
theorem yr_step (A : AD) {lo y : Nat} (h : lo ≤ y) : upto A y = upto A lo ∨ ∃ k, k < aN A ∧ lo < aY A (ordA A k) ∧ aY A (ordA A k) ≤ y ∧ upto A (aY A (ordA A k)) = upto A y := by
  have m := upto_mono A h
  have l := upto_le A y
  by_cases e : upto A y = upto A lo
  · exact Or.inl e
  · have hk : upto A y - 1 < aN A := by omega
    have a1 : aY A (ordA A (upto A y - 1)) ≤ y := (ord_upto A hk y).mpr (by omega)
    have a2 : ¬ aY A (ordA A (upto A y - 1)) ≤ lo := fun z => by have := (ord_upto A hk lo).mp z; omega
    have a3 := (ord_upto A hk (aY A (ordA A (upto A y - 1)))).mp (Nat.le_refl _)
    have a4 := upto_mono A a1
    exact Or.inr ⟨_, hk, by omega, a1, by omega⟩
theorem ord_yr (A : AD) {k p : Nat} (hk : k < aN A) (hp : p < aN A) (h : aY A (ordA A k) < aY A (ordA A p)) : k < p := by
  have a := ord_spec A hk
  have b := ord_spec A hp
  have := plc_lt A (a := ordA A p) a.1 (show bef A (ordA A k) (ordA A p) = true by unfold bef; exact decide_eq_true (Or.inl h))
  omega
theorem X2_actAt {M : Mem} {nu p : Nat} {A : AD} (hC : CI M nu A) (hp : p < aN A) : fX2_actAt 1 (nI p) M = some (6 + ordA A p) := by
  have n30 := hC.1.2.1
  have o := ord_spec A hp
  exact X2_actAtR hC.2.1.2.2.1 n30 hp o.1 (hC.2.2.1 p hp)
/-- how many cells of a map are right at a year -/
def agr (A : AD) (q : Nat → Nat) (y : Nat) : Nat := fb_ct (fun c => q c == (wd A (upto A y)).1 c) 36
theorem agr_le (A : AD) (q : Nat → Nat) (y : Nat) : agr A q y ≤ 36 := fb_ct_le _ _
theorem agr_up {A : AD} {q : Nat → Nat} {y z : Nat} (h : upto A y = upto A z) : agr A q y = agr A q z := by unfold agr; rw [h]
def FM (f : Nat → Nat) (lo hi b : Nat) : Prop := lo ≤ b ∧ b ≤ hi ∧ (∀ y, lo ≤ y → y ≤ hi → f y ≤ f b) ∧ ∀ y, lo ≤ y → y < b → f y < f b
theorem FM_one {f : Nat → Nat} {lo hi b b' : Nat} (h : FM f lo hi b) (h' : FM f lo hi b') : b = b' := by
  rcases Nat.lt_trichotomy b b' with z | z | z
  · have a := h'.2.2.2 b h.1 z
    have c := h.2.2.1 b' h'.1 h'.2.1
    omega
  · exact z
  · have a := h.2.2.2 b' h'.1 z
    have c := h'.2.2.1 b h.1 h.2.1
    omega
theorem X8_bestLoop {M : Mem} {nu m lo hi : Nat} {A : AD} {q : Nat → Nat} (hV : VA nu A) (hD : RD M nu A) (hS : RS M A) (hm : m < 4) (hq : CQ M m q) (h1 : lo ≤ hi) (h2 : hi ≤ 1999) :
    ∃ b x y, wh (wX8_best_56 151 (nI m) (nI hi) M) (nI lo, nI (agr A q lo), nI lo) = some (nI b, x, y) ∧ FM (agr A q) lo hi b := by
  have n30 := hV.2.1
  obtain ⟨r, hr, b, x, y, e, hb⟩ := wh_inv (body := wX8_best_56 151 (nI m) (nI hi) M) (fun i s => lo ≤ i ∧ ∃ b, s = (nI b, nI (agr A q b), nI i) ∧ lo ≤ b ∧ b ≤ hi ∧ (∀ y, lo ≤ y → y < i → agr A q y ≤ agr A q b) ∧ ∀ y, lo ≤ y → y < b → agr A q y < agr A q b) (hi + 1) (fun r => ∃ b x y, r = (nI b, x, y) ∧ FM (agr A q) lo hi b) (by
    rintro i s hi' ⟨li, b, rfl, b1, b2, b3, b4⟩
    have ul := upto_le A i
    have la := agr_le A q i
    have lb' := agr_le A q b
    unfold wX8_best_56
    dsimp only
    simp only [lt_def, nI_1]
    rw [if_neg (nI_nlt (by omega) (by omega)), X8_until hV hD (by omega), bnd_some, X8_agrees hm (by omega) hq (hS.2.2.1 _ ul), bnd_some]
    rw [show fb_ct (fun c => q c == (wd A (upto A i)).1 c) 36 = agr A q i from rfl]
    by_cases z : agr A q b < agr A q i
    · rw [if_pos (nI_lt z (by omega))]
      exact ⟨_, rfl, by omega, i, rfl, by omega, by omega, fun y a c => by
        by_cases e : y = i
        · rw [e]; omega
        · have := b3 y a (by omega); omega, fun y a c => by have := b3 y a c; omega⟩
    · rw [if_neg (nI_nlt (by omega) (by omega))]
      exact ⟨_, rfl, by omega, b, rfl, b1, b2, fun y a c => by
        by_cases e : y = i
        · rw [e]; omega
        · exact b3 y a (by omega), b4⟩) (by
    rintro s ⟨_, b, rfl, b1, b2, b3, b4⟩
    refine ⟨_, ?_, b, nI (agr A q b), nI (hi + 1), rfl, b1, b2, fun y a c => b3 y a (by omega), b4⟩
    unfold wX8_best_56
    dsimp only
    rw [if_pos (nI_lt (by omega) (by omega))]) (hi + 1 - lo) lo (nI lo, nI (agr A q lo), nI lo) (by omega) ⟨by omega, lo, rfl, by omega, h1, fun y a c => absurd c (by omega), fun y a c => absurd c (by omega)⟩
  subst e
  exact ⟨b, x, y, hr, hb⟩
theorem X7_bestYear {M : Mem} {nu m lo hi : Nat} {A : AD} {q : Nat → Nat} (hC : CI M nu A) (hm : m < 4) (hq : CR M m q) (h1 : lo ≤ hi) (h2 : hi ≤ 1999) :
    ∃ b, fX7_bestYear 0 (135 + 2 * m) (nI lo) (nI hi) M = some (nI b) ∧ FM (agr A q) lo hi b := by
  have hV := hC.1
  have n30 := hV.2.1
  have ag : ∀ y, y < 10000 → fX1_agreement (135 + 2 * m) (36 + 3 * upto A y) M = some (nI (agr A q y)) := fun y _ => by
    have ul := upto_le A y
    exact X1_agree hm (by omega) hq (hC.2.2.2.1 _ ul)
  have gs : ∀ {α : Type} {E : Option α} (y : Nat), gd (shp (36 + 3 * upto A y) = 3) inferInstance E = E := fun {_ _} y => gd_at (shp_m (by have := upto_le A y; omega))
  obtain ⟨r, hr, b, x, y, e, hb⟩ := wh_inv (body := wX7_bestYear_20 0 (135 + 2 * m) (nI lo) (nI hi) M) (fun p s => ∃ b, s = (nI b, nI (agr A q b), nI p) ∧ lo ≤ b ∧ b ≤ hi ∧ agr A q lo ≤ agr A q b ∧ (∀ k, k < p → lo < aY A (ordA A k) → aY A (ordA A k) ≤ hi → agr A q (aY A (ordA A k)) ≤ agr A q b) ∧ ∀ y, lo ≤ y → y < b → agr A q y < agr A q b) (aN A) (fun r => ∃ b x y, r = (nI b, x, y) ∧ FM (agr A q) lo hi b) (by
    rintro p s hp ⟨b, rfl, b1, b2, b0, b3, b4⟩
    have o := ord_spec A hp
    have yb := (hV.2.2.2 _ o.1).2.2.1
    have la := agr_le A q (aY A (ordA A p))
    have lb' := agr_le A q b
    unfold wX7_bestYear_20
    dsimp only
    simp only [lt_def, nI_1, r00]
    rw [hC.2.1.2.2.1, if_neg (nle hp (by omega)), X2_actAt hC hp, bnd_some, gd_at (shp_a (by omega)), (hC.2.1.2.2.2 _ o.1).2.1]
    by_cases z1 : aY A (ordA A p) ≤ lo
    · rw [if_pos (nI_le z1 (by omega))]
      refine ⟨_, rfl, b, rfl, b1, b2, b0, fun k hk a c => ?_, b4⟩
      by_cases e : k = p
      · rw [e] at a; omega
      · exact b3 k (by omega) a c
    · rw [if_neg (nle (by omega) (by omega))]
      by_cases z2 : hi < aY A (ordA A p)
      · rw [if_pos (nI_lt z2 (by omega))]
        refine ⟨_, rfl, b, rfl, b1, b2, b0, fun k hk a c => ?_, b4⟩
        by_cases e : k = p
        · rw [e] at c; omega
        · exact b3 k (by omega) a c
      · rw [if_neg (nI_nlt (by omega) (by omega)), X2_momentAt hC (by omega), bnd_some, gs, ag _ (by omega), bnd_some]
        by_cases z3 : agr A q (aY A (ordA A p)) ≤ agr A q b
        · rw [if_pos (nI_le z3 (by omega))]
          refine ⟨_, rfl, b, rfl, b1, b2, b0, fun k hk a c => ?_, b4⟩
          by_cases e : k = p
          · rw [e]; exact z3
          · exact b3 k (by omega) a c
        · rw [if_neg (nle (by omega) (by omega))]
          refine ⟨_, rfl, aY A (ordA A p), rfl, by omega, by omega, by omega, fun k hk a c => ?_, fun y a c => ?_⟩
          · by_cases e : k = p
            · rw [e]; exact Nat.le_refl _
            · have := b3 k (by omega) a c; omega
          · rcases yr_step A a with e | ⟨k, k1, k2, k3, k4⟩
            · rw [agr_up e]; omega
            · have := b3 k (ord_yr A k1 hp (by omega)) k2 (by omega)
              rw [agr_up k4] at this
              omega) (by
    rintro s ⟨b, rfl, b1, b2, b0, b3, b4⟩
    refine ⟨_, ?_, b, nI (agr A q b), nI (aN A), rfl, b1, b2, fun y a c => ?_, b4⟩
    · unfold wX7_bestYear_20
      dsimp only
      rw [r00, hC.2.1.2.2.1, if_pos (ele _ (by omega))]
    · rcases yr_step A a with e | ⟨k, k1, k2, k3, k4⟩
      · rw [agr_up e]; exact b0
      · rw [← agr_up k4]; exact b3 k k1 k2 (by omega)) (aN A) 0 (nI lo, nI (agr A q lo), nI 0) (by omega) ⟨lo, rfl, by omega, h1, Nat.le_refl _, fun k hk => absurd hk (by omega), fun y a c => absurd c (by omega)⟩
  subst e
  refine ⟨b, ?_, hb⟩
  unfold fX7_bestYear
  rw [r00, X2_momentAt hC (by omega), bnd_some, gs, ag _ (by omega), bnd_some]
  rw [show (nI lo, nI (agr A q lo), (0 : Int32)) = (nI lo, nI (agr A q lo), nI 0) from rfl, hr, bnd_some]
theorem S_best {t : Nat} {M : Mem} (h : Inv t M) (x1 x2 x3 : Int32) : Ok t M (fX7_best 0 x1 x2 x3) (fX8_best 151 x1 x2 x3) := by
  obtain ⟨nu, A, nc, cU, cY, cP, mY, mQ, sB, sN, f, hf, j⟩ := h
  have hC := j.1
  have hD := j.2.1
  have hV := hC.1
  have n30 := hV.2.1
  cases c1 : rng 0 3 x1 with
  | false => exact Ok_ref hf j (-1000000000000000001) (by simp only [fX7_best, X7_isMap, c1, bnd_some, Bool.false_eq_true, if_false, if_true, X7_ref]) (by simp only [fX8_best, X8_isMap, c1, bnd_some, Bool.false_eq_true, if_false, if_true, X8_ref])
  | true =>
    cases c2 : rng 1000 1999 x2 with
    | false => exact Ok_ref hf j (-1000000000000000001) (by simp only [fX7_best, X7_isMap, X7_isYear, c1, c2, bnd_some, Bool.false_eq_true, if_false, if_true, i10, X7_ref]) (by simp only [fX8_best, X8_isMap, X8_isYear, c1, c2, bnd_some, Bool.false_eq_true, if_false, if_true, i10, X8_ref])
    | true =>
      cases c3 : rng 1000 1999 x3 with
      | false => exact Ok_ref hf j (-1000000000000000001) (by simp only [fX7_best, X7_isMap, X7_isYear, c1, c2, c3, bnd_some, Bool.false_eq_true, if_false, if_true, i10, X7_ref]) (by simp only [fX8_best, X8_isMap, X8_isYear, c1, c2, c3, bnd_some, Bool.false_eq_true, if_false, if_true, i10, X8_ref])
      | true =>
        by_cases c4 : x2 ≤ x3
        · obtain ⟨m, e1, _, hm⟩ := rng_nat (lo := 0) (hi := 3) c1
          obtain ⟨lo, e2, lo1, lo2⟩ := rng_nat (lo := 1000) (hi := 1999) c2
          obtain ⟨hi, e3, hi1, hi2⟩ := rng_nat (lo := 1000) (hi := 1999) c3
          subst e1
          subst e2
          subst e3
          have c4' : lo ≤ hi := (nI_leI (by omega) (by omega)).mp c4
          obtain ⟨a1, a2, a3, a4, a5, a6⟩ := j.2.2.2.2.1 m (by omega)
          have g4 : ∀ {α : Type} {E : Option α}, gi (nI m) 4 E = E := fun {_ _} => gi_at (by omega) (by decide)
          have cl : (nI m).toNatClampNeg = m := nI_clamp (by omega)
          obtain ⟨M', hd, fd, rs⟩ := X8_done hV hD
          have hD' := RD_keep fd hD
          obtain ⟨k1, k2, k3, k4, k5, k6⟩ := (J_D fd j).2.2.2.2.1 m (by omega)
          obtain ⟨b, hb, fb⟩ := X7_bestYear hC (m := m) (by omega) ⟨a4, a5⟩ c4' hi2
          obtain ⟨b', x, y, hb', fb'⟩ := X8_bestLoop hV hD' rs (m := m) (by omega) ⟨k4, k6⟩ c4' hi2
          have e := FM_one fb' fb
          subst e
          have ul := upto_le A lo
          have ag := X8_agrees (m := m) (by omega) (show upto A lo < 31 by omega) ⟨k4, k6⟩ (rs.2.2.1 _ ul)
          rw [show fb_ct (fun c => mQ m c == (wd A (upto A lo)).1 c) 36 = agr A (mQ m) lo from rfl] at ag
          exact Ok_ans hf j ((nI b').toInt64) (by simp only [fX7_best, X7_isMap, X7_isYear, c1, c2, c3, c4, bnd_some, if_false, if_true, i10, r02, l133, g4, cl, ra133, hb]) fd (by simp only [fX8_best, X8_isMap, X8_isYear, c1, c2, c3, c4, bnd_some, if_false, if_true, i10, hd, X8_until hV hD' (show lo < 10000 by omega), ag, hb'])
        · exact Ok_ref hf j (-1000000000000000001) (by simp only [fX7_best, X7_isMap, X7_isYear, c1, c2, c3, c4, bnd_some, if_false, if_true, i10, X7_ref]) (by simp only [fX8_best, X8_isMap, X8_isYear, c1, c2, c3, c4, bnd_some, if_false, if_true, i10, X8_ref])
/-- the cells of a unit at a year -/
def hdY (A : AD) (u y : Nat) : Int64 := cset (hldw A (wd A (upto A y)) u)
theorem hdY_up {A : AD} {u y z : Nat} (h : upto A y = upto A z) : hdY A u y = hdY A u z := by unfold hdY; rw [h]
theorem hdY_0 {nu u : Nat} {A : AD} (hV : VA nu A) (hu : u < nu) : hdY A u 999 = 0 := by
  have n10' := hV.1
  have e : upto A 999 = 0 := fb_ct_zero.mpr (fun a ha => decide_eq_false (by have := (hV.2.2.2 a ha).2.1; omega))
  unfold hdY
  rw [e, cset_0]
  intro c _
  unfold hldw
  rw [show (wd A 0).1 c = 10 from rfl]
  split
  · rfl
  · exact bq (by omega)
/-- the first year from lo on at which a unit's cells are others than a year ahead -/
def FC (A : AD) (u lo y : Nat) : Prop := lo ≤ y ∧ y ≤ 1999 ∧ hdY A u y ≠ hdY A u (y - 1) ∧ ∀ z, lo ≤ z → z < y → hdY A u z = hdY A u (z - 1)
def NoC (A : AD) (u lo : Nat) : Prop := ∀ z, lo ≤ z → z ≤ 1999 → hdY A u z = hdY A u (z - 1)
theorem FC_one {A : AD} {u lo y y' : Nat} (h : FC A u lo y) (h' : FC A u lo y') : y = y' := by
  rcases Nat.lt_trichotomy y y' with z | z | z
  · exact absurd (h'.2.2.2 y h.1 z) h.2.2.1
  · exact z
  · exact absurd (h.2.2.2 y' h'.1 z) h'.2.2.1
theorem hdY_act {A : AD} {u y : Nat} (hy : 0 < y) (h : hdY A u y ≠ hdY A u (y - 1)) : ∃ k, k < aN A ∧ aY A (ordA A k) = y := by
  rcases yr_step A (show y - 1 ≤ y by omega) with e | ⟨k, k1, k2, k3, _⟩
  · exact absurd (hdY_up e) h
  · exact ⟨k, k1, by omega⟩
theorem X2_firstChange {M : Mem} {nu u lo : Nat} {A : AD} (hC : CI M nu A) (hH : VH nu A) (hu : u < nu) (h1 : 1000 ≤ lo) (h2 : lo ≤ 1999) : (∃ y, fX2_firstChange 1 (nI u) (nI lo) M = some (nI y) ∧ FC A u lo y) ∨ (fX2_firstChange 1 (nI u) (nI lo) M = some (-1) ∧ NoC A u lo) := by
  have hV := hC.1
  have n30 := hV.2.1
  have yb : ∀ p, p < aN A → 1000 ≤ aY A (ordA A p) ∧ aY A (ordA A p) ≤ 1999 := fun p hp => ⟨(hV.2.2.2 _ (ord_spec A hp).1).2.1, (hV.2.2.2 _ (ord_spec A hp).1).2.2.1⟩
  have b : ∀ p, p < aN A → wX2_firstChange_2 1 (nI u) (nI lo) M (nI p) = (if aY A (ordA A p) < lo then some (.inl (nI (p + 1))) else if hdY A u (aY A (ordA A p)) = hdY A u (aY A (ordA A p) - 1) then some (.inl (nI (p + 1))) else some (.inr (nI (aY A (ordA A p))))) := by
    intro p hp
    have o := ord_spec A hp
    have y := yb p hp
    unfold wX2_firstChange_2
    simp only [lt_def, nI_1]
    rw [hC.2.1.2.2.1, if_neg (nle hp (by omega)), X2_actAt hC hp, bnd_some, gd_at (shp_a (by omega)), (hC.2.1.2.2.2 _ o.1).2.1]
    by_cases z : aY A (ordA A p) < lo
    · rw [if_pos (nI_lt z (by omega)), if_pos z]
    · rw [if_neg (nI_nlt (by omega) (by omega)), if_neg z, show (1 : Int32) = nI 1 from rfl, pk_sub (show 1 ≤ aY A (ordA A p) by omega), X2_heldAt hC hH hu (by omega), bnd_some, X2_heldAt hC hH hu (by omega), bnd_some]
      unfold hdY
      by_cases z2 : cset (hldw A (wd A (upto A (aY A (ordA A p)))) u) = cset (hldw A (wd A (upto A (aY A (ordA A p) - 1))) u)
      · rw [if_pos ((lg_cmp_eq _ _).mpr z2), if_pos z2]
      · rw [if_neg (fun w => z2 ((lg_cmp_eq _ _).mp w)), if_neg z2]
  obtain ⟨p, _, p2, p3, p4, p5⟩ := wh_scan (body := wX2_firstChange_2 1 (nI u) (nI lo) M) (fun i => nI i) (fun p => decide (lo ≤ aY A (ordA A p) ∧ hdY A u (aY A (ordA A p)) ≠ hdY A u (aY A (ordA A p) - 1))) (fun p => if p < aN A then nI (aY A (ordA A p)) else -1) (aN A) (fun i hi e => by
    have e' := of_decide_eq_false e
    rw [b i hi]
    by_cases z : aY A (ordA A i) < lo
    · rw [if_pos z]
    · rw [if_neg z, if_pos]
      by_cases z2 : hdY A u (aY A (ordA A i)) = hdY A u (aY A (ordA A i) - 1)
      · exact z2
      · exact absurd ⟨by omega, z2⟩ e') (fun i hi e => by
    have e' := of_decide_eq_true e
    rw [b i hi, if_neg (by omega), if_neg e'.2, if_pos hi]) (by
    unfold wX2_firstChange_2
    rw [hC.2.1.2.2.1, if_pos (ele _ (by omega)), if_neg (by omega)]) (aN A) 0 (by omega)
  have key : ∀ z, lo ≤ z → hdY A u z ≠ hdY A u (z - 1) → ∃ k, k < aN A ∧ aY A (ordA A k) = z ∧ ¬ k < p := by
    intro z hz ne
    obtain ⟨k, k1, k2⟩ := hdY_act (by omega) ne
    refine ⟨k, k1, k2, fun w => ?_⟩
    have := of_decide_eq_false (p4 k (by omega) w)
    rw [k2] at this
    exact this ⟨hz, ne⟩
  by_cases z : p < aN A
  · refine Or.inl ⟨aY A (ordA A p), ?_, ?_⟩
    · rw [if_pos z] at p3
      exact p3
    · have e := of_decide_eq_true (p5 z)
      refine ⟨e.1, (yb p z).2, e.2, fun y a c => ?_⟩
      by_cases ne : hdY A u y = hdY A u (y - 1)
      · exact ne
      · obtain ⟨k, k1, k2, k3⟩ := key y a ne
        exact absurd (ord_yr A k1 z (by omega)) k3
  · refine Or.inr ⟨?_, fun y a c => ?_⟩
    · rw [if_neg z] at p3
      exact p3
    · by_cases ne : hdY A u y = hdY A u (y - 1)
      · exact ne
      · obtain ⟨k, k1, k2, k3⟩ := key y a ne
        omega
theorem X8_changesLoop {M : Mem} {nu u lo : Nat} {A : AD} (hV : VA nu A) (hH : VH nu A) (hD : RD M nu A) (hS : RS M A) (hu : u < nu) (h1 : 1000 ≤ lo) (h2 : lo ≤ 1999) : (∃ y, wh (wX8_changes_54 151 (nI u) M (hdY A u (lo - 1))) (nI lo) = some ((nI y).toInt64, M) ∧ FC A u lo y) ∨ (wh (wX8_changes_54 151 (nI u) M (hdY A u (lo - 1))) (nI lo) = some (-1000000000000000006, tdM M) ∧ NoC A u lo) := by
  have n30 := hV.2.1
  have b : ∀ y, y < 2000 → wX8_changes_54 151 (nI u) M (hdY A u (lo - 1)) (nI y) = (if hdY A u y = hdY A u (lo - 1) then some (.inl (nI (y + 1))) else some (.inr ((nI y).toInt64, M))) := by
    intro y hy
    have ul := upto_le A y
    unfold wX8_changes_54
    simp only [lt_def, nI_1]
    rw [if_neg (show ¬ (2000 : Int32) ≤ nI y from nle (N := 2000) hy (by omega)), X8_until hV hD (by omega), bnd_some, X8_held hV hH hD hS ul hu, bnd_some]
    rw [show cset (hldw A (wd A (upto A y)) u) = hdY A u y from rfl]
    by_cases z2 : hdY A u y = hdY A u (lo - 1)
    · rw [if_pos ((lg_cmp_eq _ _).mpr z2), if_pos z2]
    · rw [if_neg (fun w => z2 ((lg_cmp_eq _ _).mp w)), if_neg z2]
  obtain ⟨p, p1, p2, p3, p4, p5⟩ := wh_scan (body := wX8_changes_54 151 (nI u) M (hdY A u (lo - 1))) (fun i => nI i) (fun y => decide (hdY A u y ≠ hdY A u (lo - 1))) (fun y => if y < 2000 then ((nI y).toInt64, M) else (-1000000000000000006, tdM M)) 2000 (fun i hi e => by
    have e' := of_decide_eq_false e
    rw [b i hi, if_pos (Decidable.of_not_not e')]) (fun i hi e => by
    have e' := of_decide_eq_true e
    rw [b i hi, if_neg e', if_pos hi]) (by
    unfold wX8_changes_54
    rw [if_pos (show (2000 : Int32) ≤ nI 2000 from ele 2000 (by decide)), if_neg (by omega)]
    rfl) (2000 - lo) lo (by omega)
  have same : ∀ z, lo - 1 ≤ z → z < p → hdY A u z = hdY A u (lo - 1) := fun z a c => by
    by_cases e : z = lo - 1
    · rw [e]
    · exact Decidable.of_not_not (of_decide_eq_false (p4 z (by omega) c))
  have run : ∀ z, lo ≤ z → z < p → hdY A u z = hdY A u (z - 1) := fun z a c => by rw [same z (by omega) c, same (z - 1) (by omega) (by omega)]
  by_cases z : p < 2000
  · refine Or.inl ⟨p, ?_, p1, by omega, ?_, run⟩
    · rw [if_pos z] at p3
      exact p3
    · rw [same (p - 1) (by omega) (by omega)]
      exact of_decide_eq_true (p5 z)
  · refine Or.inr ⟨?_, fun y a c => run y a (by omega)⟩
    rw [if_neg z] at p3
    exact p3
theorem S_changes {t : Nat} {M : Mem} (h : Inv t M) (x1 x2 : Int32) : Ok t M (fX7_changes 0 x1 x2) (fX8_changes 151 x1 x2) := by
  obtain ⟨nu, A, nc, cU, cY, cP, mY, mQ, sB, sN, f, hf, j⟩ := h
  have hC := j.1
  have hD := j.2.1
  have hDr := (J_ref j).2.1
  have hV := hC.1
  have n30 := hV.2.1
  have n10' := hV.1
  cases c1 : rng 0 ((nu : Int) - 1) x1 with
  | false => exact Ok_ref hf j (-1000000000000000001) (by simp only [fX7_changes, r00, X2_hasUnitR hC.2.1.1 hV.1, c1, bnd_some, Bool.false_eq_true, if_false, if_true, X7_ref]) (by simp only [fX8_changes, X8_isUnit hDr.1 hV.1, c1, bnd_some, Bool.false_eq_true, if_false, if_true, X8_ref])
  | true =>
    cases c2 : rng 1000 1999 x2 with
    | false => exact Ok_ref hf j (-1000000000000000001) (by simp only [fX7_changes, r00, X2_hasUnitR hC.2.1.1 hV.1, X7_isYear, c1, c2, bnd_some, Bool.false_eq_true, if_false, if_true, i10, X7_ref]) (by simp only [fX8_changes, X8_isUnit hDr.1 hV.1, X8_isYear, c1, c2, bnd_some, Bool.false_eq_true, if_false, if_true, i10, X8_ref])
    | true =>
      obtain ⟨u, e1, hu⟩ := rng_unit c1
      obtain ⟨y, e2, hy1, hy2⟩ := rng_nat (lo := 1000) (hi := 1999) c2
      subst e1
      subst e2
      have was : ∀ M', RD M' nu A → RS M' A → (if nI y = (1000 : Int32) then (some (0 : Int64)) else (Option.bind (fX8_until 151 (nI y - (1 : Int32)) M') (fun b10 => Option.bind (fX8_held 151 (nI u) b10 M') (fun b11 => some b11)))) = some (hdY A u (y - 1)) := by
        intro M' d s
        by_cases e : y = 1000
        · subst e
          rw [if_pos (by rfl)]
          rw [show 1000 - 1 = 999 from rfl, hdY_0 hV hu]
        · have ul := upto_le A (y - 1)
          rw [if_neg (show ¬ nI y = (1000 : Int32) from nI_lit (k := 1000) (by omega) (by decide) e), show (1 : Int32) = nI 1 from rfl, pk_sub (show 1 ≤ y by omega), X8_until hV d (by omega), bnd_some, X8_held hV j.2.2.1 d s ul hu, bnd_some]
          rfl
      rcases X2_firstChange hC j.2.2.1 hu hy1 hy2 with ⟨r, hr, fr⟩ | ⟨hr, nr⟩
      · obtain ⟨M', hd, fd, rs⟩ := X8_done hV hD
        have hD' := RD_keep fd hD
        rcases X8_changesLoop hV j.2.2.1 hD' rs hu hy1 hy2 with ⟨r', hr', fr'⟩ | ⟨hr', nr'⟩
        · have e := FC_one fr' fr
          subst e
          have b := fr.2.1
          have ne : ¬ nI r' = (-1 : Int32) := fun z => by
            have := congrArg Int32.toInt z
            rw [nI_toInt (by omega)] at this
            have m : (-1 : Int32).toInt = -1 := rfl
            rw [m] at this
            omega
          exact Ok_ans hf j ((nI r').toInt64) (by simp only [fX7_changes, r00, X2_hasUnitR hC.2.1.1 hV.1, X7_isYear, c1, c2, bnd_some, if_false, if_true, i10, hr, ne]) fd (by simp only [fX8_changes, X8_isUnit hD.1 hV.1, X8_isYear, c1, c2, bnd_some, if_false, if_true, i10, hd, was M' hD' rs, hr'])
        · exact absurd (nr' r fr.1 fr.2.1) fr.2.2.1
      · obtain ⟨M', hd, fd, rs⟩ := X8_done hV hDr
        have hD' := RD_keep fd hDr
        rcases X8_changesLoop hV j.2.2.1 hD' rs hu hy1 hy2 with ⟨r', hr', fr'⟩ | ⟨hr', nr'⟩
        · exact absurd (nr r' fr'.1 fr'.2.1) fr'.2.2.1
        · exact Ok_refD hf j (-1000000000000000006) (by simp only [fX7_changes, r00, X2_hasUnitR hC.2.1.1 hV.1, X7_isYear, c1, c2, bnd_some, if_false, if_true, i10, hr, X7_ref]) fd (by simp only [fX8_changes, X8_isUnit hDr.1 hV.1, X8_isYear, c1, c2, bnd_some, if_false, if_true, i10, hd, was M' hD' rs, hr'])
