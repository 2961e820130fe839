theorem n36 {i : Nat} (h : i < 36) : ¬ (36 : Int32) ≤ nI i := fun z => absurd ((nI_leI (a := 36) (by omega) (by omega)).mp z) (by omega)
theorem e36 : (36 : Int32) ≤ nI 36 := nI_le (Nat.le_refl 36) (by decide)
theorem n10 {i : Nat} (h : i < 10) : ¬ (10 : Int32) ≤ nI i := fun z => absurd ((nI_leI (a := 10) (by omega) (by omega)).mp z) (by omega)
theorem e10 : (10 : Int32) ≤ nI 10 := nI_le (Nat.le_refl 10) (by decide)
theorem n4 {i : Nat} (h : i < 4) : ¬ (4 : Int32) ≤ nI i := fun z => absurd ((nI_leI (a := 4) (by omega) (by omega)).mp z) (by omega)
theorem e4 : (4 : Int32) ≤ nI 4 := nI_le (Nat.le_refl 4) (by decide)
theorem nle {i N : Nat} (h : i < N) (hN : N < 2 ^ 31) : ¬ nI N ≤ nI i := fun z => absurd ((nI_leI (a := N) (by omega) (by omega)).mp z) (by omega)
theorem ele (N : Nat) (hN : N < 2 ^ 31) : nI N ≤ nI N := nI_le (Nat.le_refl N) hN
theorem add0 (x : Int32) : x + (0 : Int32) = x := Int32.add_zero x
/-- only the cells 166 to 172 change -/
def FrD (M M' : Mem) : Prop := M'.2 = M.2 ∧ ∀ x y, ¬ (166 ≤ x ∧ x ≤ 172) → M'.1 x y = M.1 x y
theorem FrD.rf {M : Mem} : FrD M M := ⟨rfl, fun _ _ _ => rfl⟩
theorem FrD.tr {M M' M'' : Mem} (h : FrD M M') (h' : FrD M' M'') : FrD M M'' := ⟨h'.1.trans h.1, fun x y p => (h'.2 x y p).trans (h.2 x y p)⟩
theorem FrD.mi {M : Mem} {k j : Nat} {v : Int32} (hk : 166 ≤ k ∧ k ≤ 172) : FrD M (mi M k j v) := ⟨rfl, fun x y p => by rw [mi_1, if_neg (fun z => p (by omega))]⟩
theorem FrD.of {M M' : Mem} {n : Nat} (h : FrN M M' n) : FrD M M' := ⟨h.1, fun x y p => h.2 x y (fun z => p (by omega)) (fun z => p (by omega)) (fun z => p (by omega))⟩
theorem RD_keep {M M' : Mem} {nu : Nat} {A : AD} (h : FrD M M') (d : RD M nu A) : RD M' nu A := by
  refine ⟨(h.2 _ _ (by omega)).trans d.1, fun u hu => (h.2 _ _ (by omega)).trans (d.2.1 u hu), (h.2 _ _ (by omega)).trans d.2.2.1, fun a ha => ?_⟩
  have q := d.2.2.2 a ha
  refine ⟨(h.2 _ _ (by omega)).trans q.1, (h.2 _ _ (by omega)).trans q.2.1, (h.2 _ _ (by omega)).trans q.2.2.1, fun k => (h.2 _ _ (by omega)).trans (q.2.2.2.1 k), fun k => ?_⟩
  rw [h.1]; exact q.2.2.2.2 k
theorem X8_count {M : Mem} {nu a : Nat} {A : AD} (hV : VA nu A) (hD : RD M nu A) (ha : a < aN A) : wh (wX8_done_14 151 (nI a, M)) (0, 0) = some (nI (plc A a), nI (aN A)) := by
  have n30 := hV.2.1
  refine wh_seq (body := wX8_done_14 151 (nI a, M)) (fun i => (nI (fb_ct (fun b => bef A b a) i), nI i)) (aN A) _ (fun i hi => ?_) ?_
  · have d := hD.2.2.2 i hi
    have da := hD.2.2.2 a ha
    have vi := hV.2.2.2 i hi
    have va := hV.2.2.2 a ha
    unfold wX8_done_14
    dsimp only
    simp only [rM, lt_def, Nat.reduceAdd, l154, nI_1]
    rw [hD.2.2.1, if_neg (nle hi (by omega)), nI_clamp (show i < 2 ^ 31 by omega), nI_clamp (show a < 2 ^ 31 by omega), d.2.1, da.2.1]
    rw [gi_at (by omega) (by decide), gi_at (show a < 30 by omega) (by decide), gi_at (show i < 30 by omega) (by decide), gi_at (show a < 30 by omega) (by decide), add0, fb_ct_succ]
    by_cases e1 : aY A i < aY A a
    · rw [if_pos ((nI_ltI (by omega) (by omega)).mpr e1), if_pos (show bef A i a = true by unfold bef; simp [e1])]
    · rw [if_neg (fun q => e1 ((nI_ltI (by omega) (by omega)).mp q))]
      by_cases e2 : aY A i = aY A a
      · rw [if_pos (show nI (aY A i) = nI (aY A a) by rw [e2])]
        by_cases e3 : i < a
        · rw [if_neg (nle e3 (by omega)), if_pos (show bef A i a = true by unfold bef; simp [e2, e3])]
        · rw [if_pos (nI_le (by omega) (by omega)), if_neg (show ¬ bef A i a = true by unfold bef; simp [e2, e3])]; rfl
      · rw [if_neg (nI_lit (by omega) (by omega) e2), if_neg (show ¬ bef A i a = true by unfold bef; simp [e1, e2])]; rfl
  · unfold wX8_done_14
    dsimp only
    rw [hD.2.2.1, if_pos (ele _ (by omega))]
    rfl
theorem X8_order {M : Mem} {nu : Nat} {A : AD} (hV : VA nu A) (hD : RD M nu A) :
    ∃ M', wh (wX8_done_2 151) (0, M) = some (nI (aN A), M') ∧ FrD M M' ∧ (∀ n, n < aN A → M'.1 166 n = nI (ordA A n)) ∧ ∀ b, b < aN A → M'.1 167 b = nI (plc A b) := by
  have n30 := hV.2.1
  have key := wh_inv (body := wX8_done_2 151)
    (fun i s => s.1 = nI i ∧ FrD M s.2 ∧ ∀ b, b < i → s.2.1 166 (plc A b) = nI b ∧ s.2.1 167 b = nI (plc A b)) (aN A)
    (fun r => r.1 = nI (aN A) ∧ FrD M r.2 ∧ ∀ b, b < aN A → r.2.1 166 (plc A b) = nI b ∧ r.2.1 167 b = nI (plc A b))
    (by
      rintro i ⟨s1, s2⟩ hi ⟨q1, q2, q3⟩
      dsimp only at q1 q2 q3
      subst q1
      have D := RD_keep q2 hD
      have lp := plc_in A hi
      unfold wX8_done_2
      dsimp only
      rw [D.2.2.1, if_neg (nle hi (by omega)), X8_count hV D hi, bnd_some]
      simp only [rM, lt_def, Nat.reduceAdd, l166, l167, nI_1]
      rw [gi_at (by omega) (by decide), gi_at (by omega) (by decide), nI_clamp (show plc A i < 2 ^ 31 by omega), nI_clamp (show i < 2 ^ 31 by omega)]
      refine ⟨_, rfl, rfl, q2.tr ((FrD.mi (by omega)).tr (FrD.mi (by omega))), fun b hb => ?_⟩
      dsimp only
      by_cases e : b = i
      · subst e
        constructor
        · rw [mi_1, if_neg (fun z => absurd z.1 (by decide)), mi_1, if_pos ⟨rfl, rfl⟩]
        · rw [mi_1, if_pos ⟨rfl, rfl⟩]
      · have ne : plc A b ≠ plc A i := fun z => e (plc_inj A (by omega) hi z)
        constructor
        · rw [mi_1, if_neg (fun z => absurd z.1 (by decide)), mi_1, if_neg (fun z => ne z.2)]; exact (q3 b (by omega)).1
        · rw [mi_1, if_neg (fun z => e z.2), mi_1, if_neg (fun z => absurd z.1 (by decide))]; exact (q3 b (by omega)).2)
    (by
      rintro ⟨s1, s2⟩ ⟨q1, q2, q3⟩
      dsimp only at q1 q2 q3
      subst q1
      refine ⟨(nI (aN A), s2), ?_, rfl, q2, q3⟩
      unfold wX8_done_2
      dsimp only
      rw [(RD_keep q2 hD).2.2.1, if_pos (ele _ (by omega))])
    (aN A) 0 (0, M) (by omega) ⟨rfl, FrD.rf, fun b hb => absurd hb (by omega)⟩
  obtain ⟨⟨r1, r2⟩, hr, p1, p2, p3⟩ := key
  dsimp only at p1 p2 p3
  subst p1
  refine ⟨r2, hr, p2, fun n hn => ?_, fun b hb => (p3 b hb).2⟩
  have o := ord_spec A hn
  have := (p3 _ o.1).1
  rw [o.2] at this
  exact this
theorem X8_empty {M : Mem} : ∃ M1 M2, wh (wX8_done_93 151) (0, M) = some (nI 36, M1) ∧ wh (wX8_done_115 151) (0, M1) = some (nI 10, M2) ∧ FrN M M2 0 ∧ RM M2 0 w0 := by
  have k1 := wh_inv (body := wX8_done_93 151)
    (fun i s => s.1 = nI i ∧ FrN M s.2 0 ∧ ∀ c, c < i → s.2.1 168 c = 10) 36
    (fun r => r.1 = nI 36 ∧ FrN M r.2 0 ∧ ∀ c, c < 36 → r.2.1 168 c = 10)
    (by
      rintro i ⟨s1, s2⟩ hi ⟨q1, q2, q3⟩
      dsimp only at q1 q2 q3
      subst q1
      unfold wX8_done_93
      dsimp only
      simp only [rM, lt_def, Nat.reduceAdd, l168, nI_1]
      rw [if_neg (n36 hi), gi_at (by omega) (by decide), nI_clamp (show i < 2 ^ 31 by omega)]
      refine ⟨_, rfl, rfl, q2.tr (by have := FrN.h (M := s2) (n := 0) (v := 10) hi; rwa [Nat.mul_zero, Nat.zero_add] at this), fun c hc => ?_⟩
      dsimp only
      rw [mi_1]
      by_cases e : c = i
      · rw [if_pos ⟨rfl, e⟩]
      · rw [if_neg (fun z => e z.2)]; exact q3 c (by omega))
    (by
      rintro ⟨s1, s2⟩ ⟨q1, q2, q3⟩
      dsimp only at q1 q2 q3
      subst q1
      refine ⟨(nI 36, s2), ?_, rfl, q2, q3⟩
      unfold wX8_done_93
      dsimp only
      rw [if_pos e36])
    36 0 (0, M) (by omega) ⟨rfl, FrN.rf, fun b hb => absurd hb (by omega)⟩
  obtain ⟨⟨r1, M1⟩, hr, p1, p2, p3⟩ := k1
  dsimp only at p1 p2 p3
  subst p1
  have k2 := wh_inv (body := wX8_done_115 151)
    (fun i s => s.1 = nI i ∧ FrN M1 s.2 0 ∧ (∀ y, s.2.1 168 y = M1.1 168 y) ∧ ∀ c, c < i → s.2.1 171 c = 0 ∧ s.2.1 169 c = -1) 10
    (fun r => r.1 = nI 10 ∧ FrN M1 r.2 0 ∧ (∀ y, r.2.1 168 y = M1.1 168 y) ∧ ∀ c, c < 10 → r.2.1 171 c = 0 ∧ r.2.1 169 c = -1)
    (by
      rintro i ⟨s1, s2⟩ hi ⟨q1, q2, q4, q3⟩
      dsimp only at q1 q2 q3 q4
      subst q1
      unfold wX8_done_115
      dsimp only
      simp only [rM, lt_def, Nat.reduceAdd, l171, l169, nI_1]
      rw [if_neg (n10 hi), gb_0, gi_at (by omega) (by decide), gi_at (by omega) (by decide), nI_clamp (show i < 2 ^ 31 by omega)]
      have f1 : FrN s2 (mi s2 171 i 0) 0 := by have := FrN.t (M := s2) (n := 0) (v := 0) hi; rwa [Nat.mul_zero, Nat.zero_add] at this
      have f2 : FrN (mi s2 171 i 0) (mi (mi s2 171 i 0) 169 i (-1)) 0 := by have := FrN.u (M := mi s2 171 i 0) (n := 0) (v := -1) hi; rwa [Nat.mul_zero, Nat.zero_add] at this
      refine ⟨_, rfl, rfl, q2.tr (f1.tr f2), fun y => ?_, fun c hc => ?_⟩
      · dsimp only
        rw [mi_1, if_neg (fun z => absurd z.1 (by decide)), mi_1, if_neg (fun z => absurd z.1 (by decide))]; exact q4 y
      · dsimp only
        rw [mi_1, if_neg (fun z => absurd z.1 (by decide)), mi_1, mi_1, mi_1, if_neg (show ¬ (169 = 171 ∧ c = i) from fun z => absurd z.1 (by decide))]
        by_cases e : c = i
        · rw [if_pos ⟨rfl, e⟩, if_pos ⟨rfl, e⟩]; exact ⟨rfl, rfl⟩
        · rw [if_neg (fun z => e z.2), if_neg (fun z => e z.2)]; exact q3 c (by omega))
    (by
      rintro ⟨s1, s2⟩ ⟨q1, q2, q4, q3⟩
      dsimp only at q1 q2 q3 q4
      subst q1
      refine ⟨(nI 10, s2), ?_, rfl, q2, q4, q3⟩
      unfold wX8_done_115
      dsimp only
      rw [if_pos e10])
    10 0 (0, M1) (by omega) ⟨rfl, FrN.rf, fun _ => rfl, fun b hb => absurd hb (by omega)⟩
  obtain ⟨⟨r1, M2⟩, hr2, p4, p5, p6, p7⟩ := k2
  dsimp only at p4 p5 p6 p7
  subst p4
  refine ⟨M1, M2, hr, hr2, p2.tr p5, fun c hc => ?_, fun u hu => ?_, fun u hu => ?_, fun c _ => Nat.le_refl 10⟩
  · rw [Nat.mul_zero, Nat.zero_add, p6, p3 c hc]; rfl
  · rw [Nat.mul_zero, Nat.zero_add, (p7 u hu).1]; rfl
  · rw [Nat.mul_zero, Nat.zero_add, (p7 u hu).2]; rfl
theorem X8_copy {M : Mem} {n : Nat} {w : Wd} (hn : n < 30) (h : RM M n w) : ∃ M1 M2, wh (wX8_done_153 151 (nI n, M)) (0, M) = some (nI 36, M1) ∧ wh (wX8_done_191 151 (nI n, M)) (0, M1) = some (nI 10, M2) ∧ FrN M M2 (n + 1) ∧ RM M2 (n + 1) w := by
  have k1 := wh_inv (body := wX8_done_153 151 (nI n, M))
    (fun i s => s.1 = nI i ∧ FrN M s.2 (n + 1) ∧ ∀ c, c < i → s.2.1 168 (36 * (n + 1) + c) = nI (w.1 c)) 36
    (fun r => r.1 = nI 36 ∧ FrN M r.2 (n + 1) ∧ ∀ c, c < 36 → r.2.1 168 (36 * (n + 1) + c) = nI (w.1 c))
    (by
      rintro i ⟨s1, s2⟩ hi ⟨q1, q2, q3⟩
      dsimp only at q1 q2 q3
      subst q1
      unfold wX8_done_153
      dsimp only
      simp only [rM, lt_def, Nat.reduceAdd, l168, nI_1]
      rw [if_neg (n36 hi), ix36, ix36, gi_at (by omega) (by decide), gi_at (by omega) (by decide), nI_clamp (show 36 * n + i < 2 ^ 31 by omega), nI_clamp (show 36 * (n + 1) + i < 2 ^ 31 by omega), (q2.2 _ _ (by omega) (by omega) (by omega)), h.1 i hi]
      refine ⟨_, rfl, rfl, q2.tr (FrN.h hi), fun c hc => ?_⟩
      dsimp only
      rw [mi_1]
      by_cases e : c = i
      · subst e; rw [if_pos ⟨rfl, rfl⟩]
      · rw [if_neg (fun z => e (by omega))]; exact q3 c (by omega))
    (by
      rintro ⟨s1, s2⟩ ⟨q1, q2, q3⟩
      dsimp only at q1 q2 q3
      subst q1
      refine ⟨(nI 36, s2), ?_, rfl, q2, q3⟩
      unfold wX8_done_153
      dsimp only
      rw [if_pos e36])
    36 0 (0, M) (by omega) ⟨rfl, FrN.rf, fun b hb => absurd hb (by omega)⟩
  obtain ⟨⟨r1, M1⟩, hr, p1, p2, p3⟩ := k1
  dsimp only at p1 p2 p3
  subst p1
  have h1 : RM M1 n w := p2.rm (by omega) h
  have k2 := wh_inv (body := wX8_done_191 151 (nI n, M))
    (fun i s => s.1 = nI i ∧ FrN M1 s.2 (n + 1) ∧ (∀ y, s.2.1 168 y = M1.1 168 y) ∧ ∀ c, c < i → s.2.1 171 (10 * (n + 1) + c) = (if w.2.1 c then 1 else 0) ∧ s.2.1 169 (10 * (n + 1) + c) = hI (w.2.2 c)) 10
    (fun r => r.1 = nI 10 ∧ FrN M1 r.2 (n + 1) ∧ (∀ y, r.2.1 168 y = M1.1 168 y) ∧ ∀ c, c < 10 → r.2.1 171 (10 * (n + 1) + c) = (if w.2.1 c then 1 else 0) ∧ r.2.1 169 (10 * (n + 1) + c) = hI (w.2.2 c))
    (by
      rintro i ⟨s1, s2⟩ hi ⟨q1, q2, q4, q3⟩
      dsimp only at q1 q2 q3 q4
      subst q1
      unfold wX8_done_191
      dsimp only
      simp only [rM, lt_def, Nat.reduceAdd, l171, l169, nI_1]
      rw [if_neg (n10 hi), ix10, ix10, gi_at (by omega) (by decide), nI_clamp (show 10 * n + i < 2 ^ 31 by omega), nI_clamp (show 10 * (n + 1) + i < 2 ^ 31 by omega), (q2.2 171 (10 * n + i) (by omega) (by omega) (by omega)), h1.2.1 i hi, gb_if, gi_at (by omega) (by decide), gi_at (by omega) (by decide), gi_at (by omega) (by decide)]
      rw [mi_1, if_neg (show ¬ (169 = 171 ∧ 10 * n + i = 10 * (n + 1) + i) from fun z => absurd z.1 (by decide)), (q2.2 169 (10 * n + i) (by omega) (by omega) (by omega)), h1.2.2.1 i hi]
      refine ⟨_, rfl, rfl, q2.tr ((FrN.t hi).tr (FrN.u hi)), fun y => ?_, fun c hc => ?_⟩
      · dsimp only
        rw [mi_1, if_neg (fun z => absurd z.1 (by decide)), mi_1, if_neg (fun z => absurd z.1 (by decide))]; exact q4 y
      · dsimp only
        rw [mi_1, if_neg (fun z => absurd z.1 (by decide)), mi_1, mi_1, mi_1, if_neg (show ¬ (169 = 171 ∧ 10 * (n + 1) + c = 10 * (n + 1) + i) from fun z => absurd z.1 (by decide))]
        by_cases e : c = i
        · subst e; exact ⟨if_pos ⟨rfl, rfl⟩, if_pos ⟨rfl, rfl⟩⟩
        · have ne : ∀ k : Nat, ¬ (k = k ∧ 10 * (n + 1) + c = 10 * (n + 1) + i) := fun k z => e (by omega)
          exact ⟨(if_neg (ne 171)).trans (q3 c (by omega)).1, (if_neg (ne 169)).trans (q3 c (by omega)).2⟩)
    (by
      rintro ⟨s1, s2⟩ ⟨q1, q2, q4, q3⟩
      dsimp only at q1 q2 q3 q4
      subst q1
      refine ⟨(nI 10, s2), ?_, rfl, q2, q4, q3⟩
      unfold wX8_done_191
      dsimp only
      rw [if_pos e10])
    10 0 (0, M1) (by omega) ⟨rfl, FrN.rf, fun _ => rfl, fun b hb => absurd hb (by omega)⟩
  obtain ⟨⟨r1, M2⟩, hr2, p4, p5, p6, p7⟩ := k2
  dsimp only at p4 p5 p6 p7
  subst p4
  exact ⟨M1, M2, hr, hr2, p2.tr p5, fun c hc => by rw [p6, p3 c hc], fun u hu => (p7 u hu).1, fun u hu => (p7 u hu).2, h.2.2.2⟩
theorem X8_came {M S : Mem} {n a : Nat} {w w' : Wd} (hn : n < 30) (ha : a < 30) (h : RM M n w) (h' : RM M (n + 1) w') (e0 : M.1 170 a = 0) : ∃ M', wh (wX8_done_289 151 (nI n, S) (nI a)) (0, M) = some (nI 36, M') ∧ M'.2 = M.2 ∧ (∀ x y, ¬ (x = 170 ∧ y = a) → M'.1 x y = M.1 x y) ∧ M'.1 170 a = nI (fb_ct (chg w w') 36) := by
  have k1 := wh_inv (body := wX8_done_289 151 (nI n, S) (nI a))
    (fun i s => s.1 = nI i ∧ s.2.2 = M.2 ∧ (∀ x y, ¬ (x = 170 ∧ y = a) → s.2.1 x y = M.1 x y) ∧ s.2.1 170 a = nI (fb_ct (chg w w') i)) 36
    (fun r => r.1 = nI 36 ∧ r.2.2 = M.2 ∧ (∀ x y, ¬ (x = 170 ∧ y = a) → r.2.1 x y = M.1 x y) ∧ r.2.1 170 a = nI (fb_ct (chg w w') 36))
    (by
      rintro i ⟨s1, s2⟩ hi ⟨q1, q2, q3, q4⟩
      dsimp only at q1 q2 q3 q4
      subst q1
      have l1 := h.2.2.2 i hi
      have l2 := h'.2.2.2 i hi
      unfold wX8_done_289
      dsimp only
      simp only [rM, lt_def, Nat.reduceAdd, l168, l170, nI_1]
      rw [if_neg (n36 hi), ix36, ix36, gi_at ha (by decide), gi_at (by omega) (by decide), gi_at (by omega) (by decide), gi_at ha (by decide), gi_at ha (by decide), nI_clamp (show 36 * n + i < 2 ^ 31 by omega), nI_clamp (show 36 * (n + 1) + i < 2 ^ 31 by omega), nI_clamp (show a < 2 ^ 31 by omega), q3 168 (36 * n + i) (by omega), q3 168 (36 * (n + 1) + i) (by omega), h.1 i hi, h'.1 i hi, q4]
      by_cases e : w'.1 i = w.1 i
      · rw [if_pos (show nI (w'.1 i) = nI (w.1 i) by rw [e]), add0]
        refine ⟨_, rfl, rfl, q2, fun x y z => ?_, ?_⟩
        · dsimp only
          rw [mi_1, if_neg z]; exact q3 x y z
        · dsimp only
          rw [mi_1, if_pos ⟨rfl, rfl⟩, fb_ct_succ, if_neg (show ¬ chg w w' i = true by unfold chg; simp [e])]; rfl
      · rw [if_neg (nI_lit (by omega) (by omega) e)]
        refine ⟨_, rfl, rfl, q2, fun x y z => ?_, ?_⟩
        · dsimp only
          rw [mi_1, if_neg z]; exact q3 x y z
        · dsimp only
          rw [mi_1, if_pos ⟨rfl, rfl⟩, fb_ct_succ, if_pos (show chg w w' i = true by unfold chg; simp [e])]; exact nI_1 _)
    (by
      rintro ⟨s1, s2⟩ ⟨q1, q2, q3, q4⟩
      dsimp only at q1 q2 q3 q4
      subst q1
      refine ⟨(nI 36, s2), ?_, rfl, q2, q3, q4⟩
      unfold wX8_done_289
      dsimp only
      rw [if_pos e36])
    36 0 (0, M) (by omega) ⟨rfl, rfl, fun _ _ _ => rfl, e0⟩
  obtain ⟨⟨r1, M1⟩, hr, p1, p2, p3, p4⟩ := k1
  dsimp only at p1 p2 p3 p4
  subst p1
  exact ⟨M1, hr, p2, p3, p4⟩
