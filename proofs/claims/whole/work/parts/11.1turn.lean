theorem X8_turnsBack {M : Mem} {n p : Nat} {w wp wg : Wd} (hn : n < 31) (hp : p + 1 < n) (h : RM M n w) (h1 : RM M p wp) (h2 : RM M (p + 1) wg) :
    ∃ M', fX8_turnsBack 151 (nI p) (nI n) M = some (if anyc (bkc wp.1 wg.1 w) then 1 else 0, M') ∧ FrN M M' n ∧ RM M' n (fun c => if bkc wp.1 wg.1 w c then wp.1 c else w.1 c, w.2) := by
  unfold fX8_turnsBack
  have key := wh_inv (body := wX8_turnsBack_5 151 (nI p) (nI n))
    (fun i s => s.1 = (if decide (0 < fb_ct (bkc wp.1 wg.1 w) i) then 1 else 0) ∧ s.2.1 = nI i ∧ FrN M s.2.2 n ∧ RM s.2.2 n (fun c => if decide (c < i) && bkc wp.1 wg.1 w c then wp.1 c else w.1 c, w.2)) 36
    (fun r => r.1 = (if anyc (bkc wp.1 wg.1 w) then 1 else 0) ∧ FrN M r.2.2 n ∧ RM r.2.2 n (fun c => if bkc wp.1 wg.1 w c then wp.1 c else w.1 c, w.2))
    (by
      rintro i ⟨s1, s2, s3⟩ hi ⟨q1, q2, q3, q4⟩
      dsimp only at q1 q2 q3 q4
      subst q2
      have lw := h.2.2.2 i hi
      have lp := h1.2.2.2 i hi
      have lg := h2.2.2.2 i hi
      have cur : s3.1 168 (36 * n + i) = nI (w.1 i) := by
        rw [q4.1 i hi]
        show nI (if decide (i < i) && bkc wp.1 wg.1 w i then wp.1 i else w.1 i) = _
        simp
      have cp : s3.1 168 (36 * p + i) = nI (wp.1 i) := by rw [q3.2 _ _ (by omega) (by omega) (by omega)]; exact h1.1 i hi
      have cg : s3.1 168 (36 * (p + 1) + i) = nI (wg.1 i) := by rw [q3.2 _ _ (by omega) (by omega) (by omega)]; exact h2.1 i hi
      unfold wX8_turnsBack_5
      dsimp only
      rw [if_neg (show ¬ (36 : Int32) ≤ nI i from fun z => absurd ((nI_leI (a := 36) (by omega) (by omega)).mp z) (by omega)), rM, rM, show nI p + (1 : Int32) = nI (p + 1) from nI_1 p, ix36, ix36, ix36, show 148 + 20 = 168 from rfl, show 148 + 23 = 171 from rfl, l168, l171]
      simp only [lt_def, nI_1]
      rw [gi_at (by omega) (by decide), gi_at (by omega) (by decide), gi_at (show 36 * n + i < 1116 by omega) (by decide), nI_clamp (show 36 * p + i < 2 ^ 31 by omega), nI_clamp (show 36 * (p + 1) + i < 2 ^ 31 by omega), nI_clamp (show 36 * n + i < 2 ^ 31 by omega), cp, cg, cur]
      have stay : bkc wp.1 wg.1 w i = false → ∃ s', (some (.inl (s1, nI (i + 1), s3)) : Option ((Int32 × Int32 × Mem) ⊕ (Int32 × Int32 × Mem))) = some (.inl s') ∧ s'.1 = (if decide (0 < fb_ct (bkc wp.1 wg.1 w) (i + 1)) then 1 else 0) ∧ s'.2.1 = nI (i + 1) ∧ FrN M s'.2.2 n ∧ RM s'.2.2 n (fun c => if decide (c < i + 1) && bkc wp.1 wg.1 w c then wp.1 c else w.1 c, w.2) := by
        intro hz
        refine ⟨_, rfl, ?_, rfl, q3, RM_ext q4 (fun c _ => ?_) (fun _ _ => rfl) (fun _ _ => rfl)⟩
        · show s1 = _
          rw [q1, fb_ct_succ, hz]
          rfl
        · show (if decide (c < i + 1) && bkc wp.1 wg.1 w c then wp.1 c else w.1 c) = (if decide (c < i) && bkc wp.1 wg.1 w c then wp.1 c else w.1 c)
          by_cases e : c = i
          · subst e; rw [hz]; simp
          · have : decide (c < i + 1) = decide (c < i) := by congr 1; apply propext; omega
            rw [this]
      have go : bkc wp.1 wg.1 w i = true → ∃ s', (some (.inl ((1 : Int32), nI (i + 1), mi s3 168 (36 * n + i) (nI (wp.1 i)))) : Option ((Int32 × Int32 × Mem) ⊕ (Int32 × Int32 × Mem))) = some (.inl s') ∧ s'.1 = (if decide (0 < fb_ct (bkc wp.1 wg.1 w) (i + 1)) then 1 else 0) ∧ s'.2.1 = nI (i + 1) ∧ FrN M s'.2.2 n ∧ RM s'.2.2 n (fun c => if decide (c < i + 1) && bkc wp.1 wg.1 w c then wp.1 c else w.1 c, w.2) := by
        intro hz
        refine ⟨_, rfl, ?_, rfl, q3.tr (FrN.h hi), ?_⟩
        · show (1 : Int32) = _
          rw [fb_ct_succ, hz]
          simp
        · refine ⟨fun c hc => ?_, fun u hu => ?_, fun u hu => ?_, fun c hc => ?_⟩
          · show (mi s3 168 (36 * n + i) (nI (wp.1 i))).1 168 (36 * n + c) = nI (if decide (c < i + 1) && bkc wp.1 wg.1 w c then wp.1 c else w.1 c)
            rw [mi_1]
            by_cases e : c = i
            · subst e
              rw [if_pos ⟨rfl, rfl⟩, hz]
              simp
            · rw [if_neg (fun z => e (by omega)), q4.1 c hc]
              have : decide (c < i + 1) = decide (c < i) := by congr 1; apply propext; omega
              rw [this]
          · show (mi s3 168 (36 * n + i) (nI (wp.1 i))).1 171 (10 * n + u) = _
            rw [mi_1, if_neg (fun z => absurd z.1 (by decide))]; exact q4.2.1 u hu
          · show (mi s3 168 (36 * n + i) (nI (wp.1 i))).1 169 (10 * n + u) = _
            rw [mi_1, if_neg (fun z => absurd z.1 (by decide))]; exact q4.2.2.1 u hu
          · have a := h.2.2.2 c hc
            have b := h1.2.2.2 c hc
            show (if decide (c < i + 1) && bkc wp.1 wg.1 w c then wp.1 c else w.1 c) ≤ 10
            split <;> omega
      by_cases e1 : wp.1 i = wg.1 i
      · rw [if_pos (show nI (wp.1 i) = nI (wg.1 i) by rw [e1])]
        exact stay (by unfold bkc; simp [e1])
      · rw [if_neg (fun q => e1 ((nI_eq (by omega) (by omega)).mp q))]
        by_cases e2 : w.1 i = wg.1 i
        · rw [if_pos (show nI (w.1 i) = nI (wg.1 i) by rw [e2])]
          by_cases e3 : wp.1 i = 10
          · rw [if_pos (show nI (wp.1 i) = (10 : Int32) by rw [e3]; rfl), gi_at (show 36 * n + i < 1116 by omega) (by decide)]
            exact go (by unfold bkc; rw [e2, e3]; have : ¬ 10 = wg.1 i := fun z => e1 (by omega); simp [this])
          · rw [if_neg (show ¬ nI (wp.1 i) = (10 : Int32) from fun q => e3 ((nI_eq (b := 10) (by omega) (by omega)).mp q)), ix10, gi_at (by omega) (by decide), nI_clamp (show 10 * n + wp.1 i < 2 ^ 31 by omega)]
            have ct : s3.1 171 (10 * n + wp.1 i) = if w.2.1 (wp.1 i) then 1 else 0 := q4.2.1 _ (by omega)
            rw [ct]
            cases t : w.2.1 (wp.1 i) with
            | false =>
              rw [if_pos (by rfl)]
              exact stay (by unfold bkc; rw [t]; simp [e3])
            | true =>
              rw [if_neg (by decide), gi_at (show 36 * n + i < 1116 by omega) (by decide)]
              exact go (by unfold bkc; rw [t, e2]; simp [e1])
        · rw [if_neg (fun q => e2 ((nI_eq (by omega) (by omega)).mp q))]
          exact stay (by unfold bkc; simp [e2]))
    (by
      rintro ⟨s1, s2, s3⟩ ⟨q1, q2, q3, q4⟩
      dsimp only at q1 q2 q3 q4
      subst q2
      refine ⟨(s1, nI 36, s3), ?_, q1, q3, RM_ext q4 (fun c hc => ?_) (fun _ _ => rfl) (fun _ _ => rfl)⟩
      · unfold wX8_turnsBack_5
        dsimp only
        rw [if_pos (show (36 : Int32) ≤ nI 36 from nI_le (Nat.le_refl 36) (by decide))]
      · show (if bkc wp.1 wg.1 w c then wp.1 c else w.1 c) = (if decide (c < 36) && bkc wp.1 wg.1 w c then wp.1 c else w.1 c)
        simp [hc])
    36 0 (0, 0, M) rfl ⟨rfl, rfl, FrN.rf, RM_ext h (fun c _ => by simp) (fun _ _ => rfl) (fun _ _ => rfl)⟩
  obtain ⟨⟨r1, r2, r3⟩, hr, p1, p2, p3⟩ := key
  dsimp only at p1 p2 p3
  subst p1
  rw [hr, bnd_some]
  dsimp only
  rw [gb_if]
  exact ⟨r3, rfl, p2, p3⟩
theorem X8_foundLoop {M : Mem} {n a one : Nat} {w : Wd} {S : Nat → Bool} (hn : n < 31) (ha : a < 30) (h : RM M n w) (h1 : one ≤ 10) (e : M.2 157 a = cset S) :
    ∃ M', wh (wX8_does_83 151 (nI a) (nI n) (nI one)) (0, M) = some (nI 36, M') ∧ FrN M M' n ∧ RM M' n (fun c => if S c then one else w.1 c, w.2) := by
  have key := wh_inv (body := wX8_does_83 151 (nI a) (nI n) (nI one))
    (fun i s => s.1 = nI i ∧ FrN M s.2 n ∧ RM s.2 n (fun c => if decide (c < i) && S c then one else w.1 c, w.2)) 36
    (fun r => r.1 = nI 36 ∧ FrN M r.2 n ∧ RM r.2 n (fun c => if S c then one else w.1 c, w.2))
    (by
      rintro i ⟨s1, s3⟩ hi ⟨q2, q3, q4⟩
      dsimp only at q2 q3 q4
      subst q2
      unfold wX8_does_83
      dsimp only
      rw [if_neg (show ¬ (36 : Int32) ≤ nI i from fun z => absurd ((nI_leI (a := 36) (by omega) (by omega)).mp z) (by omega)), rM, rM, show 148 + 9 = 157 from rfl, show 148 + 20 = 168 from rfl, l157, l168, gi_at ha (by decide), nI_clamp (show a < 2 ^ 31 by omega), q3.1, e]
      simp only [lt_def, nI_1]
      have hb : lb (cset S) i = S i := by rw [lb_cset S (by omega)]; simp [hi]
      by_cases z : S i = true
      · rw [if_pos ((bit1s1 _ (by omega)).mpr (by rw [hb]; exact z)), ix36, gi_at (by omega) (by decide), nI_clamp (show 36 * n + i < 2 ^ 31 by omega)]
        refine ⟨_, rfl, rfl, q3.tr (FrN.h hi), ?_⟩
        refine ⟨fun c hc => ?_, fun u hu => ?_, fun u hu => ?_, fun c hc => ?_⟩
        · show (mi s3 168 (36 * n + i) (nI one)).1 168 (36 * n + c) = nI (if decide (c < i + 1) && S c then one else w.1 c)
          rw [mi_1]
          by_cases y : c = i
          · subst y
            rw [if_pos ⟨rfl, rfl⟩, z]
            simp
          · rw [if_neg (fun q => y (by omega)), q4.1 c hc]
            have : decide (c < i + 1) = decide (c < i) := by congr 1; apply propext; omega
            rw [this]
        · show (mi s3 168 (36 * n + i) (nI one)).1 171 (10 * n + u) = _
          rw [mi_1, if_neg (fun z => absurd z.1 (by decide))]; exact q4.2.1 u hu
        · show (mi s3 168 (36 * n + i) (nI one)).1 169 (10 * n + u) = _
          rw [mi_1, if_neg (fun z => absurd z.1 (by decide))]; exact q4.2.2.1 u hu
        · have := h.2.2.2 c hc
          show (if decide (c < i + 1) && S c then one else w.1 c) ≤ 10
          split <;> omega
      · have z' : S i = false := by cases q : S i with | true => exact absurd q z | false => rfl
        rw [if_neg (fun q => z (by rw [← hb]; exact (bit1s1 _ (by omega)).mp q))]
        refine ⟨_, rfl, rfl, q3, RM_ext q4 (fun c _ => ?_) (fun _ _ => rfl) (fun _ _ => rfl)⟩
        show (if decide (c < i + 1) && S c then one else w.1 c) = (if decide (c < i) && S c then one else w.1 c)
        by_cases y : c = i
        · subst y; rw [z']; simp
        · have : decide (c < i + 1) = decide (c < i) := by congr 1; apply propext; omega
          rw [this])
    (by
      rintro ⟨s1, s3⟩ ⟨q2, q3, q4⟩
      dsimp only at q2 q3 q4
      subst q2
      refine ⟨(nI 36, s3), ?_, rfl, q3, RM_ext q4 (fun c hc => ?_) (fun _ _ => rfl) (fun _ _ => rfl)⟩
      · unfold wX8_does_83
        dsimp only
        rw [if_pos (show (36 : Int32) ≤ nI 36 from nI_le (Nat.le_refl 36) (by decide))]
      · show (if S c then one else w.1 c) = (if decide (c < 36) && S c then one else w.1 c)
        simp [hc])
    36 0 (0, M) rfl ⟨rfl, FrN.rf, RM_ext h (fun c _ => by simp) (fun _ _ => rfl) (fun _ _ => rfl)⟩
  obtain ⟨⟨r1, r3⟩, hr, p1, p2, p3⟩ := key
  dsimp only at p1 p2 p3
  subst p1
  exact ⟨r3, hr, p2, p3⟩
