/-! pieces: both count the same heaps -/
def HPh (S : Nat → Bool) (i : Nat) (h : Nat → Bool) : Prop := h i = true ∧ (∀ x, x < 36 → h x = true → S x = true) ∧ ∀ (Q : Nat → Prop), Q i → (∀ x y, x < 36 → y < 36 → Q x → adj x y = true → S y = true → Q y) → ∀ d, d < 36 → h d = true → Q d
theorem HPh_add {S h : Nat → Bool} {i c b : Nat} (p : HPh S i h) (hc : c < 36) (hb : b < 36) (e : h c = true) (a : adj c b = true) (s : S b = true) : HPh S i (fun d => h d || (d == b)) := by
  refine ⟨by show (h i || (i == b)) = true; rw [p.1]; rfl, fun x hx z => ?_, fun Q q0 qs d hd z => ?_⟩
  · rw [Bool.or_eq_true] at z
    rcases z with z | z
    · exact p.2.1 x hx z
    · rw [eq_of_beq z]; exact s
  · rw [Bool.or_eq_true] at z
    rcases z with z | z
    · exact p.2.2 Q q0 qs d hd z
    · rw [eq_of_beq z]
      exact qs c b hc hb (p.2.2 Q q0 qs c hc e) a s
theorem adj_way {x y : Nat} (h : adj x y = true) : ∃ w, w < 4 ∧ bsd x w = y := by
  unfold adj at h
  rw [Bool.or_eq_true, Bool.or_eq_true, Bool.or_eq_true] at h
  rcases h with ((z | z) | z) | z
  · exact ⟨0, by decide, eq_of_beq z⟩
  · exact ⟨1, by decide, eq_of_beq z⟩
  · exact ⟨2, by decide, eq_of_beq z⟩
  · exact ⟨3, by decide, eq_of_beq z⟩
theorem cset_put (h : Nat → Bool) {b : Nat} (hb : b < 36) : cset h ||| lshl 1 (nI b) = cset (fun d => h d || (d == b)) := lb_ext (fun c hc => by
  rw [lb_or, one_shl (by omega) hc, lb_cset h hc, lb_cset _ hc]
  by_cases e : c = b
  · subst e
    rw [decide_eq_true hb]
    simp
  · rw [decide_eq_false e, bq e]; simp)
theorem on_mono {p q : Nat → Bool} {c w : Nat} (h : ∀ d, d < 36 → p d = true → q d = true) (e : on p c w = true) : on q c w = true := by
  unfold on at e ⊢
  rw [Bool.and_eq_true, decide_eq_true_iff] at e ⊢
  exact ⟨e.1, h _ e.1 e.2⟩
theorem X8_h72 {S h : Nat → Bool} {i c : Nat} (hc : c < 36) (hh : h c = true) (p : HPh S i h) (m : Int32) (x : Int64) (y : Int32) : ∃ r, wh (wX8_pieces_72 (cset S) (x, y, nI c)) (cset h, m, 0) = some r ∧ ∃ h', r.1 = cset h' ∧ HPh S i h' ∧ (∀ d, d < 36 → h d = true → h' d = true) ∧ (∀ w, w < 4 → on S c w = true → on h' c w = true) ∧ ((r.2.1 = m ∧ ∀ d, d < 36 → h' d = h d) ∨ (r.2.1 = 1 ∧ fb_ct h 36 < fb_ct h' 36)) := by
  refine wh_inv (body := wX8_pieces_72 (cset S) (x, y, nI c)) (fun w s => ∃ h' m', s = (cset h', m', nI w) ∧ HPh S i h' ∧ (∀ d, d < 36 → h d = true → h' d = true) ∧ (∀ v, v < w → on S c v = true → on h' c v = true) ∧ ((m' = m ∧ ∀ d, d < 36 → h' d = h d) ∨ (m' = 1 ∧ fb_ct h 36 < fb_ct h' 36))) 4 (fun r => ∃ h', r.1 = cset h' ∧ HPh S i h' ∧ (∀ d, d < 36 → h d = true → h' d = true) ∧ (∀ w, w < 4 → on S c w = true → on h' c w = true) ∧ ((r.2.1 = m ∧ ∀ d, d < 36 → h' d = h d) ∨ (r.2.1 = 1 ∧ fb_ct h 36 < fb_ct h' 36))) ?_ ?_ 4 0 _ rfl ⟨h, m, rfl, p, fun _ _ z => z, fun v hv => absurd hv (by omega), Or.inl ⟨rfl, fun _ _ => rfl⟩⟩
  · rintro w s hw ⟨g, m', rfl, p1, p2, p3, p4⟩
    have start : wX8_pieces_72 (cset S) (x, y, nI c) (cset g, m', nI w) = (if (if on S c w then (1 : Int32) else 0) = 0 then some (.inl (cset g, m', nI (w + 1))) else (if (if on g c w then (1 : Int32) else 0) = 0 then some (.inl (cset g ||| lshl 1 (bI (bsd c w)), 1, nI (w + 1))) else some (.inl (cset g, m', nI (w + 1))))) := by
      unfold wX8_pieces_72
      dsimp only
      simp only [lt_def, nI_1]
      rw [if_neg (n4 hw), X8_beside c hc w hw, bnd_some, X8_has_b S hc hw, bnd_some, X8_has_b g hc hw, bnd_some]
    rw [start]
    cases a : on S c w with
    | false =>
      rw [if_pos (by rfl)]
      refine ⟨_, rfl, g, m', rfl, p1, p2, fun v hv q => ?_, p4⟩
      rcases Nat.lt_or_ge v w with z | z
      · exact p3 v z q
      · have : v = w := by omega
        subst this
        rw [a] at q
        cases q
    | true =>
      rw [if_neg (by decide)]
      cases b : on g c w with
      | true =>
        rw [if_neg (by decide)]
        refine ⟨_, rfl, g, m', rfl, p1, p2, fun v hv q => ?_, p4⟩
        rcases Nat.lt_or_ge v w with z | z
        · exact p3 v z q
        · have : v = w := by omega
          subst this
          exact b
      | false =>
        rw [if_pos (by rfl)]
        obtain ⟨a1, a2, a3⟩ := on_adj hw a
        rw [show bI (bsd c w) = nI (bsd c w) from if_neg (by omega), cset_put g a1]
        have mono : ∀ d, d < 36 → g d = true → (g d || (d == bsd c w)) = true := fun d _ z => by rw [z]; rfl
        have gb' : g (bsd c w) = false := by
          unfold on at b
          rw [decide_eq_true a1] at b
          exact b
        have grow : fb_ct g 36 < fb_ct (fun d => g d || (d == bsd c w)) 36 := ct_lt a1 gb' (by simp) mono
        refine ⟨_, rfl, _, 1, rfl, HPh_add p1 hc a1 (p2 c hc hh) a3 a2, fun d hd z => mono d hd (p2 d hd z), fun v hv q => ?_, Or.inr ⟨rfl, ?_⟩⟩
        · rcases Nat.lt_or_ge v w with z | z
          · exact on_mono mono (p3 v z q)
          · have : v = w := by omega
            subst this
            unfold on
            rw [decide_eq_true a1]
            simp
        · rcases p4 with z | z
          · have : fb_ct g 36 = fb_ct h 36 := fb_ct_cong z.2
            omega
          · omega
  · rintro s ⟨g, m', rfl, p1, p2, p3, p4⟩
    refine ⟨(cset g, m', nI 4), ?_, g, rfl, p1, p2, p3, p4⟩
    unfold wX8_pieces_72
    dsimp only
    rw [if_pos e4]
/-- a pass over all cells of the heap -/
theorem X8_h49 {S h : Nat → Bool} {i : Nat} (p : HPh S i h) : ∃ r, wh (wX8_pieces_49 (cset S)) (cset h, 0, 0) = some r ∧ ∃ h', r.1 = cset h' ∧ HPh S i h' ∧ ((r.2.1 = 0 ∧ (∀ d, d < 36 → h' d = h d) ∧ ∀ c, c < 36 → h c = true → ∀ w, w < 4 → on S c w = true → on h c w = true) ∨ (r.2.1 = 1 ∧ fb_ct h 36 < fb_ct h' 36)) := by
  refine wh_inv (body := wX8_pieces_49 (cset S)) (fun k s => ∃ h' m', s = (cset h', m', nI k) ∧ HPh S i h' ∧ ((m' = 0 ∧ (∀ d, d < 36 → h' d = h d) ∧ ∀ c, c < k → h c = true → ∀ w, w < 4 → on S c w = true → on h c w = true) ∨ (m' = 1 ∧ fb_ct h 36 < fb_ct h' 36))) 36 (fun r => ∃ h', r.1 = cset h' ∧ HPh S i h' ∧ ((r.2.1 = 0 ∧ (∀ d, d < 36 → h' d = h d) ∧ ∀ c, c < 36 → h c = true → ∀ w, w < 4 → on S c w = true → on h c w = true) ∨ (r.2.1 = 1 ∧ fb_ct h 36 < fb_ct h' 36))) ?_ ?_ 36 0 _ rfl ⟨h, 0, rfl, p, Or.inl ⟨rfl, fun _ _ => rfl, fun c hc => absurd hc (by omega)⟩⟩
  · rintro k s hk ⟨g, m', rfl, p1, p4⟩
    cases a : g k with
    | false =>
      refine ⟨(cset g, m', nI (k + 1)), ?_, g, m', rfl, p1, ?_⟩
      · unfold wX8_pieces_49
        dsimp only
        simp only [lt_def, nI_1]
        rw [if_neg (n36 hk), X8_has_c g hk, a, bnd_some, if_pos (by rfl)]
      · rcases p4 with ⟨z1, z2, z3⟩ | z
        · refine Or.inl ⟨z1, z2, fun c hc q => ?_⟩
          rcases Nat.lt_or_ge c k with y | y
          · exact z3 c y q
          · have : c = k := by omega
            subst this
            rw [← z2 c hk, a] at q
            cases q
        · exact Or.inr z
    | true =>
      obtain ⟨r, hr, g', e1, p1', sub, cl, alt⟩ := X8_h72 hk a p1 m' (cset g) m'
      refine ⟨(r.1, r.2.1, nI (k + 1)), ?_, g', r.2.1, by rw [e1], p1', ?_⟩
      · unfold wX8_pieces_49
        dsimp only
        simp only [lt_def, nI_1]
        rw [if_neg (n36 hk), X8_has_c g hk, a, bnd_some, if_neg (by decide), hr, bnd_some]
      · rcases p4 with ⟨z1, z2, z3⟩ | z
        · rcases alt with ⟨y1, y2⟩ | ⟨y1, y2⟩
          · refine Or.inl ⟨y1.trans z1, fun d hd => (y2 d hd).trans (z2 d hd), fun c hc q => ?_⟩
            rcases Nat.lt_or_ge c k with y | y
            · exact z3 c y q
            · have : c = k := by omega
              subst this
              intro w hw o
              exact on_mono (fun d hd v => by rw [← z2 d hd, ← y2 d hd]; exact v) (cl w hw o)
          · refine Or.inr ⟨y1, ?_⟩
            have : fb_ct g 36 = fb_ct h 36 := fb_ct_cong z2
            omega
        · rcases alt with ⟨y1, y2⟩ | ⟨y1, y2⟩
          · refine Or.inr ⟨y1.trans z.1, ?_⟩
            have : fb_ct g' 36 = fb_ct g 36 := fb_ct_cong y2
            omega
          · exact Or.inr ⟨y1, by omega⟩
  · rintro s ⟨g, m', rfl, p1, p4⟩
    refine ⟨(cset g, m', nI 36), ?_, g, rfl, p1, p4⟩
    unfold wX8_pieces_49
    dsimp only
    rw [if_pos e36]
theorem X8_h38 {S : Nat → Bool} {i : Nat} (hi : i < 36) (hS : S i = true) : ∃ r H, wh (wX8_pieces_38 (cset S)) (lshl 1 (nI i), 1) = some r ∧ r.1 = cset H ∧ RH S i H := by
  have bit : lshl 1 (nI i) = cset (fun d => d == i) := lb_ext (fun c hc => by
    rw [one_shl (by omega) hc, lb_cset _ hc]
    by_cases e : c = i
    · subst e
      rw [decide_eq_true hi]
      simp
    · rw [decide_eq_false e, bq e]; simp)
  obtain ⟨r, hr, H, e, hH⟩ := wh_meas (body := wX8_pieces_38 (cset S)) (fun s => ∃ h, s.1 = cset h ∧ HPh S i h ∧ ((s.2 = 0 ∧ ∀ c, c < 36 → h c = true → ∀ w, w < 4 → on S c w = true → on h c w = true) ∨ s.2 = 1)) (fun s => 2 * (36 - pop s.1) + (if s.2 = 0 then 0 else 1)) (fun r => ∃ H, r.1 = cset H ∧ RH S i H) (by
    rintro ⟨x, m⟩ ⟨h, e, p, alt⟩
    dsimp only at e alt
    subst e
    rcases alt with ⟨z, cl⟩ | z
    · subst z
      refine Or.inl ⟨(cset h, 0), ?_, h, rfl, p.1, p.2.1, fun x y hx hy q1 q2 q3 => ?_, p.2.2⟩
      · unfold wX8_pieces_38
        dsimp only
        rw [if_pos rfl]
      · obtain ⟨w, hw, ew⟩ := adj_way q2
        have o : on S x w = true := by
          unfold on
          rw [ew, decide_eq_true hy, q3]
          rfl
        have o' := (on_adj hw (cl x hx q1 w hw o)).2.1
        rw [ew] at o'
        exact o'
    · subst z
      obtain ⟨r, hr, h', e1, p', alt⟩ := X8_h49 p
      refine Or.inr ⟨(r.1, r.2.1), ?_, ⟨h', e1, p', ?_⟩, ?_⟩
      · unfold wX8_pieces_38
        dsimp only
        rw [if_neg (by decide), hr, bnd_some]
      · rcases alt with ⟨y1, y2, y3⟩ | ⟨y1, y2⟩
        · refine Or.inl ⟨y1, fun c hc q w hw o => ?_⟩
          exact on_mono (fun d hd v => by rw [y2 d hd]; exact v) (y3 c hc (by rw [← y2 c hc]; exact q) w hw o)
        · exact Or.inr y1
      · dsimp only
        rw [e1, pop_cset, pop_cset, if_neg (show ¬ (1 : Int32) = 0 by decide)]
        rcases alt with ⟨y1, y2, y3⟩ | ⟨y1, y2⟩
        · have : fb_ct h' 36 = fb_ct h 36 := fb_ct_cong y2
          rw [y1, if_pos rfl]
          omega
        · have l := fb_ct_le h' 36
          rw [y1, if_neg (show ¬ (1 : Int32) = 0 by decide)]
          omega) _ (lshl 1 (nI i), 1) (Nat.le_refl _) ⟨fun d => d == i, bit, ⟨by simp, fun x _ z => by rw [eq_of_beq z]; exact hS, fun Q q0 _ d _ z => by rw [eq_of_beq z]; exact q0⟩, Or.inr rfl⟩
  exact ⟨r, H, hr, e, hH⟩
theorem X8_h14 {R : Nat → Bool} {i : Nat} (hi : i < 36) (hR : R i = true) (lo : ∀ j, j < i → R j = false) (n : Int32) : wh (wX8_pieces_14 (cset R, n)) 0 = some (nI i) := by
  refine wh_seq (body := wX8_pieces_14 (cset R, n)) (fun j => nI j) i (nI i) (fun j hj => ?_) ?_
  · unfold wX8_pieces_14
    dsimp only
    simp only [lt_def, nI_1]
    rw [X8_has_c R (by omega), lo j hj, bnd_some, if_pos (by rfl)]
  · unfold wX8_pieces_14
    dsimp only
    rw [X8_has_c R hi, hR, bnd_some, if_neg (by decide)]
theorem pieces_run (S : Nat → Bool) : ∀ k i, i + k = 36 → ∀ (R : Nat → Bool) (n : Nat), (∀ x, x < 36 → R x = true → S x = true) → (∀ x y, x < 36 → y < 36 → R x = true → adj x y = true → S y = true → R y = true) → (∀ j, j < i → R j = false) → ∃ r a b, r ≤ n + k ∧ wh wX3_pieces_7 (nI n, cset R, nI i) = some (nI r, a, b) ∧ ∃ a', wh (wX8_pieces_5 (cset S)) (cset R, nI n) = some (a', nI r) := by
  intro k
  induction k with
  | zero =>
    intro i hi R n sub cl lo
    have i36 : i = 36 := by omega
    subst i36
    have e : cset R = 0 := cset_0.mpr lo
    refine ⟨n, cset R, nI 36, by omega, wh_inr ?_, cset R, wh_inr ?_⟩
    · unfold wX3_pieces_7
      dsimp only
      rw [if_pos e36]
    · unfold wX8_pieces_5
      dsimp only
      rw [if_pos ((lg_cmp_eq _ _).mpr e)]
  | succ k ih =>
    intro i hi R n sub cl lo
    have i36 : i < 36 := by omega
    cases a : R i with
    | false =>
      obtain ⟨r, u, v, hr, h1, h2⟩ := ih (i + 1) (by omega) R n sub cl (fun j hj => by
        rcases Nat.lt_or_ge j i with z | z
        · exact lo j z
        · have : j = i := by omega
          subst this
          exact a)
      refine ⟨r, u, v, by omega, ?_, h2⟩
      rw [wh_inl (s' := (nI n, cset R, nI (i + 1))) ?_]
      · exact h1
      · unfold wX3_pieces_7
        dsimp only
        simp only [lt_def, nI_1]
        rw [if_neg (n36 i36), X3_has_c R i36, a, bnd_some, if_pos (by rfl)]
    | true =>
      obtain ⟨H, hH, rH⟩ := X3_heapFrom i36 a
      obtain ⟨r', H', hH', e', rH'⟩ := X8_h38 i36 (sub i i36 a)
      have same := RH_eq rH rH' sub cl
      have eH : cset H' = cset H := cset_cong (fun d hd => (same d hd).symm)
      obtain ⟨r, u, v, hr, h1, h2⟩ := ih (i + 1) (by omega) (fun d => R d && !H d) (n + 1) (fun x hx z => by
        rw [Bool.and_eq_true] at z
        exact sub x hx z.1) (fun x y hx hy z q1 q2 => by
        rw [Bool.and_eq_true] at z ⊢
        have ry := cl x y hx hy z.1 q1 q2
        refine ⟨ry, ?_⟩
        cases w : H y with
        | false => rfl
        | true =>
          have := rH.2.2.1 y x hy hx w (by rw [adj_sym y hy x hx]; exact q1) z.1
          rw [this] at z
          cases z.2) (fun j hj => by
        rcases Nat.lt_or_ge j i with z | z
        · rw [lo j z]; rfl
        · have : j = i := by omega
          subst this
          rw [rH.1]; simp)
      refine ⟨r, u, v, by omega, ?_, ?_⟩
      · rw [wh_inl (s' := (nI (n + 1), cset (fun d => R d && !H d), nI (i + 1))) ?_]
        · exact h1
        · unfold wX3_pieces_7
          dsimp only
          simp only [lt_def, nI_1]
          rw [if_neg (n36 i36), X3_has_c R i36, a, bnd_some, if_neg (by decide), hH, bnd_some, cset_diff]
      · rw [wh_inl (s' := (cset (fun d => R d && !H d), nI (n + 1))) ?_]
        · exact h2
        · unfold wX8_pieces_5
          dsimp only
          simp only [lt_def, nI_1]
          rw [if_neg (fun z => by rw [cset_0.mp ((lg_cmp_eq _ _).mp z) i i36] at a; cases a), X8_h14 i36 a lo, bnd_some, hH', bnd_some, e', eH, cset_diff]
theorem pieces_eq (S : Nat → Bool) : ∃ r, fX3_pieces (cset S) = some (nI r) ∧ fX8_pieces (cset S) = some (nI r) := by
  obtain ⟨r, a, b, _, h1, a', h2⟩ := pieces_run S 36 0 rfl S 0 (fun _ _ z => z) (fun _ _ _ _ _ _ z => z) (fun j hj => absurd hj (by omega))
  refine ⟨r, ?_, ?_⟩
  · unfold fX3_pieces
    rw [show ((0 : Int32), cset S, (0 : Int32)) = (nI 0, cset S, nI 0) from rfl, h1, bnd_some]
  · unfold fX8_pieces
    rw [show (cset S, (0 : Int32)) = (cset S, nI 0) from rfl, h2, bnd_some]
