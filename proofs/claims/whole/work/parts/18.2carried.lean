/-! counts carried to another year -/
theorem lt63 {x y T E : Nat} (h : x ≤ y * T) (hy : y ≤ 2 ^ E) (hE : E ≤ 36) (hT : T ≤ 20000000) : x < 2 ^ 63 ∧ y ≤ 2 ^ 36 := by
  have y36 : y ≤ 2 ^ 36 := Nat.le_trans hy (Nat.pow_le_pow_right (by decide) hE)
  have : y * T ≤ 2 ^ 36 * 20000000 := Nat.mul_le_mul y36 hT
  exact ⟨by omega, y36⟩
/-- how many cells a unit holds, and how many of them are in a set -/
def ar (w : Wd) (u : Nat) : Nat := fb_ct (fun c => w.1 c == u) 36
def sb (w : Wd) (tg : Nat → Bool) (u : Nat) : Nat := fb_ct (fun c => (w.1 c == u) && tg c) 36
theorem ar_lt (w : Wd) (u : Nat) : ar w u < 37 := Nat.lt_succ_of_le (fb_ct_le _ 36)
theorem sb_le (w : Wd) (tg : Nat → Bool) (u : Nat) : sb w tg u ≤ ar w u := fb_ct_sub (fun c _ z => by rw [Bool.and_eq_true] at z; exact z.1)
theorem ar_0 {w : Wd} {u : Nat} : cset (fun c => w.1 c == u) = 0 ↔ ar w u = 0 := by
  unfold ar
  rw [cset_0, fb_ct_zero]
theorem one_sum (v n : Nat) : fb_sm (fun u => b1 (v == u)) n ≤ 1 := by
  rcases Nat.lt_or_ge v n with h | h
  · rw [fb_sm_cong (g := fun u => if u = v then 1 else 0) (fun u _ => ?_), sm_one 1 h]
    · exact Nat.le_refl 1
    · by_cases e : u = v
      · subst e
        rw [if_pos rfl]
        unfold b1
        simp
      · rw [if_neg e, bq (fun z => e z.symm)]
        rfl
  · rw [fb_sm_cong (g := fun _ => 0) (fun u hu => ?_), sm_zero]
    · omega
    · rw [bq (by omega)]
      rfl
theorem ar_sum (w : Wd) (nu : Nat) : fb_sm (ar w) nu ≤ 36 := by
  have e : fb_sm (ar w) nu = fb_sm (fun u => fb_sm (fun c => b1 (w.1 c == u)) 36) nu := fb_sm_cong (fun u _ => ct_sm _ 36)
  rw [e, sm_swap]
  exact fb_sm_bound (c := 1) (fun c _ => one_sum (w.1 c) nu)
def gS (w : Wd) (tg : Nat → Bool) (cU cP : Nat → Nat) (i : Nat) : Nat := cP i * sb w tg (cU i) * (DD / ar w (cU i))
def gE (w : Wd) (cU : Nat → Nat) (i : Nat) : Nat := ar w (cU i)
theorem gS_0 {w : Wd} {tg : Nat → Bool} {cU cP : Nat → Nat} {i : Nat} (h : ar w (cU i) = 0) : gS w tg cU cP i = 0 := by
  have l := sb_le w tg (cU i)
  have : sb w tg (cU i) = 0 := by omega
  unfold gS
  rw [this, Nat.mul_zero, Nat.zero_mul]
theorem E_units {w : Wd} {nu nc y : Nat} {cU cY : Nat → Nat} : fb_sm (bu cU cY y nc (gE w cU)) nu ≤ 36 := by
  refine Nat.le_trans (fb_sm_le (g := ar w) (fun u _ => ?_)) (ar_sum w nu)
  cases e : lix cU cY u y nc with
  | none => rw [bu_none e]; omega
  | some k =>
    rw [bu_some e]
    unfold gE
    rw [(lix_some.mp e).2.1]
    exact Nat.le_refl _
theorem E_counts {w : Wd} {nu nc y : Nat} {cU cY : Nat → Nat} (hU : ∀ i, i < nc → cU i < nu) : fb_sm (sg nc cU cY y (gE w cU)) nc ≤ 36 := by
  rw [sum_units hU]
  exact E_units
theorem sm_up (f : Nat → Nat) {i n : Nat} (h : i ≤ n) : fb_sm f i ≤ fb_sm f n := by
  have := fb_sm_mono f i (n - i)
  rw [show i + (n - i) = n by omega] at this
  exact this
theorem X6_shareLoop {M : Mem} {nu nc n y : Nat} {A : AD} {w : Wd} {tg : Nat → Bool} {cU cY cP : Nat → Nat} (hT : CT M nu A nc cU cY cP) (h10 : nu ≤ 10) (hn : n < 31) (hM : MR M n w) (hy : y < 10000) : ∃ r, wh (wX6_share_9 129 (nI y) (36 + 3 * n) (cset tg) M) (0, 1, 0) = some r ∧ ∃ u l, r.1 = lN u ∧ r.2.1 = lN l ∧ FI u l (fb_sm (sg nc cU cY y (gS w tg cU cP)) nc) (fb_sm (sg nc cU cY y cP) nc) (fb_sm (sg nc cU cY y (gE w cU)) nc) := by
  have n20 := hT.1
  have hU : ∀ i, i < nc → cU i < nu := fun i hi => (hT.2.2.2 i hi).1
  refine wh_inv (body := wX6_share_9 129 (nI y) (36 + 3 * n) (cset tg) M) (fun i s => ∃ u l, s = (lN u, lN l, nI i) ∧ FI u l (fb_sm (sg nc cU cY y (gS w tg cU cP)) i) (fb_sm (sg nc cU cY y cP) i) (fb_sm (sg nc cU cY y (gE w cU)) i)) nc (fun r => ∃ u l, r.1 = lN u ∧ r.2.1 = lN l ∧ FI u l (fb_sm (sg nc cU cY y (gS w tg cU cP)) nc) (fb_sm (sg nc cU cY y cP) nc) (fb_sm (sg nc cU cY y (gE w cU)) nc)) ?_ ?_ nc 0 _ (Nat.zero_add nc) ⟨0, 1, rfl, FI_0⟩
  · rintro i s hi ⟨u, l, rfl, F⟩
    obtain ⟨a1, a2, a3, a4, a5, a6, a7, a8, a9, a10, a11⟩ := hT.2.2.2 i hi
    have start : wX6_share_9 129 (nI y) (36 + 3 * n) (cset tg) M (lN u, lN l, nI i) = (if (lg_cmp (cset (fun c => w.1 c == cU i)) (0 : Int64)) = 0 then some (.inl (lN u, lN l, nI (i + 1))) else (if (if std nc cU cY y i then (1 : Int32) else 0) = 0 then some (.inl (lN u, lN l, nI (i + 1))) else (Option.bind (fX6_greatestDivisor (lN (u * ar w (cU i) + cP i * sb w tg (cU i) * l)) (lN (l * ar w (cU i)))) (fun b14 => if (lg_cmp b14 (1 : Int64)) ≤ 0 then some (.inl (lN (u * ar w (cU i) + cP i * sb w tg (cU i) * l), lN (l * ar w (cU i)), nI (i + 1))) else (gzl b14 (gzl b14 (some (.inl (lN (u * ar w (cU i) + cP i * sb w tg (cU i) * l) / b14, lN (l * ar w (cU i)) / b14, nI (i + 1)))))))))) := by
      have e1 : lN u * (nI (ar w (cU i))).toInt64 + (nI (cP i)).toInt64 * lN l * (nI (sb w tg (cU i))).toInt64 = lN (u * ar w (cU i) + cP i * sb w tg (cU i) * l) := by
        have q1 := ar_lt w (cU i)
        have q2 := sb_le w tg (cU i)
        rw [toL (by omega), toL (by omega), toL (by omega), lN_mul, lN_mul, lN_mul, lN_add, Nat.mul_right_comm (cP i) l]
      have e2 : lN l * (nI (ar w (cU i))).toInt64 = lN (l * ar w (cU i)) := by
        have q1 := ar_lt w (cU i)
        rw [toL (by omega), lN_mul]
      unfold wX6_share_9
      dsimp only
      simp only [lt_def, nI_1]
      rw [hT.2.1, if_neg (nle hi (by omega)), r90, l130, gi_at (by omega) (by decide), nI_clamp (show i < 2 ^ 31 by omega), a6, X4_heldBy hn hM (show cU i ≤ 10 by omega), bnd_some, X6_stands hT h10 hi hy, bnd_some, X_bitCount, bnd_some, r92, l132, gi_at (by omega) (by decide), cset_and, X_bitCount, bnd_some, pop_cset, pop_cset, a10]
      rw [show fb_ct (fun c => w.1 c == cU i) 36 = ar w (cU i) from rfl, show fb_ct (fun c => (w.1 c == cU i) && tg c) 36 = sb w tg (cU i) from rfl, e1, e2]
    rw [start, fb_sm_succ, fb_sm_succ, fb_sm_succ]
    by_cases z : ar w (cU i) = 0
    · rw [if_pos ((lg_cmp_eq _ _).mpr (ar_0.mpr z))]
      refine ⟨_, rfl, u, l, rfl, ?_⟩
      have s0 : sg nc cU cY y (gS w tg cU cP) i = 0 := by
        unfold sg
        rw [gS_0 z, ite_self]
      rw [s0, Nat.add_zero]
      exact FI_skip F (Nat.le_add_right _ _) (Nat.le_add_right _ _)
    · rw [if_neg (fun q => z (ar_0.mp ((lg_cmp_eq _ _).mp q)))]
      cases st : std nc cU cY y i with
      | false =>
        rw [if_pos (by rfl)]
        refine ⟨_, rfl, u, l, rfl, ?_⟩
        unfold sg
        rw [st, if_neg (by decide), if_neg (by decide), if_neg (by decide)]
        exact F
      | true =>
        have eS : sg nc cU cY y (gS w tg cU cP) i = cP i * sb w tg (cU i) * (DD / ar w (cU i)) := by unfold sg; rw [st, if_pos rfl]; rfl
        have eT : sg nc cU cY y cP i = cP i := by unfold sg; rw [st, if_pos rfl]
        have eE : sg nc cU cY y (gE w cU) i = ar w (cU i) := by unfold sg; rw [st, if_pos rfl]; rfl
        have bE : fb_sm (sg nc cU cY y (gE w cU)) i + sg nc cU cY y (gE w cU) i ≤ 36 := Nat.le_trans (fb_sm_part _ hi) (E_counts hU)
        have bT : fb_sm (sg nc cU cY y cP) i + sg nc cU cY y cP i ≤ 20000000 := by
          have q := fb_sm_bound (f := sg nc cU cY y cP) (c := 1000000) (n := nc) (fun k hk => by
            have := (hT.2.2.2 k hk).2.2.2.2.1
            unfold sg
            by_cases v : std nc cU cY y k = true
            · rw [if_pos v]; exact this
            · rw [if_neg v]; omega)
          have q2 := fb_sm_part (sg nc cU cY y cP) hi
          omega
        rw [if_neg (by decide), eS, eT, eE]
        rw [eE] at bE
        rw [eT] at bT
        obtain ⟨F', f1, f2, f3⟩ := FI_step (p := cP i) (b := sb w tg (cU i)) F (ar_lt w (cU i)) (by omega) (sb_le w tg (cU i))
        obtain ⟨x63, y36⟩ := lt63 f1 f2 bE bT
        generalize hx : u * ar w (cU i) + cP i * sb w tg (cU i) * l = x at *
        generalize hz : l * ar w (cU i) = v at *
        have gp : 0 < Nat.gcd x v := Nat.gcd_pos_of_pos_right x f3
        have gl : Nat.gcd x v ≤ v := Nat.gcd_le_right x f3
        have v63 : v < 2 ^ 63 := Nat.lt_of_le_of_lt y36 (by decide)
        rw [X6_gcdF x63 y36, bnd_some]
        have cmp1 : lg_cmp (lN (Nat.gcd x v)) 1 ≤ 0 ↔ Nat.gcd x v ≤ 1 := (lg_cmp_le (lN (Nat.gcd x v)) 1).trans (pk_lLE (b := 1) (by omega) (by decide))
        by_cases g1 : Nat.gcd x v ≤ 1
        · have e : Nat.gcd x v = 1 := by omega
          rw [if_pos (cmp1.mpr g1)]
          rw [e, Nat.div_one, Nat.div_one] at F'
          exact ⟨_, rfl, x, v, rfl, F'⟩
        · rw [if_neg (fun q => g1 (cmp1.mp q)), gzl_at (lN_ne (by omega) gp), gzl_at (lN_ne (by omega) gp), pk_lDiv x63 gp (by omega), pk_lDiv v63 gp (by omega)]
          exact ⟨_, rfl, _, _, rfl, F'⟩
  · rintro s ⟨u, l, rfl, F⟩
    refine ⟨(lN u, lN l, nI nc), ?_, u, l, rfl, rfl, F⟩
    unfold wX6_share_9
    dsimp only
    rw [hT.2.1, if_pos (ele _ (by omega))]
theorem X8_carriedLoop {M : Mem} {nu nc y : Nat} {A : AD} {tg : Nat → Bool} {cU cY cP : Nat → Nat} (hT : CT M nu A nc cU cY cP) (hV : VA nu A) (hH : VH nu A) (hD : RD M nu A) (hS : RS M A) (hy : y < 10000) : ∃ r, wh (wX8_carried_55 151 (nI y) M (cset tg)) (0, 1, 0) = some r ∧ ∃ u l, r.1 = lN u ∧ r.2.1 = lN l ∧ FI u l (fb_sm (bu cU cY y nc (gS (wd A (upto A y)) tg cU cP)) nu) (fb_sm (bu cU cY y nc cP) nu) (fb_sm (bu cU cY y nc (gE (wd A (upto A y)) cU)) nu) := by
  have h10 := hV.1
  have ul := upto_le A y
  generalize hw : wd A (upto A y) = w
  refine wh_inv (body := wX8_carried_55 151 (nI y) M (cset tg)) (fun i s => ∃ u l, s = (lN u, lN l, nI i) ∧ FI u l (fb_sm (bu cU cY y nc (gS w tg cU cP)) i) (fb_sm (bu cU cY y nc cP) i) (fb_sm (bu cU cY y nc (gE w cU)) i)) nu (fun r => ∃ u l, r.1 = lN u ∧ r.2.1 = lN l ∧ FI u l (fb_sm (bu cU cY y nc (gS w tg cU cP)) nu) (fb_sm (bu cU cY y nc cP) nu) (fb_sm (bu cU cY y nc (gE w cU)) nu)) ?_ ?_ nu 0 _ (Nat.zero_add nu) ⟨0, 1, rfl, FI_0⟩
  · rintro i s hi ⟨u, l, rfl, F⟩
    rw [fb_sm_succ, fb_sm_succ, fb_sm_succ]
    cases e : lix cU cY i y nc with
    | none =>
      refine ⟨(lN u, lN l, nI (i + 1)), ?_, u, l, rfl, ?_⟩
      · unfold wX8_carried_55
        dsimp only
        simp only [lt_def, nI_1]
        rw [hD.1, if_neg (nle hi (by omega)), X8_latest hT h10 (by omega) hy, bnd_some, X8_until hV hD hy, bnd_some, X8_held hV hH hD hS ul hi, bnd_some, e]
        dsimp only
        rw [if_pos (by decide)]
      · rw [bu_none e, bu_none e, bu_none e]
        exact F
    | some k =>
      have lk := lix_some.mp e
      obtain ⟨a1, a2, a3, a4, a5, a6, a7, a8, a9, a10, a11⟩ := hT.2.2.2 k lk.1
      have ek := lk.2.1
      rw [ek] at a2
      have hl : cset (hldw A w i) = cset (fun c => w.1 c == i) := cset_cong (fun c _ => by unfold hldw; rw [if_neg a2])
      have start : wX8_carried_55 151 (nI y) M (cset tg) (lN u, lN l, nI i) = (if (lg_cmp (cset (fun c => w.1 c == i)) (0 : Int64)) = 0 then some (.inl (lN u, lN l, nI (i + 1))) else (Option.bind (fX8_common (lN (u * ar w i + cP k * sb w tg i * l)) (lN (l * ar w i))) (fun b30 => (gzl b30 (gzl b30 (some (.inl (lN (u * ar w i + cP k * sb w tg i * l) / b30, lN (l * ar w i) / b30, nI (i + 1))))))))) := by
        have e1 : lN u * (nI (ar w i)).toInt64 + (nI (cP k)).toInt64 * (nI (sb w tg i)).toInt64 * lN l = lN (u * ar w i + cP k * sb w tg i * l) := by
          have q1 := ar_lt w i
          have q2 := sb_le w tg i
          rw [toL (by omega), toL (by omega), toL (by omega), lN_mul, lN_mul, lN_mul, lN_add]
        have e2 : lN l * (nI (ar w i)).toInt64 = lN (l * ar w i) := by
          have q1 := ar_lt w i
          rw [toL (by omega), lN_mul]
        unfold wX8_carried_55
        dsimp only
        simp only [lt_def, nI_1]
        rw [hD.1, if_neg (nle hi (by omega)), X8_latest hT h10 (by omega) hy, bnd_some, X8_until hV hD hy, bnd_some, X8_held hV hH hD hS ul hi, bnd_some, e]
        dsimp only
        rw [if_neg (nI_pos (by omega)), X8_isHundred hV hD hi, bnd_some, if_neg a2, if_pos rfl, hw, hl, cset_and, X8_cellsIn, bnd_some, X8_cellsIn, bnd_some]
        rw [show fb_ct (fun c => w.1 c == i) 36 = ar w i from rfl, show fb_ct (fun c => (w.1 c == i) && tg c) 36 = sb w tg i from rfl, e1, e2]
      rw [start, bu_some e, bu_some e, bu_some e]
      by_cases z : ar w i = 0
      · rw [if_pos ((lg_cmp_eq _ _).mpr (ar_0.mpr z))]
        refine ⟨_, rfl, u, l, rfl, ?_⟩
        rw [gS_0 (by rw [ek]; exact z), Nat.add_zero]
        exact FI_skip F (Nat.le_add_right _ _) (Nat.le_add_right _ _)
      · rw [if_neg (fun q => z (ar_0.mp ((lg_cmp_eq _ _).mp q)))]
        have eS : gS w tg cU cP k = cP k * sb w tg i * (DD / ar w i) := by unfold gS; rw [ek]
        have eE : gE w cU k = ar w i := by unfold gE; rw [ek]
        have bE : fb_sm (bu cU cY y nc (gE w cU)) i + ar w i ≤ 36 := by
          have q := fb_sm_part (bu cU cY y nc (gE w cU)) hi
          rw [bu_some e, eE] at q
          exact Nat.le_trans q E_units
        have bT : fb_sm (bu cU cY y nc cP) i + cP k ≤ 20000000 := by
          have q := fb_sm_bound (f := bu cU cY y nc cP) (c := 1000000) (n := nu) (fun v _ => by
            cases e' : lix cU cY v y nc with
            | none => rw [bu_none e']; omega
            | some k' => rw [bu_some e']; exact (hT.2.2.2 k' (lix_some.mp e').1).2.2.2.2.1)
          have q2 := fb_sm_part (bu cU cY y nc cP) hi
          rw [bu_some e] at q2
          omega
        rw [eS, eE]
        obtain ⟨F', f1, f2, f3⟩ := FI_step (p := cP k) (b := sb w tg i) F (ar_lt w i) (by omega) (sb_le w tg i)
        obtain ⟨x63, y36⟩ := lt63 f1 f2 bE bT
        generalize hx : u * ar w i + cP k * sb w tg i * l = x at *
        generalize hz : l * ar w i = v at *
        have gp : 0 < Nat.gcd x v := Nat.gcd_pos_of_pos_right x f3
        have gl : Nat.gcd x v ≤ v := Nat.gcd_le_right x f3
        have v63 : v < 2 ^ 63 := Nat.lt_of_le_of_lt y36 (by decide)
        rw [X8_commonF x63 v63, bnd_some, gzl_at (lN_ne (by omega) gp), gzl_at (lN_ne (by omega) gp), pk_lDiv x63 gp (by omega), pk_lDiv v63 gp (by omega)]
        exact ⟨_, rfl, _, _, rfl, F'⟩
  · rintro s ⟨u, l, rfl, F⟩
    refine ⟨(lN u, lN l, nI nu), ?_, u, l, rfl, rfl, F⟩
    unfold wX8_carried_55
    dsimp only
    rw [hD.1, if_pos (ele _ (by omega))]
theorem S_carried {t : Nat} {M : Mem} (h : Inv t M) (x1 x2 x3 x4 : Int32) : Ok t M (fX7_carried 0 x1 x2 x3 x4) (fX8_carried 151 x1 x2 x3 x4) := by
  obtain ⟨nu, A, nc, cU, cY, cP, mY, mQ, sB, sN, f, hf, j⟩ := h
  have hC := j.1
  have hD := j.2.1
  have hDr := (J_ref j).2.1
  have hV := hC.1
  have n30 := hV.2.1
  have n10 := hV.1
  have hT := j.2.2.2.1
  cases c1 : rng 0 ((nu : Int) - 1) x2 with
  | false =>
    refine Ok_ref hf j (-1000000000000000001) (by simp only [fX7_carried, r00, X2_hasUnitR hC.2.1.1 hV.1, c1, bnd_some, Bool.false_eq_true, if_false, if_true, X7_ref]) ?_
    cases c2 : rng 1000 1999 x1 with
    | false => simp only [fX8_carried, X8_isYear, c2, bnd_some, Bool.false_eq_true, if_false, if_true, X8_ref]
    | true => simp only [fX8_carried, X8_isUnit hDr.1 hV.1, X8_isYear, c1, c2, bnd_some, Bool.false_eq_true, if_false, if_true, i10, X8_ref]
  | true =>
    cases c2 : rng 1000 1999 x1 with
    | false => exact Ok_ref hf j (-1000000000000000001) (by simp only [fX7_carried, r00, X2_hasUnitR hC.2.1.1 hV.1, X7_isYear, c1, c2, bnd_some, Bool.false_eq_true, if_false, if_true, i10, X7_ref]) (by simp only [fX8_carried, X8_isYear, c2, bnd_some, Bool.false_eq_true, if_false, if_true, X8_ref])
    | true =>
      cases c3 : rng 1000 1999 x3 with
      | false => exact Ok_ref hf j (-1000000000000000001) (by simp only [fX7_carried, r00, X2_hasUnitR hC.2.1.1 hV.1, X7_isYear, c1, c2, c3, bnd_some, Bool.false_eq_true, if_false, if_true, i10, X7_ref]) (by simp only [fX8_carried, X8_isUnit hDr.1 hV.1, X8_isYear, c1, c2, c3, bnd_some, Bool.false_eq_true, if_false, if_true, i10, X8_ref])
      | true =>
        obtain ⟨u, e1, hu⟩ := rng_unit c1
        obtain ⟨y, e2, hy1, hy2⟩ := rng_nat (lo := 1000) (hi := 1999) c2
        obtain ⟨z, e3, hz1, hz2⟩ := rng_nat (lo := 1000) (hi := 1999) c3
        subst e1
        subst e2
        subst e3
        obtain ⟨M', hd, fd, rs⟩ := X8_done hV hD
        have uy := upto_le A y
        have uz := upto_le A z
        have W := hC.2.2.2.1 _ uy
        obtain ⟨r, hr, p, l, q1, q2, F⟩ := X6_shareLoop (tg := hldw A (wd A (upto A z)) u) hT n10 (show upto A y < 31 by omega) W (show y < 10000 by omega)
        have j' := J_D fd j
        obtain ⟨r', hr', p', l', q1', q2', F'⟩ := X8_carriedLoop (tg := hldw A (wd A (upto A z)) u) j'.2.2.2.1 hV j.2.2.1 j'.2.1 rs (show y < 10000 by omega)
        have eq := sum_units (y := y) (cY := cY) (fun i hi => (hT.2.2.2 i hi).1) (gS (wd A (upto A y)) (hldw A (wd A (upto A z)) u) cU cP)
        rw [eq] at F
        obtain ⟨ep, el⟩ := FI_one F F'
        refine Ok_ans hf j (if x4 = 0 then lN p else lN l) ?_ fd ?_
        · simp only [fX7_carried, r00, r01, X2_hasUnitR hC.2.1.1 hV.1, X7_isYear, c1, c2, c3, bnd_some, if_false, if_true, i10]
          rw [X2_momentAt hC (by omega), bnd_some, gd_at (shp_m (by omega)), X2_heldAt hC j.2.2.1 hu (by omega), bnd_some]
          unfold fX6_share
          rw [hr, bnd_some, q1, q2]
          by_cases v : x4 = 0
          · rw [if_pos v, if_pos v, bnd_some]
          · rw [if_neg v, if_neg v, bnd_some]
        · simp only [fX8_carried, X8_isUnit hD.1 hV.1, X8_isYear, c1, c2, c3, hd, bnd_some, if_false, if_true, i10]
          rw [X8_until hV (RD_keep fd hD) (by omega), bnd_some, X8_held hV j.2.2.1 (RD_keep fd hD) rs uz hu, bnd_some, hr', bnd_some, q1', q2', ← ep, ← el]
          by_cases v : x4 = 0
          · rw [if_pos v, if_pos v]
          · rw [if_neg v, if_neg v]
