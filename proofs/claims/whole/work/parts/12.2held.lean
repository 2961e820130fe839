/-- nobody, or a unit that is no hundred -/
def nh (nu : Nat) (A : AD) (k : Nat) : Prop := k = 10 ∨ (k < nu ∧ uK A k ≠ 3)
theorem wd_all {nu : Nat} {A : AD} (h : VA nu A) (hH : VH nu A) : ∀ n, n ≤ aN A → (∀ c, nh nu A ((wd A n).1 c)) ∧ ∀ u, (wd A n).2.2 u ≤ 10 := by
  have key : ∀ n, ∀ k, k ≤ n → n ≤ aN A → (∀ c, nh nu A ((wd A k).1 c)) ∧ ∀ u, (wd A k).2.2 u ≤ 10 := by
    intro n
    induction n with
    | zero => intro k hk _; have : k = 0 := by omega
              subst this; exact ⟨fun _ => Or.inl rfl, fun _ => Nat.le_refl 10⟩
    | succ n ih =>
      intro k hk hn
      rcases Nat.lt_or_ge k (n + 1) with q | q
      · exact ih k (by omega) (by omega)
      · have : k = n + 1 := by omega
        subst this
        rw [h.wd (by omega)]
        have o := ord_spec A (n := n) (by omega)
        have v := h.2.2.2 _ o.1
        have x := hH _ o.1
        have i1 := ih n (Nat.le_refl n) (by omega)
        have nu10 := h.1
        unfold stp
        by_cases k0 : aK A (ordA A n) = 0
        · have l := v.2.2.2.1 (by omega)
          have l2 := x.1 (by omega)
          rw [if_pos k0]
          split
          · exact i1
          · refine ⟨fun c => ?_, i1.2⟩
            show nh nu A (if aS A (ordA A n) c then aO A (ordA A n) else (wd A n).1 c)
            split
            · exact Or.inr ⟨l, l2⟩
            · exact i1.1 c
        · rw [if_neg k0]
          by_cases k1 : aK A (ordA A n) = 1
          · have l := (v.2.2.2.2.1 (Or.inl k1)).1
            have l2 := x.2.1 (Or.inl k1)
            rw [if_pos k1]
            split
            · refine ⟨fun c => ?_, i1.2⟩
              show nh nu A (if aS A (ordA A n) c && ((wd A n).1 c == aO A (ordA A n)) then aT A (ordA A n) else (wd A n).1 c)
              split
              · exact Or.inr ⟨l, l2⟩
              · exact i1.1 c
            · exact i1
          · rw [if_neg k1]
            by_cases k2 : aK A (ordA A n) = 2
            · have l := (v.2.2.2.2.1 (Or.inr k2)).1
              have l2 := x.2.1 (Or.inr k2)
              rw [if_pos k2]
              split
              · refine ⟨fun c => ?_, fun u => ?_⟩
                · show nh nu A (if (wd A n).1 c == aO A (ordA A n) then aT A (ordA A n) else (wd A n).1 c)
                  split
                  · exact Or.inr ⟨l, l2⟩
                  · exact i1.1 c
                · show (if u = aO A (ordA A n) then 10 else (wd A n).2.2 u) ≤ 10
                  split
                  · exact Nat.le_refl 10
                  · exact i1.2 u
              · exact i1
            · rw [if_neg k2]
              by_cases k3 : aK A (ordA A n) = 3
              · have bk := h.back o.1 k3
                rw [o.2] at bk
                have i3 := ih (plc A (aO A (ordA A n))) (by omega) (by omega)
                rw [if_pos k3]
                split
                · refine ⟨fun c => ?_, i1.2⟩
                  show nh nu A (if bkc (wd A (plc A (aO A (ordA A n)))).1 (wd A (plc A (aO A (ordA A n)) + 1)).1 (wd A n) c then (wd A (plc A (aO A (ordA A n)))).1 c else (wd A n).1 c)
                  split
                  · exact i3.1 c
                  · exact i1.1 c
                · exact i1
              · have l := v.2.2.2.2.2.1 (by omega)
                rw [if_neg k3]
                split
                · refine ⟨i1.1, fun u => ?_⟩
                  show (if u = aO A (ordA A n) then aT A (ordA A n) else (wd A n).2.2 u) ≤ 10
                  split
                  · omega
                  · exact i1.2 u
                · exact i1
  exact fun n hn => key n n (Nat.le_refl n) hn
/-- the cells of a unit at a world -/
def hldw (A : AD) (w : Wd) (u c : Nat) : Bool := if uK A u = 3 then decide (w.1 c < 10) && (w.2.2 (w.1 c) == u) else w.1 c == u
theorem X8_until {M : Mem} {nu y : Nat} {A : AD} (hV : VA nu A) (hD : RD M nu A) (hy : y < 10000) : fX8_until 151 (nI y) M = some (nI (upto A y)) := by
  have n30 := hV.2.1
  have k := wh_seq (body := wX8_until_4 151 (nI y) M) (fun i => (nI (fb_ct (fun a => decide (aY A a ≤ y)) i), nI i)) (aN A) (nI (upto A y), nI (aN A)) (fun i hi => by
    have d := hD.2.2.2 i hi
    have vi := hV.2.2.2 i hi
    unfold wX8_until_4
    dsimp only
    simp only [rM, lt_def, Nat.reduceAdd, l154, nI_1]
    rw [hD.2.2.1, if_neg (nle hi (by omega)), gi_at (by omega) (by decide), nI_clamp (show i < 2 ^ 31 by omega), d.2.1, add0, fb_ct_succ]
    by_cases e : aY A i ≤ y
    · rw [if_neg (fun q => absurd ((nI_ltI (by omega) (by omega)).mp q) (by omega)), if_pos (decide_eq_true e)]
    · rw [if_pos ((nI_ltI (by omega) (by omega)).mpr (by omega)), if_neg (show ¬ decide (aY A i ≤ y) = true by simp [e])]; rfl) (by
    unfold wX8_until_4
    dsimp only
    rw [hD.2.2.1, if_pos (ele _ (by omega))]
    rfl)
  unfold fX8_until
  rw [show ((0 : Int32), (0 : Int32)) = (nI (fb_ct (fun a => decide (aY A a ≤ y)) 0), nI 0) from rfl, k, bnd_some]
theorem X8_isHundred {M : Mem} {nu u : Nat} {A : AD} (hV : VA nu A) (hD : RD M nu A) (hu : u < nu) : fX8_isHundred 151 (nI u) M = some (if uK A u = 3 then 1 else 0) := by
  have := hV.1
  have l := hV.2.2.1 u hu
  unfold fX8_isHundred
  simp only [rM, Nat.reduceAdd, l152]
  rw [gi_at (by omega) (by decide), nI_clamp (show u < 2 ^ 31 by omega), hD.2.1 u hu]
  by_cases e : uK A u = 3
  · rw [if_pos (show nI (uK A u) = (3 : Int32) by rw [e]; rfl), if_pos e]
  · rw [if_neg (show ¬ nI (uK A u) = (3 : Int32) from nI_lit (by omega) (by decide) e), if_neg e]
theorem hI_eq {k u : Nat} (hk : k ≤ 10) (hu : u < 10) : hI k = nI u ↔ k = u := by
  unfold hI
  by_cases e : k = 10
  · rw [if_pos e]
    constructor
    · intro z
      exfalso
      have := congrArg Int32.toInt z
      rw [nI_toInt (by omega)] at this
      have m : (-1 : Int32).toInt = -1 := rfl
      rw [m] at this
      omega
    · intro z; omega
  · rw [if_neg e]; exact nI_eq (by omega) (by omega)
theorem X8_held {M : Mem} {nu n u : Nat} {A : AD} (hV : VA nu A) (hH : VH nu A) (hD : RD M nu A) (hS : RS M A) (hn : n ≤ aN A) (hu : u < nu) : fX8_held 151 (nI u) (nI n) M = some (cset (hldw A (wd A n) u)) := by
  have nu10 := hV.1
  have n30 := hV.2.1
  have all := wd_all hV hH n hn
  have R := hS.2.2.1 n hn
  have k := wh_seq (body := wX8_held_5 151 (nI u) (nI n) M) (fun i => (ofS (hldw A (wd A n) u) i, nI i)) 36 (cset (hldw A (wd A n) u), nI 36) (fun i hi => by
    have hc := all.1 i
    have hl : (wd A n).1 i ≤ 10 := by rcases hc with z | z <;> omega
    have ha := all.2 ((wd A n).1 i)
    unfold wX8_held_5
    dsimp only
    simp only [rM, lt_def, Nat.reduceAdd, l168, l169, nI_1]
    rw [if_neg (n36 hi), ix36, gi_at (by omega) (by decide), nI_clamp (show 36 * n + i < 2 ^ 31 by omega), R.1 i hi, X8_isHundred hV hD hu, bnd_some]
    have j : (if nI ((wd A n).1 i) = nI u then (some (1 : Int32)) else (if nI ((wd A n).1 i) = (10 : Int32) then (some (0 : Int32)) else (if (if uK A u = 3 then (1 : Int32) else 0) = 0 then (some (0 : Int32)) else (gi (((10 : Int32) * nI n) + nI ((wd A n).1 i)) 310 (if (M.1 169 (((10 : Int32) * nI n) + nI ((wd A n).1 i)).toNatClampNeg) = nI u then (some (1 : Int32)) else (some (0 : Int32))))))) = some (if hldw A (wd A n) u i then 1 else 0) := by
      unfold hldw
      by_cases h3 : uK A u = 3
      · rw [if_pos h3, if_pos h3]
        have ne : (wd A n).1 i ≠ u := fun z => by rcases hc with q | q <;> first | omega | (rw [z] at q; exact q.2 h3)
        rw [if_neg (nI_lit (by omega) (by omega) ne)]
        by_cases e : (wd A n).1 i = 10
        · rw [if_pos (show nI ((wd A n).1 i) = (10 : Int32) by rw [e]; rfl), decide_eq_false (by omega)]
          rfl
        · rw [if_neg (show ¬ nI ((wd A n).1 i) = (10 : Int32) from nI_lit (by omega) (by decide) e), if_neg (by decide), ix10, gi_at (by omega) (by decide), nI_clamp (show 10 * n + (wd A n).1 i < 2 ^ 31 by omega), R.2.2.1 _ (by omega), decide_eq_true (by omega)]
          by_cases z : (wd A n).2.2 ((wd A n).1 i) = u
          · rw [if_pos ((hI_eq ha (by omega)).mpr z), if_pos (by simp [z])]
          · rw [if_neg (fun q => z ((hI_eq ha (by omega)).mp q)), if_neg (by simp [z])]
      · rw [if_neg h3, if_neg h3]
        by_cases e : (wd A n).1 i = u
        · rw [if_pos (show nI ((wd A n).1 i) = nI u by rw [e]), if_pos (by simp [e])]
        · rw [if_neg (nI_lit (by omega) (by omega) e), if_neg (show ¬ ((wd A n).1 i == u) = true by simp [e])]
          split <;> rfl
    rw [j, bnd_some]
    cases z : hldw A (wd A n) u i with
    | true => rw [if_pos rfl, if_neg (by decide), ofS, z]; rfl
    | false => rw [if_pos (show (if false = true then (1 : Int32) else 0) = 0 from rfl), ofS, z]; rfl) (by
    unfold wX8_held_5
    dsimp only
    rw [if_pos e36]
    rfl)
  unfold fX8_held
  rw [show ((0 : Int64), (0 : Int32)) = (ofS (hldw A (wd A n) u) 0, nI 0) from rfl, k, bnd_some]
theorem X2_isHundred {M : Mem} {nu u : Nat} {A : AD} (hV : VA nu A) (hD : CD M nu A) (hu : u < nu) : fX2_isHundred 1 (nI u) M = some (if uK A u = 3 then 1 else 0) := by
  have l := hV.2.2.1 u hu
  unfold fX2_isHundred
  rw [X2_kindOf hD hV.1 hu, bnd_some]
  by_cases e : uK A u = 3
  · rw [if_pos (show nI (uK A u) = (3 : Int32) by rw [e]; rfl), if_pos e]
  · rw [if_neg (show ¬ nI (uK A u) = (3 : Int32) from nI_lit (by omega) (by decide) e), if_neg e]
theorem X4_heldUnder {M : Mem} {n u : Nat} {w : Wd} (hn : n < 31) (h : MR M n w) (hh : ∀ x, w.2.2 x ≤ 10) (hu : u < 10) : fX4_heldUnder (36 + 3 * n) (nI u) M = some (cset (fun c => decide (w.1 c < 10) && (w.2.2 (w.1 c) == u))) := by
  have k := wh_seq (body := wX4_heldUnder_5 (36 + 3 * n) (nI u) M) (fun i => (cset (fun c => decide (w.1 c < i) && (w.2.2 (w.1 c) == u)), nI i)) 10 (cset (fun c => decide (w.1 c < 10) && (w.2.2 (w.1 c) == u)), nI 10) (fun i hi => by
    have l := hh i
    unfold wX4_heldUnder_5
    dsimp only
    rw [rf_m0 hn, rf_m1 hn, ln_m0 hn, ln_m1 hn, if_neg (n10 hi), gi_at hi (by decide), nI_clamp (show i < 2 ^ 31 by omega), h.2.2.1 i hi, gi_at hi (by decide), h.1 i hi]
    simp only [lt_def, nI_1]
    rw [cset_or]
    by_cases e : w.2.2 i = u
    · rw [if_pos (show nI (w.2.2 i) = nI u by rw [e])]
      congr 3
      apply cset_cong
      intro c _
      by_cases z : w.1 c = i
      · simp [z, e]
      · have e2 : (w.1 c < i + 1) = (w.1 c < i) := by apply propext; omega
        simp only [e2]
        simp [z]
    · rw [if_neg (nI_lit (by omega) (by omega) e)]
      congr 3
      apply cset_cong
      intro c _
      by_cases z : w.1 c = i
      · simp [z, e]
      · have e2 : (w.1 c < i + 1) = (w.1 c < i) := by apply propext; omega
        simp only [e2]) (by
    unfold wX4_heldUnder_5
    dsimp only
    rw [if_pos e10])
  unfold fX4_heldUnder
  rw [show ((0 : Int64), (0 : Int32)) = (cset (fun c => decide (w.1 c < 0) && (w.2.2 (w.1 c) == u)), nI 0) by
    rw [cset_none]
    congr 1, k, bnd_some]
theorem X2_heldAt {M : Mem} {nu u y : Nat} {A : AD} (hC : CI M nu A) (hH : VH nu A) (hu : u < nu) (hy : y < 10000) : fX2_heldAt 1 (nI u) (nI y) M = some (cset (hldw A (wd A (upto A y)) u)) := by
  have hV := hC.1
  have nu10 := hV.1
  have n30 := hV.2.1
  have ul := upto_le A y
  have W := hC.2.2.2.1 _ ul
  unfold fX2_heldAt
  rw [X2_momentAt hC hy, bnd_some, gd_at (shp_m (by omega))]
  simp only [lt_def]
  rw [X2_isHundred hV hC.2.1 hu, bnd_some]
  unfold hldw
  by_cases e : uK A u = 3
  · rw [if_pos e, if_neg (by decide), X4_heldUnder (by omega) W (wd_all hV hH _ ul).2 (by omega), bnd_some]
    congr 1
    apply cset_cong
    intro c _
    rw [if_pos e]
  · rw [if_neg e, if_pos rfl, X4_heldBy (by omega) W (by omega), bnd_some]
    congr 1
    apply cset_cong
    intro c _
    rw [if_neg e]
