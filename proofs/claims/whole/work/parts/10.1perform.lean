/-- the class's own notes of the acts -/
def CD (M : Mem) (nu : Nat) (A : AD) : Prop := M.1 1 4 = nI nu ∧ (∀ u, u < nu → M.1 2 u = nI (uK A u)) ∧ M.1 1 5 = nI (aN A) ∧ ∀ a, a < aN A → M.1 (6 + a) 0 = nI (aK A a) ∧ M.1 (6 + a) 1 = nI (aY A a) ∧ M.1 (6 + a) 2 = nI (aO A a) ∧ (aK A a = 1 ∨ aK A a = 2 ∨ aK A a = 4 → M.1 (6 + a) 3 = nI (aT A a)) ∧ (aK A a = 0 ∨ aK A a = 1 → M.2 (6 + a) 4 = cset (aS A a))
def rcv (A : AD) (b : Nat) : Nat := if aK A b = 0 then aO A b else aT A b
theorem rcv_gave (A : AD) {h : Nat → Wd} {n b c : Nat} (hk : aK A b ≤ 2) (hc : chg (h n) (stp A h n b).1 c = true) : (stp A h n b).1.1 c = rcv A b := by
  unfold chg at hc
  unfold rcv
  unfold stp at hc ⊢
  by_cases k0 : aK A b = 0
  · rw [if_pos k0] at hc ⊢
    rw [if_pos k0]
    by_cases t : (h n).2.1 (aO A b) = true
    · rw [if_pos t] at hc; simp at hc
    · rw [if_neg t] at hc ⊢
      show (if aS A b c then aO A b else (h n).1 c) = aO A b
      by_cases q : aS A b c = true
      · rw [if_pos q]
      · exfalso
        have e : (if aS A b c then aO A b else (h n).1 c) = (h n).1 c := if_neg q
        simp [e] at hc
  · rw [if_neg k0] at hc ⊢
    rw [if_neg k0]
    by_cases k1 : aK A b = 1
    · rw [if_pos k1] at hc ⊢
      by_cases t : ((h n).2.1 (aO A b) && (h n).2.1 (aT A b) && anyc (fun c => aS A b c && ((h n).1 c == aO A b))) = true
      · rw [if_pos t] at hc ⊢
        show (if aS A b c && ((h n).1 c == aO A b) then aT A b else (h n).1 c) = aT A b
        by_cases q : (aS A b c && ((h n).1 c == aO A b)) = true
        · rw [if_pos q]
        · exfalso
          have e : (if aS A b c && ((h n).1 c == aO A b) then aT A b else (h n).1 c) = (h n).1 c := if_neg q
          rw [show (((fun c => if aS A b c && ((h n).1 c == aO A b) then aT A b else (h n).1 c, (h n).2) : Wd)).1 c = (h n).1 c from e] at hc
          simp at hc
      · rw [if_neg t] at hc; simp at hc
    · have k2 : aK A b = 2 := by omega
      rw [if_neg k1, if_pos k2] at hc ⊢
      by_cases t : ((h n).2.1 (aO A b) && (h n).2.1 (aT A b) && !(uK A (aO A b) == 2)) = true
      · rw [if_pos t] at hc ⊢
        show (if (h n).1 c == aO A b then aT A b else (h n).1 c) = aT A b
        by_cases q : ((h n).1 c == aO A b) = true
        · rw [if_pos q]
        · exfalso
          have e : (if (h n).1 c == aO A b then aT A b else (h n).1 c) = (h n).1 c := if_neg q
          rw [show (((fun c => if (h n).1 c == aO A b then aT A b else (h n).1 c, fun x => if x = aO A b then false else (h n).2.1 x, fun x => if x = aO A b then 10 else (h n).2.2 x) : Wd)).1 c = (h n).1 c from e] at hc
          simp at hc
      · rw [if_neg t] at hc; simp at hc
theorem X2_momentBehind {M : Mem} {k : Nat} (hk : k < 31) : fX2_momentBehind 1 (nI k) M = some (36 + 3 * k) := by
  unfold fX2_momentBehind
  have lit : ¬ (30 : Int32) < nI k := fun z => absurd ((nI_ltI (a := 30) (by omega) (by omega)).mp z) (by omega)
  rw [if_neg (nI_pos (by omega)), if_neg lit, r13, l5, gi_at (by omega) (by decide), nI_clamp (by omega), ra5]
theorem X2_actAtR {M : Mem} {n p o : Nat} (et : M.1 1 5 = nI n) (hn : n ≤ 30) (hp : p < n) (ho : o < n) (e : M.1 4 p = nI o) : fX2_actAt 1 (nI p) M = some (6 + o) := by
  have hh : ∀ b, b < n → fX2_hasAct 1 (nI b) M = some 1 := fun b hb => by
    unfold fX2_hasAct
    rw [et, if_neg (nI_pos (by omega)), if_neg (fun z => absurd ((nI_leI (by omega) (by omega)).mp z) (by omega))]
  unfold fX2_actAt
  rw [hh p hp, bnd_some, if_neg (by decide), r12, l4, gi_at (by omega) (by decide), nI_clamp (show p < 2 ^ 31 by omega), e, lt_def, hh o ho, bnd_some, if_neg (by decide), r11, l3, gi_at (by omega) (by decide), nI_clamp (show o < 2 ^ 31 by omega), ra3]
theorem X2_back {M : Mem} {m a b p rc na : Nat} {w wp gave : Wd} (hm : m < 31) (hp : p < m) (ha : a < 30) (hb : b < na) (hna : na ≤ 30) (h : MR M m w) (hpr : MR M p wp) (e7 : M.2 (6 + a) 7 = 0) (e1 : M.1 (6 + a) 2 = nI b) (et : M.1 1 5 = nI na) (ep : M.1 (6 + b) 5 = nI p) (er : fX0_receiver (6 + b) M = some (nI rc)) (hrc : rc ≤ 10) (eb : M.2 (6 + b) 7 = cset (chg wp gave)) (hg : ∀ c, c < 36 → chg wp gave c = true → gave.1 c = rc) :
    ∃ M', fX2_performBack 1 (6 + a) (36 + 3 * m) M = some (if anyc (bkc wp.1 gave.1 w) then 1 else 0, M') ∧ Fr M M' m a ∧ MR M' m (fun c => if bkc wp.1 gave.1 w c then wp.1 c else w.1 c, w.2) ∧ M'.2 (6 + a) 7 = cset (bkc wp.1 gave.1 w) := by
  unfold fX2_performBack
  have hh : fX2_hasAct 1 (nI b) M = some 1 := by
    unfold fX2_hasAct
    rw [et, if_neg (nI_pos (by omega)), if_neg (fun z => absurd ((nI_leI (by omega) (by omega)).mp z) (by omega))]
  rw [e1, hh, bnd_some, if_neg (by decide), r11, l3, gi_at (by omega) (by decide), nI_clamp (by omega)]
  simp only [lt_def]
  rw [ra3, ep, X2_momentBehind (by omega), bnd_some, gd_at (shp_m (by omega)), er, bnd_some, X4_heldBy hm h hrc, bnd_some, eb, cset_and]
  obtain ⟨M', hw, hF, hR, h7⟩ := X2_back_loop (U := fun c => chg wp gave c && (w.1 c == rc)) hm hp ha h hpr e7
  rw [hw, bnd_some]
  have same : ∀ c, c < 36 → bki wp.1 (fun c => chg wp gave c && (w.1 c == rc)) w 11 c = bkc wp.1 gave.1 w c := by
    intro c hc
    have l := hpr.2.2.2 c hc
    have l2 : decide (wp.1 c < 11) = true := by simp; omega
    unfold bki bkc
    rw [l2, Bool.and_true]
    congr 1
    cases q : chg wp gave c with
    | false =>
      have : (wp.1 c == gave.1 c) = true := by
        unfold chg at q
        simp at q
        simp [q]
      rw [this]
      show (chg wp gave c && (w.1 c == rc)) = _
      rw [q]
      rfl
    | true =>
      have g := hg c hc q
      have : (wp.1 c == gave.1 c) = false := by
        unfold chg at q
        simp at q
        simp
        exact fun z => q z.symm
      rw [this, g]
      show (chg wp gave c && (w.1 c == rc)) = _
      rw [q]
      rfl
  have h7' : M'.2 (6 + a) 7 = cset (bkc wp.1 gave.1 w) := h7.trans (cset_cong same)
  refine ⟨M', ?_, hF, MR_ext hR (fun c hc => ?_) (fun _ _ => rfl) (fun _ _ => rfl), h7'⟩
  · dsimp only
    rw [h7']
    cases q : anyc (bkc wp.1 gave.1 w) with
    | false => rw [if_pos ((cmp0 _).mpr (anyc_0.mp q))]; rfl
    | true =>
      rw [if_neg (fun z => by have := anyc_0.mpr ((cmp0 _).mp z); rw [q] at this; cases this)]
      rfl
  · show (if bkc wp.1 gave.1 w c then wp.1 c else w.1 c) = (if bki wp.1 _ w 11 c then wp.1 c else w.1 c)
    rw [same c hc]
