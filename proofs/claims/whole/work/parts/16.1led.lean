/-! cells beside: by way 0 up, 1 down, 2 left, 3 right; 36: none -/
def bsd (c w : Nat) : Nat := if w = 0 then (if 6 ≤ c then c - 6 else 36) else if w = 1 then (if c < 30 then c + 6 else 36) else if w = 2 then (if c % 6 = 0 then 36 else c - 1) else (if c % 6 = 5 then 36 else c + 1)
def bI (k : Nat) : Int32 := if k = 36 then -1 else nI k
theorem X8_beside : ∀ c, c < 36 → ∀ w, w < 4 → fX8_beside (nI c) (nI w) = some (bI (bsd c w)) := by decide +kernel
def adj (c d : Nat) : Bool := (bsd c 0 == d) || (bsd c 1 == d) || (bsd c 2 == d) || (bsd c 3 == d)
theorem X3_areBeside : ∀ c, c < 36 → ∀ d, d < 36 → fX3_areBeside (nI c) (nI d) = some (if adj c d then 1 else 0) := by decide +kernel
theorem bsd_le : ∀ c, c < 36 → ∀ w, w < 4 → bsd c w ≤ 36 := by decide +kernel
theorem bI_eq {k d : Nat} (hk : k ≤ 36) (hd : d < 36) : bI k = nI d ↔ k = d := by
  unfold bI
  by_cases e : k = 36
  · rw [if_pos e]
    constructor
    · intro z
      exfalso
      have := congrArg Int32.toInt z
      rw [nI_toInt (by omega)] at this
      have m : (-1 : Int32).toInt = -1 := rfl
      rw [m] at this
      omega
    · intro z; omega
  · rw [if_neg e]; exact nI_eq (by omega) (by omega)
theorem bI_neg {k : Nat} (hk : k ≤ 36) : bI k < 0 ↔ k = 36 := by
  unfold bI
  by_cases e : k = 36
  · rw [if_pos e]
    exact ⟨fun _ => e, fun _ => by decide⟩
  · rw [if_neg e]
    exact ⟨fun z => absurd z (nI_pos (by omega)), fun z => absurd z e⟩
theorem X8_areBeside {c d : Nat} (hc : c < 36) (hd : d < 36) : fX8_areBeside (nI c) (nI d) = some (if adj c d then 1 else 0) := by
  obtain ⟨j, _, j2, j3, j4, j5⟩ := wh_scan (body := wX8_areBeside_2 (nI c) (nI d)) (fun i => nI i) (fun w => bsd c w == d) (fun w => if w < 4 then (1 : Int32) else 0) 4 (fun i hi e => by
    unfold wX8_areBeside_2
    rw [if_neg (n4 hi), X8_beside c hc i hi, bnd_some, if_neg (fun z => by rw [(bI_eq (bsd_le c hc i hi) hd).mp z] at e; simp at e), lt_def, nI_1]) (fun i hi e => by
    unfold wX8_areBeside_2
    rw [if_neg (n4 hi), X8_beside c hc i hi, bnd_some, if_pos ((bI_eq (bsd_le c hc i hi) hd).mpr (eq_of_beq e)), if_pos hi]) (by
    unfold wX8_areBeside_2
    rw [if_pos e4]
    rfl) 4 0 rfl
  unfold fX8_areBeside
  rw [show (0 : Int32) = nI 0 from rfl, j3]
  by_cases z : j < 4
  · rw [if_pos z]
    have e := j5 z
    have : adj c d = true := by
      unfold adj
      have : j = 0 ∨ j = 1 ∨ j = 2 ∨ j = 3 := by omega
      rcases this with w | w | w | w <;> subst w <;> rw [e] <;> simp
    rw [this]
    rfl
  · rw [if_neg z]
    have : adj c d = false := by
      unfold adj
      rw [j4 0 (by omega) (by omega), j4 1 (by omega) (by omega), j4 2 (by omega) (by omega), j4 3 (by omega) (by omega)]
      rfl
    rw [this]
    rfl
theorem X8_areUnlike {M : Mem} {n c d : Nat} {w : Wd} (hn : n < 31) (h : RM M n w) (hc : c < 36) (hd : d < 36) : fX8_areUnlike 151 (nI n) (nI c) (nI d) M = some (if w.1 c = w.1 d then 0 else 1) := by
  have a := h.2.2.2 c hc
  have b := h.2.2.2 d hd
  unfold fX8_areUnlike
  simp only [rM, Nat.reduceAdd, l168]
  rw [ix36, ix36, gi_at (by omega) (by decide), gi_at (by omega) (by decide), nI_clamp (show 36 * n + c < 2 ^ 31 by omega), nI_clamp (show 36 * n + d < 2 ^ 31 by omega), h.1 c hc, h.1 d hd]
  by_cases e : w.1 c = w.1 d
  · rw [if_pos (by rw [e]), if_pos e]
  · rw [if_neg (nI_lit (by omega) (by omega) e), if_neg e]
/-- the last moment up to n at which two cells have one holder -/
def lastA (A : AD) (c d : Nat) : Nat → Nat
  | 0 => 0
  | n + 1 => if (wd A (n + 1)).1 c = (wd A (n + 1)).1 d then n + 1 else lastA A c d n
theorem lastA_le (A : AD) (c d : Nat) : ∀ n, lastA A c d n ≤ n
  | 0 => Nat.le_refl 0
  | n + 1 => by
    rw [lastA]
    split
    · omega
    · have := lastA_le A c d n; omega
theorem X2_makerLoop {M : Mem} {nu c d : Nat} {A : AD} (hC : CI M nu A) (hc : c < 36) (hd : d < 36) : ∀ n, n < aN A → wh (wX2_makerOfBorder_29 1 (nI c) (nI d) M) (nI n) = some (nI (ordA A (lastA A c d n))) := by
  have n30 := hC.1.2.1
  have b : ∀ n, n < aN A → wX2_makerOfBorder_29 1 (nI c) (nI d) M (nI n) = (if (wd A n).1 c = (wd A n).1 d then some (.inr (nI (ordA A n))) else some (.inl (nI n + (-1)))) := by
    intro n hn
    unfold wX2_makerOfBorder_29
    rw [if_neg (nI_pos (by omega)), X2_momentBehind (show n < 31 by omega), bnd_some, gd_at (shp_m (by omega)), X4_hasBorder (by omega) (hC.2.2.2.1 n (by omega)) hc hd, bnd_some, r12, l4, gi_at (show n < 30 by omega) (by decide), nI_clamp (show n < 2 ^ 31 by omega), hC.2.2.1 n hn]
    by_cases e : (wd A n).1 c = (wd A n).1 d
    · rw [if_pos e, if_pos rfl, if_pos e]
    · rw [if_neg e, if_neg (by decide), if_neg e]
      rfl
  intro n
  induction n with
  | zero =>
    intro hn
    refine wh_inr ?_
    rw [b 0 hn, if_pos (by rfl)]
    rfl
  | succ n ih =>
    intro hn
    by_cases e : (wd A (n + 1)).1 c = (wd A (n + 1)).1 d
    · rw [lastA, if_pos e]
      refine wh_inr ?_
      rw [b _ hn, if_pos e]
    · rw [lastA, if_neg e, wh_inl (show wX2_makerOfBorder_29 1 (nI c) (nI d) M (nI (n + 1)) = some (.inl (nI n)) by rw [b _ hn, if_neg e, pk_m1])]
      exact ih (by omega)
theorem X8_ledLoop {M : Mem} {nu c d : Nat} {A : AD} (hV : VA nu A) (hS : RS M A) (hc : c < 36) (hd : d < 36) : ∀ n, n < aN A → wh (wX8_led_75 151 (nI c) (nI d) M) (nI (n + 1)) = some (nI (lastA A c d n + 1)) := by
  have n30 := hV.2.1
  have b : ∀ n, n < aN A → wX8_led_75 151 (nI c) (nI d) M (nI (n + 1)) = (if (wd A n).1 c = (wd A n).1 d then some (.inr (nI (n + 1))) else some (.inl (nI n))) := by
    intro n hn
    unfold wX8_led_75
    rw [nI_pred, X8_areUnlike (by omega) (hS.2.2.1 n (by omega)) hc hd, bnd_some, lt_def, pk_m1]
    by_cases e : (wd A n).1 c = (wd A n).1 d
    · rw [if_pos e, if_pos rfl, if_pos e]
    · rw [if_neg e, if_neg (by decide), if_neg e]
  intro n
  induction n with
  | zero =>
    intro hn
    refine wh_inr ?_
    rw [b 0 hn, if_pos (by rfl)]
    rfl
  | succ n ih =>
    intro hn
    by_cases e : (wd A (n + 1)).1 c = (wd A (n + 1)).1 d
    · rw [lastA, if_pos e]
      refine wh_inr ?_
      rw [b _ hn, if_pos e]
    · rw [lastA, if_neg e, wh_inl (show wX8_led_75 151 (nI c) (nI d) M (nI (n + 1 + 1)) = some (.inl (nI (n + 1))) by rw [b _ hn, if_neg e])]
      exact ih (by omega)
theorem S_led {t : Nat} {M : Mem} (h : Inv t M) (x1 x2 x3 : Int32) : Ok t M (fX7_led 0 x1 x2 x3) (fX8_led 151 x1 x2 x3) := by
  obtain ⟨nu, A, nc, cU, cY, cP, mY, mQ, sB, sN, f, hf, j⟩ := h
  have hC := j.1
  have hD := j.2.1
  have hDr := (J_ref j).2.1
  have hV := hC.1
  have n30 := hV.2.1
  cases c1 : rng 0 35 x1 with
  | false => exact Ok_ref hf j (-1000000000000000001) (by simp only [fX7_led, X3_isCell, c1, bnd_some, Bool.false_eq_true, if_false, if_true, X7_ref]) (by simp only [fX8_led, X8_isCell, c1, bnd_some, Bool.false_eq_true, if_false, if_true, X8_ref])
  | true =>
    cases c2 : rng 0 35 x2 with
    | false => exact Ok_ref hf j (-1000000000000000001) (by simp only [fX7_led, X3_isCell, c1, c2, bnd_some, Bool.false_eq_true, if_false, if_true, i10, X7_ref]) (by simp only [fX8_led, X8_isCell, c1, c2, bnd_some, Bool.false_eq_true, if_false, if_true, i10, X8_ref])
    | true =>
      cases c3 : rng 1000 1999 x3 with
      | false => exact Ok_ref hf j (-1000000000000000001) (by simp only [fX7_led, X3_isCell, X7_isYear, c1, c2, c3, bnd_some, Bool.false_eq_true, if_false, if_true, i10, X7_ref]) (by simp only [fX8_led, X8_isCell, X8_isYear, c1, c2, c3, bnd_some, Bool.false_eq_true, if_false, if_true, i10, X8_ref])
      | true =>
        obtain ⟨c, e1, _, hc'⟩ := rng_nat (lo := 0) (hi := 35) c1
        obtain ⟨d, e2, _, hd'⟩ := rng_nat (lo := 0) (hi := 35) c2
        obtain ⟨y, e3, hy1, hy2⟩ := rng_nat (lo := 1000) (hi := 1999) c3
        subst e1
        subst e2
        subst e3
        have hc : c < 36 := by omega
        have hd : d < 36 := by omega
        cases ad : adj c d with
        | false => exact Ok_ref hf j (-1000000000000000003) (by simp only [fX7_led, X3_isCell, X7_isYear, c1, c2, c3, X3_areBeside c hc d hd, ad, bnd_some, Bool.false_eq_true, if_false, if_true, i10, X7_ref]) (by simp only [fX8_led, X8_isCell, X8_isYear, c1, c2, c3, X8_areBeside hc hd, ad, bnd_some, Bool.false_eq_true, if_false, if_true, i10, X8_ref])
        | true =>
          have ul := upto_le A y
          have mk : fX2_makerOfBorder 1 (nI c) (nI d) (nI y) M = (if (wd A (upto A y)).1 c = (wd A (upto A y)).1 d then some (-1) else wh (wX2_makerOfBorder_29 1 (nI c) (nI d) M) (nI (upto A y) - 1)) := by
            unfold fX2_makerOfBorder
            rw [X2_doneUpToC hC (by omega), bnd_some, X2_momentBehind (show upto A y < 31 by omega), bnd_some, gd_at (shp_m (by omega)), X4_hasBorder (by omega) (hC.2.2.2.1 _ ul) hc hd, bnd_some, lt_def]
            by_cases e : (wd A (upto A y)).1 c = (wd A (upto A y)).1 d
            · rw [if_pos e, if_pos rfl, if_pos e]
            · rw [if_neg e, if_neg (by decide), if_neg e]
          by_cases e : (wd A (upto A y)).1 c = (wd A (upto A y)).1 d
          · obtain ⟨M', hdn, fd, rs⟩ := X8_done hV hDr
            rw [if_pos e] at mk
            refine Ok_refD hf j (-1000000000000000006) ?_ fd ?_
            · simp only [fX7_led, X3_isCell, X7_isYear, c1, c2, c3, X3_areBeside c hc d hd, ad, bnd_some, if_false, if_true, i10, r00, mk, X7_ref]
            · simp only [fX8_led, X8_isCell, X8_isYear, c1, c2, c3, X8_areBeside hc hd, ad, bnd_some, if_false, if_true, i10, hdn, X8_until hV (RD_keep fd hDr) (show y < 10000 by omega), X8_areUnlike (show upto A y < 31 by omega) (rs.2.2.1 _ ul) hc hd, e, X8_ref]
          · obtain ⟨M', hdn, fd, rs⟩ := X8_done hV hD
            obtain ⟨n, hn⟩ : ∃ n, upto A y = n + 1 := ⟨upto A y - 1, by
              have : upto A y ≠ 0 := fun z => e (by rw [z]; rfl)
              omega⟩
            rw [if_neg e, hn, nI_pred, X2_makerLoop hC hc hd n (by omega)] at mk
            have ll := lastA_le A c d n
            have o := ord_spec A (show lastA A c d n < aN A by omega)
            have ne : ¬ nI (ordA A (lastA A c d n)) = (-1 : Int32) := fun z => by
              have := congrArg Int32.toInt z
              rw [nI_toInt (by omega)] at this
              have m : (-1 : Int32).toInt = -1 := rfl
              rw [m] at this
              omega
            have un := X8_areUnlike (show upto A y < 31 by omega) (rs.2.2.1 _ ul) hc hd
            rw [if_neg e] at un
            refine Ok_ans hf j ((nI (ordA A (lastA A c d n))).toInt64) ?_ fd ?_
            · simp only [fX7_led, X3_isCell, X7_isYear, c1, c2, c3, X3_areBeside c hc d hd, ad, bnd_some, if_false, if_true, i10, r00, mk, ne]
            · simp only [fX8_led, X8_isCell, X8_isYear, c1, c2, c3, X8_areBeside hc hd, ad, bnd_some, if_false, if_true, i10, hdn, X8_until hV (RD_keep fd hD) (show y < 10000 by omega), un]
              rw [hn, X8_ledLoop hV rs hc hd n (by omega), bnd_some]
              simp only [rM, Nat.reduceAdd, l166]
              rw [nI_pred, gi_at (by omega) (by decide), nI_clamp (show lastA A c d n < 2 ^ 31 by omega), rs.1 _ (by omega)]
