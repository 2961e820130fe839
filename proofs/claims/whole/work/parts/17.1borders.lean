/-! borders: pairs of cells beside each other with unlike holders -/
def eR (w : Nat → Nat) (i : Nat) : Bool := !(decide (i % 6 = 0)) && (w i == w (i - 1))
def eD (w : Nat → Nat) (i : Nat) : Bool := decide (6 ≤ i) && (w i == w (i - 6))
def oR (w : Nat → Nat) (i : Nat) : Bool := !(decide (i % 6 = 0)) && !(w i == w (i - 1))
def oD (w : Nat → Nat) (i : Nat) : Bool := decide (6 ≤ i) && !(w i == w (i - 6))
theorem eoR (w : Nat → Nat) : fb_ct (eR w) 36 + fb_ct (oR w) 36 = 30 := by
  rw [← fb_ct_or (p := eR w) (q := oR w) (fun k _ z => by
    have a := z.1
    have b := z.2
    unfold eR at a
    unfold oR at b
    cases h : (w k == w (k - 1)) <;> rw [h] at a b <;> simp at a b)]
  have e : fb_ct (fun k => eR w k || oR w k) 36 = fb_ct (fun k => !(decide (k % 6 = 0))) 36 := fb_ct_cong (fun k _ => by
    unfold eR oR
    cases (w k == w (k - 1)) <;> simp)
  rw [e]
  rfl
theorem eoD (w : Nat → Nat) : fb_ct (eD w) 36 + fb_ct (oD w) 36 = 30 := by
  rw [← fb_ct_or (p := eD w) (q := oD w) (fun k _ z => by
    have a := z.1
    have b := z.2
    unfold eD at a
    unfold oD at b
    cases h : (w k == w (k - 6)) <;> rw [h] at a b <;> simp at a b)]
  have e : fb_ct (fun k => eD w k || oD w k) 36 = fb_ct (fun k => decide (6 ≤ k)) 36 := fb_ct_cong (fun k _ => by
    unfold eD oD
    cases (w k == w (k - 6)) <;> simp)
  rw [e]
  rfl
theorem hold_sum (w : Nat → Nat) (q : Nat → Bool) (v : Nat → Nat) (H : Nat) : fb_ct (fun i => decide (w i < H) && (q i && (w i == w (v i)))) 36 + fb_ct (fun i => (w i == H) && (q i && (w (v i) == H))) 36 = fb_ct (fun i => decide (w i < H + 1) && (q i && (w i == w (v i)))) 36 := by
  rw [← fb_ct_or (p := fun i => decide (w i < H) && (q i && (w i == w (v i)))) (q := fun i => (w i == H) && (q i && (w (v i) == H))) (fun k _ z => by
    have a := z.1
    have b := z.2
    rw [Bool.and_eq_true, decide_eq_true_iff] at a
    rw [Bool.and_eq_true, beq_iff_eq] at b
    omega)]
  refine fb_ct_cong (fun i _ => ?_)
  rw [lt_dec]
  by_cases e : w i = H
  · rw [e]
    by_cases e2 : w (v i) = H
    · rw [e2]; simp
    · rw [bq e2, bq (fun z => e2 z.symm)]; simp
  · rw [bq e]; simp
theorem X4_borderPairs {M : Mem} {n : Nat} {w : Wd} (hn : n < 31) (h : MR M n w) : fX4_borderPairs (36 + 3 * n) M = some (nI (fb_ct (oR w.1) 36 + fb_ct (oD w.1) 36)) := by
  have k := wh_seq (body := wX4_borderPairs_4 (36 + 3 * n) M) (fun i => (nI (fb_ct (fun c => decide (w.1 c < i) && (!(decide (c % 6 = 0)) && (w.1 c == w.1 (c - 1)))) 36 + fb_ct (fun c => decide (w.1 c < i) && (decide (6 ≤ c) && (w.1 c == w.1 (c - 6)))) 36), nI i)) 11 (nI (fb_ct (fun c => decide (w.1 c < 11) && (!(decide (c % 6 = 0)) && (w.1 c == w.1 (c - 1)))) 36 + fb_ct (fun c => decide (w.1 c < 11) && (decide (6 ≤ c) && (w.1 c == w.1 (c - 6)))) 36), nI 11) (fun i hi => by
    have a := hold_sum w.1 (fun c => !(decide (c % 6 = 0))) (fun c => c - 1) i
    have b := hold_sum w.1 (fun c => decide (6 ≤ c)) (fun c => c - 6) i
    unfold wX4_borderPairs_4
    dsimp only
    rw [if_neg (n11 hi), X4_heldBy hn h (by omega), bnd_some, X3_pairs, bnd_some]
    simp only [lt_def, nI_1, nI_add]
    rw [← a, ← b]
    rw [show prR (fun c => w.1 c == i) = (fun c => (w.1 c == i) && (!(decide (c % 6 = 0)) && (w.1 (c - 1) == i))) from rfl, show prD (fun c => w.1 c == i) = (fun c => (w.1 c == i) && (decide (6 ≤ c) && (w.1 (c - 6) == i))) from rfl]
    congr 4
    omega) (by
    unfold wX4_borderPairs_4
    dsimp only
    rw [if_pos e11])
  have z : fb_ct (fun c => decide (w.1 c < 0) && (!(decide (c % 6 = 0)) && (w.1 c == w.1 (c - 1)))) 36 + fb_ct (fun c => decide (w.1 c < 0) && (decide (6 ≤ c) && (w.1 c == w.1 (c - 6)))) 36 = 0 := by
    rw [fb_ct_zero.mpr (fun k _ => by rw [decide_eq_false (by omega)]; rfl), fb_ct_zero.mpr (fun k _ => by rw [decide_eq_false (by omega)]; rfl)]
  have f1 : fb_ct (fun c => decide (w.1 c < 11) && (!(decide (c % 6 = 0)) && (w.1 c == w.1 (c - 1)))) 36 = fb_ct (eR w.1) 36 := fb_ct_cong (fun c hc => by
    have := h.2.2.2 c hc
    rw [decide_eq_true (by omega)]
    rfl)
  have f2 : fb_ct (fun c => decide (w.1 c < 11) && (decide (6 ≤ c) && (w.1 c == w.1 (c - 6)))) 36 = fb_ct (eD w.1) 36 := fb_ct_cong (fun c hc => by
    have := h.2.2.2 c hc
    rw [decide_eq_true (by omega)]
    rfl)
  have s1 := eoR w.1
  have s2 := eoD w.1
  unfold fX4_borderPairs
  rw [show ((0 : Int32), (0 : Int32)) = (nI (fb_ct (fun c => decide (w.1 c < 0) && (!(decide (c % 6 = 0)) && (w.1 c == w.1 (c - 1)))) 36 + fb_ct (fun c => decide (w.1 c < 0) && (decide (6 ≤ c) && (w.1 c == w.1 (c - 6)))) 36), nI 0) by rw [z]; rfl, k, bnd_some]
  dsimp only
  rw [f1, f2, show (60 : Int32) = nI 60 from rfl, pk_sub (by omega)]
  congr 2
  omega
/-- is there a cell on that way, with another holder -/
def un (w : Nat → Nat) (c k : Nat) : Bool := decide (bsd c k < 36) && !(w c == w (bsd c k))
theorem X8_bordersStep {M : Mem} {n c k m : Nat} {w : Wd} (hn : n < 31) (h : RM M n w) (hc : c < 36) (hk : k < 4) (x : Int32) : wX8_borders_40 151 M (nI n) (x, nI c) (nI m, nI k) = some (.inl (nI (m + b1 (un w.1 c k)), nI (k + 2))) := by
  have l := bsd_le c hc k hk
  unfold wX8_borders_40
  dsimp only
  simp only [lt_def, nI_1, add0]
  rw [if_neg (n4 hk), X8_beside c hc k hk, bnd_some, show nI k + 2 = nI (k + 2) from nI_add k 2]
  unfold un
  by_cases e : bsd c k = 36
  · rw [if_pos ((bI_neg l).mpr e), e, decide_eq_false (by omega)]
    rfl
  · rw [if_neg (fun z => e ((bI_neg l).mp z)), show bI (bsd c k) = nI (bsd c k) from if_neg e, X8_areUnlike hn h hc (by omega), bnd_some, decide_eq_true (show bsd c k < 36 by omega)]
    by_cases z : w.1 c = w.1 (bsd c k)
    · rw [if_pos z, if_pos rfl, show (w.1 c == w.1 (bsd c k)) = true by rw [z]; exact beq_self_eq_true _]
      rfl
    · rw [if_neg z, if_neg (by decide), bq z]
      rfl
theorem X8_bordersIn {M : Mem} {n c m : Nat} {w : Wd} (hn : n < 31) (h : RM M n w) (hc : c < 36) (x : Int32) : wh (wX8_borders_40 151 M (nI n) (x, nI c)) (nI m, 1) = some (nI (m + b1 (un w.1 c 1) + b1 (un w.1 c 3)), nI 5) := by
  rw [show (nI m, (1 : Int32)) = (nI m, nI 1) from rfl, wh_inl (X8_bordersStep hn h hc (by decide) x), wh_inl (X8_bordersStep (k := 3) hn h hc (by decide) x)]
  refine wh_inr ?_
  unfold wX8_borders_40
  dsimp only
  rw [if_pos (show (4 : Int32) ≤ nI 5 by decide)]
theorem X8_bordersLoop {M : Mem} {n : Nat} {w : Wd} (hn : n < 31) (h : RM M n w) : wh (wX8_borders_30 151 M (nI n)) (0, 0) = some (nI (fb_ct (fun c => un w.1 c 1) 36 + fb_ct (fun c => un w.1 c 3) 36), nI 36) := by
  refine wh_seq (body := wX8_borders_30 151 M (nI n)) (fun i => (nI (fb_ct (fun c => un w.1 c 1) i + fb_ct (fun c => un w.1 c 3) i), nI i)) 36 (nI (fb_ct (fun c => un w.1 c 1) 36 + fb_ct (fun c => un w.1 c 3) 36), nI 36) (fun i hi => ?_) ?_
  · unfold wX8_borders_30
    dsimp only
    rw [if_neg (n36 hi), X8_bordersIn hn h hi, bnd_some]
    simp only [lt_def, nI_1]
    rw [fb_ct_succ, fb_ct_succ]
    congr 4
    unfold b1
    omega
  · unfold wX8_borders_30
    dsimp only
    rw [if_pos e36]
theorem ct_un1 (w : Nat → Nat) : fb_ct (oD w) 36 = fb_ct (fun c => un w c 1) 36 := by
  refine ct_shift (oD w) (fun c => un w c 1) 6 30 (fun i hi => ?_) (fun i hi => ?_) (fun i hi => ?_)
  · unfold oD
    rw [decide_eq_false (show ¬ 6 ≤ i by omega)]
    rfl
  · have e : bsd i 1 = i + 6 := by unfold bsd; rw [if_neg (by decide), if_pos rfl, if_pos hi]
    unfold oD un
    rw [e, decide_eq_true (show 6 ≤ 6 + i by omega), decide_eq_true (show i + 6 < 36 by omega), show 6 + i - 6 = i by omega, Nat.add_comm 6 i, Bool.beq_comm]
  · have e : bsd (30 + i) 1 = 36 := by unfold bsd; rw [if_neg (by decide), if_pos rfl, if_neg (by omega)]
    unfold un
    rw [e]
    rfl
theorem ct_un3 (w : Nat → Nat) : fb_ct (oR w) 36 = fb_ct (fun c => un w c 3) 36 := by
  refine ct_shift (oR w) (fun c => un w c 3) 1 35 (fun i hi => ?_) (fun i hi => ?_) (fun i hi => ?_)
  · have : i = 0 := by omega
    subst this
    rfl
  · unfold oR un
    by_cases z : i % 6 = 5
    · have e : bsd i 3 = 36 := by unfold bsd; rw [if_neg (by decide), if_neg (by decide), if_neg (by decide), if_pos z]
      rw [e, decide_eq_true (show (1 + i) % 6 = 0 by omega)]
      rfl
    · have e : bsd i 3 = i + 1 := by unfold bsd; rw [if_neg (by decide), if_neg (by decide), if_neg (by decide), if_neg z]
      rw [e, decide_eq_false (show ¬ (1 + i) % 6 = 0 by omega), decide_eq_true (show i + 1 < 36 by omega), show 1 + i - 1 = i by omega, Nat.add_comm 1 i, Bool.beq_comm]
      rfl
  · have : i = 0 := by omega
    subst this
    unfold un
    rw [show bsd (35 + 0) 3 = 36 from rfl]
    rfl
theorem S_borders {t : Nat} {M : Mem} (h : Inv t M) (x1 : Int32) : Ok t M (fX7_borders 0 x1) (fX8_borders 151 x1) := by
  obtain ⟨nu, A, nc, cU, cY, cP, mY, mQ, sB, sN, f, hf, j⟩ := h
  have hC := j.1
  have hD := j.2.1
  have hV := hC.1
  have n30 := hV.2.1
  cases c1 : rng 1000 1999 x1 with
  | false => exact Ok_ref hf j (-1000000000000000001) (by simp only [fX7_borders, X7_isYear, c1, bnd_some, Bool.false_eq_true, if_false, if_true, X7_ref]) (by simp only [fX8_borders, X8_isYear, c1, bnd_some, Bool.false_eq_true, if_false, if_true, X8_ref])
  | true =>
    obtain ⟨y, e1, hy1, hy2⟩ := rng_nat (lo := 1000) (hi := 1999) c1
    subst e1
    obtain ⟨M', hd, fd, rs⟩ := X8_done hV hD
    have ul := upto_le A y
    refine Ok_ans hf j ((nI (fb_ct (oR (wd A (upto A y)).1) 36 + fb_ct (oD (wd A (upto A y)).1) 36)).toInt64) ?_ fd ?_
    · simp only [fX7_borders, X7_isYear, c1, bnd_some, if_false, if_true, i10, r00]
      rw [X2_momentAt hC (by omega), bnd_some, gd_at (shp_m (by omega)), X4_borderPairs (by omega) (hC.2.2.2.1 _ ul), bnd_some]
    · simp only [fX8_borders, X8_isYear, c1, bnd_some, if_false, if_true, i10, hd]
      rw [X8_until hV (RD_keep fd hD) (by omega), bnd_some, X8_bordersLoop (by omega) (rs.2.2.1 _ ul), bnd_some, ct_un1, ct_un3, Nat.add_comm]
