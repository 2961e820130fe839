theorem X2_doneUpTo {M : Mem} {A : AD} {y : Nat} (h30 : aN A ≤ 30) (hy : y < 10000) (hY : ∀ a, a < aN A → aY A a < 10000) (e : M.1 1 5 = nI (aN A)) (d : ∀ a, a < aN A → M.1 (6 + a) 1 = nI (aY A a)) : fX2_doneUpTo 1 (nI y) M = some (nI (upto A y)) := by
  unfold fX2_doneUpTo
  have hw := wh_seq (body := wX2_doneUpTo_4 1 (nI y) M) (fun i => (nI (fb_ct (fun a => decide (aY A a ≤ y)) i), nI i)) (aN A) (nI (upto A y), nI (aN A)) (by
    intro i hi
    unfold wX2_doneUpTo_4
    dsimp only
    rw [e, if_neg (fun z => absurd ((nI_leI (by omega) (by omega)).mp z) (by omega)), r11, l3, gi_at (by omega) (by decide), nI_clamp (by omega), ra3, d i hi, fb_ct_succ]
    have := hY i hi
    by_cases z : y < aY A i
    · rw [if_pos ((nI_ltI (by omega) (by omega)).mpr z)]
      have z2 : ¬ aY A i ≤ y := by omega
      simp only [lt_def, nI_1, z2, decide_false, Bool.false_eq_true, if_false, Nat.add_zero]
    · rw [if_neg (fun q => z ((nI_ltI (by omega) (by omega)).mp q))]
      have z2 : aY A i ≤ y := by omega
      simp only [lt_def, nI_1, z2, decide_true, if_true]) (by
    unfold wX2_doneUpTo_4
    dsimp only
    rw [e, if_pos (nI_le (Nat.le_refl _) (by omega))]
    rfl)
  rw [show ((0 : Int32), (0 : Int32)) = (nI (fb_ct (fun a => decide (aY A a ≤ y)) 0), nI 0) from rfl, hw, bnd_some]
theorem PF_ext {M : Mem} {nu : Nat} {A B : AD} (h : Ext A B) (hA : VA nu A) (hB : VA nu B) {b : Nat} (hb : b < aN A) (hp : plc A b < plc B (aN A)) : PF M B b ↔ PF M A b := by
  have e : plc B b = plc A b := by rw [h.old2 hb, if_pos hp]
  have pl := h.p_le
  have w1 := ext_wd h hA hB (plc A b) (by omega)
  have w2 := ext_wd h hA hB (plc A b + 1) (by omega)
  have bk : aK A b = 3 → plc A (aO A b) < plc A b := fun k3 => hA.back hb k3
  have s1 : stp B (wd B) (plc A b) b = stp A (wd A) (plc A b) b := by
    rw [ext_stp h hb (fun k3 => by
      have b1 := bk k3
      have v := (hA.2.2.2 _ hb).2.2.2.2.2.2 k3
      rw [h.old2 (by omega), if_pos (by omega)])]
    exact stp_cong A (fun k hk => ext_wd h hA hB k (by omega)) (fun k3 => by have := bk k3; omega)
  unfold PF
  rw [e, w1, w2, s1]
/-- what telling or untelling an act leaves as it was -/
def FrT (M M' : Mem) : Prop := (∀ x y, ¬ (6 ≤ x ∧ x < 129) → x ≠ 4 → ¬ (x = 1 ∧ y = 5) → M'.1 x y = M.1 x y) ∧ ∀ x y, ¬ (6 ≤ x ∧ x < 129) → M'.2 x y = M.2 x y
theorem FrT.rf {M : Mem} : FrT M M := ⟨fun _ _ _ _ _ => rfl, fun _ _ _ => rfl⟩
theorem FrT.tr {M M' M'' : Mem} (h : FrT M M') (h' : FrT M' M'') : FrT M M'' := ⟨fun x y p q r => (h'.1 x y p q r).trans (h.1 x y p q r), fun x y p => (h'.2 x y p).trans (h.2 x y p)⟩
theorem FrT.of {M M' : Mem} (h : FrC M M') : FrT M M' := ⟨fun x y p _ _ => h.1 x y (by omega) (by omega), fun x y p => h.2 x y (by omega) (by omega)⟩
theorem VA.yr {nu : Nat} {A : AD} (h : VA nu A) : ∀ a, a < aN A → aY A a < 10000 := fun a ha => by have := (h.2.2.2 a ha).2.2.1; omega
theorem X2_tell {M : Mem} {nu : Nat} {A B : AD} {x1 x2 x3 x4 : Int32} {x5 : Int64} (hC : CI M nu A) (h29 : aN A < 30) (hE : Ext A B) (hB : VA nu B) (e1 : x1 = nI (aK B (aN A))) (e4 : x4 = nI (aY B (aN A))) (e2 : x2 = nI (aO B (aN A))) (e3 : aK B (aN A) = 1 ∨ aK B (aN A) = 2 ∨ aK B (aN A) = 4 → x3 = nI (aT B (aN A))) (e5 : aK B (aN A) = 0 ∨ aK B (aN A) = 1 → x5 = cset (aS B (aN A))) :
    ∃ M', fX2_tell 1 x1 x2 x3 x4 x5 M = some ((nI (aN A)).toInt64, M') ∧ CI M' nu B ∧ FrT M M' := by
  obtain ⟨hV, hD, hO, hR, hP⟩ := hC
  have hp := hE.p_le
  have hnew := hE.new
  unfold fX2_tell fX2_hasAllActs
  rw [hD.2.2.1, if_pos (show nI (aN A) < 30 from nI_lt (b := 30) h29 (by decide)), bnd_some, if_pos rfl]
  simp only [lt_def]
  rw [r11, r12, l3, l4, gi_at h29 (by decide), nI_clamp (by omega), ra3]
  generalize hMx : ml (mi (mi (mi (mi M (6 + aN A) 0 x1) (6 + aN A) 2 x2) (6 + aN A) 3 x3) (6 + aN A) 1 x4) (6 + aN A) 4 x5 = Mx
  have n1 : ∀ x y, x ≠ 6 + aN A → Mx.1 x y = M.1 x y := by
    intro x y hx
    rw [← hMx, ml_1, mi_1, if_neg (fun z => hx z.1), mi_1, if_neg (fun z => hx z.1), mi_1, if_neg (fun z => hx z.1), mi_1, if_neg (fun z => hx z.1)]
  have n2 : ∀ x y, x ≠ 6 + aN A → Mx.2 x y = M.2 x y := by
    intro x y hx
    rw [← hMx, ml_2, if_neg (fun z => hx z.1)]
    rfl
  have v0 : Mx.1 (6 + aN A) 0 = x1 := by rw [← hMx]; simp [ml_1, mi_1]
  have v1 : Mx.1 (6 + aN A) 1 = x4 := by rw [← hMx]; simp [ml_1, mi_1]
  have v2 : Mx.1 (6 + aN A) 2 = x2 := by rw [← hMx]; simp [ml_1, mi_1]
  have v3 : Mx.1 (6 + aN A) 3 = x3 := by rw [← hMx]; simp [ml_1, mi_1]
  have v4 : Mx.2 (6 + aN A) 4 = x5 := by rw [← hMx]; simp [ml_2]
  have yB : aY B (aN A) < 10000 := hB.yr _ (by rw [hE.1]; omega)
  rw [e4, X2_doneUpTo (A := A) (by omega) yB hV.yr (by rw [n1 _ _ (by omega)]; exact hD.2.2.1) (fun a ha => by rw [n1 _ _ (by omega)]; exact (hD.2.2.2 a ha).2.1), bnd_some, ← hnew, n1 1 5 (by omega), hD.2.2.1]
  generalize hpp : plc B (aN A) = p at *
  rw [show nI p + (1 : Int32) = nI (p + 1) from nI_1 p, pk_sub hp, gcp_at (by omega) (by omega) (by decide) (by decide), nI_clamp (show p < 2 ^ 31 by omega), nI_clamp (show p + 1 < 2 ^ 31 by omega), nI_clamp (show aN A - p < 2 ^ 31 by omega), gi_at (by omega) (by decide)]
  generalize hM14 : mi (mi (mci Mx 4 4 p (p + 1) (aN A - p)) 4 p (nI (aN A))) 1 5 ((mi (mci Mx 4 4 p (p + 1) (aN A - p)) 4 p (nI (aN A))).1 1 5 + (1 : Int32)) = M14
  have w15 : M14.1 1 5 = nI (aN A + 1) := by
    rw [← hM14, mi_1, if_pos ⟨rfl, rfl⟩, mi_1, if_neg (fun z => absurd z.1 (by omega)), mci_1, if_neg (by omega), n1 1 5 (by omega), hD.2.2.1]
    exact nI_1 _
  have w1 : ∀ x y, x ≠ 4 → ¬ (x = 1 ∧ y = 5) → M14.1 x y = Mx.1 x y := by
    intro x y hx h15
    rw [← hM14, mi_1, if_neg h15, mi_1, if_neg (fun z => hx z.1), mci_1, if_neg hx]
  have w2 : M14.2 = Mx.2 := by rw [← hM14]; rfl
  have w4 : ∀ n, n < aN A + 1 → M14.1 4 n = nI (ordA B n) := by
    intro n hn
    rw [← hM14, mi_1, if_neg (fun z => absurd z.1 (by omega)), mi_1]
    rcases Nat.lt_trichotomy n p with z | z | z
    · rw [if_neg (fun q => absurd q.2 (by omega)), mci_1, if_pos rfl, pk_cpy_out (by omega), n1 _ _ (by omega), hO n (by omega), hE.ord1 (by rw [hpp]; exact z)]
    · subst z
      have := hE.ord2
      rw [hpp] at this
      rw [if_pos ⟨rfl, rfl⟩, this]
    · rw [if_neg (fun q => absurd q.2 (by omega)), mci_1, if_pos rfl, pk_cpy_in (by omega) (by omega), n1 _ _ (by omega), show p + (n - (p + 1)) = n - 1 by omega, hO _ (by omega)]
      have := hE.ord3 (n := n - 1) (by rw [hpp]; omega) (by omega)
      rw [show n - 1 + 1 = n by omega] at this
      rw [this]
  have dB : CD M14 nu B := by
    refine ⟨?_, fun u hu => ?_, ?_, fun a ha => ?_⟩
    · rw [w1 _ _ (by omega) (by omega), n1 _ _ (by omega)]; exact hD.1
    · rw [w1 _ _ (by omega) (by omega), n1 _ _ (by omega), hE.2.2]; exact hD.2.1 u hu
    · rw [w15, hE.1]
    · rw [w1 _ _ (by omega) (by omega), w1 _ _ (by omega) (by omega), w1 _ _ (by omega) (by omega), w1 _ _ (by omega) (by omega), w2]
      by_cases z : a = aN A
      · subst z
        rw [v0, v1, v2, v3, v4]
        exact ⟨e1, e4, e2, e3, e5⟩
      · have ha2 : a < aN A := by rw [hE.1] at ha; omega
        have d := hD.2.2.2 a ha2
        have q := hE.2.1 a ha2
        rw [n1 _ _ (by omega), n1 _ _ (by omega), n1 _ _ (by omega), n1 _ _ (by omega), n2 _ _ (by omega), q.1, q.2.1, q.2.2.1, q.2.2.2.1, q.2.2.2.2]
        exact d
  obtain ⟨M', h1, h2, h3⟩ := X2_redoFrom (M := M14) (p := p) hB dB (fun n hn => w4 n (by rw [hE.1] at hn; exact hn)) (by rw [hE.1]; omega) (fun k hk => by
      rw [ext_wd hE hV hB k (by rw [hpp]; exact hk)]
      exact MR_keep (hR k (by omega)) (fun u _ => by rw [w2, n2 _ _ (by omega)]) (by rw [w1 _ _ (by omega) (by omega), n1 _ _ (by omega)]) (fun u _ => by rw [w1 _ _ (by omega) (by omega), n1 _ _ (by omega)])) (fun b hb hpb => by
      have hne : b ≠ aN A := fun z => by rw [z, hpp] at hpb; omega
      have hb2 : b < aN A := by rw [hE.1] at hb; omega
      have hlt : plc A b < plc B (aN A) := by
        rw [hE.old2 hb2] at hpb
        rw [hpp] at hpb ⊢
        by_cases z : plc A b < p
        · exact z
        · rw [if_neg z] at hpb; omega
      apply (PF_ext hE hV hB hb2 hlt).mpr
      exact PF_keep (hP b hb2) (by rw [w1 _ _ (by omega) (by omega), n1 _ _ (by omega)]) (by rw [w2, n2 _ _ (by omega)]) (by rw [w1 _ _ (by omega) (by omega), n1 _ _ (by omega)]))
  rw [h1, bnd_some]
  refine ⟨M', rfl, h2, FrT.tr ⟨fun x y p1 p2 p3 => ?_, fun x y p1 => ?_⟩ (FrT.of h3)⟩
  · rw [w1 _ _ p2 p3, n1 _ _ (by omega)]
  · rw [w2, n2 _ _ (by omega)]
