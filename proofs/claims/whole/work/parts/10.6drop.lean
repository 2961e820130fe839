def drp (A : AD) : AD := (A.1 - 1, A.2)
theorem drp_ext {A : AD} (h : 0 < aN A) : Ext (drp A) A := ⟨by show A.1 = A.1 - 1 + 1; have : 0 < A.1 := h; omega, fun a _ => ⟨rfl, rfl, rfl, rfl, rfl⟩, fun _ => rfl⟩
theorem drp_VA {nu : Nat} {A : AD} (h : VA nu A) : VA nu (drp A) := ⟨h.1, Nat.le_trans (Nat.sub_le _ _) h.2.1, h.2.2.1, fun a ha => h.2.2.2 a (Nat.lt_of_lt_of_le ha (Nat.sub_le _ _))⟩
theorem X2_drop {M : Mem} {nu : Nat} {A : AD} (hC : CI M nu A) (h0 : 0 < aN A) : ∃ M', fX2_dropLatest 1 M = some M' ∧ CI M' nu (drp A) ∧ FrT M M' := by
  obtain ⟨hV, hD, hO, hR, hP⟩ := hC
  have n30 := hV.2.1
  have hE := drp_ext h0
  have hW := drp_VA hV
  have hn : aN A = aN (drp A) + 1 := hE.1
  have hp := hE.p_le
  generalize hB : drp A = B at *
  unfold fX2_dropLatest
  rw [hD.2.2.1, if_neg (nI_nle h0 (by omega))]
  simp only [lt_def]
  rw [show nI (aN A) - (1 : Int32) = nI (aN B) by rw [hn]; exact nI_pred _]
  rw [mi_1, if_pos ⟨rfl, rfl⟩, r11, r12, l3, l4, gi_at (by omega) (by decide), nI_clamp (by omega), ra3, mi_1, if_neg (fun z => absurd z.1 (by omega)), (hD.2.2.2 (aN B) (by omega)).2.1,
    X2_doneUpTo (A := B) (by omega) (hV.yr (aN B) (by omega)) hW.yr (by rw [mi_1, if_pos ⟨rfl, rfl⟩]) (fun a ha => by rw [mi_1, if_neg (fun z => absurd z.1 (by omega)), (hD.2.2.2 a (by omega)).2.1, (hE.2.1 a ha).2.1]), bnd_some, ← hE.new]
  generalize hpp : plc A (aN B) = p at *
  rw [show nI p + (1 : Int32) = nI (p + 1) from nI_1 p, pk_sub hp, gcp_at (by omega) (by omega) (by decide) (by decide), nI_clamp (show p < 2 ^ 31 by omega), nI_clamp (show p + 1 < 2 ^ 31 by omega), nI_clamp (show aN B - p < 2 ^ 31 by omega)]
  generalize hM5 : mci (mi M 1 5 (nI (aN B))) 4 4 (p + 1) p (aN B - p) = M5
  have w15 : M5.1 1 5 = nI (aN B) := by rw [← hM5, mci_1, if_neg (by omega), mi_1, if_pos ⟨rfl, rfl⟩]
  have w1 : ∀ x y, x ≠ 4 → ¬ (x = 1 ∧ y = 5) → M5.1 x y = M.1 x y := by
    intro x y hx h15
    rw [← hM5, mci_1, if_neg hx, mi_1, if_neg h15]
  have w2 : M5.2 = M.2 := by rw [← hM5]; rfl
  have w4 : ∀ n, n < aN B → M5.1 4 n = nI (ordA B n) := by
    intro n hnn
    rw [← hM5, mci_1, if_pos rfl]
    rcases Nat.lt_or_ge n p with z | z
    · rw [pk_cpy_out (by omega), mi_1, if_neg (fun q => absurd q.1 (by omega)), hO n (by omega), hE.ord1 (by rw [hpp]; exact z)]
    · rw [pk_cpy_in (by omega) (by omega), mi_1, if_neg (fun q => absurd q.1 (by omega)), show p + 1 + (n - p) = n + 1 by omega, hO _ (by omega), hE.ord3 (by rw [hpp]; exact z) hnn]
  have dB : CD M5 nu B := by
    refine ⟨?_, fun u hu => ?_, w15, fun a ha => ?_⟩
    · rw [w1 _ _ (by omega) (by omega)]; exact hD.1
    · rw [w1 _ _ (by omega) (by omega), ← hE.2.2]; exact hD.2.1 u hu
    · have d := hD.2.2.2 a (by omega)
      have q := hE.2.1 a ha
      rw [w1 _ _ (by omega) (by omega), w1 _ _ (by omega) (by omega), w1 _ _ (by omega) (by omega), w1 _ _ (by omega) (by omega), w2, ← q.1, ← q.2.1, ← q.2.2.1, ← q.2.2.2.1, ← q.2.2.2.2]
      exact d
  obtain ⟨M', h1, h2, h3⟩ := X2_redoFrom (M := M5) (p := p) hW dB w4 hp (fun k hk => by
      rw [← ext_wd hE hW hV k (by rw [hpp]; exact hk)]
      exact MR_keep (hR k (by omega)) (fun u _ => by rw [w2]) (by rw [w1 _ _ (by omega) (by omega)]) (fun u _ => by rw [w1 _ _ (by omega) (by omega)])) (fun b hb hpb => by
      apply (PF_ext hE hW hV hb (by rw [hpp]; exact hpb)).mp
      exact PF_keep (hP b (by omega)) (by rw [w1 _ _ (by omega) (by omega)]) (by rw [w2]) (by rw [w1 _ _ (by omega) (by omega)]))
  rw [h1, bnd_some]
  exact ⟨M', rfl, h2, FrT.tr ⟨fun x y _ p2 p3 => w1 x y p2 p3, fun x y _ => by rw [w2]⟩ (FrT.of h3)⟩
/-! what the class answers of a year -/
theorem X2_doneUpToC {M : Mem} {nu : Nat} {A : AD} (hC : CI M nu A) {y : Nat} (hy : y < 10000) : fX2_doneUpTo 1 (nI y) M = some (nI (upto A y)) :=
  X2_doneUpTo hC.1.2.1 hy hC.1.yr hC.2.1.2.2.1 (fun a ha => (hC.2.1.2.2.2 a ha).2.1)
theorem X2_momentAt {M : Mem} {nu : Nat} {A : AD} (hC : CI M nu A) {y : Nat} (hy : y < 10000) : fX2_momentAt 1 (nI y) M = some (36 + 3 * upto A y) := by
  have h30 := hC.1.2.1
  have hu := upto_le A y
  unfold fX2_momentAt
  rw [X2_doneUpToC hC hy, bnd_some, X2_momentBehind (by omega), bnd_some, gd_at (shp_m (by omega))]
theorem X2_hasUnit {M : Mem} {nu : Nat} (h : M.1 1 4 = nI nu) (hn : nu ≤ 10) (x : Int32) : fX2_hasUnit 1 x M = some (if 0 ≤ x.toInt ∧ x.toInt < (nu : Int) then 1 else 0) := by
  unfold fX2_hasUnit
  rw [h]
  have e := nI_toInt (n := nu) (by omega)
  have e0 : (0 : Int32).toInt = 0 := rfl
  by_cases a : x < 0
  · rw [if_pos a, if_neg]
    rw [Int32.lt_iff_toInt_lt] at a
    omega
  · rw [if_neg a]
    rw [Int32.lt_iff_toInt_lt] at a
    by_cases b : nI nu ≤ x
    · rw [if_pos b, if_neg]
      rw [Int32.le_iff_toInt_le, e] at b
      omega
    · rw [if_neg b, if_pos]
      rw [Int32.le_iff_toInt_le, e] at b
      omega
