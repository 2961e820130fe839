/-- what the reference knows when all is done -/
def RS (M : Mem) (A : AD) : Prop := (∀ n, n < aN A → M.1 166 n = nI (ordA A n)) ∧ (∀ b, b < aN A → M.1 167 b = nI (plc A b)) ∧ (∀ k, k ≤ aN A → RM M k (wd A k)) ∧ ∀ b, b < aN A → M.1 172 b = (if (stp A (wd A) (plc A b) b).2 then 1 else 0) ∧ M.1 170 b = nI (fb_ct (chg (wd A (plc A b)) (wd A (plc A b + 1))) 36)
theorem X8_done {M : Mem} {nu : Nat} {A : AD} (hV : VA nu A) (hD : RD M nu A) : ∃ M', fX8_done 151 M = some M' ∧ FrD M M' ∧ RS M' A := by
  have n30 := hV.2.1
  obtain ⟨Ma, ha, fa, oa, pa⟩ := X8_order hV hD
  obtain ⟨Mb, Mc, hb, hc, fc, rc⟩ := X8_empty (M := Ma)
  unfold fX8_done
  rw [ha, bnd_some]
  dsimp only
  rw [hb, bnd_some]
  dsimp only
  rw [hc, bnd_some]
  dsimp only
  have Dc := RD_keep (fa.tr (FrD.of fc)) hD
  have oc : ∀ n, n < aN A → Mc.1 166 n = nI (ordA A n) := fun n hn => (fc.2 _ _ (by omega) (by omega) (by omega)).trans (oa n hn)
  have pc : ∀ b, b < aN A → Mc.1 167 b = nI (plc A b) := fun b hb => (fc.2 _ _ (by omega) (by omega) (by omega)).trans (pa b hb)
  have key := wh_inv (body := wX8_done_143 151)
    (fun i s => s.1 = nI i ∧ FrD Mc s.2 ∧ (∀ n, n < aN A → s.2.1 166 n = nI (ordA A n)) ∧ (∀ b, b < aN A → s.2.1 167 b = nI (plc A b)) ∧ (∀ k, k ≤ i → RM s.2 k (wd A k)) ∧ ∀ b, b < aN A → plc A b < i → s.2.1 172 b = (if (stp A (wd A) (plc A b) b).2 then 1 else 0) ∧ s.2.1 170 b = nI (fb_ct (chg (wd A (plc A b)) (wd A (plc A b + 1))) 36)) (aN A)
    (fun r => FrD Mc r.2 ∧ (∀ n, n < aN A → r.2.1 166 n = nI (ordA A n)) ∧ (∀ b, b < aN A → r.2.1 167 b = nI (plc A b)) ∧ (∀ k, k ≤ aN A → RM r.2 k (wd A k)) ∧ ∀ b, b < aN A → plc A b < aN A → r.2.1 172 b = (if (stp A (wd A) (plc A b) b).2 then 1 else 0) ∧ r.2.1 170 b = nI (fb_ct (chg (wd A (plc A b)) (wd A (plc A b + 1))) 36))
    (by
      rintro i ⟨s1, s2⟩ hi ⟨q1, q2, q3, q4, q5, q6⟩
      dsimp only at q1 q2 q3 q4 q5 q6
      subst q1
      have o := ord_spec A hi
      unfold wX8_done_143
      dsimp only
      rw [(RD_keep q2 Dc).2.2.1, if_neg (nle hi (by omega))]
      obtain ⟨M1, M2, h1, h2, f2, r2⟩ := X8_copy (by omega) (q5 i (Nat.le_refl i))
      rw [h1, bnd_some]
      dsimp only
      rw [h2, bnd_some]
      simp only [rM, lt_def, Nat.reduceAdd, l166, l172, l170, nI_1]
      have o2 : M2.1 166 i = nI (ordA A i) := (f2.2 _ _ (by omega) (by omega) (by omega)).trans (q3 i hi)
      rw [gi_at (by omega) (by decide), nI_clamp (show i < 2 ^ 31 by omega), o2]
      obtain ⟨M3, h3, f3, r3⟩ := X8_does (M := M2) (n := i) (a := ordA A i) hV (RD_keep (q2.tr (FrD.of f2)) Dc) hi rfl (fun k hk => f2.rm (by omega) (q5 k hk)) r2 (fun b hb => (f2.2 _ _ (by omega) (by omega) (by omega)).trans (q4 b hb))
      rw [h3, bnd_some]
      dsimp only
      have jn : (if (if (stp A (wd A) i (ordA A i)).2 = true then (0 : Int32) else 1) = 0 then (some (1 : Int32)) else (some (0 : Int32))) = some (if (stp A (wd A) i (ordA A i)).2 = true then (1 : Int32) else 0) := by
        cases (stp A (wd A) i (ordA A i)).2 <;> rfl
      rw [jn, bnd_some, gb_if, gi_at (show ordA A i < 30 by omega) (by decide), gi_at (show ordA A i < 30 by omega) (by decide), nI_clamp (show ordA A i < 2 ^ 31 by omega)]
      rw [← hV.wd hi] at r3
      generalize hM5 : mi (mi M3 172 (ordA A i) (if (stp A (wd A) i (ordA A i)).2 = true then (1 : Int32) else 0)) 170 (ordA A i) 0 = M5
      have x5 : ∀ x y, x ≠ 172 → x ≠ 170 → M5.1 x y = M3.1 x y := fun x y a b => by rw [← hM5, mi_1, if_neg (fun z => b z.1), mi_1, if_neg (fun z => a z.1)]
      have rm5 : ∀ k w, RM M3 k w → RM M5 k w := fun k w r => ⟨fun c hc => (x5 _ _ (by decide) (by decide)).trans (r.1 c hc), fun c hc => (x5 _ _ (by decide) (by decide)).trans (r.2.1 c hc), fun c hc => (x5 _ _ (by decide) (by decide)).trans (r.2.2.1 c hc), r.2.2.2⟩
      have r3i : RM M3 i (wd A i) := f3.rm (by omega) (f2.rm (by omega) (q5 i (Nat.le_refl i)))
      obtain ⟨M6, h6, l6, x6, v6⟩ := X8_came (S := s2) (a := ordA A i) (by omega) (by omega) (rm5 _ _ r3i) (rm5 _ _ r3) (by rw [← hM5, mi_1, if_pos ⟨rfl, rfl⟩])
      rw [h6, bnd_some]
      have fD : FrD s2 M6 := by
        refine (FrD.of f2).tr ((FrD.of f3).tr ?_)
        refine ⟨?_, fun x y p => ?_⟩
        · rw [l6, ← hM5]; rfl
        · rw [x6 x y (by omega), x5 x y (by omega) (by omega)]
      have rm6 : ∀ k w, RM M3 k w → RM M6 k w := fun k w r => by
        have r' := rm5 k w r
        exact ⟨fun c hc => (x6 _ _ (by omega)).trans (r'.1 c hc), fun c hc => (x6 _ _ (by omega)).trans (r'.2.1 c hc), fun c hc => (x6 _ _ (by omega)).trans (r'.2.2.1 c hc), r'.2.2.2⟩
      refine ⟨_, rfl, rfl, q2.tr fD, fun n hn => ?_, fun b hb => ?_, fun k hk => ?_, fun b hb hp => ?_⟩
      · dsimp only
        rw [x6 _ _ (by omega), x5 _ _ (by decide) (by decide), f3.2 _ _ (by omega) (by omega) (by omega), f2.2 _ _ (by omega) (by omega) (by omega)]; exact q3 n hn
      · dsimp only
        rw [x6 _ _ (by omega), x5 _ _ (by decide) (by decide), f3.2 _ _ (by omega) (by omega) (by omega), f2.2 _ _ (by omega) (by omega) (by omega)]; exact q4 b hb
      · dsimp only
        by_cases e : k = i + 1
        · subst e; exact rm6 _ _ r3
        · exact rm6 _ _ (f3.rm (by omega) (f2.rm (by omega) (q5 k (by omega))))
      · dsimp only
        by_cases e : b = ordA A i
        · have pb : plc A b = i := by rw [e]; exact o.2
          rw [pb]
          subst e
          constructor
          · rw [x6 _ _ (by omega), ← hM5, mi_1, if_neg (fun z => absurd z.1 (by decide)), mi_1, if_pos ⟨rfl, rfl⟩]
          · exact v6
        · have nb : plc A b ≠ i := fun z => e (by rw [← z]; exact (ord_plc A hb).symm)
          have q := q6 b hb (by omega)
          have z1 : M6.1 172 b = s2.1 172 b := by
            rw [x6 172 b (by omega), ← hM5, mi_1, if_neg (fun z => absurd z.1 (by decide)), mi_1, if_neg (fun z => e z.2), f3.2 _ _ (by omega) (by omega) (by omega), f2.2 _ _ (by omega) (by omega) (by omega)]
          have z2 : M6.1 170 b = s2.1 170 b := by
            rw [x6 170 b (fun z => e z.2), ← hM5, mi_1, if_neg (fun z => e z.2), mi_1, if_neg (fun z => absurd z.1 (by decide)), f3.2 _ _ (by omega) (by omega) (by omega), f2.2 _ _ (by omega) (by omega) (by omega)]
          rw [z1, z2]
          exact q)
    (by
      rintro ⟨s1, s2⟩ ⟨q1, q2, q3, q4, q5, q6⟩
      dsimp only at q1 q2 q3 q4 q5 q6
      subst q1
      refine ⟨(nI (aN A), s2), ?_, q2, q3, q4, q5, q6⟩
      unfold wX8_done_143
      dsimp only
      rw [(RD_keep q2 Dc).2.2.1, if_pos (ele _ (by omega))])
    (aN A) 0 (0, Mc) (by omega) ⟨rfl, FrD.rf, oc, pc, fun k hk => (show k = 0 by omega) ▸ rc, fun b _ hb => absurd hb (by omega)⟩
  obtain ⟨⟨r1, Md⟩, hr, p1, p2, p3, p4, p5⟩ := key
  dsimp only at p1 p2 p3 p4 p5
  rw [hr, bnd_some]
  exact ⟨Md, rfl, fa.tr ((FrD.of fc).tr p1), p2, p3, p4, fun b hb => p5 b hb (plc_in A hb)⟩
