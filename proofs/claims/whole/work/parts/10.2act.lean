/-- an act's own marks, once it is done: its place, what changed hands, whether it was VOID -/
def PF (M : Mem) (A : AD) (b : Nat) : Prop := M.1 (6 + b) 5 = nI (plc A b) ∧ M.2 (6 + b) 7 = cset (chg (wd A (plc A b)) (wd A (plc A b + 1))) ∧ M.1 (6 + b) 6 = (if (stp A (wd A) (plc A b) b).2 then 1 else 0)
theorem X2_kindOf {M : Mem} {nu : Nat} {A : AD} (h : CD M nu A) (hn : nu ≤ 10) {u : Nat} (hu : u < nu) : fX2_kindOf 1 (nI u) M = some (nI (uK A u)) := by
  unfold fX2_kindOf fX2_hasUnit
  rw [h.1, if_neg (nI_pos (by omega)), if_neg (fun z => absurd ((nI_leI (by omega) (by omega)).mp z) (by omega)), bnd_some, if_neg (by decide), r10, l2, gi_at (by omega) (by decide), nI_clamp (by omega), h.2.1 u hu]
theorem X0_receiver {M : Mem} {nu : Nat} {A : AD} (h : CD M nu A) {b : Nat} (hb : b < aN A) (hk : aK A b ≤ 2) : fX0_receiver (6 + b) M = some (nI (rcv A b)) := by
  have d := h.2.2.2 b hb
  unfold fX0_receiver rcv
  rw [d.1]
  by_cases k0 : aK A b = 0
  · rw [k0, if_pos (show nI 0 = 0 from rfl), if_pos rfl, d.2.2.1]
  · rw [if_neg (nI_ne0 (by omega) (by omega)), if_neg k0, d.2.2.2.1 (by omega)]
theorem X2_perform {M : Mem} {nu n : Nat} {A : AD} (hV : VA nu A) (hD : CD M nu A) (hn : n < aN A) (hR : MR M (n + 1) (wd A n)) (hP : ∀ k, k ≤ n → MR M k (wd A k)) (hF : ∀ b, b < aN A → plc A b < n → PF M A b) (e7 : M.2 (6 + ordA A n) 7 = 0) :
    ∃ M', fX2_perform 1 (6 + ordA A n) (36 + 3 * (n + 1)) M = some (if (stp A (wd A) n (ordA A n)).2 then 0 else 1, M') ∧ Fr M M' (n + 1) (ordA A n) ∧ MR M' (n + 1) (wd A (n + 1)) ∧ M'.2 (6 + ordA A n) 7 = cset (chg (wd A n) (wd A (n + 1))) := by
  have o := ord_spec A hn
  have v := hV.2.2.2 _ o.1
  have d := hD.2.2.2 _ o.1
  have n30 := hV.2.1
  have u10 := hV.1
  have hw := hV.wd hn
  generalize ha : ordA A n = a at *
  have ha30 : a < 30 := by omega
  have nochg : cset (chg (wd A n) (wd A n)) = 0 := cset_0.mpr (fun c _ => by unfold chg; simp)
  unfold fX2_perform
  rw [d.1]
  unfold stp at hw ⊢
  by_cases k0 : aK A a = 0
  · rw [if_pos k0] at hw ⊢
    obtain ⟨M', h1, h2, h3⟩ := X2_found (by omega) ha30 hR (show aO A a < 10 by have := v.2.2.2.1 (by omega); omega) d.2.2.1 (d.2.2.2.2 (Or.inl k0)) e7
    rw [k0, if_pos (show nI 0 = 0 from rfl), h1, bnd_some]
    by_cases t : (wd A n).2.1 (aO A a) = true
    · rw [if_pos t] at hw h3 ⊢
      rw [if_pos t]
      refine ⟨M', by dsimp only; rw [gb_0]; rfl, h2, ?_, ?_⟩
      · rw [hw, h3]; exact hR
      · rw [hw, h3, nochg, e7]
    · rw [if_neg t] at hw h3 ⊢
      rw [if_neg t]
      refine ⟨M', by dsimp only; rw [gb_1]; rfl, h2, ?_, ?_⟩
      · rw [hw]; exact h3.1
      · rw [hw, h3.2]
        apply cset_cong
        intro c _
        show _ = !((if aS A a c then aO A a else (wd A n).1 c) == (wd A n).1 c)
        cases q : aS A a c
        · simp
        · by_cases z : (wd A n).1 c = aO A a
          · simp [z]
          · have z2 : ¬ aO A a = (wd A n).1 c := fun y => z y.symm
            have b1 : ((wd A n).1 c == aO A a) = false := beq_eq_false_iff_ne.mpr z
            have b2 : (aO A a == (wd A n).1 c) = false := beq_eq_false_iff_ne.mpr z2
            rw [b1]
            show _ = !(aO A a == (wd A n).1 c)
            rw [b2]
            rfl
  · rw [if_neg k0] at hw ⊢
    rw [if_neg (nI_ne0 (by omega) (by omega))]
    by_cases k1 : aK A a = 1
    · rw [if_pos k1] at hw ⊢
      have ot := v.2.2.2.2.1 (Or.inl k1)
      have oo := v.2.2.2.1 (by omega)
      obtain ⟨M', h1, h2, h3⟩ := X2_move (by omega) ha30 hR (show aO A a < 10 by omega) (show aT A a < 10 by omega) d.2.2.1 (d.2.2.2.1 (Or.inl k1)) (d.2.2.2.2 (Or.inr k1))
      rw [k1, if_pos (show nI 1 = 1 from rfl), h1, bnd_some]
      by_cases t : ((wd A n).2.1 (aO A a) && (wd A n).2.1 (aT A a) && anyc (fun c => aS A a c && ((wd A n).1 c == aO A a))) = true
      · rw [if_pos t] at hw h3 ⊢
        rw [if_pos t]
        refine ⟨M', by dsimp only; rw [gb_1]; rfl, h2, ?_, ?_⟩
        · rw [hw]; exact h3.1
        · rw [hw, h3.2]
          apply cset_cong
          intro c _
          show _ = !((if aS A a c && ((wd A n).1 c == aO A a) then aT A a else (wd A n).1 c) == (wd A n).1 c)
          by_cases z : (wd A n).1 c = aO A a
          · have z2 : ¬ aT A a = aO A a := fun y => ot.2 y.symm
            cases aS A a c <;> simp [z, z2]
          · simp [z]
      · rw [if_neg t] at hw h3 ⊢
        rw [if_neg t]
        refine ⟨M', by dsimp only; rw [gb_0]; rfl, h2, ?_, ?_⟩
        · rw [hw, h3]; exact hR
        · rw [hw, h3, nochg, e7]
    · rw [if_neg k1] at hw ⊢
      rw [if_neg (show ¬ nI (aK A a) = 1 from fun z => k1 ((nI_eq (b := 1) (by omega) (by omega)).mp z))]
      by_cases k2 : aK A a = 2
      · rw [if_pos k2] at hw ⊢
        have ot := v.2.2.2.2.1 (Or.inr k2)
        have oo := v.2.2.2.1 (by omega)
        obtain ⟨M', h1, h2, h3⟩ := X2_swallow (by omega) ha30 hR (show aO A a < 10 by omega) (show aT A a < 10 by omega) d.2.2.1 (d.2.2.2.1 (Or.inr (Or.inl k2))) (X2_kindOf hD u10 oo) (hV.2.2.1 _ oo)
        rw [k2, if_pos (show nI 2 = 2 from rfl), h1, bnd_some]
        by_cases t : ((wd A n).2.1 (aO A a) && (wd A n).2.1 (aT A a) && !(uK A (aO A a) == 2)) = true
        · rw [if_pos t] at hw h3 ⊢
          rw [if_pos t]
          refine ⟨M', by dsimp only; rw [gb_1]; rfl, h2, ?_, ?_⟩
          · rw [hw]; exact h3.1
          · rw [hw, h3.2]
            apply cset_cong
            intro c _
            show _ = !((if (wd A n).1 c == aO A a then aT A a else (wd A n).1 c) == (wd A n).1 c)
            by_cases z : (wd A n).1 c = aO A a
            · have z2 : ¬ aT A a = aO A a := fun y => ot.2 y.symm
              simp [z, z2]
            · simp [z]
        · rw [if_neg t] at hw h3 ⊢
          rw [if_neg t]
          refine ⟨M', by dsimp only; rw [gb_0]; rfl, h2, ?_, ?_⟩
          · rw [hw, h3]; exact hR
          · rw [hw, h3, nochg, e7]
      · rw [if_neg k2] at hw ⊢
        rw [if_neg (show ¬ nI (aK A a) = 2 from fun z => k2 ((nI_eq (b := 2) (by omega) (by omega)).mp z))]
        by_cases k3 : aK A a = 3
        · rw [if_pos k3] at hw ⊢
          have vb := v.2.2.2.2.2.2 k3
          have pb := hV.back o.1 k3
          rw [o.2] at pb
          have hb : aO A a < aN A := by omega
          have pf := hF _ hb pb
          have ob := ord_plc A hb
          have wb := hV.wd (n := plc A (aO A a)) (by omega)
          rw [ob] at wb
          have rl : rcv A (aO A a) ≤ 10 := by
            have vv := hV.2.2.2 _ hb
            unfold rcv
            split
            · have := vv.2.2.2.1 (by omega); omega
            · have := (vv.2.2.2.2.1 (by omega)).1; omega
          obtain ⟨M', h1, h2, h3, h4⟩ := X2_back (w := wd A n) (wp := wd A (plc A (aO A a))) (gave := wd A (plc A (aO A a) + 1)) (rc := rcv A (aO A a)) (by omega) (show plc A (aO A a) < n + 1 by omega) ha30 hb n30 hR (hP _ (by omega)) e7 d.2.2.1 hD.2.2.1 pf.1 (X0_receiver hD hb vb.2.1) rl pf.2.1 (fun c _ hc => by
            rw [wb] at hc ⊢
            exact rcv_gave A vb.2.1 hc)
          rw [k3, if_pos (show nI 3 = 3 from rfl), h1, bnd_some]
          by_cases t : anyc (bkc (wd A (plc A (aO A a))).1 (wd A (plc A (aO A a) + 1)).1 (wd A n)) = true
          · rw [if_pos t] at hw ⊢
            rw [if_pos t]
            refine ⟨M', by dsimp only; rw [gb_1]; rfl, h2, ?_, ?_⟩
            · rw [hw]; exact h3
            · rw [hw, h4]
              apply cset_cong
              intro c _
              show _ = !((if bkc (wd A (plc A (aO A a))).1 (wd A (plc A (aO A a) + 1)).1 (wd A n) c then (wd A (plc A (aO A a))).1 c else (wd A n).1 c) == (wd A n).1 c)
              cases q : bkc (wd A (plc A (aO A a))).1 (wd A (plc A (aO A a) + 1)).1 (wd A n) c
              · simp
              · unfold bkc at q
                simp only [Bool.and_eq_true, Bool.not_eq_true', beq_eq_false_iff_ne, beq_iff_eq] at q
                rw [q.1.2]
                have := q.1.1
                simp [this]
          · rw [if_neg t] at hw ⊢
            rw [if_neg t]
            have t' : anyc (bkc (wd A (plc A (aO A a))).1 (wd A (plc A (aO A a) + 1)).1 (wd A n)) = false := by
              cases q : anyc (bkc (wd A (plc A (aO A a))).1 (wd A (plc A (aO A a) + 1)).1 (wd A n)) with
              | true => exact absurd q t
              | false => rfl
            have z := anyc_0.mp t'
            refine ⟨M', by dsimp only; rw [gb_0]; rfl, h2, ?_, ?_⟩
            · rw [hw]
              exact MR_ext h3 (fun c hc => by
                show (wd A n).1 c = (if bkc _ _ _ c then _ else (wd A n).1 c)
                rw [cset_0.mp z c hc]
                rfl) (fun _ _ => rfl) (fun _ _ => rfl)
            · rw [hw, h4, nochg, z]
        · rw [if_neg k3] at hw ⊢
          have k4 : aK A a = 4 := by omega
          rw [if_neg (show ¬ nI (aK A a) = 3 from fun z => k3 ((nI_eq (b := 3) (by omega) (by omega)).mp z))]
          have oo := v.2.2.2.1 (by omega)
          obtain ⟨M', h1, h2, h3, h4⟩ := X2_join (by omega) ha30 hR (show aO A a < 10 by omega) d.2.2.1 (d.2.2.2.1 (Or.inr (Or.inr k4)))
          rw [h1, bnd_some]
          by_cases t : (wd A n).2.1 (aO A a) = true
          · rw [if_pos t] at hw h4 ⊢
            rw [if_pos t]
            refine ⟨M', by dsimp only; rw [gb_1]; rfl, h2, ?_, ?_⟩
            · rw [hw]; exact h4
            · rw [hw, h3, e7]
              exact nochg.symm
          · rw [if_neg t] at hw h4 ⊢
            rw [if_neg t]
            refine ⟨M', by dsimp only; rw [gb_0]; rfl, h2, ?_, ?_⟩
            · rw [hw, h4]; exact hR
            · rw [hw, h4, nochg, e7]
