theorem RM_t {M : Mem} {n u : Nat} {w : Wd} {b : Bool} (hu : u < 10) (h : RM M n w) : RM (mi M 171 (10 * n + u) (if b then 1 else 0)) n (w.1, fun x => if x = u then b else w.2.1 x, w.2.2) := by
  refine ⟨fun c hc => ?_, fun x hx => ?_, fun x hx => ?_, h.2.2.2⟩
  · rw [mi_1, if_neg (fun z => absurd z.1 (by decide))]; exact h.1 c hc
  · show (mi M 171 (10 * n + u) (if b then 1 else 0)).1 171 (10 * n + x) = if (if x = u then b else w.2.1 x) then 1 else 0
    rw [mi_1]
    by_cases e : x = u
    · subst e; rw [if_pos ⟨rfl, rfl⟩, if_pos rfl]
    · rw [if_neg (fun z => e (by omega)), if_neg e]; exact h.2.1 x hx
  · rw [mi_1, if_neg (fun z => absurd z.1 (by decide))]; exact h.2.2.1 x hx
theorem RM_u {M : Mem} {n u k : Nat} {w : Wd} (hu : u < 10) (h : RM M n w) : RM (mi M 169 (10 * n + u) (hI k)) n (w.1, w.2.1, fun x => if x = u then k else w.2.2 x) := by
  refine ⟨fun c hc => ?_, fun x hx => ?_, fun x hx => ?_, h.2.2.2⟩
  · rw [mi_1, if_neg (fun z => absurd z.1 (by decide))]; exact h.1 c hc
  · rw [mi_1, if_neg (fun z => absurd z.1 (by decide))]; exact h.2.1 x hx
  · show (mi M 169 (10 * n + u) (hI k)).1 169 (10 * n + x) = hI (if x = u then k else w.2.2 x)
    rw [mi_1]
    by_cases e : x = u
    · subst e; rw [if_pos ⟨rfl, rfl⟩, if_pos rfl]
    · rw [if_neg (fun z => e (by omega)), if_neg e]; exact h.2.2.1 x hx
theorem nI_lit {a k : Nat} (ha : a < 2 ^ 31) (hk : k < 2 ^ 31) (h : a ≠ k) : ¬ nI a = nI k := fun q => h ((nI_eq ha hk).mp q)
theorem X8_does {M : Mem} {nu n a : Nat} {A : AD} (hV : VA nu A) (hD : RD M nu A) (hn : n < aN A) (ha : a = ordA A n) (hP : ∀ k, k ≤ n → RM M k (wd A k)) (h : RM M (n + 1) (wd A n)) (hpl : ∀ b, b < aN A → M.1 167 b = nI (plc A b)) :
    ∃ M', fX8_does 151 (nI a) (nI (n + 1)) M = some (if (stp A (wd A) n a).2 then 0 else 1, M') ∧ FrN M M' (n + 1) ∧ RM M' (n + 1) (stp A (wd A) n a).1 := by
  have o := ord_spec A hn
  rw [← ha] at o
  have v := hV.2.2.2 _ o.1
  have d := hD.2.2.2 _ o.1
  have n10 := hV.1
  have n30 := hV.2.1
  have g30 : ∀ {α : Type} {E : Option α}, gi (nI a) 30 E = E := fun {_ _} => gi_at (by omega) (by decide)
  have cl : (nI a).toNatClampNeg = a := nI_clamp (by omega)
  unfold fX8_does
  simp only [rM, lt_def, Nat.reduceAdd, l155, l156, l153, l171, l157, l152, l169, l167, g30, cl]
  rw [d.1, d.2.2.1]
  by_cases k0 : aK A a = 0
  · have l := v.2.2.2.1 (by omega)
    have t := h.2.1 (aO A a) (by omega)
    have es := d.2.2.2.2 (Or.inl k0)
    rw [if_pos (show nI (aK A a) = 0 by rw [k0]; rfl), ix10, gi_at (by omega) (by decide), nI_clamp (show 10 * (n + 1) + aO A a < 2 ^ 31 by omega), t]
    unfold stp
    rw [if_pos k0]
    by_cases q : (wd A n).2.1 (aO A a) = true
    · rw [if_pos q, if_pos q, if_neg (by decide), if_pos rfl]
      exact ⟨M, rfl, FrN.rf, h⟩
    · rw [if_neg q, if_neg q, if_pos rfl, gb_1, gi_at (by omega) (by decide)]
      have h2 := RM_t (b := true) (show aO A a < 10 by omega) h
      rw [if_pos rfl] at h2
      obtain ⟨M', hM, f, r⟩ := X8_foundLoop (a := a) (one := aO A a) (S := aS A a) (by omega) (by omega) h2 (by omega) (by rw [mi_2]; exact es)
      rw [hM, bnd_some]
      exact ⟨M', rfl, (FrN.t (by omega)).tr f, r⟩
  · rw [if_neg (show ¬ nI (aK A a) = 0 from nI_lit (by omega) (by decide) k0)]
    by_cases k1 : aK A a = 1
    · have l := v.2.2.2.1 (by omega)
      have l2 := (v.2.2.2.2.1 (Or.inl k1)).1
      have t := h.2.1 (aO A a) (by omega)
      have t2 := h.2.1 (aT A a) (by omega)
      have es := d.2.2.2.2 (Or.inr k1)
      rw [if_pos (show nI (aK A a) = 1 by rw [k1]; rfl), d.2.2.2.1 (Or.inl k1), ix10, ix10, gi_at (by omega) (by decide), gi_at (by omega) (by decide), nI_clamp (show 10 * (n + 1) + aO A a < 2 ^ 31 by omega), nI_clamp (show 10 * (n + 1) + aT A a < 2 ^ 31 by omega), t, t2, es]
      unfold stp
      rw [if_neg k0, if_pos k1]
      cases q : (wd A n).2.1 (aO A a) with
      | false => exact ⟨M, rfl, FrN.rf, h⟩
      | true =>
        cases q2 : (wd A n).2.1 (aT A a) with
        | false => exact ⟨M, rfl, FrN.rf, h⟩
        | true =>
          rw [if_pos rfl, if_neg (by decide), if_neg (by decide)]
          obtain ⟨M', hM, f, r⟩ := X8_gives (one := aO A a) (two := aT A a) (x := cset (aS A a)) (by omega) h (by omega) (by omega)
          rw [hM, bnd_some]
          dsimp only
          have e : fb_ct (fun c => lb (cset (aS A a)) c && ((wd A n).1 c == aO A a)) 36 = fb_ct (fun c => aS A a c && ((wd A n).1 c == aO A a)) 36 := fb_ct_cong (fun c hc => by rw [lb_cset _ (by omega)]; simp [hc])
          have le : fb_ct (fun c => aS A a c && ((wd A n).1 c == aO A a)) 36 ≤ 36 := fb_ct_le _ _
          have r2 : RM M' (n + 1) (fun c => if aS A a c && ((wd A n).1 c == aO A a) then aT A a else (wd A n).1 c, (wd A n).2) := RM_ext r (fun c hc => by
            show (if aS A a c && ((wd A n).1 c == aO A a) then aT A a else (wd A n).1 c) = (if lb (cset (aS A a)) c && ((wd A n).1 c == aO A a) then aT A a else (wd A n).1 c)
            rw [lb_cset _ (by omega)]; simp [hc]) (fun _ _ => rfl) (fun _ _ => rfl)
          rw [e]
          unfold anyc
          have hz : fb_ct (fun c => aS A a c && ((wd A n).1 c == aO A a)) 36 = 0 → ∀ c, c < 36 → (aS A a c && ((wd A n).1 c == aO A a)) = false := fun q c hc => fb_ct_zero.mp q c hc
          generalize fb_ct (fun c => aS A a c && ((wd A n).1 c == aO A a)) 36 = N at le hz
          by_cases z : 0 < N
          · rw [if_neg (show ¬ nI N ≤ (0 : Int32) from fun q => absurd ((nI_leI (b := 0) (by omega) (by omega)).mp q) (by omega)), decide_eq_true z]
            exact ⟨M', rfl, f, r2⟩
          · have zz : N = 0 := by omega
            subst zz
            rw [if_pos (show nI 0 ≤ (0 : Int32) by decide), decide_eq_false (by omega)]
            refine ⟨M', rfl, f, RM_ext r2 (fun c hc => ?_) (fun _ _ => rfl) (fun _ _ => rfl)⟩
            show (wd A n).1 c = (if aS A a c && ((wd A n).1 c == aO A a) then aT A a else (wd A n).1 c)
            rw [hz rfl c hc]; rfl
    · rw [if_neg (show ¬ nI (aK A a) = 1 from nI_lit (by omega) (by decide) k1)]
      by_cases k2 : aK A a = 2
      · have l := v.2.2.2.1 (by omega)
        have l2 := (v.2.2.2.2.1 (Or.inr k2)).1
        have t := h.2.1 (aO A a) (by omega)
        have t2 := h.2.1 (aT A a) (by omega)
        have eu := hD.2.1 (aO A a) (by omega)
        have lu := hV.2.2.1 (aO A a) (by omega)
        rw [if_pos (show nI (aK A a) = 2 by rw [k2]; rfl), d.2.2.2.1 (Or.inr (Or.inl k2)), ix10, ix10, gi_at (by omega) (by decide), gi_at (show 10 * (n + 1) + aT A a < 310 by omega) (by decide), gi_at (show aO A a < 10 by omega) (by decide), nI_clamp (show 10 * (n + 1) + aO A a < 2 ^ 31 by omega), nI_clamp (show 10 * (n + 1) + aT A a < 2 ^ 31 by omega), nI_clamp (show aO A a < 2 ^ 31 by omega), t, t2, eu]
        unfold stp
        rw [if_neg k0, if_neg k1, if_pos k2]
        cases q : (wd A n).2.1 (aO A a) with
        | false => exact ⟨M, rfl, FrN.rf, h⟩
        | true =>
          cases q2 : (wd A n).2.1 (aT A a) with
          | false => exact ⟨M, rfl, FrN.rf, h⟩
          | true =>
            rw [if_pos rfl, if_neg (by decide), if_neg (by decide)]
            by_cases q3 : uK A (aO A a) = 2
            · rw [if_pos (show nI (uK A (aO A a)) = (2 : Int32) by rw [q3]; rfl), if_neg (show ¬ (true && true && !(uK A (aO A a) == 2)) = true by rw [q3]; decide)]
              exact ⟨M, rfl, FrN.rf, h⟩
            · rw [if_neg (show ¬ nI (uK A (aO A a)) = (2 : Int32) from nI_lit (by omega) (by decide) q3), if_pos (show (true && true && !(uK A (aO A a) == 2)) = true by simp [q3])]
              obtain ⟨M', hM, f, r⟩ := X8_gives (one := aO A a) (two := aT A a) (x := -1) (by omega) h (by omega) (by omega)
              rw [hM, bnd_some]
              dsimp only
              rw [gb_0, gi_at (by omega) (by decide), gi_at (by omega) (by decide)]
              have r2 := RM_u (k := 10) (show aO A a < 10 by omega) (RM_t (b := false) (show aO A a < 10 by omega) r)
              refine ⟨_, rfl, f.tr ((FrN.t (by omega)).tr (FrN.u (by omega))), RM_ext r2 (fun c hc => ?_) (fun _ _ => rfl) (fun _ _ => rfl)⟩
              show (if (wd A n).1 c == aO A a then aT A a else (wd A n).1 c) = (if lb (-1) c && ((wd A n).1 c == aO A a) then aT A a else (wd A n).1 c)
              rw [lb_m1 c (by omega)]; rfl
      · rw [if_neg (show ¬ nI (aK A a) = 2 from nI_lit (by omega) (by decide) k2)]
        by_cases k3 : aK A a = 3
        · have bk := hV.back o.1 k3
          have ba := (v.2.2.2.2.2.2 k3).1
          rw [o.2] at bk
          rw [if_pos (show nI (aK A a) = 3 by rw [k3]; rfl), gi_at (show aO A a < 30 by omega) (by decide), nI_clamp (show aO A a < 2 ^ 31 by omega), hpl _ (by omega)]
          obtain ⟨M', hM, f, r⟩ := X8_turnsBack (n := n + 1) (p := plc A (aO A a)) (by omega) (by omega) h (hP _ (by omega)) (hP _ (by omega))
          rw [hM, bnd_some]
          dsimp only
          rw [gb_if]
          unfold stp
          rw [if_neg k0, if_neg k1, if_neg k2, if_pos k3]
          cases q : anyc (bkc (wd A (plc A (aO A a))).1 (wd A (plc A (aO A a) + 1)).1 (wd A n)) with
          | true => exact ⟨M', rfl, f, r⟩
          | false =>
            refine ⟨M', rfl, f, RM_ext r (fun c hc => ?_) (fun _ _ => rfl) (fun _ _ => rfl)⟩
            show (wd A n).1 c = (if bkc (wd A (plc A (aO A a))).1 (wd A (plc A (aO A a) + 1)).1 (wd A n) c then (wd A (plc A (aO A a))).1 c else (wd A n).1 c)
            have z : bkc (wd A (plc A (aO A a))).1 (wd A (plc A (aO A a) + 1)).1 (wd A n) c = false := by
              cases y : bkc (wd A (plc A (aO A a))).1 (wd A (plc A (aO A a) + 1)).1 (wd A n) c with
              | false => rfl
              | true => rw [anyc_iff.mpr ⟨c, hc, y⟩] at q; cases q
            rw [z]; rfl
        · have k4 : aK A a = 4 := by omega
          have l := v.2.2.2.1 (by omega)
          have l2 := v.2.2.2.2.2.1 k4
          have t := h.2.1 (aO A a) (by omega)
          rw [if_neg (show ¬ nI (aK A a) = 3 from nI_lit (by omega) (by decide) k3), d.2.2.2.1 (Or.inr (Or.inr k4)), ix10, gi_at (by omega) (by decide), gi_at (by omega) (by decide), nI_clamp (show 10 * (n + 1) + aO A a < 2 ^ 31 by omega), t]
          unfold stp
          rw [if_neg k0, if_neg k1, if_neg k2, if_neg k3]
          cases q : (wd A n).2.1 (aO A a) with
          | false => exact ⟨M, rfl, FrN.rf, h⟩
          | true =>
            have e : nI (aT A a) = hI (aT A a) := by unfold hI; rw [if_neg (by omega)]
            rw [e]
            exact ⟨_, rfl, FrN.u (by omega), RM_u (by omega) h⟩
