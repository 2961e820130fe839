/-! the reference: its notes, and the worlds that it works out anew -/
def RD (M : Mem) (nu : Nat) (A : AD) : Prop := M.1 151 0 = nI nu ∧ (∀ u, u < nu → M.1 152 u = nI (uK A u)) ∧ M.1 151 1 = nI (aN A) ∧ ∀ a, a < aN A → M.1 153 a = nI (aK A a) ∧ M.1 154 a = nI (aY A a) ∧ M.1 155 a = nI (aO A a) ∧ (aK A a = 1 ∨ aK A a = 2 ∨ aK A a = 4 → M.1 156 a = nI (aT A a)) ∧ (aK A a = 0 ∨ aK A a = 1 → M.2 157 a = cset (aS A a))
def hI (k : Nat) : Int32 := if k = 10 then -1 else nI k
def RM (M : Mem) (n : Nat) (w : Wd) : Prop := (∀ c, c < 36 → M.1 168 (36 * n + c) = nI (w.1 c)) ∧ (∀ u, u < 10 → M.1 171 (10 * n + u) = if w.2.1 u then 1 else 0) ∧ (∀ u, u < 10 → M.1 169 (10 * n + u) = hI (w.2.2 u)) ∧ ∀ c, c < 36 → w.1 c ≤ 10
theorem ix36 (n c : Nat) : (36 : Int32) * nI n + nI c = nI (36 * n + c) := by rw [li_36, pk_mul, nI_add]
theorem ix10 (n c : Nat) : (10 : Int32) * nI n + nI c = nI (10 * n + c) := by rw [li_10, pk_mul, nI_add]
def FrN (M M' : Mem) (n : Nat) : Prop := M'.2 = M.2 ∧ ∀ x y, ¬ (x = 168 ∧ 36 * n ≤ y ∧ y < 36 * n + 36) → ¬ (x = 171 ∧ 10 * n ≤ y ∧ y < 10 * n + 10) → ¬ (x = 169 ∧ 10 * n ≤ y ∧ y < 10 * n + 10) → M'.1 x y = M.1 x y
theorem FrN.rf {M : Mem} {n : Nat} : FrN M M n := ⟨rfl, fun _ _ _ _ _ => rfl⟩
theorem FrN.tr {M M' M'' : Mem} {n : Nat} (h : FrN M M' n) (h' : FrN M' M'' n) : FrN M M'' n := ⟨h'.1.trans h.1, fun x y p q r => (h'.2 x y p q r).trans (h.2 x y p q r)⟩
theorem FrN.h {M : Mem} {n c : Nat} {v : Int32} (hc : c < 36) : FrN M (mi M 168 (36 * n + c) v) n := ⟨rfl, fun x y p _ _ => by rw [mi_1, if_neg (fun z => p (by omega))]⟩
theorem FrN.t {M : Mem} {n c : Nat} {v : Int32} (hc : c < 10) : FrN M (mi M 171 (10 * n + c) v) n := ⟨rfl, fun x y _ p _ => by rw [mi_1, if_neg (fun z => p (by omega))]⟩
theorem FrN.u {M : Mem} {n c : Nat} {v : Int32} (hc : c < 10) : FrN M (mi M 169 (10 * n + c) v) n := ⟨rfl, fun x y _ _ p => by rw [mi_1, if_neg (fun z => p (by omega))]⟩
theorem FrN.rm {M M' : Mem} {n k : Nat} {w : Wd} (h : FrN M M' n) (hk : k ≠ n) (r : RM M k w) : RM M' k w := by
  refine ⟨fun c hc => ?_, fun u hu => ?_, fun u hu => ?_, r.2.2.2⟩
  · rw [h.2 _ _ (by omega) (by omega) (by omega)]; exact r.1 c hc
  · rw [h.2 _ _ (by omega) (by omega) (by omega)]; exact r.2.1 u hu
  · rw [h.2 _ _ (by omega) (by omega) (by omega)]; exact r.2.2.1 u hu
theorem RM_ext {M : Mem} {n : Nat} {w w' : Wd} (h : RM M n w) (h1 : ∀ c, c < 36 → w'.1 c = w.1 c) (h2 : ∀ u, u < 10 → w'.2.1 u = w.2.1 u) (h3 : ∀ u, u < 10 → w'.2.2 u = w.2.2 u) : RM M n w' :=
  ⟨fun c hc => by rw [h.1 c hc, h1 c hc], fun u hu => by rw [h.2.1 u hu, h2 u hu], fun u hu => by rw [h.2.2.1 u hu, h3 u hu], fun c hc => by rw [h1 c hc]; exact h.2.2.2 c hc⟩
theorem bit0s (x : Int64) {c : Nat} (hc : c < 64) : lg_cmp ((lshr x (nI c)) &&& 1) 0 = 0 ↔ lb x c = false := by
  rw [lg_cmp_eq, bit1s x hc]
  cases lb x c <;> simp
theorem bit1s1 (x : Int64) {c : Nat} (hc : c < 64) : lg_cmp ((lshr x (nI c)) &&& 1) 1 = 0 ↔ lb x c = true := by
  rw [lg_cmp_eq, bit1s x hc]
  cases lb x c <;> simp
theorem X8_gives {M : Mem} {n one two : Nat} {w : Wd} {x : Int64} (hn : n < 31) (h : RM M n w) (h1 : one ≤ 10) (h2 : two ≤ 10) :
    ∃ M', fX8_gives 151 (nI n) (nI one) (nI two) x M = some (nI (fb_ct (fun c => lb x c && (w.1 c == one)) 36), M') ∧ FrN M M' n ∧ RM M' n (fun c => if lb x c && (w.1 c == one) then two else w.1 c, w.2) := by
  unfold fX8_gives
  have key := wh_inv (body := wX8_gives_6 151 (nI n) (nI one) (nI two) x)
    (fun i s => s.1 = nI (fb_ct (fun c => lb x c && (w.1 c == one)) i) ∧ s.2.1 = nI i ∧ FrN M s.2.2 n ∧ RM s.2.2 n (fun c => if decide (c < i) && (lb x c && (w.1 c == one)) then two else w.1 c, w.2)) 36
    (fun r => r.1 = nI (fb_ct (fun c => lb x c && (w.1 c == one)) 36) ∧ FrN M r.2.2 n ∧ RM r.2.2 n (fun c => if lb x c && (w.1 c == one) then two else w.1 c, w.2))
    (by
      rintro i ⟨s1, s2, s3⟩ hi ⟨q1, q2, q3, q4⟩
      dsimp only at q1 q2 q3 q4
      subst q1
      subst q2
      have hw := h.2.2.2 i hi
      have cur : s3.1 168 (36 * n + i) = nI (w.1 i) := by
        rw [q4.1 i hi]
        show nI (if decide (i < i) && (lb x i && (w.1 i == one)) then two else w.1 i) = _
        simp
      unfold wX8_gives_6
      dsimp only
      rw [if_neg (show ¬ (36 : Int32) ≤ nI i from fun z => absurd ((nI_leI (a := 36) (by omega) (by omega)).mp z) (by omega)), rM, ix36, show 148 + 20 = 168 from rfl, l168, gi_at (by omega) (by decide), nI_clamp (show 36 * n + i < 2 ^ 31 by omega), cur]
      simp only [lt_def, nI_1]
      have stay : (lb x i && (w.1 i == one)) = false → ∃ s', (some (.inl (nI (fb_ct (fun c => lb x c && (w.1 c == one)) i), nI (i + 1), s3)) : Option ((Int32 × Int32 × Mem) ⊕ (Int32 × Int32 × Mem))) = some (.inl s') ∧ s'.1 = nI (fb_ct (fun c => lb x c && (w.1 c == one)) (i + 1)) ∧ s'.2.1 = nI (i + 1) ∧ FrN M s'.2.2 n ∧ RM s'.2.2 n (fun c => if decide (c < i + 1) && (lb x c && (w.1 c == one)) then two else w.1 c, w.2) := by
        intro hz
        refine ⟨_, rfl, ?_, rfl, q3, RM_ext q4 (fun c _ => ?_) (fun _ _ => rfl) (fun _ _ => rfl)⟩
        · show _ = nI (fb_ct _ (i + 1))
          rw [fb_ct_succ, hz]
          rfl
        · show (if decide (c < i + 1) && (lb x c && (w.1 c == one)) then two else w.1 c) = (if decide (c < i) && (lb x c && (w.1 c == one)) then two else w.1 c)
          by_cases e : c = i
          · subst e; rw [hz]; simp
          · have : decide (c < i + 1) = decide (c < i) := by congr 1; apply propext; omega
            rw [this]
      by_cases e1 : w.1 i = one
      · rw [if_pos (show nI (w.1 i) = nI one by rw [e1])]
        by_cases e2 : lb x i = false
        · rw [if_pos ((bit0s x (by omega)).mpr e2)]
          exact stay (by rw [e2]; rfl)
        · have e2' : lb x i = true := by cases q : lb x i with | true => rfl | false => exact absurd q e2
          rw [if_neg (fun q => e2 ((bit0s x (by omega)).mp q)), gi_at (by omega) (by decide)]
          have hz : (lb x i && (w.1 i == one)) = true := by simp [e1, e2']
          refine ⟨_, rfl, ?_, rfl, q3.tr (FrN.h hi), ?_⟩
          · show _ = nI (fb_ct _ (i + 1))
            rw [fb_ct_succ, hz]
            rfl
          · refine ⟨fun c hc => ?_, fun u hu => ?_, fun u hu => ?_, fun c hc => ?_⟩
            · show (mi s3 168 (36 * n + i) (nI two)).1 168 (36 * n + c) = nI (if decide (c < i + 1) && (lb x c && (w.1 c == one)) then two else w.1 c)
              rw [mi_1]
              by_cases e : c = i
              · subst e
                rw [if_pos ⟨rfl, rfl⟩, hz]
                simp
              · rw [if_neg (fun z => e (by omega)), q4.1 c hc]
                have : decide (c < i + 1) = decide (c < i) := by congr 1; apply propext; omega
                rw [this]
            · show (mi s3 168 (36 * n + i) (nI two)).1 171 (10 * n + u) = _
              rw [mi_1, if_neg (fun z => absurd z.1 (by decide))]; exact q4.2.1 u hu
            · show (mi s3 168 (36 * n + i) (nI two)).1 169 (10 * n + u) = _
              rw [mi_1, if_neg (fun z => absurd z.1 (by decide))]; exact q4.2.2.1 u hu
            · have := h.2.2.2 c hc
              show (if decide (c < i + 1) && (lb x c && (w.1 c == one)) then two else w.1 c) ≤ 10
              split <;> omega
      · rw [if_neg (fun q => e1 ((nI_eq (by omega) (by omega)).mp q))]
        exact stay (by simp [e1]))
    (by
      rintro ⟨s1, s2, s3⟩ ⟨q1, q2, q3, q4⟩
      dsimp only at q1 q2 q3 q4
      subst q2
      refine ⟨(s1, nI 36, s3), ?_, q1, q3, RM_ext q4 (fun c hc => ?_) (fun _ _ => rfl) (fun _ _ => rfl)⟩
      · unfold wX8_gives_6
        dsimp only
        rw [if_pos (show (36 : Int32) ≤ nI 36 from nI_le (Nat.le_refl 36) (by decide))]
      · show (if lb x c && (w.1 c == one) then two else w.1 c) = (if decide (c < 36) && (lb x c && (w.1 c == one)) then two else w.1 c)
        simp [hc])
    36 0 (0, 0, M) rfl ⟨rfl, rfl, FrN.rf, RM_ext h (fun c _ => by simp) (fun _ _ => rfl) (fun _ _ => rfl)⟩
  obtain ⟨⟨r1, r2, r3⟩, hr, p1, p2, p3⟩ := key
  dsimp only at p1 p2 p3
  subst p1
  rw [hr, bnd_some]
  exact ⟨r3, rfl, p2, p3⟩
