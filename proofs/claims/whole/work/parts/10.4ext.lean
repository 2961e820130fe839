/-! one act more -/
def Ext (A B : AD) : Prop := aN B = aN A + 1 ∧ (∀ a, a < aN A → aK B a = aK A a ∧ aY B a = aY A a ∧ aO B a = aO A a ∧ aT B a = aT A a ∧ aS B a = aS A a) ∧ ∀ u, uK B u = uK A u
theorem Ext.befO {A B : AD} (h : Ext A B) {a b : Nat} (ha : a < aN A) (hb : b < aN A) : bef B b a = bef A b a := by
  unfold bef
  rw [(h.2.1 a ha).2.1, (h.2.1 b hb).2.1]
theorem Ext.befN {A B : AD} (h : Ext A B) {a : Nat} (ha : a < aN A) : bef B (aN A) a = decide (¬ aY A a ≤ aY B (aN A)) := by
  unfold bef
  rw [(h.2.1 a ha).2.1]
  congr 1
  apply propext
  omega
theorem Ext.new {A B : AD} (h : Ext A B) : plc B (aN A) = upto A (aY B (aN A)) := by
  unfold plc upto
  rw [h.1, fb_ct_succ, bef_irr]
  have : fb_ct (fun b => bef B b (aN A)) (aN A) = fb_ct (fun a => decide (aY A a ≤ aY B (aN A))) (aN A) := fb_ct_cong (fun k hk => by
    unfold bef
    rw [(h.2.1 k hk).2.1]
    congr 1
    apply propext
    omega)
  rw [this]
  rfl
theorem Ext.old {A B : AD} (h : Ext A B) {a : Nat} (ha : a < aN A) : plc B a = if aY A a ≤ aY B (aN A) then plc A a else plc A a + 1 := by
  unfold plc
  rw [h.1, fb_ct_succ, h.befN ha]
  have : fb_ct (fun b => bef B b a) (aN A) = fb_ct (fun b => bef A b a) (aN A) := fb_ct_cong (fun k hk => h.befO ha hk)
  rw [this]
  by_cases z : aY A a ≤ aY B (aN A)
  · rw [if_pos z]; simp [z]
  · rw [if_neg z]; simp [z]
theorem upto_plc (A : AD) {a : Nat} (ha : a < aN A) (y : Nat) : aY A a ≤ y ↔ plc A a < upto A y := by
  constructor
  · intro h
    exact ct_lt ha (bef_irr A a) (by simpa using h) (fun k _ hk => by
      unfold bef at hk
      simp only [decide_eq_true_eq] at hk ⊢
      omega)
  · intro h
    rcases Nat.lt_or_ge y (aY A a) with q | q
    · exfalso
      have : upto A y ≤ plc A a := fb_ct_sub (fun k _ hk => by
        unfold bef
        simp only [decide_eq_true_eq] at hk ⊢
        omega)
      omega
    · exact q
theorem Ext.old2 {A B : AD} (h : Ext A B) {a : Nat} (ha : a < aN A) : plc B a = if plc A a < plc B (aN A) then plc A a else plc A a + 1 := by
  rw [h.old ha, h.new]
  by_cases z : aY A a ≤ aY B (aN A)
  · rw [if_pos z, if_pos ((upto_plc A ha _).mp z)]
  · rw [if_neg z, if_neg (fun q => z ((upto_plc A ha _).mpr q))]
theorem Ext.p_le {A B : AD} (h : Ext A B) : plc B (aN A) ≤ aN A := by rw [h.new]; exact upto_le A _
theorem Ext.ord1 {A B : AD} (h : Ext A B) {n : Nat} (hn : n < plc B (aN A)) : ordA B n = ordA A n := by
  have hp := h.p_le
  have o := ord_spec A (n := n) (by omega)
  have e : plc B (ordA A n) = n := by rw [h.old2 o.1, o.2, if_pos hn]
  have := ord_plc B (a := ordA A n) (by rw [h.1]; omega)
  rw [e] at this
  exact this
theorem Ext.ord2 {A B : AD} (h : Ext A B) : ordA B (plc B (aN A)) = aN A := ord_plc B (by rw [h.1]; omega)
theorem Ext.ord3 {A B : AD} (h : Ext A B) {n : Nat} (hn : plc B (aN A) ≤ n) (h2 : n < aN A) : ordA B (n + 1) = ordA A n := by
  have o := ord_spec A h2
  have e : plc B (ordA A n) = n + 1 := by rw [h.old2 o.1, o.2, if_neg (by omega)]
  have := ord_plc B (a := ordA A n) (by rw [h.1]; omega)
  rw [e] at this
  exact this
theorem ext_stp {A B : AD} (h : Ext A B) {a n : Nat} {f : Nat → Wd} (ha : a < aN A) (hb : aK A a = 3 → plc B (aO A a) = plc A (aO A a)) : stp B f n a = stp A f n a := by
  have d := h.2.1 a ha
  unfold stp
  rw [d.1, d.2.2.1, d.2.2.2.1, d.2.2.2.2, h.2.2]
  by_cases k3 : aK A a = 3
  · rw [hb k3]
  · rw [if_neg k3, if_neg k3]
theorem ext_wd {nu : Nat} {A B : AD} (h : Ext A B) (hA : VA nu A) (hB : VA nu B) : ∀ n, n ≤ plc B (aN A) → wd B n = wd A n := by
  have hp := h.p_le
  have key : ∀ n, n ≤ plc B (aN A) → ∀ k, k ≤ n → wd B k = wd A k := by
    intro n
    induction n with
    | zero => intro _ k hk; have : k = 0 := by omega
              subst this; rfl
    | succ n ih =>
      intro hn k hk
      rcases Nat.lt_or_ge k (n + 1) with q | q
      · exact ih (by omega) k (by omega)
      · have : k = n + 1 := by omega
        subst this
        have o := ord_spec A (n := n) (by omega)
        have bk : aK A (ordA A n) = 3 → plc A (aO A (ordA A n)) < n := fun k3 => by
          have := hA.back o.1 k3
          rw [o.2] at this
          exact this
        rw [hB.wd (by rw [h.1]; omega), hA.wd (by omega), h.ord1 (by omega)]
        rw [ext_stp h o.1 (fun k3 => by
          have b1 := bk k3
          have v := (hA.2.2.2 _ o.1).2.2.2.2.2.2 k3
          rw [h.old2 (by omega), if_pos (by omega)])]
        rw [stp_cong A (h' := wd A) (fun k hk => ih (by omega) k hk) (fun k3 => by have := bk k3; omega)]
  exact fun n hn => key n hn n (Nat.le_refl n)
