/-- what doing the acts over again leaves as it was -/
def FrC (M M' : Mem) : Prop := (∀ x y, ¬ (36 ≤ x ∧ x < 129) → ¬ (6 ≤ x ∧ x < 36 ∧ (y = 5 ∨ y = 6)) → M'.1 x y = M.1 x y) ∧ ∀ x y, ¬ (36 ≤ x ∧ x < 129) → ¬ (6 ≤ x ∧ x < 36 ∧ y = 7) → M'.2 x y = M.2 x y
theorem FrC.rf {M : Mem} : FrC M M := ⟨fun _ _ _ _ => rfl, fun _ _ _ _ => rfl⟩
theorem FrC.tr {M M' M'' : Mem} (h : FrC M M') (h' : FrC M' M'') : FrC M M'' := ⟨fun x y p q => (h'.1 x y p q).trans (h.1 x y p q), fun x y p q => (h'.2 x y p q).trans (h.2 x y p q)⟩
theorem FrC.of {M M' : Mem} {m a : Nat} (h : Fr M M' m a) (hm : m < 31) (ha : a < 30) : FrC M M' := ⟨fun x y p _ => h.1 x y (fun z => p (by omega)) (fun z => p (by omega)), fun x y p q => h.2 x y (fun z => p (by omega)) (fun z => q (by omega))⟩
theorem FrC.mi5 {M : Mem} {a y : Nat} {v : Int32} (ha : a < 30) (hy : y = 5 ∨ y = 6) : FrC M (mi M (6 + a) y v) := ⟨fun x z _ q => by rw [mi_1, if_neg (fun e => q ⟨by omega, by omega, by rw [e.2]; exact hy⟩)], fun _ _ _ _ => rfl⟩
theorem FrC.ml7 {M : Mem} {a : Nat} {v : Int64} (ha : a < 30) : FrC M (ml M (6 + a) 7 v) := ⟨fun _ _ _ _ => rfl, fun x z _ q => by rw [ml_2, if_neg (fun e => q ⟨by omega, by omega, e.2⟩)]⟩
theorem FrC.like {M : Mem} {n : Nat} (hn : n + 1 < 31) : FrC M (likeM M n) := by
  constructor
  · intro x y p _
    unfold likeM
    rw [mi_1, if_neg (fun e => p (by omega)), mci_1, if_neg (fun e => p (by omega)), mcl_1]
  · intro x y p _
    show (mcl M (37 + 3 * n) (37 + 3 * (n + 1)) 0 0 10).2 x y = _
    rw [mcl_2, if_neg (fun e => p (by omega))]
theorem CD_keep {M M' : Mem} {nu : Nat} {A : AD} (h : FrC M M') (h30 : aN A ≤ 30) (d : CD M nu A) : CD M' nu A := by
  refine ⟨?_, fun u hu => ?_, ?_, fun a ha => ?_⟩
  · rw [h.1 _ _ (by omega) (by omega)]; exact d.1
  · rw [h.1 _ _ (by omega) (by omega)]; exact d.2.1 u hu
  · rw [h.1 _ _ (by omega) (by omega)]; exact d.2.2.1
  · have e := d.2.2.2 a ha
    rw [h.1 (6 + a) 0 (by omega) (by omega), h.1 (6 + a) 1 (by omega) (by omega), h.1 (6 + a) 2 (by omega) (by omega), h.1 (6 + a) 3 (by omega) (by omega), h.2 (6 + a) 4 (by omega) (by omega)]
    exact e
theorem MR_mi {M : Mem} {n a y : Nat} {w : Wd} {v : Int32} (ha : a < 30) (h : MR M n w) : MR (mi M (6 + a) y v) n w := MR_keep h (fun _ _ => rfl) (by rw [mi_1, if_neg (fun z => absurd z.1 (by omega))]) (fun u _ => by rw [mi_1, if_neg (fun z => absurd z.1 (by omega))])
theorem MR_likeO {M : Mem} {n k : Nat} {w : Wd} (hk : k ≠ n + 1) (h : MR M k w) : MR (likeM M n) k w := by
  refine MR_keep h (fun u _ => ?_) ?_ (fun u _ => ?_)
  · show (mcl M (37 + 3 * n) (37 + 3 * (n + 1)) 0 0 10).2 (37 + 3 * k) u = _
    rw [mcl_2, if_neg (by omega)]
  · unfold likeM
    rw [mi_1, if_neg (fun z => absurd z.1 (by omega)), mci_1, if_neg (by omega), mcl_1]
  · unfold likeM
    rw [mi_1, if_neg (fun z => absurd z.1 (by omega)), mci_1, if_neg (by omega), mcl_1]
theorem PF_keep {M M' : Mem} {A : AD} {b : Nat} (h : PF M A b) (h1 : M'.1 (6 + b) 5 = M.1 (6 + b) 5) (h2 : M'.2 (6 + b) 7 = M.2 (6 + b) 7) (h3 : M'.1 (6 + b) 6 = M.1 (6 + b) 6) : PF M' A b := ⟨h1.trans h.1, h2.trans h.2.1, h3.trans h.2.2⟩
theorem like_lo {M : Mem} {n x y : Nat} (hx : x < 36) : (likeM M n).1 x y = M.1 x y ∧ (likeM M n).2 x y = M.2 x y := by
  constructor
  · unfold likeM
    rw [mi_1, if_neg (fun z => absurd z.1 (by omega)), mci_1, if_neg (by omega), mcl_1]
  · show (mcl M (37 + 3 * n) (37 + 3 * (n + 1)) 0 0 10).2 x y = _
    rw [mcl_2, if_neg (by omega)]
/-- all that the class keeps of the acts -/
def CI (M : Mem) (nu : Nat) (A : AD) : Prop := VA nu A ∧ CD M nu A ∧ (∀ n, n < aN A → M.1 4 n = nI (ordA A n)) ∧ (∀ k, k ≤ aN A → MR M k (wd A k)) ∧ ∀ b, b < aN A → PF M A b
theorem X2_redoFrom {M : Mem} {nu p : Nat} {A : AD} (hV : VA nu A) (hD : CD M nu A) (hO : ∀ n, n < aN A → M.1 4 n = nI (ordA A n)) (hp : p ≤ aN A) (hP : ∀ k, k ≤ p → MR M k (wd A k)) (hF : ∀ b, b < aN A → plc A b < p → PF M A b) :
    ∃ M', fX2_redoFrom 1 (nI p) M = some M' ∧ CI M' nu A ∧ FrC M M' := by
  have n30 := hV.2.1
  unfold fX2_redoFrom
  have key := wh_inv (body := wX2_redoFrom_2 1)
    (fun n s => s.1 = nI n ∧ FrC M s.2 ∧ (∀ k, k ≤ n → MR s.2 k (wd A k)) ∧ ∀ b, b < aN A → plc A b < n → PF s.2 A b) (aN A)
    (fun r => CI r.2 nu A ∧ FrC M r.2)
    (by
      rintro n ⟨s1, s2⟩ hn ⟨q1, q2, q3, q4⟩
      dsimp only at q1 q2 q3 q4
      subst q1
      have d2 := CD_keep q2 n30 hD
      have o := ord_spec A hn
      unfold wX2_redoFrom_2
      dsimp only
      have ho : s2.1 4 n = nI (ordA A n) := by rw [q2.1 _ _ (by omega) (by omega)]; exact hO n hn
      rw [d2.2.2.1, if_neg (fun z => absurd ((nI_leI (by omega) (by omega)).mp z) (by omega)), X2_actAtR d2.2.2.1 n30 hn o.1 ho, bnd_some, gd_at (shp_a (by omega))]
      simp only [lt_def]
      rw [show nI n + (1 : Int32) = nI (n + 1) from nI_1 n, X2_momentBehind (show n + 1 < 31 by omega), bnd_some, gd_at (shp_m (show n + 1 < 31 by omega)), X2_momentBehind (show n < 31 by omega), bnd_some, gd_at (shp_m (show n < 31 by omega)), X4_becomeLike (by omega), bnd_some]
      generalize ha : ordA A n = a at *
      have ha30 : a < 30 := by omega
      -- the moment laid out, the act's marks cleared
      have f1 : FrC s2 (likeM s2 n) := FrC.like (by omega)
      have m1 : MR (likeM s2 n) (n + 1) (wd A n) := MR_like (q3 n (Nat.le_refl n))
      have m2 : ∀ k, k ≤ n → MR (likeM s2 n) k (wd A k) := fun k hk => MR_likeO (by omega) (q3 k hk)
      have lo : ∀ x y, x < 36 → (likeM s2 n).1 x y = s2.1 x y ∧ (likeM s2 n).2 x y = s2.2 x y := fun x y hx => like_lo hx
      generalize likeM s2 n = M1 at f1 m1 m2 lo
      have f2 : FrC M1 (ml (mi M1 (6 + a) 5 (nI n)) (6 + a) 7 0) := (FrC.mi5 ha30 (Or.inl rfl)).tr (FrC.ml7 ha30)
      have m3 := MR_ml7 (v := 0) ha30 (MR_mi (y := 5) (v := nI n) ha30 m1)
      have m4 : ∀ k, k ≤ n → MR (ml (mi M1 (6 + a) 5 (nI n)) (6 + a) 7 0) k (wd A k) := fun k hk => MR_ml7 ha30 (MR_mi ha30 (m2 k hk))
      have e7 : (ml (mi M1 (6 + a) 5 (nI n)) (6 + a) 7 0).2 (6 + a) 7 = 0 := by rw [ml_2, if_pos ⟨rfl, rfl⟩]
      have e5 : (ml (mi M1 (6 + a) 5 (nI n)) (6 + a) 7 0).1 (6 + a) 5 = nI n := by rw [ml_1, mi_1, if_pos ⟨rfl, rfl⟩]
      have p4 : ∀ b, b < aN A → plc A b < n → PF (ml (mi M1 (6 + a) 5 (nI n)) (6 + a) 7 0) A b := by
        intro b hb hpb
        have hne : b ≠ a := fun e => by rw [e, o.2] at hpb; omega
        refine PF_keep (q4 b hb hpb) ?_ ?_ ?_
        · rw [ml_1, mi_1, if_neg (fun z => hne (by omega))]
          exact (lo _ _ (by omega)).1
        · rw [ml_2, if_neg (fun z => hne (by omega)), mi_2]
          exact (lo _ _ (by omega)).2
        · rw [ml_1, mi_1, if_neg (fun z => hne (by omega))]
          exact (lo _ _ (by omega)).1
      have d3 := CD_keep (q2.tr (f1.tr f2)) n30 hD
      have f3 := q2.tr (f1.tr f2)
      generalize ml (mi M1 (6 + a) 5 (nI n)) (6 + a) 7 0 = M2 at f2 m3 m4 e7 e5 p4 d3 f3
      have hper := X2_perform hV d3 hn m3 m4 p4 (by rw [ha]; exact e7)
      rw [ha] at hper
      obtain ⟨M', h1, h2, h3, h4⟩ := hper
      rw [h1, bnd_some]
      dsimp only
      have fin : ∀ v : Int32, v = (if (stp A (wd A) n a).2 then 1 else 0) → ∃ s', (some (.inl (nI (n + 1), mi M' (6 + a) 6 v)) : Option ((Int32 × Mem) ⊕ (Int32 × Mem))) = some (.inl s') ∧ s'.1 = nI (n + 1) ∧ FrC M s'.2 ∧ (∀ k, k ≤ n + 1 → MR s'.2 k (wd A k)) ∧ ∀ b, b < aN A → plc A b < n + 1 → PF s'.2 A b := by
        intro v hv
        refine ⟨_, rfl, rfl, (f3.tr (FrC.of h2 (by omega) ha30)).tr (FrC.mi5 ha30 (Or.inr rfl)), fun k hk => ?_, fun b hb hpb => ?_⟩
        · rcases Nat.lt_or_ge k (n + 1) with z | z
          · exact MR_mi ha30 (h2.mr ha30 (by omega) (m4 k (by omega)))
          · have : k = n + 1 := by omega
            subst this
            exact MR_mi ha30 h3
        · by_cases e : b = a
          · subst e
            refine ⟨?_, ?_, ?_⟩
            · show (mi M' (6 + b) 6 v).1 (6 + b) 5 = _
              rw [mi_1, if_neg (fun z => absurd z.2 (by decide)), h2.a1 ha30, e5, o.2]
            · show M'.2 (6 + b) 7 = _
              rw [h4, o.2]
            · show (mi M' (6 + b) 6 v).1 (6 + b) 6 = _
              rw [mi_1, if_pos ⟨rfl, rfl⟩, hv, o.2]
          · have hpb2 : plc A b < n := by
              rcases Nat.lt_or_ge (plc A b) n with z | z
              · exact z
              · exfalso
                apply e
                exact plc_inj A hb o.1 (by omega)
            refine PF_keep (p4 b hb hpb2) ?_ ?_ ?_
            · show (mi M' (6 + a) 6 v).1 (6 + b) 5 = _
              rw [mi_1, if_neg (fun z => e (by omega)), h2.a1 (by omega)]
            · show M'.2 (6 + b) 7 = _
              exact h2.a2 (by omega) (fun z => e z.1)
            · show (mi M' (6 + a) 6 v).1 (6 + b) 6 = _
              rw [mi_1, if_neg (fun z => e (by omega)), h2.a1 (by omega)]
      cases hvd : (stp A (wd A) n a).2 with
      | true =>
        rw [if_pos rfl, if_pos rfl, gb_1]
        exact fin 1 (by rw [hvd]; rfl)
      | false =>
        rw [if_neg (by decide), gb_0]
        exact fin 0 (by rw [hvd]; rfl))
    (by
      rintro ⟨s1, s2⟩ ⟨q1, q2, q3, q4⟩
      dsimp only at q1 q2 q3 q4
      subst q1
      have d2 := CD_keep q2 n30 hD
      refine ⟨(nI (aN A), s2), ?_, ⟨hV, d2, fun n hn => by rw [q2.1 _ _ (by omega) (by omega)]; exact hO n hn, q3, fun b hb => q4 b hb (plc_in A hb)⟩, q2⟩
      unfold wX2_redoFrom_2
      dsimp only
      rw [d2.2.2.1, if_pos (nI_le (Nat.le_refl _) (by omega))])
    (aN A - p) p (nI p, M) (by omega) ⟨rfl, FrC.rf, hP, hF⟩
  obtain ⟨r, hr, hq⟩ := key
  rw [hr, bnd_some]
  exact ⟨r.2, rfl, hq.1, hq.2⟩
