theorem X4_give {M : Mem} {n : Nat} (hn : n < 31) {w : Wd} (h : MR M n w) (q : Nat → Bool) {v : Nat} (hv : v ≤ 10) : fX4_give (36 + 3 * n) (cset q) (nI v) M = some (msl M (37 + 3 * n) 10 (fun u => cset (fun c => if q c then v == u else w.1 c == u))) := by
  unfold fX4_give
  have hw := wh_seq (body := wX4_give_3 (36 + 3 * n) (cset q)) (fun i => (nI i, msl M (37 + 3 * n) i (fun u => cset (fun c => (w.1 c == u) && !q c)))) 10 (nI 10, msl M (37 + 3 * n) 10 (fun u => cset (fun c => (w.1 c == u) && !q c))) (by
    intro i hi
    unfold wX4_give_3
    dsimp only
    rw [li_10, if_neg (fun z => absurd ((nI_leI (a := 10) (by omega) (by omega)).mp z) (by omega)), rf_m0 hn, ln_m0 hn, gi_at hi (by decide), gi_at hi (by decide), nI_clamp (by omega)]
    simp only [lt_def, nI_1]
    rw [msl_s _ _ _ _ _ (by
      rw [msl_2, if_neg (fun z => absurd z.2 (Nat.lt_irrefl i)), h.1 i hi, cset_diff])]) (by
    unfold wX4_give_3
    dsimp only
    rw [li_10, if_pos (nI_le (Nat.le_refl 10) (by decide))])
  rw [msl_0] at hw
  rw [show ((0 : Int32), M) = (nI 0, M) from rfl, hw, bnd_some]
  rcases Nat.lt_or_ge v 10 with k | k
  · rw [slot_in k, bnd_some, if_neg (by decide), rf_m0 hn, ln_m0 hn, gi_at k (by decide), gi_at k (by decide), nI_clamp (by omega)]
    simp only [lt_def]
    rw [ml_msl _ _ _ _ _ _ k, msl_2, if_pos ⟨rfl, k⟩, cset_or]
    congr 1
    apply msl_cong
    intro u hu
    by_cases e : u = v
    · subst e
      rw [if_pos rfl]
      apply cset_cong
      intro c _
      cases q c <;> simp
    · rw [if_neg e]
      apply cset_cong
      intro c _
      have e2 : (v == u) = false := by simp; omega
      cases q c <;> simp [e2]
  · have hv10 : v = 10 := by omega
    subst hv10
    rw [slot_out (by omega) (by decide), bnd_some, if_pos rfl]
    congr 1
    apply msl_cong
    intro u hu
    apply cset_cong
    intro c _
    have e2 : (10 == u) = false := by simp; omega
    cases q c <;> simp [e2]
theorem MR_give {M : Mem} {n : Nat} {w : Wd} (h : MR M n w) (q : Nat → Bool) {v : Nat} (hv : v ≤ 10) : MR (msl M (37 + 3 * n) 10 (fun u => cset (fun c => if q c then v == u else w.1 c == u))) n (fun c => if q c then v else w.1 c, w.2) := by
  refine ⟨fun u hu => ?_, fun u hu => h.2.1 u hu, fun u hu => h.2.2.1 u hu, fun c hc => ?_⟩
  · rw [msl_2, if_pos ⟨rfl, hu⟩]
    apply cset_cong
    intro c _
    show (if q c then v == u else w.1 c == u) = ((if q c then v else w.1 c) == u)
    cases q c <;> rfl
  · have := h.2.2.2 c hc
    show (if q c then v else w.1 c) ≤ 10
    cases q c
    · simpa using this
    · simpa using hv
/-- other cells do not matter to a moment -/
theorem MR_keep {M M' : Mem} {n : Nat} {w : Wd} (h : MR M n w) (h2 : ∀ u, u < 10 → M'.2 (37 + 3 * n) u = M.2 (37 + 3 * n) u) (h1 : M'.1 (36 + 3 * n) 2 = M.1 (36 + 3 * n) 2) (h3 : ∀ u, u < 10 → M'.1 (38 + 3 * n) u = M.1 (38 + 3 * n) u) : MR M' n w :=
  ⟨fun u hu => by rw [h2 u hu]; exact h.1 u hu, fun u hu => by rw [h1]; exact h.2.1 u hu, fun u hu => by rw [h3 u hu]; exact h.2.2.1 u hu, h.2.2.2⟩
theorem X4_arrive {M : Mem} {n u : Nat} (hu : u < 10) : fX4_arrive (36 + 3 * n) (nI u) M = some (mi M (36 + 3 * n) 2 ((M.1 (36 + 3 * n) 2) ||| ((1 : Int32) <<< (nI u &&& 31)))) := by
  unfold fX4_arrive
  rw [slot_in hu, bnd_some, if_neg (by decide)]
  rfl
theorem one_sh32 {u i : Nat} (hu : u < 32) (hi : i < 32) : bt ((1 : Int32) <<< (nI u &&& 31)) i = decide (i = u) := by
  have h1 : ∀ i, i < 32 → bt 1 i = decide (i = 0) := by decide +kernel
  rw [b_shl u hu 1 hi]
  rcases Nat.lt_trichotomy i u with h | h | h
  · have a : ¬ u ≤ i := by omega
    have b : ¬ i = u := by omega
    simp [a, b]
  · subst h; simp [h1 0 (by omega)]
  · have b : ¬ i = u := by omega
    have c : ¬ i - u = 0 := by omega
    simp [h1 (i - u) (by omega), b, c]
theorem MR_arrive {M : Mem} {n : Nat} {w : Wd} (h : MR M n w) {u : Nat} (hu : u < 10) : MR (mi M (36 + 3 * n) 2 ((M.1 (36 + 3 * n) 2) ||| ((1 : Int32) <<< (nI u &&& 31)))) n (w.1, fun x => if x = u then true else w.2.1 x, w.2.2) := by
  refine ⟨fun x hx => h.1 x hx, fun x hx => ?_, fun x hx => ?_, h.2.2.2⟩
  · rw [mi_1, if_pos ⟨rfl, rfl⟩, b_or, h.2.1 x hx, one_sh32 (by omega) (by omega)]
    by_cases e : x = u
    · simp [e]
    · simp [e]
  · rw [mi_1, if_neg (fun z => absurd z.1 (by omega))]
    exact h.2.2.1 x hx
theorem X4_leave {M : Mem} {n u : Nat} (hn : n < 31) (hu : u < 10) : fX4_leave (36 + 3 * n) (nI u) M = some (mi (mi M (36 + 3 * n) 2 ((M.1 (36 + 3 * n) 2) &&& (((1 : Int32) <<< (nI u &&& 31)) ^^^ (-1)))) (38 + 3 * n) u 10) := by
  unfold fX4_leave
  rw [slot_in hu, bnd_some, if_neg (by decide), rf_m1 hn, ln_m1 hn]
  simp only [lt_def]
  rw [gi_at hu (by decide), nI_clamp (by omega)]
theorem MR_leave {M : Mem} {n : Nat} {w : Wd} (h : MR M n w) {u : Nat} (hu : u < 10) : MR (mi (mi M (36 + 3 * n) 2 ((M.1 (36 + 3 * n) 2) &&& (((1 : Int32) <<< (nI u &&& 31)) ^^^ (-1)))) (38 + 3 * n) u 10) n (w.1, fun x => if x = u then false else w.2.1 x, fun x => if x = u then 10 else w.2.2 x) := by
  refine ⟨fun x hx => h.1 x hx, fun x hx => ?_, fun x hx => ?_, h.2.2.2⟩
  · rw [mi_1, if_neg (fun z => absurd z.1 (by omega)), mi_1, if_pos ⟨rfl, rfl⟩, b_and, b_xor, h.2.1 x hx, one_sh32 (by omega) (by omega), b_m1 x (by omega)]
    by_cases e : x = u
    · simp [e]
    · simp [e]
  · rw [mi_1]
    by_cases e : x = u
    · subst e
      rw [if_pos ⟨rfl, rfl⟩]
      simp only [if_true]
      rfl
    · rw [if_neg (fun z => e z.2), mi_1, if_neg (fun z => absurd z.1 (by omega)), h.2.2.1 x hx]
      simp [e]
theorem X4_putUnder {M : Mem} {n u : Nat} {x : Int32} (hn : n < 31) (hu : u < 10) : fX4_putUnder (36 + 3 * n) (nI u) x M = some (mi M (38 + 3 * n) u x) := by
  unfold fX4_putUnder
  rw [slot_in hu, bnd_some, if_neg (by decide), rf_m1 hn, ln_m1 hn, gi_at hu (by decide), nI_clamp (by omega)]
  rfl
theorem MR_putUnder {M : Mem} {n : Nat} {w : Wd} (h : MR M n w) {u k : Nat} (hu : u < 10) : MR (mi M (38 + 3 * n) u (nI k)) n (w.1, w.2.1, fun x => if x = u then k else w.2.2 x) := by
  refine ⟨fun x hx => h.1 x hx, fun x hx => ?_, fun x hx => ?_, h.2.2.2⟩
  · rw [mi_1, if_neg (fun z => absurd z.1 (by omega))]
    exact h.2.1 x hx
  · rw [mi_1]
    by_cases e : x = u
    · subst e
      rw [if_pos ⟨rfl, rfl⟩]
      simp
    · rw [if_neg (fun z => e z.2), h.2.2.1 x hx]
      simp [e]
theorem gcp_at {α : Type} {n0 n1 s d k : Nat} {E : Option α} (h1 : s + k ≤ n0) (h2 : d + k ≤ n1) (hs : n0 < 2 ^ 31) (hd : n1 < 2 ^ 31) : gcp n0 n1 (nI s) (nI d) (nI k) E = E := by
  rw [gcp, if_pos]
  rw [nI_clamp (by omega), nI_clamp (by omega), nI_clamp (by omega)]
  exact ⟨nI_pos (by omega), nI_pos (by omega), nI_pos (by omega), h1, h2⟩
def likeM (M : Mem) (n : Nat) : Mem := mi (mci (mcl M (37 + 3 * n) (37 + 3 * (n + 1)) 0 0 10) (38 + 3 * n) (38 + 3 * (n + 1)) 0 0 10) (36 + 3 * (n + 1)) 2 (M.1 (36 + 3 * n) 2)
theorem X4_becomeLike {M : Mem} {n : Nat} (hn : n + 1 < 31) : fX4_becomeLike (36 + 3 * (n + 1)) (36 + 3 * n) M = some (likeM M n) := by
  unfold fX4_becomeLike
  rw [rf_m0 (show n < 31 by omega), rf_m0 hn, rf_m1 (show n < 31 by omega), rf_m1 hn, ln_m0 (show n < 31 by omega), ln_m0 hn, ln_m1 (show n < 31 by omega), ln_m1 hn]
  rw [li_10, show (0 : Int32) = nI 0 from rfl]
  rw [gcp_at (by omega) (by omega) (by decide) (by decide)]
  simp only [lt_def]
  rw [gcp_at (by omega) (by omega) (by decide) (by decide), nI_clamp (show 0 < 2 ^ 31 by decide), nI_clamp (show 10 < 2 ^ 31 by decide)]
  rw [mci_1, if_neg (by omega), mcl_1]
  rfl
theorem MR_like {M : Mem} {n : Nat} {w : Wd} (h : MR M n w) : MR (likeM M n) (n + 1) w := by
  refine ⟨fun u hu => ?_, fun u hu => ?_, fun u hu => ?_, h.2.2.2⟩
  · show (mcl M (37 + 3 * n) (37 + 3 * (n + 1)) 0 0 10).2 (37 + 3 * (n + 1)) u = _
    rw [mcl_2, if_pos rfl, pk_cpy_in (by omega) (by omega)]
    have : 0 + (u - 0) = u := by omega
    rw [this]
    exact h.1 u hu
  · unfold likeM
    rw [mi_1, if_pos ⟨rfl, rfl⟩]
    exact h.2.1 u hu
  · unfold likeM
    rw [mi_1, if_neg (fun z => absurd z.1 (by omega)), mci_1, if_pos rfl, pk_cpy_in (by omega) (by omega), mcl_1]
    have : 0 + (u - 0) = u := by omega
    rw [this]
    exact h.2.2.1 u hu
