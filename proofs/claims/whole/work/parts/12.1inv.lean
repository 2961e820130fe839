/-! what class and reference keep alike -/
def VH (nu : Nat) (A : AD) : Prop := ∀ a, a < aN A → (aK A a ≠ 3 → uK A (aO A a) ≠ 3) ∧ (aK A a = 1 ∨ aK A a = 2 → uK A (aT A a) ≠ 3) ∧ (aK A a = 4 → uK A (aT A a) = 3)
/-- counts of people -/
def CT (M : Mem) (nu : Nat) (A : AD) (nc : Nat) (cU cY cP : Nat → Nat) : Prop := nc ≤ 20 ∧ M.1 129 3 = nI nc ∧ M.1 151 2 = nI nc ∧ ∀ i, i < nc → cU i < nu ∧ uK A (cU i) ≠ 3 ∧ 1000 ≤ cY i ∧ cY i ≤ 1999 ∧ cP i ≤ 1000000 ∧ M.1 130 i = nI (cU i) ∧ M.1 160 i = nI (cU i) ∧ M.1 131 i = nI (cY i) ∧ M.1 161 i = nI (cY i) ∧ M.1 132 i = nI (cP i) ∧ M.1 162 i = nI (cP i)
def qI (k : Nat) : Int32 := if k = 11 then -1 else nI k
/-- maps -/
def MP (M : Mem) (mY : Nat → Nat) (mQ : Nat → Nat → Nat) : Prop := ∀ m, m < 4 → (1000 ≤ mY m ∧ mY m ≤ 1999) ∧ M.1 (135 + 2 * m) 1 = nI (mY m) ∧ M.1 158 m = nI (mY m) ∧ (∀ c, c < 36 → mQ m c ≤ 11) ∧ (∀ h, h < 11 → M.2 (136 + 2 * m) h = cset (fun c => mQ m c == h)) ∧ ∀ c, c < 36 → M.1 159 (36 * m + c) = qI (mQ m c)
def SR (x y : Int32) : Prop := ∀ k, k ≤ 10 → (x = nI k ↔ y = nI k)
/-- sheets -/
def SH (M : Mem) (sB sN : Nat → Nat) : Prop := ∀ s, s < 4 → (sB s = 0 ∨ sB s = 8 ∨ sB s = 16 ∨ sB s = 32) ∧ sN s ≤ 36 ∧ M.1 (143 + 2 * s) 1 = nI (sB s) ∧ M.1 163 s = nI (sB s) ∧ M.1 (143 + 2 * s) 2 = nI (sN s) ∧ M.1 164 s = nI (sN s) ∧ ∀ j, j < 36 → SR (M.1 (144 + 2 * s) j) (M.1 165 (36 * s + j))
def J (M : Mem) (nu : Nat) (A : AD) (nc : Nat) (cU cY cP mY : Nat → Nat) (mQ : Nat → Nat → Nat) (sB sN : Nat → Nat) (fc fr : Nat) : Prop := CI M nu A ∧ RD M nu A ∧ VH nu A ∧ CT M nu A nc cU cY cP ∧ MP M mY mQ ∧ SH M sB sN ∧ M.1 0 4 = nI fc ∧ M.2 151 3 = lN fr
def Inv (t : Nat) (M : Mem) : Prop := ∃ nu A nc cU cY cP mY mQ sB sN f, f ≤ t ∧ J M nu A nc cU cY cP mY mQ sB sN f f
/-- both answer alike, and keep what they keep -/
def Ok (t : Nat) (M : Mem) (f g : Mem → Option (Int64 × Mem)) : Prop := ∃ r M1 M2, f M = some (r, M1) ∧ g M1 = some (r, M2) ∧ Inv (t + 1) M2
def rfM (M : Mem) : Mem := mi M 0 4 (M.1 0 4 + 1)
def tdM (M : Mem) : Mem := ml M 151 3 (M.2 151 3 + 1)
theorem X7_ref {M : Mem} {k : Int64} : Option.bind (fX7_refuse 0 k M) (fun b => some (b.1, b.2)) = some (k, rfM M) := rfl
theorem X8_ref {M : Mem} {k : Int64} : Option.bind (fX8_told0 151 k M) (fun b => some (b.1, b.2)) = some (k, tdM M) := rfl
theorem CI_keep {M M' : Mem} {nu : Nat} {A : AD} (h1 : ∀ x y, 1 ≤ x → x < 129 → M'.1 x y = M.1 x y) (h2 : ∀ x y, 1 ≤ x → x < 129 → M'.2 x y = M.2 x y) (h : CI M nu A) : CI M' nu A := by
  obtain ⟨V, D, O, W, F⟩ := h
  have n30 := V.2.1
  refine ⟨V, ⟨(h1 _ _ (by omega) (by omega)).trans D.1, fun u hu => (h1 _ _ (by omega) (by omega)).trans (D.2.1 u hu), (h1 _ _ (by omega) (by omega)).trans D.2.2.1, fun a ha => ?_⟩, fun n hn => (h1 _ _ (by omega) (by omega)).trans (O n hn), fun k hk => ?_, fun b hb => ?_⟩
  · have q := D.2.2.2 a ha
    exact ⟨(h1 _ _ (by omega) (by omega)).trans q.1, (h1 _ _ (by omega) (by omega)).trans q.2.1, (h1 _ _ (by omega) (by omega)).trans q.2.2.1, fun z => (h1 _ _ (by omega) (by omega)).trans (q.2.2.2.1 z), fun z => (h2 _ _ (by omega) (by omega)).trans (q.2.2.2.2 z)⟩
  · exact MR_keep (W k hk) (fun u _ => h2 _ _ (by omega) (by omega)) (h1 _ _ (by omega) (by omega)) (fun u _ => h1 _ _ (by omega) (by omega))
  · exact PF_keep (F b hb) (h1 _ _ (by omega) (by omega)) (h2 _ _ (by omega) (by omega)) (h1 _ _ (by omega) (by omega))
theorem RD_keep2 {M M' : Mem} {nu : Nat} {A : AD} (h1 : ∀ x y, 151 ≤ x → x < 158 → (x = 151 → y < 2) → M'.1 x y = M.1 x y) (h2 : ∀ y, M'.2 157 y = M.2 157 y) (d : RD M nu A) : RD M' nu A := by
  refine ⟨(h1 _ _ (by omega) (by omega) (by omega)).trans d.1, fun u hu => (h1 _ _ (by omega) (by omega) (by omega)).trans (d.2.1 u hu), (h1 _ _ (by omega) (by omega) (by omega)).trans d.2.2.1, fun a ha => ?_⟩
  have q := d.2.2.2 a ha
  exact ⟨(h1 _ _ (by omega) (by omega) (by omega)).trans q.1, (h1 _ _ (by omega) (by omega) (by omega)).trans q.2.1, (h1 _ _ (by omega) (by omega) (by omega)).trans q.2.2.1, fun k => (h1 _ _ (by omega) (by omega) (by omega)).trans (q.2.2.2.1 k), fun k => (h2 _).trans (q.2.2.2.2 k)⟩
theorem CT_keep {M M' : Mem} {nu : Nat} {A : AD} {nc : Nat} {cU cY cP : Nat → Nat} (h1 : ∀ x y, 129 ≤ x → x < 133 → M'.1 x y = M.1 x y) (h2 : ∀ x y, 160 ≤ x → x < 163 → M'.1 x y = M.1 x y) (h3 : M'.1 151 2 = M.1 151 2) (h : CT M nu A nc cU cY cP) : CT M' nu A nc cU cY cP := by
  refine ⟨h.1, (h1 _ _ (by omega) (by omega)).trans h.2.1, h3.trans h.2.2.1, fun i hi => ?_⟩
  obtain ⟨a1, a2, a3, a4, a5, a6, a7, a8, a9, a10, a11⟩ := h.2.2.2 i hi
  exact ⟨a1, a2, a3, a4, a5, (h1 _ _ (by omega) (by omega)).trans a6, (h2 _ _ (by omega) (by omega)).trans a7, (h1 _ _ (by omega) (by omega)).trans a8, (h2 _ _ (by omega) (by omega)).trans a9, (h1 _ _ (by omega) (by omega)).trans a10, (h2 _ _ (by omega) (by omega)).trans a11⟩
theorem MP_keep {M M' : Mem} {mY : Nat → Nat} {mQ : Nat → Nat → Nat} (h1 : ∀ x y, 135 ≤ x → x < 143 → M'.1 x y = M.1 x y) (h2 : ∀ x y, 135 ≤ x → x < 143 → M'.2 x y = M.2 x y) (h3 : ∀ x y, 158 ≤ x → x < 160 → M'.1 x y = M.1 x y) (h : MP M mY mQ) : MP M' mY mQ := fun m hm => by
  obtain ⟨a1, a2, a3, a4, a5, a6⟩ := h m hm
  exact ⟨a1, (h1 _ _ (by omega) (by omega)).trans a2, (h3 _ _ (by omega) (by omega)).trans a3, a4, fun h hh => (h2 _ _ (by omega) (by omega)).trans (a5 h hh), fun c hc => (h3 _ _ (by omega) (by omega)).trans (a6 c hc)⟩
theorem SH_keep {M M' : Mem} {sB sN : Nat → Nat} (h1 : ∀ x y, 143 ≤ x → x < 151 → M'.1 x y = M.1 x y) (h3 : ∀ x y, 163 ≤ x → x < 166 → M'.1 x y = M.1 x y) (h : SH M sB sN) : SH M' sB sN := fun s hs => by
  obtain ⟨a1, a2, a3, a4, a5, a6, a7⟩ := h s hs
  refine ⟨a1, a2, (h1 _ _ (by omega) (by omega)).trans a3, (h3 _ _ (by omega) (by omega)).trans a4, (h1 _ _ (by omega) (by omega)).trans a5, (h3 _ _ (by omega) (by omega)).trans a6, fun j hj => ?_⟩
  rw [h1 _ _ (by omega) (by omega), h3 _ _ (by omega) (by omega)]
  exact a7 j hj
theorem J_keep {M M' : Mem} {nu : Nat} {A : AD} {nc : Nat} {cU cY cP mY : Nat → Nat} {mQ : Nat → Nat → Nat} {sB sN : Nat → Nat} {fc fr : Nat} (h1 : ∀ x y, x < 166 → ¬ (x = 0 ∧ y = 4) → M'.1 x y = M.1 x y) (h2 : ∀ x y, ¬ (x = 151 ∧ y = 3) → M'.2 x y = M.2 x y) (h : J M nu A nc cU cY cP mY mQ sB sN fc fr) {fc' fr' : Nat} (e4 : M'.1 0 4 = nI fc') (e3 : M'.2 151 3 = lN fr') : J M' nu A nc cU cY cP mY mQ sB sN fc' fr' := by
  obtain ⟨c, d, v, t, m, s, _, _⟩ := h
  exact ⟨CI_keep (fun x y _ _ => h1 x y (by omega) (by omega)) (fun x y _ _ => h2 x y (by omega)) c, RD_keep2 (fun x y _ _ _ => h1 x y (by omega) (by omega)) (fun y => h2 _ _ (by omega)) d, v, CT_keep (fun x y _ _ => h1 x y (by omega) (by omega)) (fun x y _ _ => h1 x y (by omega) (by omega)) (h1 _ _ (by omega) (by omega)) t, MP_keep (fun x y _ _ => h1 x y (by omega) (by omega)) (fun x y _ _ => h2 x y (by omega)) (fun x y _ _ => h1 x y (by omega) (by omega)) m, SH_keep (fun x y _ _ => h1 x y (by omega) (by omega)) (fun x y _ _ => h1 x y (by omega) (by omega)) s, e4, e3⟩
theorem J_ref {M : Mem} {nu : Nat} {A : AD} {nc : Nat} {cU cY cP mY : Nat → Nat} {mQ : Nat → Nat → Nat} {sB sN : Nat → Nat} {fc fr : Nat} (h : J M nu A nc cU cY cP mY mQ sB sN fc fr) : J (rfM M) nu A nc cU cY cP mY mQ sB sN (fc + 1) fr :=
  J_keep (M := M) (M' := rfM M) (fun x y _ p => by unfold rfM; rw [mi_1, if_neg p]) (fun x y _ => rfl) h (by unfold rfM; rw [mi_1, if_pos ⟨rfl, rfl⟩, h.2.2.2.2.2.2.1]; exact nI_1 fc) h.2.2.2.2.2.2.2
theorem J_tdM {M : Mem} {nu : Nat} {A : AD} {nc : Nat} {cU cY cP mY : Nat → Nat} {mQ : Nat → Nat → Nat} {sB sN : Nat → Nat} {fc fr : Nat} (h : J M nu A nc cU cY cP mY mQ sB sN fc fr) : J (tdM M) nu A nc cU cY cP mY mQ sB sN fc (fr + 1) :=
  J_keep (M := M) (M' := tdM M) (fun x y _ _ => rfl) (fun x y p => by unfold tdM; rw [ml_2, if_neg p]) h h.2.2.2.2.2.2.1 (by unfold tdM; rw [ml_2, if_pos ⟨rfl, rfl⟩, h.2.2.2.2.2.2.2]; exact lN_1 fr)
theorem J_D {M M' : Mem} {nu : Nat} {A : AD} {nc : Nat} {cU cY cP mY : Nat → Nat} {mQ : Nat → Nat → Nat} {sB sN : Nat → Nat} {fc fr : Nat} (f : FrD M M') (h : J M nu A nc cU cY cP mY mQ sB sN fc fr) : J M' nu A nc cU cY cP mY mQ sB sN fc fr :=
  J_keep (fun x y p _ => f.2 x y (by omega)) (fun x y _ => by rw [f.1]) h ((f.2 _ _ (by omega)).trans h.2.2.2.2.2.2.1) (by rw [f.1]; exact h.2.2.2.2.2.2.2)
/-- both refuse alike -/
theorem Ok_ref {t : Nat} {M : Mem} {nu : Nat} {A : AD} {nc : Nat} {cU cY cP mY : Nat → Nat} {mQ : Nat → Nat → Nat} {sB sN : Nat → Nat} {fi : Nat} (ht : fi ≤ t) (h : J M nu A nc cU cY cP mY mQ sB sN fi fi) {f g : Mem → Option (Int64 × Mem)} (k : Int64) (h1 : f M = some (k, rfM M)) (h2 : g (rfM M) = some (k, tdM (rfM M))) : Ok t M f g :=
  ⟨k, _, _, h1, h2, nu, A, nc, cU, cY, cP, mY, mQ, sB, sN, fi + 1, by omega, J_tdM (J_ref h)⟩
/-- the class refuses, and the reference when all is done -/
theorem Ok_refD {t : Nat} {M M' : Mem} {nu : Nat} {A : AD} {nc : Nat} {cU cY cP mY : Nat → Nat} {mQ : Nat → Nat → Nat} {sB sN : Nat → Nat} {fi : Nat} (ht : fi ≤ t) (h : J M nu A nc cU cY cP mY mQ sB sN fi fi) {f g : Mem → Option (Int64 × Mem)} (k : Int64) (h1 : f M = some (k, rfM M)) (hd : FrD (rfM M) M') (h2 : g (rfM M) = some (k, tdM M')) : Ok t M f g :=
  ⟨k, _, _, h1, h2, nu, A, nc, cU, cY, cP, mY, mQ, sB, sN, fi + 1, by omega, J_tdM (J_D hd (J_ref h))⟩
/-- an answer that changes nothing but the reference's own notes -/
theorem Ok_ans {t : Nat} {M M' : Mem} {nu : Nat} {A : AD} {nc : Nat} {cU cY cP mY : Nat → Nat} {mQ : Nat → Nat → Nat} {sB sN : Nat → Nat} {fi : Nat} (ht : fi ≤ t) (h : J M nu A nc cU cY cP mY mQ sB sN fi fi) {f g : Mem → Option (Int64 × Mem)} (r : Int64) (h1 : f M = some (r, M)) (hd : FrD M M') (h2 : g M = some (r, M')) : Ok t M f g :=
  ⟨r, _, _, h1, h2, nu, A, nc, cU, cY, cP, mY, mQ, sB, sN, fi, by omega, J_D hd h⟩
