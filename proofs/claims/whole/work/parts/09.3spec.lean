/-! what the acts say, and the worlds that follow from them -/
abbrev AD : Type := Nat × (Nat → Nat) × (Nat → Nat) × (Nat → Nat) × (Nat → Nat) × (Nat → Nat → Bool) × (Nat → Nat)
def aN (A : AD) : Nat := A.1
def aK (A : AD) (a : Nat) : Nat := A.2.1 a
def aY (A : AD) (a : Nat) : Nat := A.2.2.1 a
def aO (A : AD) (a : Nat) : Nat := A.2.2.2.1 a
def aT (A : AD) (a : Nat) : Nat := A.2.2.2.2.1 a
def aS (A : AD) (a : Nat) : Nat → Bool := A.2.2.2.2.2.1 a
def uK (A : AD) (u : Nat) : Nat := A.2.2.2.2.2.2 u
def bef (A : AD) (b a : Nat) : Bool := decide (aY A b < aY A a ∨ (aY A b = aY A a ∧ b < a))
def plc (A : AD) (a : Nat) : Nat := fb_ct (fun b => bef A b a) (aN A)
def ordA (A : AD) (n : Nat) : Nat := fa_first (fun a => plc A a == n) (aN A)
def w0 : Wd := (fun _ => 10, fun _ => false, fun _ => 10)
def anyc (p : Nat → Bool) : Bool := decide (0 < fb_ct p 36)
theorem anyc_iff {p : Nat → Bool} : anyc p = true ↔ ∃ c, c < 36 ∧ p c = true := by
  unfold anyc
  rw [decide_eq_true_iff]
  exact fb_ct_pos
theorem anyc_0 {p : Nat → Bool} : anyc p = false ↔ cset p = 0 := by
  rw [cset_0]
  constructor
  · intro h i hi
    cases hp : p i with
    | false => rfl
    | true => have := anyc_iff.mpr ⟨i, hi, hp⟩; rw [h] at this; cases this
  · intro h
    cases hp : anyc p with
    | false => rfl
    | true => obtain ⟨c, hc, hq⟩ := anyc_iff.mp hp; rw [h c hc] at hq; cases hq
/-- cells that a turning back gives back -/
def bkc (was gave : Nat → Nat) (w : Wd) (c : Nat) : Bool := !(was c == gave c) && (w.1 c == gave c) && ((was c == 10) || w.2.1 (was c))
/-- the world behind act a, done at place n over the worlds h; and whether it was VOID -/
def stp (A : AD) (h : Nat → Wd) (n a : Nat) : Wd × Bool :=
  if aK A a = 0 then
    (if (h n).2.1 (aO A a) then (h n, true) else ((fun c => if aS A a c then aO A a else (h n).1 c, fun x => if x = aO A a then true else (h n).2.1 x, (h n).2.2), false))
  else if aK A a = 1 then
    (if (h n).2.1 (aO A a) && (h n).2.1 (aT A a) && anyc (fun c => aS A a c && ((h n).1 c == aO A a)) then ((fun c => if aS A a c && ((h n).1 c == aO A a) then aT A a else (h n).1 c, (h n).2), false) else (h n, true))
  else if aK A a = 2 then
    (if (h n).2.1 (aO A a) && (h n).2.1 (aT A a) && !(uK A (aO A a) == 2) then ((fun c => if (h n).1 c == aO A a then aT A a else (h n).1 c, fun x => if x = aO A a then false else (h n).2.1 x, fun x => if x = aO A a then 10 else (h n).2.2 x), false) else (h n, true))
  else if aK A a = 3 then
    (if anyc (bkc (h (plc A (aO A a))).1 (h (plc A (aO A a) + 1)).1 (h n)) then ((fun c => if bkc (h (plc A (aO A a))).1 (h (plc A (aO A a) + 1)).1 (h n) c then (h (plc A (aO A a))).1 c else (h n).1 c, (h n).2), false) else (h n, true))
  else
    (if (h n).2.1 (aO A a) then (((h n).1, (h n).2.1, fun x => if x = aO A a then aT A a else (h n).2.2 x), false) else (h n, true))
def wdl (A : AD) : Nat → Nat → Wd
  | 0 => fun _ => w0
  | n + 1 => fun k => if k ≤ n then wdl A n k else (stp A (wdl A n) n (ordA A n)).1
/-- the world behind the first n acts in their order -/
def wd (A : AD) (n : Nat) : Wd := wdl A n n
theorem wdl_le (A : AD) : ∀ (n k : Nat), k ≤ n → wdl A n k = wd A k
  | 0, k, h => by have : k = 0 := by omega
                  subst this; rfl
  | n + 1, k, h => by
    rcases Nat.lt_or_ge k (n + 1) with q | q
    · have e : wdl A (n + 1) k = wdl A n k := by
        show (if k ≤ n then wdl A n k else _) = _
        rw [if_pos (by omega)]
      rw [e]
      exact wdl_le A n k (by omega)
    · have : k = n + 1 := by omega
      subst this; rfl
theorem stp_cong (A : AD) {h h' : Nat → Wd} {n a : Nat} (e : ∀ k, k ≤ n → h k = h' k) (hb : aK A a = 3 → plc A (aO A a) + 1 ≤ n) : stp A h n a = stp A h' n a := by
  unfold stp
  rw [e n (Nat.le_refl n)]
  by_cases k3 : aK A a = 3
  · rw [e _ (hb k3), e _ (Nat.le_of_succ_le (hb k3))]
  · by_cases k0 : aK A a = 0
    · rw [if_pos k0, if_pos k0]
    · by_cases k1 : aK A a = 1
      · rw [if_neg k0, if_pos k1, if_neg k0, if_pos k1]
      · by_cases k2 : aK A a = 2
        · rw [if_neg k0, if_neg k1, if_pos k2, if_neg k0, if_neg k1, if_pos k2]
        · rw [if_neg k0, if_neg k1, if_neg k2, if_neg k3, if_neg k0, if_neg k1, if_neg k2, if_neg k3]
theorem wd_s (A : AD) (n : Nat) (hb : aK A (ordA A n) = 3 → plc A (aO A (ordA A n)) + 1 ≤ n) : wd A (n + 1) = (stp A (wd A) n (ordA A n)).1 := by
  show (if n + 1 ≤ n then wdl A n (n + 1) else (stp A (wdl A n) n (ordA A n)).1) = _
  rw [if_neg (by omega), stp_cong A (h' := wd A) (fun k hk => wdl_le A n k hk) hb]
/-- which cells change hands -/
def chg (w w' : Wd) (c : Nat) : Bool := !(w'.1 c == w.1 c)
/-! the class does an act on its moment m -/
def Fr (M M' : Mem) (m a : Nat) : Prop := (∀ x y, ¬ (x = 36 + 3 * m ∧ y = 2) → ¬ (x = 38 + 3 * m) → M'.1 x y = M.1 x y) ∧ ∀ x y, ¬ x = 37 + 3 * m → ¬ (x = 6 + a ∧ y = 7) → M'.2 x y = M.2 x y
theorem Fr.rf {M : Mem} {m a : Nat} : Fr M M m a := ⟨fun _ _ _ _ => rfl, fun _ _ _ _ => rfl⟩
theorem Fr.tr {M M' M'' : Mem} {m a : Nat} (h : Fr M M' m a) (h' : Fr M' M'' m a) : Fr M M'' m a := ⟨fun x y p q => (h'.1 x y p q).trans (h.1 x y p q), fun x y p q => (h'.2 x y p q).trans (h.2 x y p q)⟩
theorem Fr.msl {M : Mem} {m a N : Nat} {f : Nat → Int64} : Fr M (msl M (37 + 3 * m) N f) m a := ⟨fun _ _ _ _ => rfl, fun x y p _ => by rw [msl_2, if_neg (fun z => p z.1)]⟩
theorem Fr.mi2 {M : Mem} {m a : Nat} {v : Int32} : Fr M (mi M (36 + 3 * m) 2 v) m a := ⟨fun x y p _ => by rw [mi_1, if_neg p], fun _ _ _ _ => rfl⟩
theorem Fr.miU {M : Mem} {m a u : Nat} {v : Int32} : Fr M (mi M (38 + 3 * m) u v) m a := ⟨fun x y _ p => by rw [mi_1, if_neg (fun z => p z.1)], fun _ _ _ _ => rfl⟩
theorem Fr.ml7 {M : Mem} {m a : Nat} {v : Int64} : Fr M (ml M (6 + a) 7 v) m a := ⟨fun _ _ _ _ => rfl, fun x y _ p => by rw [ml_2, if_neg p]⟩
theorem Fr.a1 {M M' : Mem} {m a : Nat} (h : Fr M M' m a) {b y : Nat} (hb : b < 30) : M'.1 (6 + b) y = M.1 (6 + b) y := h.1 _ _ (fun z => absurd z.1 (by omega)) (by omega)
theorem Fr.a2 {M M' : Mem} {m a : Nat} (h : Fr M M' m a) {b y : Nat} (hb : b < 30) (hy : ¬ (b = a ∧ y = 7)) : M'.2 (6 + b) y = M.2 (6 + b) y := h.2 _ _ (by omega) (fun z => hy ⟨by omega, z.2⟩)
theorem Fr.mr {M M' : Mem} {m a n : Nat} {w : Wd} (h : Fr M M' m a) (ha : a < 30) (hn : n ≠ m) (r : MR M n w) : MR M' n w := MR_keep r (fun u _ => h.2 _ _ (by omega) (fun z => absurd z.1 (by omega))) (h.1 _ _ (fun z => absurd z.1 (by omega)) (by omega)) (fun u _ => h.1 _ _ (fun z => absurd z.1 (by omega)) (by omega))
theorem MR_ml7 {M : Mem} {n a : Nat} {w : Wd} {v : Int64} (ha : a < 30) (h : MR M n w) : MR (ml M (6 + a) 7 v) n w := MR_keep h (fun u _ => by rw [ml_2, if_neg (fun z => absurd z.1 (by omega))]) rfl (fun _ _ => rfl)
theorem MR_ext {M : Mem} {n : Nat} {w w' : Wd} (h : MR M n w) (h1 : ∀ c, c < 36 → w'.1 c = w.1 c) (h2 : ∀ u, u < 10 → w'.2.1 u = w.2.1 u) (h3 : ∀ u, u < 10 → w'.2.2 u = w.2.2 u) : MR M n w' :=
  ⟨fun u hu => by rw [h.1 u hu]; exact cset_cong (fun c hc => by rw [h1 c hc]), fun u hu => by rw [h.2.1 u hu, h2 u hu], fun u hu => by rw [h.2.2.1 u hu, h3 u hu], fun c hc => by rw [h1 c hc]; exact h.2.2.2 c hc⟩
theorem X2_found {M : Mem} {m a one : Nat} {w : Wd} {S : Nat → Bool} (hm : m < 31) (ha : a < 30) (h : MR M m w) (h1 : one < 10) (e1 : M.1 (6 + a) 2 = nI one) (e2 : M.2 (6 + a) 4 = cset S) (e7 : M.2 (6 + a) 7 = 0) :
    ∃ M', fX2_performFound (6 + a) (36 + 3 * m) M = some (if w.2.1 one then 0 else 1, M') ∧ Fr M M' m a ∧
      (if w.2.1 one then M' = M else MR M' m (fun c => if S c then one else w.1 c, fun x => if x = one then true else w.2.1 x, w.2.2) ∧ M'.2 (6 + a) 7 = cset (fun c => S c && !(w.1 c == one))) := by
  unfold fX2_performFound
  rw [e1, X4_isThere h h1, bnd_some]
  by_cases t : w.2.1 one = true
  · rw [if_pos t, if_pos t, if_neg (by decide)]
    exact ⟨M, rfl, Fr.rf, by rw [if_pos t]⟩
  · rw [if_neg t, if_neg t, if_pos rfl, X4_arrive h1, bnd_some]
    have hA := MR_arrive h h1
    generalize hM1 : mi M (36 + 3 * m) 2 ((M.1 (36 + 3 * m) 2) ||| ((1 : Int32) <<< (nI one &&& 31))) = M1 at hA
    have f1 : Fr M M1 m a := by rw [← hM1]; exact Fr.mi2
    rw [f1.a1 ha, e1, X4_heldBy hm hA (by omega), bnd_some]
    simp only [lt_def]
    rw [f1.a2 ha (by omega), e2, cset_diff]
    have hB := MR_ml7 (v := cset (fun c => S c && !(w.1 c == one))) ha hA
    generalize hM5 : ml M1 (6 + a) 7 (cset (fun c => S c && !(w.1 c == one))) = M5 at hB
    have f5 : Fr M M5 m a := f1.tr (by rw [← hM5]; exact Fr.ml7)
    have e5 : M5.2 (6 + a) 7 = cset (fun c => S c && !(w.1 c == one)) := by rw [← hM5, ml_2, if_pos ⟨rfl, rfl⟩]
    rw [e5, f5.a1 ha, e1, X4_give hm hB _ (by omega), bnd_some]
    have hC := MR_give hB (fun c => S c && !(w.1 c == one)) (v := one) (by omega)
    refine ⟨_, rfl, f5.tr Fr.msl, ?_⟩
    rw [if_neg t]
    refine ⟨MR_ext hC (fun c _ => ?_) (fun _ _ => rfl) (fun _ _ => rfl), ?_⟩
    · show (if S c then one else w.1 c) = (if (S c && !(w.1 c == one)) then one else w.1 c)
      by_cases q : w.1 c = one
      · cases S c <;> simp [q]
      · cases S c <;> simp [q]
    · rw [msl_2, if_neg (fun z => absurd z.1 (by omega))]
      exact e5
