/-! tools for the plain part: memory, guards, loops, bits of longs -/
theorem lt_def {α β : Type} (x : α) (K : α → β) : lt x K = K x := rfl
theorem mi_1 (M : Mem) (k j : Nat) (v : Int32) (a b : Nat) : (mi M k j v).1 a b = if a = k ∧ b = j then v else M.1 a b := rfl
theorem mi_2 (M : Mem) (k j : Nat) (v : Int32) : (mi M k j v).2 = M.2 := rfl
theorem ml_1 (M : Mem) (k j : Nat) (v : Int64) : (ml M k j v).1 = M.1 := rfl
theorem ml_2 (M : Mem) (k j : Nat) (v : Int64) (a b : Nat) : (ml M k j v).2 a b = if a = k ∧ b = j then v else M.2 a b := rfl
theorem mci_1 (M : Mem) (k0 k1 sp dp n a : Nat) : (mci M k0 k1 sp dp n).1 a = if a = k1 then va_cpy (M.1 k0) (M.1 k1) sp dp n else M.1 a := rfl
theorem mci_2 (M : Mem) (k0 k1 sp dp n : Nat) : (mci M k0 k1 sp dp n).2 = M.2 := rfl
theorem mcl_1 (M : Mem) (k0 k1 sp dp n : Nat) : (mcl M k0 k1 sp dp n).1 = M.1 := rfl
theorem mcl_2 (M : Mem) (k0 k1 sp dp n a : Nat) : (mcl M k0 k1 sp dp n).2 a = if a = k1 then va_cpy (M.2 k0) (M.2 k1) sp dp n else M.2 a := rfl
theorem gi_at {α : Type} {i n : Nat} {E : Option α} (h : i < n) (hn : n < 2 ^ 31) : gi (nI i) n E = E := by
  have e : (nI i).toInt = (i : Int) := nI_toInt (by omega)
  rw [gi, if_pos]
  rw [e]
  omega
theorem gi_x {α : Type} {x : Int32} {i n : Nat} {E : Option α} (hx : x = nI i) (h : i < n) (hn : n < 2 ^ 31) : gi x n E = E := by rw [hx]; exact gi_at h hn
theorem gb_0 {α : Type} {E : Option α} : gb 0 E = E := by rw [gb, if_pos (Or.inl rfl)]
theorem gb_1 {α : Type} {E : Option α} : gb 1 E = E := by rw [gb, if_pos (Or.inr rfl)]
theorem gb_if {α : Type} {c : Prop} {hc : Decidable c} {E : Option α} : gb (if c then 1 else 0) E = E := by
  by_cases z : c
  · rw [if_pos z]; exact gb_1
  · rw [if_neg z]; exact gb_0
theorem gd_at {α : Type} {c : Prop} {hc : Decidable c} {E : Option α} (h : c) : gd c hc E = E := by rw [gd, if_pos h]
theorem gz_at {α : Type} {x : Int32} {E : Option α} (h : ¬ x = 0) : gz x E = E := by rw [gz, if_neg h]
theorem gzl_at {α : Type} {x : Int64} {E : Option α} (h : ¬ x = 0) : gzl x E = E := by rw [gzl, if_neg h]
/-- a loop by the row of its states -/
theorem wh_from {S R : Type} {body : S → Option (S ⊕ R)} (st : Nat → S) (N : Nat) (r : R) (h1 : ∀ i, i < N → body (st i) = some (.inl (st (i + 1)))) (h2 : body (st N) = some (.inr r)) : ∀ k i, i + k = N → wh body (st i) = some r := by
  intro k
  induction k with
  | zero => intro i hi; have : i = N := by omega
            subst this; exact wh_inr h2
  | succ k ih => intro i hi; rw [wh_inl (h1 i (by omega))]; exact ih (i + 1) (by omega)
theorem wh_seq {S R : Type} {body : S → Option (S ⊕ R)} (st : Nat → S) (N : Nat) (r : R) (h1 : ∀ i, i < N → body (st i) = some (.inl (st (i + 1)))) (h2 : body (st N) = some (.inr r)) : wh body (st 0) = some r := wh_from st N r h1 h2 N 0 (by omega)
/-- the same with an invariant: each state is only known to exist -/
theorem wh_inv {S R : Type} {body : S → Option (S ⊕ R)} (I : Nat → S → Prop) (N : Nat) (Q : R → Prop) (h1 : ∀ i s, i < N → I i s → ∃ s', body s = some (.inl s') ∧ I (i + 1) s') (h2 : ∀ s, I N s → ∃ r, body s = some (.inr r) ∧ Q r) : ∀ k i s, i + k = N → I i s → ∃ r, wh body s = some r ∧ Q r := by
  intro k
  induction k with
  | zero =>
    intro i s hi hs
    have : i = N := by omega
    subst this
    obtain ⟨r, hr, hq⟩ := h2 s hs
    exact ⟨r, wh_inr hr, hq⟩
  | succ k ih =>
    intro i s hi hs
    obtain ⟨s', hb, hs'⟩ := h1 i s (by omega) hs
    rw [wh_inl hb]
    exact ih (i + 1) s' (by omega) hs'
/-- a loop that ends when a measure is used up -/
theorem wh_meas {S R : Type} {body : S → Option (S ⊕ R)} (I : S → Prop) (μ : S → Nat) (Q : R → Prop) (h1 : ∀ s, I s → (∃ r, body s = some (.inr r) ∧ Q r) ∨ ∃ s', body s = some (.inl s') ∧ I s' ∧ μ s' < μ s) : ∀ n s, μ s ≤ n → I s → ∃ r, wh body s = some r ∧ Q r := by
  intro n
  induction n with
  | zero =>
    intro s hn hs
    rcases h1 s hs with ⟨r, hb, hq⟩ | ⟨s', hb, hs', hm⟩
    · exact ⟨r, wh_inr hb, hq⟩
    · omega
  | succ n ih =>
    intro s hn hs
    rcases h1 s hs with ⟨r, hb, hq⟩ | ⟨s', hb, hs', hm⟩
    · exact ⟨r, wh_inr hb, hq⟩
    · rw [wh_inl hb]
      exact ih s' (by omega) hs'
theorem bnd_some {α β : Type} {x : α} {f : α → Option β} : Option.bind (some x) f = f x := rfl
/-! bits of longs -/
def lb (x : Int64) (i : Nat) : Bool := x.toBitVec.getLsbD i
theorem lb_ext {x y : Int64} (h : ∀ i, i < 64 → lb x i = lb y i) : x = y := Int64.toBitVec_inj.mp (BitVec.eq_of_getLsbD_eq (fun i hi => h i hi))
theorem lb_or (x y : Int64) (i : Nat) : lb (x ||| y) i = (lb x i || lb y i) := by unfold lb; rw [Int64.toBitVec_or, BitVec.getLsbD_or]
theorem lb_and (x y : Int64) (i : Nat) : lb (x &&& y) i = (lb x i && lb y i) := by unfold lb; rw [Int64.toBitVec_and, BitVec.getLsbD_and]
theorem lb_xor (x y : Int64) (i : Nat) : lb (x ^^^ y) i = (lb x i ^^ lb y i) := by unfold lb; rw [Int64.toBitVec_xor, BitVec.getLsbD_xor]
theorem lb_big {x : Int64} {i : Nat} (h : 64 ≤ i) : lb x i = false := BitVec.getLsbD_of_ge _ _ h
theorem lb_0 (i : Nat) : lb 0 i = false := BitVec.getLsbD_zero
theorem lb_m1 : ∀ i, i < 64 → lb (-1) i = true := by decide +kernel
theorem lb_1 (i : Nat) : lb 1 i = decide (i = 0) := by
  rcases Nat.lt_or_ge i 64 with h | h
  · exact (by decide +kernel : ∀ i, i < 64 → lb 1 i = decide (i = 0)) i h
  · rw [lb_big h, decide_eq_false (by omega)]
theorem lb_not (x : Int64) {i : Nat} (hi : i < 64) : lb (x ^^^ (-1)) i = !(lb x i) := by rw [lb_xor, lb_m1 i hi]; cases lb x i <;> rfl
theorem lb_all (i : Nat) : lb 68719476735 i = decide (i < 36) := by
  rcases Nat.lt_or_ge i 64 with h | h
  · exact (by decide +kernel : ∀ i, i < 64 → lb 68719476735 i = decide (i < 36)) i h
  · rw [lb_big h, decide_eq_false (by omega)]
theorem lb_ushr {k : Nat} (hk : k < 64) (x : Int64) (i : Nat) : lb (lushr x (nI k)) i = lb x (k + i) := by
  unfold lb lushr
  rw [wb_cu k hk]
  have h1 : (UInt64.ofNat k).toNat = k := by
    show (BitVec.ofNat 64 k).toNat = k
    rw [BitVec.toNat_ofNat, Nat.mod_eq_of_lt (by omega)]
  have e : (x.toUInt64 >>> UInt64.ofNat k).toInt64.toBitVec = x.toBitVec >>> k := by
    apply BitVec.eq_of_toNat_eq
    show (x.toUInt64 >>> UInt64.ofNat k).toNat = _
    rw [UInt64.toNat_shiftRight, h1, Nat.mod_eq_of_lt hk, BitVec.toNat_ushiftRight]
    rfl
  rw [e, BitVec.getLsbD_ushiftRight]
theorem lb_shl {k : Nat} (hk : k < 64) (x : Int64) {i : Nat} (hi : i < 64) : lb (lshl x (nI k)) i = (decide (k ≤ i) && lb x (i - k)) := by
  unfold lb lshl
  rw [wb_c k hk, Int64.toBitVec_shiftLeft, wb_tb, wb_sm k hk]
  have h1 : (BitVec.ofNat 64 k).toNat = k := by rw [BitVec.toNat_ofNat, Nat.mod_eq_of_lt (by omega)]
  rw [BitVec.shiftLeft_eq', h1, BitVec.getLsbD_shiftLeft]
  rcases Nat.lt_or_ge i k with h | h
  · simp [h, Nat.not_le.mpr h]
  · simp [hi, h, Nat.not_lt.mpr h]
theorem lb_shr {k : Nat} (hk : k < 64) (x : Int64) {i : Nat} (hi : i < 64) : lb (lshr x (nI k)) i = if k + i < 64 then lb x (k + i) else lb x 63 := by
  unfold lb lshr
  rw [wb_c k hk, Int64.toBitVec_shiftRight, wb_tb, wb_sm k hk]
  have h1 : (BitVec.ofNat 64 k).toNat = k := by rw [BitVec.toNat_ofNat, Nat.mod_eq_of_lt (by omega)]
  show (x.toBitVec.sshiftRight (BitVec.ofNat 64 k).toNat).getLsbD i = _
  rw [h1, BitVec.getLsbD_sshiftRight, BitVec.msb_eq_getLsbD_last]
  simp [hi]
theorem b2_ite (y : Int64) : y &&& 1 = if lb y 0 then 1 else 0 := by
  apply lb_ext
  intro i hi
  rw [lb_and, lb_1]
  by_cases h : i = 0
  · subst h
    cases hy : lb y 0 <;> simp [lb_0, lb_1]
  · cases hy : lb y 0 <;> simp [lb_0, lb_1, h]
theorem bit1 (x : Int64) {c : Nat} (hc : c < 64) : (lushr x (nI c)) &&& 1 = if lb x c then 1 else 0 := by rw [b2_ite, lb_ushr hc]; rfl
theorem bit1s (x : Int64) {c : Nat} (hc : c < 64) : (lshr x (nI c)) &&& 1 = if lb x c then 1 else 0 := by
  rw [b2_ite, lb_shr hc x (by omega), if_pos (show c + 0 < 64 by omega)]; rfl
theorem one_shl {c : Nat} (hc : c < 64) {i : Nat} (hi : i < 64) : lb (lshl 1 (nI c)) i = decide (i = c) := by
  rw [lb_shl hc 1 hi, lb_1]
  by_cases h : i = c
  · subst h; simp
  · rcases Nat.lt_or_ge i c with q | q
    · simp [h, Nat.not_le.mpr q]
    · have : ¬ i - c = 0 := by omega
      simp [h, this]
theorem cmp_bit1 (x : Int64) {c : Nat} (hc : c < 64) : lg_cmp ((lushr x (nI c)) &&& 1) 1 = 0 ↔ lb x c = true := by
  rw [lg_cmp_eq, bit1 x hc]
  cases lb x c <;> simp
theorem X3_has (x : Int64) {c : Nat} (hc : c < 64) : fX3_has x (nI c) = some (if lb x c then 1 else 0) := by
  unfold fX3_has
  by_cases h : lb x c = true
  · rw [if_pos ((cmp_bit1 x hc).mpr h), if_pos h]
  · rw [if_neg (fun q => h ((cmp_bit1 x hc).mp q)), if_neg h]
