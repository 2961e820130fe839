/-! Long.bitCount counts the bits -/
theorem and_split {k a b c d : Nat} (ha : a < 2 ^ k) (hc : c < 2 ^ k) : (a + 2 ^ k * b) &&& (c + 2 ^ k * d) = (a &&& c) + 2 ^ k * (b &&& d) := by
  have hlt : a &&& c < 2 ^ k := Nat.and_lt_two_pow _ hc
  apply Nat.eq_of_testBit_eq
  intro i
  rw [Nat.testBit_and, Nat.add_comm a, Nat.add_comm c, Nat.add_comm (a &&& c), Nat.testBit_two_pow_mul_add _ ha, Nat.testBit_two_pow_mul_add _ hc, Nat.testBit_two_pow_mul_add _ hlt]
  by_cases h : i < k
  · simp [h]
  · simp [h]
/-- the three masked steps, over k bytes -/
def mk5 : Nat → Nat
  | 0 => 0
  | k + 1 => 85 + 256 * mk5 k
def mk3 : Nat → Nat
  | 0 => 0
  | k + 1 => 51 + 256 * mk3 k
def mkf : Nat → Nat
  | 0 => 0
  | k + 1 => 15 + 256 * mkf k
def pA (k x : Nat) : Nat := x - ((x / 2) &&& mk5 k)
def pB (k x : Nat) : Nat := (x &&& mk3 k) + ((x / 4) &&& mk3 k)
def pC (k x : Nat) : Nat := (x + x / 16) &&& mkf k
def pc8 (x : Nat) : Nat := fb_ct (fun i => x.testBit i) 8
theorem pA_le (k x : Nat) : (x / 2) &&& mk5 k ≤ x := Nat.le_trans Nat.and_le_left (Nat.div_le_self x 2)
theorem pA_s (k lo hi : Nat) (h : lo < 256) : pA (k + 1) (lo + 256 * hi) = pA 1 lo + 256 * pA k hi ∧ pA 1 lo < 256 := by
  have e : (lo + 256 * hi) / 2 = (lo / 2 + 128 * (hi % 2)) + 2 ^ 8 * (hi / 2) := by omega
  have h1 : lo / 2 + 128 * (hi % 2) < 2 ^ 8 := by omega
  have key : ∀ l, l < 256 → ∀ b, b < 2 → (l / 2 + 128 * b) &&& 85 = (l / 2) &&& 85 := by decide +kernel
  have k2 := key lo h (hi % 2) (by omega)
  have e2 : mk5 (k + 1) = 85 + 2 ^ 8 * mk5 k := rfl
  have l1 := pA_le 1 lo
  have l2 := pA_le k hi
  have m1 : mk5 1 = 85 := rfl
  unfold pA
  rw [m1] at l1
  rw [e, e2, and_split h1 (by decide), k2, m1]
  constructor
  · omega
  · omega
theorem pB_s (k lo hi : Nat) (h : lo < 256) : pB (k + 1) (lo + 256 * hi) = pB 1 lo + 256 * pB k hi ∧ pB 1 lo < 256 := by
  have e : (lo + 256 * hi) / 4 = (lo / 4 + 64 * (hi % 4)) + 2 ^ 8 * (hi / 4) := by omega
  have h1 : lo / 4 + 64 * (hi % 4) < 2 ^ 8 := by omega
  have key : ∀ l, l < 256 → ∀ b, b < 4 → (l / 4 + 64 * b) &&& 51 = (l / 4) &&& 51 := by decide +kernel
  have k2 := key lo h (hi % 4) (by omega)
  have e2 : mk3 (k + 1) = 51 + 2 ^ 8 * mk3 k := rfl
  have m1 : mk3 1 = 51 := rfl
  have e3 : lo + 256 * hi = lo + 2 ^ 8 * hi := rfl
  have b1 : lo &&& 51 ≤ 51 := Nat.and_le_right
  have b2 : (lo / 4) &&& 51 ≤ 51 := Nat.and_le_right
  unfold pB
  rw [e, e2, e3, and_split h (by decide), and_split h1 (by decide), k2, m1]
  constructor
  · omega
  · omega
theorem pC_s (k lo hi : Nat) (h : lo < 256) (hx : lo + lo / 16 + 16 * (hi % 16) < 256) : pC (k + 1) (lo + 256 * hi) = pC 1 lo + 256 * pC k hi ∧ pC 1 lo < 256 := by
  have e : (lo + 256 * hi) + (lo + 256 * hi) / 16 = (lo + lo / 16 + 16 * (hi % 16)) + 2 ^ 8 * (hi + hi / 16) := by omega
  have key : ∀ l, l < 256 → ∀ b, b < 16 → (l + l / 16 + 16 * b) &&& 15 = (l + l / 16) &&& 15 := by decide +kernel
  have k2 := key lo h (hi % 16) (by omega)
  have e2 : mkf (k + 1) = 15 + 2 ^ 8 * mkf k := rfl
  have m1 : mkf 1 = 15 := rfl
  have b1 : (lo + lo / 16) &&& 15 ≤ 15 := Nat.and_le_right
  unfold pC
  rw [e, e2, and_split hx (by decide), k2, m1]
  constructor
  · omega
  · omega
theorem p_byte : ∀ l, l < 256 → pC 1 (pB 1 (pA 1 l)) = pc8 l ∧ pB 1 (pA 1 l) ≤ 68 ∧ pB 1 (pA 1 l) % 16 ≤ 4 ∧ pA 1 l < 256 ∧ pB 1 (pA 1 l) + pB 1 (pA 1 l) / 16 + 16 * 4 < 256 := by decide +kernel
/-- the row of bytes' counts -/
def pcs : Nat → Nat → Nat
  | 0, _ => 0
  | k + 1, x => pc8 (x % 256) + 256 * pcs k (x / 256)
theorem p_all : ∀ (k x : Nat), pC k (pB k (pA k x)) = pcs k x ∧ (0 < k → pB k (pA k x) % 16 ≤ 4)
  | 0, x => by
    constructor
    · simp [pC, mkf, pcs]
    · intro h; omega
  | k + 1, x => by
    have hx : x = x % 256 + 256 * (x / 256) := by omega
    have hl : x % 256 < 256 := by omega
    obtain ⟨ih1, ih2⟩ := p_all k (x / 256)
    obtain ⟨q1, q2, q3, q4, q5⟩ := p_byte (x % 256) hl
    have a := pA_s k (x % 256) (x / 256) hl
    have b := pB_s k (pA 1 (x % 256)) (pA k (x / 256)) a.2
    have hm : pB k (pA k (x / 256)) % 16 ≤ 4 := by
      cases k with
      | zero => simp [pB, mk3]
      | succ k => exact ih2 (by omega)
    have c := pC_s k (pB 1 (pA 1 (x % 256))) (pB k (pA k (x / 256))) b.2 (by omega)
    rw [← hx] at a
    constructor
    · rw [a.1, b.1, c.1, q1, ih1]; rfl
    · intro _
      rw [a.1, b.1]
      omega
theorem pc8_le (x : Nat) : pc8 x ≤ 8 := fb_ct_le _ 8
theorem dv1 (a X : Nat) (h : a < 256) : (a + 256 * X) / 256 = X := by omega
theorem dv2 (a b X : Nat) (h : a < 256) (h2 : b < 256) : (a + 256 * (b + 256 * X)) / 65536 = X := by
  rw [show 65536 = 256 * 256 from rfl, ← Nat.div_div_eq_div_mul, dv1 _ _ h, dv1 _ _ h2]
theorem dv4 (a b c d X : Nat) (h : a < 256) (h2 : b < 256) (h3 : c < 256) (h4 : d < 256) : (a + 256 * (b + 256 * (c + 256 * (d + 256 * X)))) / 4294967296 = X := by
  rw [show 4294967296 = 65536 * 65536 from rfl, ← Nat.div_div_eq_div_mul, dv2 _ _ _ h h2, dv2 _ _ _ h3 h4]
theorem sm2 (a X b Y : Nat) : (a + 256 * X) + (b + 256 * Y) = (a + b) + 256 * (X + Y) := by omega
theorem sm8 (a0 a1 a2 a3 a4 a5 a6 a7 b0 b1 b2 b3 b4 b5 b6 b7 : Nat) : (a0 + 256 * (a1 + 256 * (a2 + 256 * (a3 + 256 * (a4 + 256 * (a5 + 256 * (a6 + 256 * a7))))))) + (b0 + 256 * (b1 + 256 * (b2 + 256 * (b3 + 256 * (b4 + 256 * (b5 + 256 * (b6 + 256 * b7))))))) = (a0 + b0) + 256 * ((a1 + b1) + 256 * ((a2 + b2) + 256 * ((a3 + b3) + 256 * ((a4 + b4) + 256 * ((a5 + b5) + 256 * ((a6 + b6) + 256 * (a7 + b7))))))) := by
  rw [sm2, sm2, sm2, sm2, sm2, sm2, sm2]
theorem lt2 (a X K : Nat) (h : a < 256) (hX : X < K) : a + 256 * X < 256 * K := by omega
theorem lt8 (a0 a1 a2 a3 a4 a5 a6 a7 : Nat) (h0 : a0 < 256) (h1 : a1 < 256) (h2 : a2 < 256) (h3 : a3 < 256) (h4 : a4 < 256) (h5 : a5 < 256) (h6 : a6 < 256) (h7 : a7 < 256) : (a0 + 256 * (a1 + 256 * (a2 + 256 * (a3 + 256 * (a4 + 256 * (a5 + 256 * (a6 + 256 * a7))))))) < 2 ^ 64 :=
  lt2 _ _ (256 * (256 * (256 * (256 * (256 * (256 * 256)))))) h0 (lt2 _ _ _ h1 (lt2 _ _ _ h2 (lt2 _ _ _ h3 (lt2 _ _ _ h4 (lt2 _ _ _ h5 (lt2 _ _ _ h6 h7))))))
theorem md8 (a X : Nat) (h : a < 128) : (a + 256 * X) % 128 = a := by omega
theorem p_fold (c0 c1 c2 c3 c4 c5 c6 c7 : Nat) (h0 : c0 ≤ 8) (h1 : c1 ≤ 8) (h2 : c2 ≤ 8) (h3 : c3 ≤ 8) (h4 : c4 ≤ 8) (h5 : c5 ≤ 8) (h6 : c6 ≤ 8) (h7 : c7 ≤ 8) : ∀ (v3 v4 v5 v6 : Nat), v3 = c0 + 256 * (c1 + 256 * (c2 + 256 * (c3 + 256 * (c4 + 256 * (c5 + 256 * (c6 + 256 * c7)))))) → v4 = v3 + v3 / 256 → v5 = v4 + v4 / 65536 → v6 = v5 + v5 / 4294967296 → v6 % 128 = c0 + c1 + (c2 + c3) + (c4 + c5 + (c6 + c7)) ∧ v6 < 2 ^ 64 ∧ v5 < 2 ^ 64 ∧ v4 < 2 ^ 64 ∧ v3 < 2 ^ 64 := by
  have p0 : c0 < 256 := by omega
  have p1 : c1 < 256 := by omega
  have p2 : c2 < 256 := by omega
  have p3 : c3 < 256 := by omega
  have p4 : c4 < 256 := by omega
  have p5 : c5 < 256 := by omega
  have p6 : c6 < 256 := by omega
  have p7 : c7 < 256 := by omega
  have q0 : (c0 + c1) < 256 := by omega
  have q1 : (c1 + c2) < 256 := by omega
  have q2 : (c2 + c3) < 256 := by omega
  have q3 : (c3 + c4) < 256 := by omega
  have q4 : (c4 + c5) < 256 := by omega
  have q5 : (c5 + c6) < 256 := by omega
  have q6 : (c6 + c7) < 256 := by omega
  have q7 : (c7 + 0) < 256 := by omega
  have r0 : ((c0 + c1) + (c2 + c3)) < 256 := by omega
  have r1 : ((c1 + c2) + (c3 + c4)) < 256 := by omega
  have r2 : ((c2 + c3) + (c4 + c5)) < 256 := by omega
  have r3 : ((c3 + c4) + (c5 + c6)) < 256 := by omega
  have r4 : ((c4 + c5) + (c6 + c7)) < 256 := by omega
  have r5 : ((c5 + c6) + (c7 + 0)) < 256 := by omega
  have r6 : ((c6 + c7) + 0) < 256 := by omega
  have r7 : ((c7 + 0) + 0) < 256 := by omega
  have t0 : (((c0 + c1) + (c2 + c3)) + ((c4 + c5) + (c6 + c7))) < 256 := by omega
  have t1 : (((c1 + c2) + (c3 + c4)) + ((c5 + c6) + (c7 + 0))) < 256 := by omega
  have t2 : (((c2 + c3) + (c4 + c5)) + ((c6 + c7) + 0)) < 256 := by omega
  have t3 : (((c3 + c4) + (c5 + c6)) + ((c7 + 0) + 0)) < 256 := by omega
  have t4 : (((c4 + c5) + (c6 + c7)) + 0) < 256 := by omega
  have t5 : (((c5 + c6) + (c7 + 0)) + 0) < 256 := by omega
  have t6 : (((c6 + c7) + 0) + 0) < 256 := by omega
  have t7 : (((c7 + 0) + 0) + 0) < 256 := by omega
  have u0 : (((c0 + c1) + (c2 + c3)) + ((c4 + c5) + (c6 + c7))) < 128 := by omega
  intro v3 v4 v5 v6 e3 e4 e5 e6
  have x3 : v3 = (c0 + 256 * (c1 + 256 * (c2 + 256 * (c3 + 256 * (c4 + 256 * (c5 + 256 * (c6 + 256 * c7))))))) := e3
  have y3 : v3 / 256 = (c1 + 256 * (c2 + 256 * (c3 + 256 * (c4 + 256 * (c5 + 256 * (c6 + 256 * (c7 + 256 * 0))))))) := by rw [x3, dv1 _ _ p0]; rfl
  have x4 : v4 = ((c0 + c1) + 256 * ((c1 + c2) + 256 * ((c2 + c3) + 256 * ((c3 + c4) + 256 * ((c4 + c5) + 256 * ((c5 + c6) + 256 * ((c6 + c7) + 256 * (c7 + 0)))))))) := by rw [e4, y3, x3, sm8]
  have y4 : v4 / 65536 = ((c2 + c3) + 256 * ((c3 + c4) + 256 * ((c4 + c5) + 256 * ((c5 + c6) + 256 * ((c6 + c7) + 256 * ((c7 + 0) + 256 * (0 + 256 * 0))))))) := by rw [x4, dv2 _ _ _ q0 q1] <;> rfl
  have x5 : v5 = (((c0 + c1) + (c2 + c3)) + 256 * (((c1 + c2) + (c3 + c4)) + 256 * (((c2 + c3) + (c4 + c5)) + 256 * (((c3 + c4) + (c5 + c6)) + 256 * (((c4 + c5) + (c6 + c7)) + 256 * (((c5 + c6) + (c7 + 0)) + 256 * (((c6 + c7) + 0) + 256 * ((c7 + 0) + 0)))))))) := by rw [e5, y4, x4, sm8]
  have y5 : v5 / 4294967296 = (((c4 + c5) + (c6 + c7)) + 256 * (((c5 + c6) + (c7 + 0)) + 256 * (((c6 + c7) + 0) + 256 * (((c7 + 0) + 0) + 256 * (0 + 256 * (0 + 256 * (0 + 256 * 0))))))) := by rw [x5, dv4 _ _ _ _ _ r0 r1 r2 r3] <;> rfl
  have x6 : v6 = ((((c0 + c1) + (c2 + c3)) + ((c4 + c5) + (c6 + c7))) + 256 * ((((c1 + c2) + (c3 + c4)) + ((c5 + c6) + (c7 + 0))) + 256 * ((((c2 + c3) + (c4 + c5)) + ((c6 + c7) + 0)) + 256 * ((((c3 + c4) + (c5 + c6)) + ((c7 + 0) + 0)) + 256 * ((((c4 + c5) + (c6 + c7)) + 0) + 256 * ((((c5 + c6) + (c7 + 0)) + 0) + 256 * ((((c6 + c7) + 0) + 0) + 256 * (((c7 + 0) + 0) + 0)))))))) := by rw [e6, y5, x5, sm8]
  refine ⟨?_, ?_, ?_, ?_, ?_⟩
  · rw [x6, md8 _ _ u0]
  · rw [x6]; exact lt8 _ _ _ _ _ _ _ _ t0 t1 t2 t3 t4 t5 t6 t7
  · rw [x5]; exact lt8 _ _ _ _ _ _ _ _ r0 r1 r2 r3 r4 r5 r6 r7
  · rw [x4]; exact lt8 _ _ _ _ _ _ _ _ q0 q1 q2 q3 q4 q5 q6 q7
  · rw [x3]; exact lt8 _ _ _ _ _ _ _ _ p0 p1 p2 p3 p4 p5 p6 p7
theorem ct_bytes (x : Nat) : ∀ k, fb_ct (fun i => x.testBit i) (8 * k) = (match k with | 0 => 0 | k + 1 => pc8 (x % 256) + fb_ct (fun i => (x / 256).testBit i) (8 * k)) := by
  intro k
  cases k with
  | zero => rfl
  | succ k =>
    have e : 8 * (k + 1) = 8 + 8 * k := by omega
    rw [e, fb_ct_split]
    congr 1
    · apply fb_ct_cong
      intro i hi
      show x.testBit i = (x % 256).testBit i
      rw [show 256 = 2 ^ 8 from rfl, Nat.testBit_mod_two_pow]
      simp [hi]
    · apply fb_ct_cong
      intro i _
      show x.testBit (8 + i) = (x / 256).testBit i
      rw [show 256 = 2 ^ 8 from rfl, Nat.testBit_div_two_pow, Nat.add_comm]
def pop (x : Int64) : Nat := fb_ct (fun i => lb x i) 64
theorem pcs8 (x : Nat) (hx : x < 2 ^ 64) : ∃ c0 c1 c2 c3 c4 c5 c6 c7, c0 ≤ 8 ∧ c1 ≤ 8 ∧ c2 ≤ 8 ∧ c3 ≤ 8 ∧ c4 ≤ 8 ∧ c5 ≤ 8 ∧ c6 ≤ 8 ∧ c7 ≤ 8 ∧ pcs 8 x = c0 + 256 * (c1 + 256 * (c2 + 256 * (c3 + 256 * (c4 + 256 * (c5 + 256 * (c6 + 256 * c7)))))) ∧ fb_ct (fun i => x.testBit i) 64 = c0 + c1 + (c2 + c3) + (c4 + c5 + (c6 + c7)) := by
  refine ⟨pc8 (x % 256), pc8 (x / 256 % 256), pc8 (x / 256 / 256 % 256), pc8 (x / 256 / 256 / 256 % 256), pc8 (x / 256 / 256 / 256 / 256 % 256), pc8 (x / 256 / 256 / 256 / 256 / 256 % 256), pc8 (x / 256 / 256 / 256 / 256 / 256 / 256 % 256), pc8 (x / 256 / 256 / 256 / 256 / 256 / 256 / 256 % 256), pc8_le _, pc8_le _, pc8_le _, pc8_le _, pc8_le _, pc8_le _, pc8_le _, pc8_le _, ?_, ?_⟩
  · simp only [pcs, Nat.mul_zero, Nat.add_zero]
  · have e0 := ct_bytes x 8
    have e1 := ct_bytes (x / 256) 7
    have e2 := ct_bytes (x / 256 / 256) 6
    have e3 := ct_bytes (x / 256 / 256 / 256) 5
    have e4 := ct_bytes (x / 256 / 256 / 256 / 256) 4
    have e5 := ct_bytes (x / 256 / 256 / 256 / 256 / 256) 3
    have e6 := ct_bytes (x / 256 / 256 / 256 / 256 / 256 / 256) 2
    have e7 := ct_bytes (x / 256 / 256 / 256 / 256 / 256 / 256 / 256) 1
    have e8 := ct_bytes (x / 256 / 256 / 256 / 256 / 256 / 256 / 256 / 256) 0
    simp only [Nat.reduceMul, Nat.reduceAdd] at e0 e1 e2 e3 e4 e5 e6 e7 e8
    rw [e0, e1, e2, e3, e4, e5, e6, e7, e8]
    generalize pc8 (x % 256) = d0
    generalize pc8 (x / 256 % 256) = d1
    generalize pc8 (x / 256 / 256 % 256) = d2
    generalize pc8 (x / 256 / 256 / 256 % 256) = d3
    generalize pc8 (x / 256 / 256 / 256 / 256 % 256) = d4
    generalize pc8 (x / 256 / 256 / 256 / 256 / 256 % 256) = d5
    generalize pc8 (x / 256 / 256 / 256 / 256 / 256 / 256 % 256) = d6
    generalize pc8 (x / 256 / 256 / 256 / 256 / 256 / 256 / 256 % 256) = d7
    omega
