theorem m5_8 : mk5 8 = 6148914691236517205 := by decide +kernel
theorem m3_8 : mk3 8 = 3689348814741910323 := by decide +kernel
theorem mf_8 : mkf 8 = 1085102592571150095 := by decide +kernel
theorem lA8 {n : Nat} (hn : n < 2 ^ 64) : pA 8 n < 2 ^ 64 := Nat.lt_of_le_of_lt (Nat.sub_le _ _) hn
theorem lB8 (x : Nat) : pB 8 x < 2 ^ 63 := by
  have b1 : x &&& mk3 8 ≤ mk3 8 := Nat.and_le_right
  have b2 : x / 4 &&& mk3 8 ≤ mk3 8 := Nat.and_le_right
  have b3 : pB 8 x ≤ mk3 8 + mk3 8 := Nat.add_le_add b1 b2
  rw [m3_8] at b3
  exact Nat.lt_of_le_of_lt b3 (by decide)
theorem ush (a k : Nat) (h1 : a < 2 ^ 64) (h2 : k < 64) : lushr (lN a) (nI k) = lN (a / 2 ^ k) := wb_shr h1 h2
theorem bc_core (n : Nat) (hn : n < 2 ^ 64) (c : Nat) (h3 : pcs 8 n < 2 ^ 64) (h4 : pcs 8 n + pcs 8 n / 256 < 2 ^ 64) (h5 : pcs 8 n + pcs 8 n / 256 + (pcs 8 n + pcs 8 n / 256) / 65536 < 2 ^ 64) (hc : (pcs 8 n + pcs 8 n / 256 + (pcs 8 n + pcs 8 n / 256) / 65536 + (pcs 8 n + pcs 8 n / 256 + (pcs 8 n + pcs 8 n / 256) / 65536) / 4294967296) % 128 = c) : fJ13_bitCount_95d88 (lN n) = some (nI c) := by
  unfold fJ13_bitCount_95d88
  simp only [lt_def]
  rw [fa_litL 6148914691236517205, fa_litL 3689348814741910323, fa_litL 1085102592571150095, ← m5_8, ← m3_8, ← mf_8]
  rw [show (1 : Int32) = nI 1 from rfl, ush n 1 hn (by decide), fb_andL, lN_sub (pA_le 8 n)]
  rw [show n - (n / 2 ^ 1 &&& mk5 8) = pA 8 n from rfl]
  rw [show (2 : Int32) = nI 2 from rfl, ush _ 2 (lA8 hn) (by decide), fb_andL, fb_andL, lN_add]
  rw [show (pA 8 n &&& mk3 8) + (pA 8 n / 2 ^ 2 &&& mk3 8) = pB 8 (pA 8 n) from rfl]
  rw [show (4 : Int32) = nI 4 from rfl, ush _ 4 (Nat.lt_trans (lB8 _) (by decide)) (by decide), lN_add, fb_andL]
  rw [show (pB 8 (pA 8 n) + pB 8 (pA 8 n) / 2 ^ 4) &&& mkf 8 = pC 8 (pB 8 (pA 8 n)) from rfl, (p_all 8 n).1]
  rw [show (8 : Int32) = nI 8 from rfl, ush _ 8 h3 (by decide), lN_add]
  rw [show pcs 8 n + pcs 8 n / 2 ^ 8 = pcs 8 n + pcs 8 n / 256 from rfl]
  rw [show (16 : Int32) = nI 16 from rfl, ush _ 16 h4 (by decide), lN_add]
  rw [show pcs 8 n + pcs 8 n / 256 + (pcs 8 n + pcs 8 n / 256) / 2 ^ 16 = pcs 8 n + pcs 8 n / 256 + (pcs 8 n + pcs 8 n / 256) / 65536 from rfl]
  rw [show (32 : Int32) = nI 32 from rfl, ush _ 32 h5 (by decide), lN_add, lN_i]
  rw [← hc]
  exact congrArg some (fa_mask _ 7)
theorem X_bitCount (x : Int64) : fJ13_bitCount_95d88 x = some (nI (pop x)) := by
  obtain ⟨n, hn, rfl⟩ := wb_of x
  have hlb : pop (lN n) = fb_ct (fun i => n.testBit i) 64 := by
    apply fb_ct_cong
    intro i hi
    show (lN n).toBitVec.getLsbD i = n.testBit i
    rw [wb_tb, BitVec.getLsbD_ofNat]
    simp [hi]
  obtain ⟨c0, c1, c2, c3, c4, c5, c6, c7, h0, h1, h2, h3, h4, h5, h6, h7, hp, hc⟩ := pcs8 n hn
  have f := p_fold c0 c1 c2 c3 c4 c5 c6 c7 h0 h1 h2 h3 h4 h5 h6 h7 (pcs 8 n) (pcs 8 n + pcs 8 n / 256) (pcs 8 n + pcs 8 n / 256 + (pcs 8 n + pcs 8 n / 256) / 65536) _ hp rfl rfl rfl
  exact bc_core n hn _ f.2.2.2.2 f.2.2.2.1 f.2.2.1 (f.1.trans (hc.symm.trans hlb.symm))
