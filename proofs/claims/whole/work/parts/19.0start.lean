/-! both constructors give what is kept -/
theorem Inv_up {t : Nat} {M : Mem} (h : Inv t M) : Inv (t + 1) M := by
  obtain ⟨nu, A, nc, cU, cY, cP, mY, mQ, sB, sN, f, hf, j⟩ := h
  exact ⟨nu, A, nc, cU, cY, cP, mY, mQ, sB, sN, f, by omega, j⟩
theorem m0_z : ∀ x, x < 174 → (¬ (36 ≤ x ∧ x < 129 ∧ x % 3 = 2) ∧ ¬ (135 ≤ x ∧ x < 143 ∧ x % 2 = 1) ∧ ¬ x = 158 ∧ ¬ x = 159) → ∀ y, M0.1 x y = 0 := by
  intro x _ h y
  show (if 36 ≤ x ∧ x < 129 ∧ x % 3 = 2 then _ else _) = _
  rw [if_neg h.1, if_neg (fun z => h.2.1 ⟨z.1, z.2.1, z.2.2.1⟩), if_neg h.2.2.1, if_neg h.2.2.2]
theorem m0_38 : ∀ u, u < 10 → M0.1 (38 + 3 * 0) u = nI 10 := by decide +kernel
theorem m0_mY : ∀ m, m < 4 → M0.1 (135 + 2 * m) 1 = nI 1000 := by decide +kernel
theorem m0_158 : ∀ m, m < 4 → M0.1 158 m = nI 1000 := by decide +kernel
theorem m0_159 : ∀ k, k < 144 → M0.1 159 k = -1 := by decide +kernel
theorem m0_2 (x y : Nat) : M0.2 x y = 0 := rfl
theorem bt_0 : ∀ u, u < 10 → bt 0 u = false := by decide +kernel
def A0 : AD := (0, fun _ => 0, fun _ => 0, fun _ => 0, fun _ => 0, fun _ _ => false, fun _ => 0)
theorem A0_n : aN A0 = 0 := rfl
theorem Inv_0 : Inv 0 M0 := by
  have z0 : ∀ {α : Prop} {a : Nat}, a < aN A0 → α := fun {_ _} h => absurd h (by rw [A0_n]; omega)
  refine ⟨0, A0, 0, fun _ => 0, fun _ => 0, fun _ => 0, fun _ => 1000, fun _ _ => 11, fun _ => 0, fun _ => 0, 0, Nat.le_refl 0, ⟨?_, ?_, fun a ha => z0 ha, fun k hk => ?_, fun b hb => z0 hb⟩, ⟨?_, ?_, ?_, fun a ha => z0 ha⟩, fun a ha => z0 ha, ⟨by omega, ?_, ?_, fun i hi => absurd hi (by omega)⟩, fun m hm => ⟨⟨Nat.le_refl 1000, (show (1000 : Nat) ≤ 1999 by decide)⟩, m0_mY m hm, m0_158 m hm, fun _ _ => Nat.le_refl 11, fun h hh => ?_, fun c hc => ?_⟩, fun s hs => ⟨Or.inl rfl, Nat.zero_le 36, ?_, ?_, ?_, ?_, fun k hk => ?_⟩, ?_, ?_⟩
  · exact ⟨by omega, by rw [A0_n]; omega, fun u hu => absurd hu (by omega), fun a ha => z0 ha⟩
  · exact ⟨m0_z 1 (by omega) (by omega) 4, fun u hu => absurd hu (by omega), m0_z 1 (by omega) (by omega) 5, fun a ha => z0 ha⟩
  · have k0 : k = 0 := by rw [A0_n] at hk; omega
    subst k0
    refine ⟨fun u hu => ?_, fun u hu => ?_, fun u hu => m0_38 u hu, fun c _ => Nat.le_refl 10⟩
    · rw [m0_2]
      exact (cset_0.mpr (fun c _ => bq (show ¬ (10 : Nat) = u by omega))).symm
    · rw [m0_z (36 + 3 * 0) (by omega) (by omega) 2]
      exact bt_0 u hu
  · exact m0_z 151 (by omega) (by omega) 0
  · exact fun u hu => absurd hu (by omega)
  · exact m0_z 151 (by omega) (by omega) 1
  · exact m0_z 129 (by omega) (by omega) 3
  · exact m0_z 151 (by omega) (by omega) 2
  · rw [m0_2]
    exact (cset_0.mpr (fun c _ => bq (show ¬ (11 : Nat) = h by omega))).symm
  · rw [m0_159 (36 * m + c) (by omega)]
    rfl
  · exact m0_z (143 + 2 * s) (by omega) (by omega) 1
  · exact m0_z 163 (by omega) (by omega) s
  · exact m0_z (143 + 2 * s) (by omega) (by omega) 2
  · exact m0_z 164 (by omega) (by omega) s
  · rw [m0_z (144 + 2 * s) (by omega) (by omega) k, m0_z 165 (by omega) (by omega) (36 * s + k)]
    exact fun _ _ => Iff.rfl
  · exact m0_z 0 (by omega) (by omega) 4
  · rfl
