/-! a step of the law -/
theorem law_end {L t : Nat} (hL : L ≤ 3072) (ht : t < 10000) : (nI L) - (6 : Int32) < nI t ↔ L < t + 6 := by
  have e : (nI L - nI 6).toInt = (L : Int) - (6 : Nat) := pk_sub_toInt (by omega) (by decide)
  rw [show (6 : Int32) = nI 6 from rfl, fa_lt, e, nI_toInt (by omega)]
  omega
set_option maxHeartbeats 4000000 in
set_option maxRecDepth 100000 in
theorem law_step {xs : Nat → Int32} {L t : Nat} {M : Mem} (hL : L ≤ 3072) (ht : 6 * t + 6 ≤ L) (h : Inv t M) : ∃ M2, wL_law_18 xs L (nI (6 * t), M) = some (.inl (nI (6 * (t + 1)), M2)) ∧ Inv (t + 1) M2 := by
  have a1 : nI (6 * t) + (1 : Int32) = nI (6 * t + 1) := nI_add _ 1
  have a2 : nI (6 * t) + (2 : Int32) = nI (6 * t + 2) := nI_add _ 2
  have a3 : nI (6 * t) + (3 : Int32) = nI (6 * t + 3) := nI_add _ 3
  have a4 : nI (6 * t) + (4 : Int32) = nI (6 * t + 4) := nI_add _ 4
  have a5 : nI (6 * t) + (5 : Int32) = nI (6 * t + 5) := nI_add _ 5
  have a6 : nI (6 * t) + (6 : Int32) = nI (6 * (t + 1)) := nI_add _ 6
  have c0 : (nI (6 * t)).toNatClampNeg = 6 * t := nI_clamp (by omega)
  have g0 : ∀ {α : Type} {E : Option α}, gi (nI (6 * t)) L E = E := fun {_ _} => gi_at (by omega) (by omega)
  have c1 : (nI (6 * t + 1)).toNatClampNeg = 6 * t + 1 := nI_clamp (by omega)
  have g1 : ∀ {α : Type} {E : Option α}, gi (nI (6 * t + 1)) L E = E := fun {_ _} => gi_at (by omega) (by omega)
  have c2 : (nI (6 * t + 2)).toNatClampNeg = 6 * t + 2 := nI_clamp (by omega)
  have g2 : ∀ {α : Type} {E : Option α}, gi (nI (6 * t + 2)) L E = E := fun {_ _} => gi_at (by omega) (by omega)
  have c3 : (nI (6 * t + 3)).toNatClampNeg = 6 * t + 3 := nI_clamp (by omega)
  have g3 : ∀ {α : Type} {E : Option α}, gi (nI (6 * t + 3)) L E = E := fun {_ _} => gi_at (by omega) (by omega)
  have c4 : (nI (6 * t + 4)).toNatClampNeg = 6 * t + 4 := nI_clamp (by omega)
  have g4 : ∀ {α : Type} {E : Option α}, gi (nI (6 * t + 4)) L E = E := fun {_ _} => gi_at (by omega) (by omega)
  have c5 : (nI (6 * t + 5)).toNatClampNeg = 6 * t + 5 := nI_clamp (by omega)
  have g5 : ∀ {α : Type} {E : Option α}, gi (nI (6 * t + 5)) L E = E := fun {_ _} => gi_at (by omega) (by omega)
  unfold wL_law_18
  dsimp only
  simp only [a1, a2, a3, a4, a5, a6, lt_def, c0, c1, c2, c3, c4, c5, g0, g1, g2, g3, g4, g5]
  rw [if_neg (fun z => absurd ((law_end hL (by omega)).mp z) (by omega))]
  generalize (xs (6 * t)) &&& (31 : Int32) = op
  generalize xs (6 * t + 1) = y1
  generalize xs (6 * t + 2) = y2
  generalize xs (6 * t + 3) = y3
  generalize xs (6 * t + 4) = y4
  generalize xs (6 * t + 5) = y5
  have fin : ∀ r : Int64, lg_cmp r r = 0 := fun r => (lg_cmp_eq r r).mpr rfl
  by_cases e0 : op = 0
  · obtain ⟨r, M1, M2, h1, h2, h3⟩ := S_unit h y1
    refine ⟨M2, ?_, h3⟩
    rw [if_pos e0, h1, bnd_some, h2, bnd_some, if_pos (fin r)]
  rw [if_neg e0]
  by_cases e1 : op = 1
  · obtain ⟨r, M1, M2, h1, h2, h3⟩ := S_as h y1 y2
    refine ⟨M2, ?_, h3⟩
    rw [if_pos e1, h1, bnd_some, h2, bnd_some, if_pos (fin r)]
  rw [if_neg e1]
  by_cases e2 : op = 2
  · obtain ⟨r, M1, M2, h1, h2, h3⟩ := S_found h y1 y2 ((lshl y3.toInt64 (32 : Int32)) ||| (y4.toInt64 &&& (4294967295 : Int64)))
    refine ⟨M2, ?_, h3⟩
    rw [if_pos e2, h1, bnd_some, h2, bnd_some, if_pos (fin r)]
  rw [if_neg e2]
  by_cases e3 : op = 3
  · obtain ⟨r, M1, M2, h1, h2, h3⟩ := S_move h y1 y2 y3 ((lshl y4.toInt64 (32 : Int32)) ||| (y5.toInt64 &&& (4294967295 : Int64)))
    refine ⟨M2, ?_, h3⟩
    rw [if_pos e3, h1, bnd_some, h2, bnd_some, if_pos (fin r)]
  rw [if_neg e3]
  by_cases e4 : op = 4
  · obtain ⟨r, M1, M2, h1, h2, h3⟩ := S_swallow h y1 y2 y3
    refine ⟨M2, ?_, h3⟩
    rw [if_pos e4, h1, bnd_some, h2, bnd_some, if_pos (fin r)]
  rw [if_neg e4]
  by_cases e5 : op = 5
  · obtain ⟨r, M1, M2, h1, h2, h3⟩ := S_back h y1 y2
    refine ⟨M2, ?_, h3⟩
    rw [if_pos e5, h1, bnd_some, h2, bnd_some, if_pos (fin r)]
  rw [if_neg e5]
  by_cases e6 : op = 6
  · obtain ⟨r, M1, M2, h1, h2, h3⟩ := S_join h y1 y2 y3
    refine ⟨M2, ?_, h3⟩
    rw [if_pos e6, h1, bnd_some, h2, bnd_some, if_pos (fin r)]
  rw [if_neg e6]
  by_cases e7 : op = 7
  · obtain ⟨r, M1, M2, h1, h2, h3⟩ := S_act h y1 y2
    refine ⟨M2, ?_, h3⟩
    rw [if_pos e7, h1, bnd_some, h2, bnd_some, if_pos (fin r)]
  rw [if_neg e7]
  by_cases e8 : op = 8
  · obtain ⟨r, M1, M2, h1, h2, h3⟩ := S_untell h 
    refine ⟨M2, ?_, h3⟩
    rw [if_pos e8, h1, bnd_some, h2, bnd_some, if_pos (fin r)]
  rw [if_neg e8]
  by_cases e9 : op = 9
  · obtain ⟨r, M1, M2, h1, h2, h3⟩ := S_who h y1 y2
    refine ⟨M2, ?_, h3⟩
    rw [if_pos e9, h1, bnd_some, h2, bnd_some, if_pos (fin r)]
  rw [if_neg e9]
  by_cases e10 : op = 10
  · obtain ⟨r, M1, M2, h1, h2, h3⟩ := S_there h y1 y2
    refine ⟨M2, ?_, h3⟩
    rw [if_pos e10, h1, bnd_some, h2, bnd_some, if_pos (fin r)]
  rw [if_neg e10]
  by_cases e11 : op = 11
  · obtain ⟨r, M1, M2, h1, h2, h3⟩ := S_cells h y1 y2
    refine ⟨M2, ?_, h3⟩
    rw [if_pos e11, h1, bnd_some, h2, bnd_some, if_pos (fin r)]
  rw [if_neg e11]
  by_cases e12 : op = 12
  · obtain ⟨r, M1, M2, h1, h2, h3⟩ := S_shape h y1 y2 y3
    refine ⟨M2, ?_, h3⟩
    rw [if_pos e12, h1, bnd_some, h2, bnd_some, if_pos (fin r)]
  rw [if_neg e12]
  by_cases e13 : op = 13
  · obtain ⟨r, M1, M2, h1, h2, h3⟩ := S_under h y1 y2
    refine ⟨M2, ?_, h3⟩
    rw [if_pos e13, h1, bnd_some, h2, bnd_some, if_pos (fin r)]
  rw [if_neg e13]
  by_cases e14 : op = 14
  · obtain ⟨r, M1, M2, h1, h2, h3⟩ := S_led h y1 y2 y3
    refine ⟨M2, ?_, h3⟩
    rw [if_pos e14, h1, bnd_some, h2, bnd_some, if_pos (fin r)]
  rw [if_neg e14]
  by_cases e15 : op = 15
  · obtain ⟨r, M1, M2, h1, h2, h3⟩ := S_borders h y1
    refine ⟨M2, ?_, h3⟩
    rw [if_pos e15, h1, bnd_some, h2, bnd_some, if_pos (fin r)]
  rw [if_neg e15]
  by_cases e16 : op = 16
  · obtain ⟨r, M1, M2, h1, h2, h3⟩ := S_changes h y1 y2
    refine ⟨M2, ?_, h3⟩
    rw [if_pos e16, h1, bnd_some, h2, bnd_some, if_pos (fin r)]
  rw [if_neg e16]
  by_cases e17 : op = 17
  · obtain ⟨r, M1, M2, h1, h2, h3⟩ := S_map h y1 y2
    refine ⟨M2, ?_, h3⟩
    rw [if_pos e17, h1, bnd_some, h2, bnd_some, if_pos (fin r)]
  rw [if_neg e17]
  by_cases e18 : op = 18
  · obtain ⟨r, M1, M2, h1, h2, h3⟩ := S_claim h y1 y2 y3
    refine ⟨M2, ?_, h3⟩
    rw [if_pos e18, h1, bnd_some, h2, bnd_some, if_pos (fin r)]
  rw [if_neg e18]
  by_cases e19 : op = 19
  · obtain ⟨r, M1, M2, h1, h2, h3⟩ := S_read h y1 y2
    refine ⟨M2, ?_, h3⟩
    rw [if_pos e19, h1, bnd_some, h2, bnd_some, if_pos (fin r)]
  rw [if_neg e19]
  by_cases e20 : op = 20
  · obtain ⟨r, M1, M2, h1, h2, h3⟩ := S_best h y1 y2 y3
    refine ⟨M2, ?_, h3⟩
    rw [if_pos e20, h1, bnd_some, h2, bnd_some, if_pos (fin r)]
  rw [if_neg e20]
  by_cases e21 : op = 21
  · obtain ⟨r, M1, M2, h1, h2, h3⟩ := S_quarrel h y1 y2
    refine ⟨M2, ?_, h3⟩
    rw [if_pos e21, h1, bnd_some, h2, bnd_some, if_pos (fin r)]
  rw [if_neg e21]
  by_cases e22 : op = 22
  · obtain ⟨r, M1, M2, h1, h2, h3⟩ := S_count h y1 y2 y3
    refine ⟨M2, ?_, h3⟩
    rw [if_pos e22, h1, bnd_some, h2, bnd_some, if_pos (fin r)]
  rw [if_neg e22]
  by_cases e23 : op = 23
  · by_cases z : y4 = 0
    · obtain ⟨r, M1, M2, h1, h2, h3⟩ := S_carried h y1 y2 y3 0
      refine ⟨M2, ?_, h3⟩
      rw [if_pos e23, if_pos z, bnd_some, h1, bnd_some, if_pos z, h2, bnd_some, if_pos (fin r)]
    · obtain ⟨r, M1, M2, h1, h2, h3⟩ := S_carried h y1 y2 y3 1
      refine ⟨M2, ?_, h3⟩
      rw [if_pos e23, if_neg z, bnd_some, h1, bnd_some, if_neg z, h2, bnd_some, if_pos (fin r)]
  rw [if_neg e23]
  by_cases e24 : op = 24
  · obtain ⟨r, M1, M2, h1, h2, h3⟩ := S_people h y1
    refine ⟨M2, ?_, h3⟩
    rw [if_pos e24, h1, bnd_some, h2, bnd_some, if_pos (fin r)]
  rw [if_neg e24]
  by_cases e25 : op = 25
  · obtain ⟨r, M1, M2, h1, h2, h3⟩ := S_sheet h y1 y2 y3
    refine ⟨M2, ?_, h3⟩
    rw [if_pos e25, h1, bnd_some, h2, bnd_some, if_pos (fin r)]
  rw [if_neg e25]
  by_cases e26 : op = 26
  · obtain ⟨r, M1, M2, h1, h2, h3⟩ := S_put h y1 y2 y3
    refine ⟨M2, ?_, h3⟩
    rw [if_pos e26, h1, bnd_some, h2, bnd_some, if_pos (fin r)]
  rw [if_neg e26]
  by_cases e27 : op = 27
  · obtain ⟨r, M1, M2, h1, h2, h3⟩ := S_copy h y1 y2 y3 y4 y5
    refine ⟨M2, ?_, h3⟩
    rw [if_pos e27, h1, bnd_some, h2, bnd_some, if_pos (fin r)]
  rw [if_neg e27]
  by_cases e28 : op = 28
  · obtain ⟨r, M1, M2, h1, h2, h3⟩ := S_lay h y1 y2
    refine ⟨M2, ?_, h3⟩
    rw [if_pos e28, h1, bnd_some, h2, bnd_some, if_pos (fin r)]
  rw [if_neg e28]
  by_cases e29 : op = 29
  · obtain ⟨r, M1, M2, h1, h2, h3⟩ := S_told (by omega) h y1
    refine ⟨M2, ?_, h3⟩
    rw [if_pos e29, h1, bnd_some, h2, bnd_some, if_pos (fin r)]
  rw [if_neg e29]
  exact ⟨M, rfl, Inv_up h⟩
theorem law_all (xs : Nat → Int32) (L : Nat) (hL : L ≤ 3072) : fL_law xs L M0 = some () := by
  have d := Nat.div_add_mod L 6
  have m := Nat.mod_lt L (show 0 < 6 by decide)
  obtain ⟨r, hr, _⟩ := wh_inv (body := wL_law_18 xs L) (fun t s => ∃ M, s = (nI (6 * t), M) ∧ Inv t M) (L / 6) (fun _ => True) (by
    rintro t s ht ⟨M, rfl, h⟩
    obtain ⟨M2, h1, h2⟩ := law_step (xs := xs) hL (by omega) h
    exact ⟨_, h1, M2, rfl, h2⟩) (by
    rintro s ⟨M, rfl, h⟩
    refine ⟨(), ?_, trivial⟩
    unfold wL_law_18
    dsimp only
    rw [if_pos ((law_end hL (by omega)).mpr (by omega))]) (L / 6) 0 (nI (6 * 0), M0) (Nat.zero_add _) ⟨M0, rfl, Inv_0⟩
  exact hr
